/-! The Model: what writes in it; printed by wip/whole/gen/mod2.py -/
abbrev q_id : Nat → Nat := fun i => i
/-- a loop that copies, place by place -/
def q_cl (a b : Nat) (fa fb : Nat → Nat) : Nat → Nat → (Nat → Nat → Int32) → Nat → Nat → Int32
  | 0, _, Z => Z
  | k + 1, i, Z => q_cl a b fa fb k (i + 1) (s_upd Z b (fb i) (Z a (fa i)))
theorem q_cl_o {a b : Nat} {fa fb : Nat → Nat} {c : Nat} (hc : c ≠ b) : ∀ (k i : Nat) (Z : Nat → Nat → Int32), q_cl a b fa fb k i Z c = Z c
  | 0, i, Z => rfl
  | k + 1, i, Z => by rw [q_cl, q_cl_o hc k, s_upd_o hc]
def q_kp (Z : Nat → Nat → Int32) : Nat → Nat → Int32 := q_cl 132 133 q_id q_id 308 0 Z
def q_gb (Z : Nat → Nat → Int32) : Nat → Nat → Int32 := q_cl 133 132 q_id q_id 308 0 Z
theorem q_mi (m i : Nat) : (308 : Int32) * nI m + nI i = nI (308 * m + i) := by
  rw [← nI_add]
  congr 1
  exact (Int32.ofNat_mul 308 m).symm
def q_in1 (Z : Nat → Nat → Int32) : Nat → Nat → Int32 := s_upd Z 131 3 (Z 131 3 + 1)
def q_d1 (Z : Nat → Nat → Int32) : Nat → Nat → Int32 := s_upd Z 131 3 (Z 131 3 - 1)
def q_c5 (Z : Nat → Nat → Int32) : Nat → Nat → Int32 := q_d1 (q_cl 134 134 (fun i => i + 308) q_id 1540 0 Z)
def q_ch (Z : Nat → Nat → Int32) (m : Nat) : Nat → Nat → Int32 := if m < 6 then q_in1 (q_cl 133 134 q_id (fun i => 308 * m + i) 308 0 Z) else q_in1 (q_cl 133 134 q_id (fun i => 308 * 5 + i) 308 0 (q_c5 Z))
def q_chg (Z : Nat → Nat → Int32) (m : Nat) (r : Int32) : Nat → Nat → Int32 := if r < 0 then Z else q_ch Z m
theorem q_keep_l {P : Nat → Nat} {L : Nat}  : ∀ (k i : Nat) (Z : Nat → Nat → Int32), i + k = 308 → e_r 91 2 [.ref 131, .int (nI i)] [] (hp Z P L) none (hp (q_cl 132 133 q_id q_id k i Z) P L)
  | 0, i, Z, hi => by
    refine e_go hk_91 3 (c := (if s_cnd .ge (nI i) 308 = true then 27 else 9, [.ref 131, .int (nI i)], [], hp Z P L)) rfl ?_
    refine e_ge (a := 27) (b := 9) (x := nI i) (y := 308) (fun hc6 => ?_) (fun hc6 => absurd ((y_le (a := 308) (b := i) (by omega) (by omega)).mpr (by omega)) hc6)
    exact e_ret hk_91 rfl rfl rfl rfl rfl
  | k + 1, i, Z, hi => by
    refine e_go hk_91 3 (c := (if s_cnd .ge (nI i) 308 = true then 27 else 9, [.ref 131, .int (nI i)], [], hp Z P L)) rfl ?_
    refine e_ge (a := 27) (b := 9) (x := nI i) (y := 308) (fun hc6 => absurd hc6 (nI_ge (b := 308) (a := i) (by omega) (by omega))) (fun hc6 => ?_)
    refine e_go hk_91 6 (c := (19, [.ref 131, .int (nI i)], [.int (nI i), .ref 132, .int (nI i), .ref 133], hp Z P L)) rfl ?_
    refine e_ald hk_91 (a := 132) (j := i) (n := 308) rfl rfl rfl (by omega) (by decide) ?_
    show e_r 91 20 [.ref 131, .int (nI i)] [.int (Z 132 i), .int (nI i), .ref 133] (hp Z P L) _ _
    refine e_ast hk_91 (a := 133) (j := i) (n := 308) rfl rfl rfl (by decide) (by omega) (by decide) ?_
    show e_r 91 21 [.ref 131, .int (nI i)] [] (hp (s_upd Z 133 i (Z 132 i)) P L) _ _
    refine e_go hk_91 2 (c := (2, [.ref 131, .int ((nI i) + 1)], [], hp (s_upd Z 133 i (Z 132 i)) P L)) rfl ?_
    rw [nI_1, q_cl]
    exact q_keep_l k (i + 1) _ (by omega)
theorem q_keep {Z : Nat → Nat → Int32} {P : Nat → Nat} {L : Nat} : m_r 91 [.ref 131] (hp Z P L) none (hp (q_kp Z) P L) := by
  refine m_of (ls := [.ref 131, s_no]) hk_91 rfl rfl rfl ?_
  refine e_go hk_91 2 (c := (2, [.ref 131, .int 0], [], hp Z P L)) rfl ?_
  exact q_keep_l 308 0 Z (by omega)
theorem q_give_l {P : Nat → Nat} {L : Nat}  : ∀ (k i : Nat) (Z : Nat → Nat → Int32), i + k = 308 → e_r 92 2 [.ref 131, .int (nI i)] [] (hp Z P L) none (hp (q_cl 133 132 q_id q_id k i Z) P L)
  | 0, i, Z, hi => by
    refine e_go hk_92 3 (c := (if s_cnd .ge (nI i) 308 = true then 27 else 9, [.ref 131, .int (nI i)], [], hp Z P L)) rfl ?_
    refine e_ge (a := 27) (b := 9) (x := nI i) (y := 308) (fun hc6 => ?_) (fun hc6 => absurd ((y_le (a := 308) (b := i) (by omega) (by omega)).mpr (by omega)) hc6)
    exact e_ret hk_92 rfl rfl rfl rfl rfl
  | k + 1, i, Z, hi => by
    refine e_go hk_92 3 (c := (if s_cnd .ge (nI i) 308 = true then 27 else 9, [.ref 131, .int (nI i)], [], hp Z P L)) rfl ?_
    refine e_ge (a := 27) (b := 9) (x := nI i) (y := 308) (fun hc6 => absurd hc6 (nI_ge (b := 308) (a := i) (by omega) (by omega))) (fun hc6 => ?_)
    refine e_go hk_92 6 (c := (19, [.ref 131, .int (nI i)], [.int (nI i), .ref 133, .int (nI i), .ref 132], hp Z P L)) rfl ?_
    refine e_ald hk_92 (a := 133) (j := i) (n := 308) rfl rfl rfl (by omega) (by decide) ?_
    show e_r 92 20 [.ref 131, .int (nI i)] [.int (Z 133 i), .int (nI i), .ref 132] (hp Z P L) _ _
    refine e_ast hk_92 (a := 132) (j := i) (n := 308) rfl rfl rfl (by decide) (by omega) (by decide) ?_
    show e_r 92 21 [.ref 131, .int (nI i)] [] (hp (s_upd Z 132 i (Z 133 i)) P L) _ _
    refine e_go hk_92 2 (c := (2, [.ref 131, .int ((nI i) + 1)], [], hp (s_upd Z 132 i (Z 133 i)) P L)) rfl ?_
    rw [nI_1, q_cl]
    exact q_give_l k (i + 1) _ (by omega)
theorem q_give {Z : Nat → Nat → Int32} {P : Nat → Nat} {L : Nat} : m_r 92 [.ref 131] (hp Z P L) none (hp (q_gb Z) P L) := by
  refine m_of (ls := [.ref 131, s_no]) hk_92 rfl rfl rfl ?_
  refine e_go hk_92 2 (c := (2, [.ref 131, .int 0], [], hp Z P L)) rfl ?_
  exact q_give_l 308 0 Z (by omega)
theorem q_ch_a {P : Nat → Nat} {L : Nat} {r : Int32} {v : Option Value} {h2 : sHp} : ∀ (k i : Nat) (Z : Nat → Nat → Int32), i + k = 1540 → e_r 93 46 [.ref 131, .int r, .int (nI 1540)] [] (hp (q_cl 134 134 (fun i => i + 308) q_id k i Z) P L) v h2 → e_r 93 17 [.ref 131, .int r, .int (nI i)] [] (hp Z P L) v h2
  | 0, i, Z, hi, kk => by
    refine e_go hk_93 3 (c := (if s_cnd .ge (nI i) 1540 = true then 46 else 24, [.ref 131, .int r, .int (nI i)], [], hp Z P L)) rfl ?_
    refine e_ge (a := 46) (b := 24) (x := nI i) (y := 1540) (fun hc21 => ?_) (fun hc21 => absurd ((y_le (a := 1540) (b := i) (by omega) (by omega)).mpr (by omega)) hc21)
    rw [q_cl, show 1540 = i by omega] at kk
    exact kk
  | k + 1, i, Z, hi, kk => by
    refine e_go hk_93 3 (c := (if s_cnd .ge (nI i) 1540 = true then 46 else 24, [.ref 131, .int r, .int (nI i)], [], hp Z P L)) rfl ?_
    refine e_ge (a := 46) (b := 24) (x := nI i) (y := 1540) (fun hc21 => absurd hc21 (nI_ge (b := 1540) (a := i) (by omega) (by omega))) (fun hc21 => ?_)
    refine e_go hk_93 8 (c := (38, [.ref 131, .int r, .int (nI i)], [.int ((nI i) + 308), .ref 134, .int (nI i), .ref 134], hp Z P L)) rfl ?_
    rw [show ((nI i) + 308) = nI (i + 308) from (nI_add i 308)]
    refine e_ald hk_93 (a := 134) (j := i + 308) (n := 1848) rfl rfl rfl (by omega) (by decide) ?_
    show e_r 93 39 [.ref 131, .int r, .int (nI i)] [.int (Z 134 (i + 308)), .int (nI i), .ref 134] (hp Z P L) _ _
    refine e_ast hk_93 (a := 134) (j := i) (n := 1848) rfl rfl rfl (by decide) (by omega) (by decide) ?_
    show e_r 93 40 [.ref 131, .int r, .int (nI i)] [] (hp (s_upd Z 134 i (Z 134 (i + 308))) P L) _ _
    refine e_go hk_93 2 (c := (17, [.ref 131, .int r, .int ((nI i) + 1)], [], hp (s_upd Z 134 i (Z 134 (i + 308))) P L)) rfl ?_
    rw [q_cl] at kk
    rw [nI_1]
    exact q_ch_a k (i + 1) _ (by omega) kk
theorem q_ch_b {P : Nat → Nat} {L : Nat} {r : Int32} {m : Nat} (hm : m ≤ 5) : ∀ (k i : Nat) (Z : Nat → Nat → Int32), Z 131 3 = nI m → i + k = 308 → e_r 93 58 [.ref 131, .int r, .int (nI i)] [] (hp Z P L) (some (.int r)) (hp (q_in1 (q_cl 133 134 q_id (fun i => 308 * m + i) k i Z)) P L)
  | 0, i, Z, hM, hi => by
    refine e_go hk_93 3 (c := (if s_cnd .ge (nI i) 308 = true then 92 else 65, [.ref 131, .int r, .int (nI i)], [], hp Z P L)) rfl ?_
    refine e_ge (a := 92) (b := 65) (x := nI i) (y := 308) (fun hc62 => ?_) (fun hc62 => absurd ((y_le (a := 308) (b := i) (by omega) (by omega)).mpr (by omega)) hc62)
    refine e_go hk_93 7 (c := (103, [.ref 131, .int r, .int (nI i)], [.int r], hp (s_upd Z 131 3 ((Z 131 3) + 1)) P L)) rfl ?_
    exact e_ret hk_93 rfl rfl rfl rfl rfl
  | k + 1, i, Z, hM, hi => by
    refine e_go hk_93 3 (c := (if s_cnd .ge (nI i) 308 = true then 92 else 65, [.ref 131, .int r, .int (nI i)], [], hp Z P L)) rfl ?_
    refine e_ge (a := 92) (b := 65) (x := nI i) (y := 308) (fun hc62 => absurd hc62 (nI_ge (b := 308) (a := i) (by omega) (by omega))) (fun hc62 => ?_)
    refine e_go hk_93 11 (c := (84, [.ref 131, .int r, .int (nI i)], [.int (nI i), .ref 133, .int ((308 * (Z 131 3)) + (nI i)), .ref 134], hp Z P L)) rfl ?_
    refine e_ald hk_93 (a := 133) (j := i) (n := 308) rfl rfl rfl (by omega) (by decide) ?_
    show e_r 93 85 [.ref 131, .int r, .int (nI i)] [.int (Z 133 i), .int ((308 * (Z 131 3)) + (nI i)), .ref 134] (hp Z P L) _ _
    rw [show ((308 * (Z 131 3)) + (nI i)) = nI (308 * m + i) from (by rw [hM]; exact q_mi m i)]
    refine e_ast hk_93 (a := 134) (j := 308 * m + i) (n := 1848) rfl rfl rfl (by decide) (by omega) (by decide) ?_
    show e_r 93 86 [.ref 131, .int r, .int (nI i)] [] (hp (s_upd Z 134 (308 * m + i) (Z 133 i)) P L) _ _
    refine e_go hk_93 2 (c := (58, [.ref 131, .int r, .int ((nI i) + 1)], [], hp (s_upd Z 134 (308 * m + i) (Z 133 i)) P L)) rfl ?_
    rw [nI_1, q_cl]
    exact q_ch_b hm k (i + 1) _ (by rw [s_upd_o (by decide)]; exact hM) (by omega)
theorem q_ch_n {Z : Nat → Nat → Int32} {P : Nat → Nat} {L : Nat} {m : Nat} {r : Int32} (hr : r < 0) : m_r 93 [.ref 131, .int r] (hp Z P L) (some (.int r)) (hp (q_chg Z m r) P L) := by
  refine m_of (ls := [.ref 131, .int r, s_no]) hk_93 rfl rfl rfl ?_
  refine e_go hk_93 2 (c := (if s_cnd .ge r 0 = true then 6 else 4, [.ref 131, .int r, s_no], [], hp Z P L)) rfl ?_
  refine e_ge (a := 6) (b := 4) (x := r) (y := 0) (fun hc1 => absurd hc1 (Int32.not_le.mpr hr)) (fun hc1 => ?_)
  refine e_go hk_93 1 (c := (5, [.ref 131, .int r, s_no], [.int r], hp Z P L)) rfl ?_
  exact e_ret hk_93 rfl rfl rfl rfl (by rw [q_chg, if_pos hr])
theorem q_ch_s {Z : Nat → Nat → Int32} {P : Nat → Nat} {L : Nat} {m : Nat} {r : Int32} (hM : Z 131 3 = nI m) (hm : m < 6) (hr : ¬ r < 0) : m_r 93 [.ref 131, .int r] (hp Z P L) (some (.int r)) (hp (q_chg Z m r) P L) := by
  refine m_of (ls := [.ref 131, .int r, s_no]) hk_93 rfl rfl rfl ?_
  refine e_go hk_93 2 (c := (if s_cnd .ge r 0 = true then 6 else 4, [.ref 131, .int r, s_no], [], hp Z P L)) rfl ?_
  refine e_ge (a := 6) (b := 4) (x := r) (y := 0) (fun hc1 => ?_) (fun hc1 => absurd (Int32.not_lt.mp hr) hc1)
  refine e_go hk_93 4 (c := (if s_cnd .ne (Z 131 3) 6 = true then 56 else 15, [.ref 131, .int r, s_no], [], hp Z P L)) rfl ?_
  refine e_ne (a := 56) (b := 15) (x := Z 131 3) (y := 6) (fun hc12 => ?_) (fun hc12 => absurd hc12 (by rw [hM]; exact fun z => absurd ((y_eqI (a := m) (b := 6) (by omega) (by omega)).mp z) (by omega)))
  refine e_go hk_93 2 (c := (58, [.ref 131, .int r, .int 0], [], hp Z P L)) rfl ?_
  rw [q_chg, if_neg hr, q_ch, if_pos hm]
  exact q_ch_b (by omega) 308 0 Z hM (by omega)
theorem q_ch_c {Z : Nat → Nat → Int32} {P : Nat → Nat} {L : Nat} {r : Int32} (hM : Z 131 3 = nI 6) : e_r 93 46 [.ref 131, .int r, .int (nI 1540)] [] (hp Z P L) (some (.int r)) (hp (q_in1 (q_cl 133 134 q_id (fun i => 308 * 5 + i) 308 0 (q_d1 Z))) P L) := by
  refine e_go hk_93 8 (c := (58, [.ref 131, .int r, .int 0], [], hp (s_upd Z 131 3 ((Z 131 3) - 1)) P L)) rfl ?_
  exact q_ch_b (m := 5) (by omega) 308 0 _ (by rw [s_upd_c, if_pos ⟨rfl, rfl⟩, hM]; rfl) (by omega)
theorem q_ch_6 {Z : Nat → Nat → Int32} {P : Nat → Nat} {L : Nat} {r : Int32} (hM : Z 131 3 = nI 6) (hr : ¬ r < 0) : m_r 93 [.ref 131, .int r] (hp Z P L) (some (.int r)) (hp (q_chg Z 6 r) P L) := by
  refine m_of (ls := [.ref 131, .int r, s_no]) hk_93 rfl rfl rfl ?_
  refine e_go hk_93 2 (c := (if s_cnd .ge r 0 = true then 6 else 4, [.ref 131, .int r, s_no], [], hp Z P L)) rfl ?_
  refine e_ge (a := 6) (b := 4) (x := r) (y := 0) (fun hc1 => ?_) (fun hc1 => absurd (Int32.not_lt.mp hr) hc1)
  refine e_go hk_93 4 (c := (if s_cnd .ne (Z 131 3) 6 = true then 56 else 15, [.ref 131, .int r, s_no], [], hp Z P L)) rfl ?_
  refine e_ne (a := 56) (b := 15) (x := Z 131 3) (y := 6) (fun hc12 => absurd (by rw [hM]; rfl) hc12) (fun hc12 => ?_)
  refine e_go hk_93 2 (c := (17, [.ref 131, .int r, .int 0], [], hp Z P L)) rfl ?_
  rw [q_chg, if_neg hr, q_ch, if_neg (by decide)]
  refine q_ch_a 1540 0 Z (by omega) ?_
  exact q_ch_c (by rw [q_cl_o (by decide)]; exact hM)
theorem q_chgd {Z : Nat → Nat → Int32} {P : Nat → Nat} {L : Nat} {m : Nat} {r : Int32} (hM : Z 131 3 = nI m) (hm : m ≤ 6) : m_r 93 [.ref 131, .int r] (hp Z P L) (some (.int r)) (hp (q_chg Z m r) P L) := by
  by_cases hr : r < 0
  · exact q_ch_n hr
  · rcases Nat.lt_or_ge m 6 with h | h
    · exact q_ch_s hM h hr
    · obtain rfl : m = 6 := by omega
      exact q_ch_6 hM hr
def q_pu (Z : Nat → Nat → Int32) (w : Nat) (a b l : Int32) : Nat → Nat → Int32 := s_upd (s_upd (s_upd Z 137 w a) 138 w b) 139 w l
def q_pu2 (Z : Nat → Nat → Int32) (w a u r : Nat) (l : Int32) : Nat → Nat → Int32 := q_pu (q_pu (s_upd Z 132 (248 + r) l) w (nI a) (nI r - 1) (l + 1)) (w + 1) (nI r + 1) (nI u - 1) (l + 1)
def q_ly : Nat → Nat → Nat → Nat → Int32 → (Nat → Nat → Int32) → Nat → Nat → Int32
  | 0, _, _, _, _, Z => Z
  | f + 1, w, a, u, l, Z => if u ≤ a then Z else
    q_ly f w a (a + (u - 1 - a) / 2) (l + 1) (q_ly f (w + 1) (a + (u - 1 - a) / 2 + 1) u (l + 1) (q_pu2 Z w a u (a + (u - 1 - a) / 2) l))
theorem q_pu2_k {Z : Nat → Nat → Int32} {w a u r c i : Nat} {l : Int32} (hc : c = 137 ∨ c = 138 ∨ c = 139) (hi : i < w) : q_pu2 Z w a u r l c i = Z c i := by
  unfold q_pu2 q_pu
  have h1 : ¬ i = w := by omega
  have h2 : ¬ i = w + 1 := by omega
  have h3 : ¬ c = 132 := by omega
  simp only [s_upd_c, h1, h2, h3, and_false, false_and, if_false]
theorem q_ly_k {c i : Nat} (hc : c = 137 ∨ c = 138 ∨ c = 139) : ∀ (f w a u : Nat) (l : Int32) (Z : Nat → Nat → Int32), i < w → q_ly f w a u l Z c i = Z c i
  | 0, w, a, u, l, Z, hi => rfl
  | f + 1, w, a, u, l, Z, hi => by
    rw [q_ly]
    split
    · rfl
    · rw [q_ly_k hc f _ _ _ _ _ hi, q_ly_k hc f _ _ _ _ _ (by omega), q_pu2_k hc hi]
theorem q_pu2_w {Z : Nat → Nat → Int32} {w a u r : Nat} {l : Int32} : q_pu2 Z w a u r l 137 w = nI a ∧ q_pu2 Z w a u r l 138 w = nI r - 1 ∧ q_pu2 Z w a u r l 139 w = l + 1 := by
  unfold q_pu2 q_pu
  have h1 : ¬ w = w + 1 := by omega
  refine ⟨?_, ?_, ?_⟩ <;> simp [s_upd_c, h1]
theorem q_pu2_s {Z : Nat → Nat → Int32} {w a u r : Nat} {l : Int32} : q_pu2 Z w a u r l 137 (w + 1) = nI r + 1 ∧ q_pu2 Z w a u r l 138 (w + 1) = nI u - 1 ∧ q_pu2 Z w a u r l 139 (w + 1) = l + 1 := by
  unfold q_pu2 q_pu
  refine ⟨?_, ?_, ?_⟩ <;> simp [s_upd_c]
theorem q_lays_l {P : Nat → Nat} {L : Nat} {fr to lv : Int32} {v : Option Value} {h2 : sHp} : ∀ (f w a u : Nat) (l : Int32) (Z : Nat → Nat → Int32) (y5 y6 y7 y8 : Value), u - a ≤ f → u ≤ 60 → a ≤ 60 → w + (u - a) ≤ 62 → Z 137 w = nI a → Z 138 w = nI u - 1 → Z 139 w = l → (∀ y5 y6 y7 y8 : Value, e_r 106 30 [.ref 131, .int fr, .int to, .int lv, .int (nI w), y5, y6, y7, y8] [] (hp (q_ly f w a u l Z) P L) v h2) → e_r 106 30 [.ref 131, .int fr, .int to, .int lv, .int (nI (w + 1)), y5, y6, y7, y8] [] (hp Z P L) v h2
  | 0, w, a, u, l, Z, y5, y6, y7, y8, hf, hu, ha, hw, h7, h8, h9, kk => by
    refine e_go hk_106 2 (c := (if s_cnd .le (nI (w + 1)) 0 = true then 171 else 35, [.ref 131, .int fr, .int to, .int lv, .int (nI (w + 1)), y5, y6, y7, y8], [], hp Z P L)) rfl ?_
    refine e_le (a := 171) (b := 35) (x := nI (w + 1)) (y := 0) (fun hc32 => absurd hc32 (nI_nle (by omega) (by omega))) (fun hc32 => ?_)
    refine e_go hk_106 1 (c := (38, [.ref 131, .int fr, .int to, .int lv, .int ((nI (w + 1)) + (-1)), y5, y6, y7, y8], [], hp Z P L)) rfl ?_
    rw [pk_m1]
    refine e_go hk_106 3 (c := (44, [.ref 131, .int fr, .int to, .int lv, .int (nI w), y5, y6, y7, y8], [.int (nI w), .ref 137], hp Z P L)) rfl ?_
    refine e_ald hk_106 (a := 137) (j := w) (n := 64) rfl rfl rfl (by omega) (by decide) ?_
    show e_r 106 45 [.ref 131, .int fr, .int to, .int lv, .int (nI w), y5, y6, y7, y8] [.int (Z 137 w)] (hp Z P L) _ _
    refine e_go hk_106 4 (c := (53, [.ref 131, .int fr, .int to, .int lv, .int (nI w), .int (Z 137 w), y6, y7, y8], [.int (nI w), .ref 138], hp Z P L)) rfl ?_
    refine e_ald hk_106 (a := 138) (j := w) (n := 64) rfl rfl rfl (by omega) (by decide) ?_
    show e_r 106 54 [.ref 131, .int fr, .int to, .int lv, .int (nI w), .int (Z 137 w), y6, y7, y8] [.int (Z 138 w)] (hp Z P L) _ _
    refine e_go hk_106 4 (c := (62, [.ref 131, .int fr, .int to, .int lv, .int (nI w), .int (Z 137 w), .int (Z 138 w), y7, y8], [.int (nI w), .ref 139], hp Z P L)) rfl ?_
    refine e_ald hk_106 (a := 139) (j := w) (n := 64) rfl rfl rfl (by omega) (by decide) ?_
    show e_r 106 63 [.ref 131, .int fr, .int to, .int lv, .int (nI w), .int (Z 137 w), .int (Z 138 w), y7, y8] [.int (Z 139 w)] (hp Z P L) _ _
    refine e_go hk_106 1 (c := (65, [.ref 131, .int fr, .int to, .int lv, .int (nI w), .int (Z 137 w), .int (Z 138 w), .int (Z 139 w), y8], [], hp Z P L)) rfl ?_
    rw [h7, h8, h9]
    refine e_go hk_106 3 (c := (if s_cnd .gt (nI a) (nI u - 1) = true then 168 else 72, [.ref 131, .int fr, .int to, .int lv, .int (nI w), .int (nI a), .int (nI u - 1), .int l, y8], [], hp Z P L)) rfl ?_
    refine e_gt (a := 168) (b := 72) (x := nI a) (y := nI u - 1) (fun hc69 => ?_) (fun hc69 => absurd ((y_m1lt (by omega) (by omega)).mpr (by omega)) hc69)
    refine e_go hk_106 1 (c := (30, [.ref 131, .int fr, .int to, .int lv, .int (nI w), .int (nI a), .int (nI u - 1), .int l, y8], [], hp Z P L)) rfl ?_
    exact kk _ _ _ _
  | f + 1, w, a, u, l, Z, y5, y6, y7, y8, hf, hu, ha, hw, h7, h8, h9, kk => by
    have ha60 : a ≤ 60 := ha
    refine e_go hk_106 2 (c := (if s_cnd .le (nI (w + 1)) 0 = true then 171 else 35, [.ref 131, .int fr, .int to, .int lv, .int (nI (w + 1)), y5, y6, y7, y8], [], hp Z P L)) rfl ?_
    refine e_le (a := 171) (b := 35) (x := nI (w + 1)) (y := 0) (fun hc32 => absurd hc32 (nI_nle (by omega) (by omega))) (fun hc32 => ?_)
    refine e_go hk_106 1 (c := (38, [.ref 131, .int fr, .int to, .int lv, .int ((nI (w + 1)) + (-1)), y5, y6, y7, y8], [], hp Z P L)) rfl ?_
    rw [pk_m1]
    refine e_go hk_106 3 (c := (44, [.ref 131, .int fr, .int to, .int lv, .int (nI w), y5, y6, y7, y8], [.int (nI w), .ref 137], hp Z P L)) rfl ?_
    refine e_ald hk_106 (a := 137) (j := w) (n := 64) rfl rfl rfl (by omega) (by decide) ?_
    show e_r 106 45 [.ref 131, .int fr, .int to, .int lv, .int (nI w), y5, y6, y7, y8] [.int (Z 137 w)] (hp Z P L) _ _
    refine e_go hk_106 4 (c := (53, [.ref 131, .int fr, .int to, .int lv, .int (nI w), .int (Z 137 w), y6, y7, y8], [.int (nI w), .ref 138], hp Z P L)) rfl ?_
    refine e_ald hk_106 (a := 138) (j := w) (n := 64) rfl rfl rfl (by omega) (by decide) ?_
    show e_r 106 54 [.ref 131, .int fr, .int to, .int lv, .int (nI w), .int (Z 137 w), y6, y7, y8] [.int (Z 138 w)] (hp Z P L) _ _
    refine e_go hk_106 4 (c := (62, [.ref 131, .int fr, .int to, .int lv, .int (nI w), .int (Z 137 w), .int (Z 138 w), y7, y8], [.int (nI w), .ref 139], hp Z P L)) rfl ?_
    refine e_ald hk_106 (a := 139) (j := w) (n := 64) rfl rfl rfl (by omega) (by decide) ?_
    show e_r 106 63 [.ref 131, .int fr, .int to, .int lv, .int (nI w), .int (Z 137 w), .int (Z 138 w), y7, y8] [.int (Z 139 w)] (hp Z P L) _ _
    refine e_go hk_106 1 (c := (65, [.ref 131, .int fr, .int to, .int lv, .int (nI w), .int (Z 137 w), .int (Z 138 w), .int (Z 139 w), y8], [], hp Z P L)) rfl ?_
    rw [h7, h8, h9]
    refine e_go hk_106 3 (c := (if s_cnd .gt (nI a) (nI u - 1) = true then 168 else 72, [.ref 131, .int fr, .int to, .int lv, .int (nI w), .int (nI a), .int (nI u - 1), .int l, y8], [], hp Z P L)) rfl ?_
    refine e_gt (a := 168) (b := 72) (x := nI a) (y := nI u - 1) (fun hc69 => ?_) (fun hc69 => ?_)
    · skip
      have hua : u ≤ a := (y_m1lt (by omega) (by omega)).mp hc69
      rw [q_ly, if_pos hua] at kk
      refine e_go hk_106 1 (c := (30, [.ref 131, .int fr, .int to, .int lv, .int (nI w), .int (nI a), .int (nI u - 1), .int l, y8], [], hp Z P L)) rfl ?_
      exact kk _ _ _ _
    · skip
      have hua : ¬ u ≤ a := fun z => hc69 ((y_m1lt (by omega) (by omega)).mpr z)
      rw [q_ly, if_neg hua] at kk
      have hr0 : a + (u - 1 - a) / 2 < u := by omega
      have hr1 : a ≤ a + (u - 1 - a) / 2 := Nat.le_add_right _ _
      have hr : nI a + (nI u - 1 - nI a) / 2 = nI (a + (u - 1 - a) / 2) := by rw [y_m1s (by omega)]; exact y_mid (by omega) (by omega)
      generalize a + (u - 1 - a) / 2 = r at kk hr hr0 hr1
      refine e_go hk_106 5 (c := (80, [.ref 131, .int fr, .int to, .int lv, .int (nI w), .int (nI a), .int (nI u - 1), .int l, y8], [.int 2, .int ((nI u - 1) - (nI a)), .int (nI a)], hp Z P L)) rfl ?_
      refine e_idiv hk_106 (x := (nI u - 1) - (nI a)) (y := 2) rfl rfl (by decide) ?_
      show e_r 106 81 [.ref 131, .int fr, .int to, .int lv, .int (nI w), .int (nI a), .int (nI u - 1), .int l, y8] [.int (((nI u - 1) - (nI a)) / 2), .int (nI a)] (hp Z P L) _ _
      refine e_go hk_106 2 (c := (84, [.ref 131, .int fr, .int to, .int lv, .int (nI w), .int (nI a), .int (nI u - 1), .int l, .int ((nI a) + (((nI u - 1) - (nI a)) / 2))], [], hp Z P L)) rfl ?_
      rw [show (nI a) + (((nI u - 1) - (nI a)) / 2) = nI r from hr]
      refine e_go hk_106 6 (c := (96, [.ref 131, .int fr, .int to, .int lv, .int (nI w), .int (nI a), .int (nI u - 1), .int l, .int (nI r)], [.int l, .int (248 + (nI r)), .ref 132], hp Z P L)) rfl ?_
      rw [show (248 + (nI r)) = nI (248 + r) from (nI_add 248 r)]
      refine e_ast hk_106 (a := 132) (j := 248 + r) (n := 308) rfl rfl rfl (by decide) (by omega) (by decide) ?_
      show e_r 106 97 [.ref 131, .int fr, .int to, .int lv, .int (nI w), .int (nI a), .int (nI u - 1), .int l, .int (nI r)] [] (hp (s_upd Z 132 (248 + r) l) P L) _ _
      refine e_go hk_106 4 (c := (105, [.ref 131, .int fr, .int to, .int lv, .int (nI w), .int (nI a), .int (nI u - 1), .int l, .int (nI r)], [.int (nI a), .int (nI w), .ref 137], hp (s_upd Z 132 (248 + r) l) P L)) rfl ?_
      refine e_ast hk_106 (a := 137) (j := w) (n := 64) rfl rfl rfl (by decide) (by omega) (by decide) ?_
      show e_r 106 106 [.ref 131, .int fr, .int to, .int lv, .int (nI w), .int (nI a), .int (nI u - 1), .int l, .int (nI r)] [] (hp (s_upd (s_upd Z 132 (248 + r) l) 137 w (nI a)) P L) _ _
      refine e_go hk_106 6 (c := (116, [.ref 131, .int fr, .int to, .int lv, .int (nI w), .int (nI a), .int (nI u - 1), .int l, .int (nI r)], [.int ((nI r) - 1), .int (nI w), .ref 138], hp (s_upd (s_upd Z 132 (248 + r) l) 137 w (nI a)) P L)) rfl ?_
      refine e_ast hk_106 (a := 138) (j := w) (n := 64) rfl rfl rfl (by decide) (by omega) (by decide) ?_
      show e_r 106 117 [.ref 131, .int fr, .int to, .int lv, .int (nI w), .int (nI a), .int (nI u - 1), .int l, .int (nI r)] [] (hp (s_upd (s_upd (s_upd Z 132 (248 + r) l) 137 w (nI a)) 138 w ((nI r) - 1)) P L) _ _
      refine e_go hk_106 6 (c := (127, [.ref 131, .int fr, .int to, .int lv, .int (nI w), .int (nI a), .int (nI u - 1), .int l, .int (nI r)], [.int (l + 1), .int (nI w), .ref 139], hp (s_upd (s_upd (s_upd Z 132 (248 + r) l) 137 w (nI a)) 138 w ((nI r) - 1)) P L)) rfl ?_
      refine e_ast hk_106 (a := 139) (j := w) (n := 64) rfl rfl rfl (by decide) (by omega) (by decide) ?_
      show e_r 106 128 [.ref 131, .int fr, .int to, .int lv, .int (nI w), .int (nI a), .int (nI u - 1), .int l, .int (nI r)] [] (hp (s_upd (s_upd (s_upd (s_upd Z 132 (248 + r) l) 137 w (nI a)) 138 w ((nI r) - 1)) 139 w (l + 1)) P L) _ _
      refine e_go hk_106 8 (c := (140, [.ref 131, .int fr, .int to, .int lv, .int (nI w), .int (nI a), .int (nI u - 1), .int l, .int (nI r)], [.int ((nI r) + 1), .int ((nI w) + 1), .ref 137], hp (s_upd (s_upd (s_upd (s_upd Z 132 (248 + r) l) 137 w (nI a)) 138 w ((nI r) - 1)) 139 w (l + 1)) P L)) rfl ?_
      rw [show ((nI w) + 1) = nI (w + 1) from (nI_add w 1)]
      refine e_ast hk_106 (a := 137) (j := w + 1) (n := 64) rfl rfl rfl (by decide) (by omega) (by decide) ?_
      show e_r 106 141 [.ref 131, .int fr, .int to, .int lv, .int (nI w), .int (nI a), .int (nI u - 1), .int l, .int (nI r)] [] (hp (s_upd (s_upd (s_upd (s_upd (s_upd Z 132 (248 + r) l) 137 w (nI a)) 138 w ((nI r) - 1)) 139 w (l + 1)) 137 (w + 1) ((nI r) + 1)) P L) _ _
      refine e_go hk_106 6 (c := (151, [.ref 131, .int fr, .int to, .int lv, .int (nI w), .int (nI a), .int (nI u - 1), .int l, .int (nI r)], [.int (nI u - 1), .int ((nI w) + 1), .ref 138], hp (s_upd (s_upd (s_upd (s_upd (s_upd Z 132 (248 + r) l) 137 w (nI a)) 138 w ((nI r) - 1)) 139 w (l + 1)) 137 (w + 1) ((nI r) + 1)) P L)) rfl ?_
      rw [show ((nI w) + 1) = nI (w + 1) from (nI_add w 1)]
      refine e_ast hk_106 (a := 138) (j := w + 1) (n := 64) rfl rfl rfl (by decide) (by omega) (by decide) ?_
      show e_r 106 152 [.ref 131, .int fr, .int to, .int lv, .int (nI w), .int (nI a), .int (nI u - 1), .int l, .int (nI r)] [] (hp (s_upd (s_upd (s_upd (s_upd (s_upd (s_upd Z 132 (248 + r) l) 137 w (nI a)) 138 w ((nI r) - 1)) 139 w (l + 1)) 137 (w + 1) ((nI r) + 1)) 138 (w + 1) (nI u - 1)) P L) _ _
      refine e_go hk_106 8 (c := (164, [.ref 131, .int fr, .int to, .int lv, .int (nI w), .int (nI a), .int (nI u - 1), .int l, .int (nI r)], [.int (l + 1), .int ((nI w) + 1), .ref 139], hp (s_upd (s_upd (s_upd (s_upd (s_upd (s_upd Z 132 (248 + r) l) 137 w (nI a)) 138 w ((nI r) - 1)) 139 w (l + 1)) 137 (w + 1) ((nI r) + 1)) 138 (w + 1) (nI u - 1)) P L)) rfl ?_
      rw [show ((nI w) + 1) = nI (w + 1) from (nI_add w 1)]
      refine e_ast hk_106 (a := 139) (j := w + 1) (n := 64) rfl rfl rfl (by decide) (by omega) (by decide) ?_
      show e_r 106 165 [.ref 131, .int fr, .int to, .int lv, .int (nI w), .int (nI a), .int (nI u - 1), .int l, .int (nI r)] [] (hp (s_upd (s_upd (s_upd (s_upd (s_upd (s_upd (s_upd Z 132 (248 + r) l) 137 w (nI a)) 138 w ((nI r) - 1)) 139 w (l + 1)) 137 (w + 1) ((nI r) + 1)) 138 (w + 1) (nI u - 1)) 139 (w + 1) (l + 1)) P L) _ _
      refine e_go hk_106 2 (c := (30, [.ref 131, .int fr, .int to, .int lv, .int ((nI w) + 2), .int (nI a), .int (nI u - 1), .int l, .int (nI r)], [], hp (s_upd (s_upd (s_upd (s_upd (s_upd (s_upd (s_upd Z 132 (248 + r) l) 137 w (nI a)) 138 w ((nI r) - 1)) 139 w (l + 1)) 137 (w + 1) ((nI r) + 1)) 138 (w + 1) (nI u - 1)) 139 (w + 1) (l + 1)) P L)) rfl ?_
      rw [show nI w + 2 = nI (w + 1 + 1) from nI_add w 2]
      refine q_lays_l f (w + 1) (r + 1) u (l + 1) _ _ _ _ _ (by omega) hu (by omega) (by omega) (by rw [nI_succ]; exact (q_pu2_s (Z := Z) (w := w) (a := a) (u := u) (r := r) (l := l)).1) (q_pu2_s (Z := Z) (w := w) (a := a) (u := u) (r := r) (l := l)).2.1 (q_pu2_s (Z := Z) (w := w) (a := a) (u := u) (r := r) (l := l)).2.2 (fun z5 z6 z7 z8 => ?_)
      refine q_lays_l f w a r (l + 1) _ _ _ _ _ (by omega) (by omega) (by omega) (by omega) ?_ ?_ ?_ kk
      · rw [q_ly_k (Or.inl rfl) _ _ _ _ _ _ (by omega)]; exact (q_pu2_w (Z := Z) (w := w) (a := a) (u := u) (r := r) (l := l)).1
      · rw [q_ly_k (Or.inr (Or.inl rfl)) _ _ _ _ _ _ (by omega)]; exact (q_pu2_w (Z := Z) (w := w) (a := a) (u := u) (r := r) (l := l)).2.1
      · rw [q_ly_k (Or.inr (Or.inr rfl)) _ _ _ _ _ _ (by omega)]; exact (q_pu2_w (Z := Z) (w := w) (a := a) (u := u) (r := r) (l := l)).2.2
def q_lay (Z : Nat → Nat → Int32) (a u : Nat) (l : Int32) : Nat → Nat → Int32 := q_ly 60 0 a u l (q_pu Z 0 (nI a) (nI u - 1) l)
theorem q_lays_e {Z : Nat → Nat → Int32} {P : Nat → Nat} {L : Nat} {fr to lv : Int32} {y5 y6 y7 y8 : Value} : e_r 106 30 [.ref 131, .int fr, .int to, .int lv, .int (nI 0), y5, y6, y7, y8] [] (hp Z P L) none (hp Z P L) := by
  refine e_go hk_106 2 (c := (if s_cnd .le (nI 0) 0 = true then 171 else 35, [.ref 131, .int fr, .int to, .int lv, .int (nI 0), y5, y6, y7, y8], [], hp Z P L)) rfl ?_
  refine e_le (a := 171) (b := 35) (x := nI 0) (y := 0) (fun hc32 => ?_) (fun hc32 => absurd (by decide) hc32)
  exact e_ret hk_106 rfl rfl rfl rfl rfl
theorem q_lays {Z : Nat → Nat → Int32} {P : Nat → Nat} {L : Nat} {a u : Nat} {l : Int32} (hu : u ≤ 60) (ha : a ≤ 60) : m_r 106 [.ref 131, .int (nI a), .int (nI u - 1), .int l] (hp Z P L) none (hp (q_lay Z a u l) P L) := by
  refine m_of (ls := [.ref 131, .int (nI a), .int (nI u - 1), .int l, s_no, s_no, s_no, s_no, s_no]) hk_106 rfl rfl rfl ?_
  refine e_go hk_106 6 (c := (10, [.ref 131, .int (nI a), .int (nI u - 1), .int l, .int 0, s_no, s_no, s_no, s_no], [.int (nI a), .int 0, .ref 137], hp Z P L)) rfl ?_
  refine e_ast hk_106 (a := 137) (j := 0) (n := 64) rfl rfl rfl (by decide) (by decide) (by decide) ?_
  show e_r 106 11 [.ref 131, .int (nI a), .int (nI u - 1), .int l, .int 0, s_no, s_no, s_no, s_no] [] (hp (s_upd Z 137 0 (nI a)) P L) _ _
  refine e_go hk_106 4 (c := (18, [.ref 131, .int (nI a), .int (nI u - 1), .int l, .int 0, s_no, s_no, s_no, s_no], [.int (nI u - 1), .int 0, .ref 138], hp (s_upd Z 137 0 (nI a)) P L)) rfl ?_
  refine e_ast hk_106 (a := 138) (j := 0) (n := 64) rfl rfl rfl (by decide) (by decide) (by decide) ?_
  show e_r 106 19 [.ref 131, .int (nI a), .int (nI u - 1), .int l, .int 0, s_no, s_no, s_no, s_no] [] (hp (s_upd (s_upd Z 137 0 (nI a)) 138 0 (nI u - 1)) P L) _ _
  refine e_go hk_106 4 (c := (26, [.ref 131, .int (nI a), .int (nI u - 1), .int l, .int 0, s_no, s_no, s_no, s_no], [.int l, .int 0, .ref 139], hp (s_upd (s_upd Z 137 0 (nI a)) 138 0 (nI u - 1)) P L)) rfl ?_
  refine e_ast hk_106 (a := 139) (j := 0) (n := 64) rfl rfl rfl (by decide) (by decide) (by decide) ?_
  show e_r 106 27 [.ref 131, .int (nI a), .int (nI u - 1), .int l, .int 0, s_no, s_no, s_no, s_no] [] (hp (s_upd (s_upd (s_upd Z 137 0 (nI a)) 138 0 (nI u - 1)) 139 0 l) P L) _ _
  refine e_go hk_106 1 (c := (30, [.ref 131, .int (nI a), .int (nI u - 1), .int l, .int 1, s_no, s_no, s_no, s_no], [], hp (s_upd (s_upd (s_upd Z 137 0 (nI a)) 138 0 (nI u - 1)) 139 0 l) P L)) rfl ?_
  refine q_lays_l 60 0 a u l _ _ _ _ _ (by omega) hu ha (by omega) ?_ ?_ ?_ (fun z5 z6 z7 z8 => ?_)
  · simp [s_upd_c]
  · simp [s_upd_c]
  · simp [s_upd_c]
  exact q_lays_e
def q_cy (Z : Nat → Nat → Int32) (a b : Nat) : Nat → Nat → Int32 := s_upd Z 132 a (Z 132 b)
theorem q_cy_ne {Z : Nat → Nat → Int32} {a b x : Nat} (h : x ≠ a) : q_cy Z a b 132 x = Z 132 x := by rw [q_cy, s_upd_c, if_neg (fun z => h z.2)]
theorem q_cy_eq {Z : Nat → Nat → Int32} {a b : Nat} : q_cy Z a b 132 a = Z 132 b := by rw [q_cy, s_upd_c, if_pos ⟨rfl, rfl⟩]
theorem q_cy_o {Z : Nat → Nat → Int32} {a b c : Nat} (h : c ≠ 132) : q_cy Z a b c = Z c := s_upd_o h
def q_t1 (Z : Nat → Nat → Int32) (i : Nat) : Nat → Nat → Int32 := q_cy (q_cy (q_cy (q_cy (q_cy Z (8 + i) (8 + i + 1)) (68 + i) (68 + i + 1)) (128 + i) (128 + i + 1)) (188 + i) (188 + i + 1)) (248 + i) (248 + i + 1)
def q_tl : Nat → Nat → (Nat → Nat → Int32) → Nat → Nat → Int32
  | 0, _, Z => Z
  | k + 1, i, Z => q_tl k (i + 1) (q_t1 Z i)
def q_to (Z : Nat → Nat → Int32) (n j : Nat) : Nat → Nat → Int32 := q_tl (n - 1 - j) j (s_upd Z 132 3 (Z 132 3 - 1))
theorem q_t1_lo {Z : Nat → Nat → Int32} {i x : Nat} (h : x < 8) : q_t1 Z i 132 x = Z 132 x := by
  unfold q_t1
  rw [q_cy_ne (by omega), q_cy_ne (by omega), q_cy_ne (by omega), q_cy_ne (by omega), q_cy_ne (by omega)]
theorem q_takes_l {P : Nat → Nat} {L : Nat} {m : Nat} {nd : Int32} (hm : m < 60) : ∀ (k i : Nat) (Z : Nat → Nat → Int32) (y3 : Value), Z 132 3 = nI m → i + k = m → e_r 107 12 [.ref 131, .int nd, .int (nI i), y3] [] (hp Z P L) none (hp (q_tl k i Z) P L)
  | 0, i, Z, y3, hN, hi => by
    refine e_go hk_107 4 (c := (18, [.ref 131, .int nd, .int (nI i), y3], [.int 3, .ref 132, .int (nI i)], hp Z P L)) rfl ?_
    refine e_ald hk_107 (a := 132) (j := 3) (n := 308) rfl rfl rfl (by decide) (by decide) ?_
    show e_r 107 19 [.ref 131, .int nd, .int (nI i), y3] [.int (Z 132 3), .int (nI i)] (hp Z P L) _ _
    refine e_go hk_107 1 (c := (if s_cnd .ge (nI i) (Z 132 3) = true then 62 else 22, [.ref 131, .int nd, .int (nI i), y3], [], hp Z P L)) rfl ?_
    refine e_ge (a := 62) (b := 22) (x := nI i) (y := Z 132 3) (fun hc19 => ?_) (fun hc19 => absurd (by rw [hN]; exact (y_le (by omega) (by omega)).mpr (by omega)) hc19)
    exact e_ret hk_107 rfl rfl rfl rfl rfl
  | k + 1, i, Z, y3, hN, hi => by
    refine e_go hk_107 4 (c := (18, [.ref 131, .int nd, .int (nI i), y3], [.int 3, .ref 132, .int (nI i)], hp Z P L)) rfl ?_
    refine e_ald hk_107 (a := 132) (j := 3) (n := 308) rfl rfl rfl (by decide) (by decide) ?_
    show e_r 107 19 [.ref 131, .int nd, .int (nI i), y3] [.int (Z 132 3), .int (nI i)] (hp Z P L) _ _
    refine e_go hk_107 1 (c := (if s_cnd .ge (nI i) (Z 132 3) = true then 62 else 22, [.ref 131, .int nd, .int (nI i), y3], [], hp Z P L)) rfl ?_
    refine e_ge (a := 62) (b := 22) (x := nI i) (y := Z 132 3) (fun hc19 => absurd hc19 (by rw [hN]; exact nI_ge (by omega) (by omega))) (fun hc19 => ?_)
    refine e_go hk_107 5 (c := (if s_cnd .gt 8 248 = true then 56 else 32, [.ref 131, .int nd, .int (nI i), .int 8], [], hp Z P L)) rfl ?_
    refine e_gt (a := 56) (b := 32) (x := 8) (y := 248) (fun hc29 => absurd hc29 (by decide)) (fun hc29 => ?_)
    refine e_go hk_107 12 (c := (48, [.ref 131, .int nd, .int (nI i), .int 8], [.int ((8 + (nI i)) + 1), .ref 132, .int (8 + (nI i)), .ref 132], hp Z P L)) rfl ?_
    rw [show ((8 + (nI i)) + 1) = nI (8 + i + 1) from (show 8 + nI i + 1 = nI (8 + i + 1) from by rw [show 8 + nI i = nI (8 + i) from nI_add 8 i, nI_1])]
    refine e_ald hk_107 (a := 132) (j := 8 + i + 1) (n := 308) rfl rfl rfl (by omega) (by decide) ?_
    show e_r 107 49 [.ref 131, .int nd, .int (nI i), .int 8] [.int (Z 132 (8 + i + 1)), .int (8 + (nI i)), .ref 132] (hp Z P L) _ _
    rw [show (8 + (nI i)) = nI (8 + i) from (nI_add 8 i)]
    refine e_ast hk_107 (a := 132) (j := 8 + i) (n := 308) rfl rfl rfl (by decide) (by omega) (by decide) ?_
    show e_r 107 50 [.ref 131, .int nd, .int (nI i), .int 8] [] (hp (s_upd Z 132 (8 + i) (Z 132 (8 + i + 1))) P L) _ _
    refine e_go hk_107 5 (c := (if s_cnd .gt 68 248 = true then 56 else 32, [.ref 131, .int nd, .int (nI i), .int 68], [], hp (s_upd Z 132 (8 + i) (Z 132 (8 + i + 1))) P L)) rfl ?_
    refine e_gt (a := 56) (b := 32) (x := 68) (y := 248) (fun hc29 => absurd hc29 (by decide)) (fun hc29 => ?_)
    refine e_go hk_107 12 (c := (48, [.ref 131, .int nd, .int (nI i), .int 68], [.int ((68 + (nI i)) + 1), .ref 132, .int (68 + (nI i)), .ref 132], hp (s_upd Z 132 (8 + i) (Z 132 (8 + i + 1))) P L)) rfl ?_
    rw [show ((68 + (nI i)) + 1) = nI (68 + i + 1) from (show 68 + nI i + 1 = nI (68 + i + 1) from by rw [show 68 + nI i = nI (68 + i) from nI_add 68 i, nI_1])]
    refine e_ald hk_107 (a := 132) (j := 68 + i + 1) (n := 308) rfl rfl rfl (by omega) (by decide) ?_
    show e_r 107 49 [.ref 131, .int nd, .int (nI i), .int 68] [.int ((s_upd Z 132 (8 + i) (Z 132 (8 + i + 1))) 132 (68 + i + 1)), .int (68 + (nI i)), .ref 132] (hp (s_upd Z 132 (8 + i) (Z 132 (8 + i + 1))) P L) _ _
    rw [show (68 + (nI i)) = nI (68 + i) from (nI_add 68 i)]
    refine e_ast hk_107 (a := 132) (j := 68 + i) (n := 308) rfl rfl rfl (by decide) (by omega) (by decide) ?_
    show e_r 107 50 [.ref 131, .int nd, .int (nI i), .int 68] [] (hp (s_upd (s_upd Z 132 (8 + i) (Z 132 (8 + i + 1))) 132 (68 + i) ((s_upd Z 132 (8 + i) (Z 132 (8 + i + 1))) 132 (68 + i + 1))) P L) _ _
    refine e_go hk_107 5 (c := (if s_cnd .gt 128 248 = true then 56 else 32, [.ref 131, .int nd, .int (nI i), .int 128], [], hp (s_upd (s_upd Z 132 (8 + i) (Z 132 (8 + i + 1))) 132 (68 + i) ((s_upd Z 132 (8 + i) (Z 132 (8 + i + 1))) 132 (68 + i + 1))) P L)) rfl ?_
    refine e_gt (a := 56) (b := 32) (x := 128) (y := 248) (fun hc29 => absurd hc29 (by decide)) (fun hc29 => ?_)
    refine e_go hk_107 12 (c := (48, [.ref 131, .int nd, .int (nI i), .int 128], [.int ((128 + (nI i)) + 1), .ref 132, .int (128 + (nI i)), .ref 132], hp (s_upd (s_upd Z 132 (8 + i) (Z 132 (8 + i + 1))) 132 (68 + i) ((s_upd Z 132 (8 + i) (Z 132 (8 + i + 1))) 132 (68 + i + 1))) P L)) rfl ?_
    rw [show ((128 + (nI i)) + 1) = nI (128 + i + 1) from (show 128 + nI i + 1 = nI (128 + i + 1) from by rw [show 128 + nI i = nI (128 + i) from nI_add 128 i, nI_1])]
    refine e_ald hk_107 (a := 132) (j := 128 + i + 1) (n := 308) rfl rfl rfl (by omega) (by decide) ?_
    show e_r 107 49 [.ref 131, .int nd, .int (nI i), .int 128] [.int ((s_upd (s_upd Z 132 (8 + i) (Z 132 (8 + i + 1))) 132 (68 + i) ((s_upd Z 132 (8 + i) (Z 132 (8 + i + 1))) 132 (68 + i + 1))) 132 (128 + i + 1)), .int (128 + (nI i)), .ref 132] (hp (s_upd (s_upd Z 132 (8 + i) (Z 132 (8 + i + 1))) 132 (68 + i) ((s_upd Z 132 (8 + i) (Z 132 (8 + i + 1))) 132 (68 + i + 1))) P L) _ _
    rw [show (128 + (nI i)) = nI (128 + i) from (nI_add 128 i)]
    refine e_ast hk_107 (a := 132) (j := 128 + i) (n := 308) rfl rfl rfl (by decide) (by omega) (by decide) ?_
    show e_r 107 50 [.ref 131, .int nd, .int (nI i), .int 128] [] (hp (s_upd (s_upd (s_upd Z 132 (8 + i) (Z 132 (8 + i + 1))) 132 (68 + i) ((s_upd Z 132 (8 + i) (Z 132 (8 + i + 1))) 132 (68 + i + 1))) 132 (128 + i) ((s_upd (s_upd Z 132 (8 + i) (Z 132 (8 + i + 1))) 132 (68 + i) ((s_upd Z 132 (8 + i) (Z 132 (8 + i + 1))) 132 (68 + i + 1))) 132 (128 + i + 1))) P L) _ _
    refine e_go hk_107 5 (c := (if s_cnd .gt 188 248 = true then 56 else 32, [.ref 131, .int nd, .int (nI i), .int 188], [], hp (s_upd (s_upd (s_upd Z 132 (8 + i) (Z 132 (8 + i + 1))) 132 (68 + i) ((s_upd Z 132 (8 + i) (Z 132 (8 + i + 1))) 132 (68 + i + 1))) 132 (128 + i) ((s_upd (s_upd Z 132 (8 + i) (Z 132 (8 + i + 1))) 132 (68 + i) ((s_upd Z 132 (8 + i) (Z 132 (8 + i + 1))) 132 (68 + i + 1))) 132 (128 + i + 1))) P L)) rfl ?_
    refine e_gt (a := 56) (b := 32) (x := 188) (y := 248) (fun hc29 => absurd hc29 (by decide)) (fun hc29 => ?_)
    refine e_go hk_107 12 (c := (48, [.ref 131, .int nd, .int (nI i), .int 188], [.int ((188 + (nI i)) + 1), .ref 132, .int (188 + (nI i)), .ref 132], hp (s_upd (s_upd (s_upd Z 132 (8 + i) (Z 132 (8 + i + 1))) 132 (68 + i) ((s_upd Z 132 (8 + i) (Z 132 (8 + i + 1))) 132 (68 + i + 1))) 132 (128 + i) ((s_upd (s_upd Z 132 (8 + i) (Z 132 (8 + i + 1))) 132 (68 + i) ((s_upd Z 132 (8 + i) (Z 132 (8 + i + 1))) 132 (68 + i + 1))) 132 (128 + i + 1))) P L)) rfl ?_
    rw [show ((188 + (nI i)) + 1) = nI (188 + i + 1) from (show 188 + nI i + 1 = nI (188 + i + 1) from by rw [show 188 + nI i = nI (188 + i) from nI_add 188 i, nI_1])]
    refine e_ald hk_107 (a := 132) (j := 188 + i + 1) (n := 308) rfl rfl rfl (by omega) (by decide) ?_
    show e_r 107 49 [.ref 131, .int nd, .int (nI i), .int 188] [.int ((s_upd (s_upd (s_upd Z 132 (8 + i) (Z 132 (8 + i + 1))) 132 (68 + i) ((s_upd Z 132 (8 + i) (Z 132 (8 + i + 1))) 132 (68 + i + 1))) 132 (128 + i) ((s_upd (s_upd Z 132 (8 + i) (Z 132 (8 + i + 1))) 132 (68 + i) ((s_upd Z 132 (8 + i) (Z 132 (8 + i + 1))) 132 (68 + i + 1))) 132 (128 + i + 1))) 132 (188 + i + 1)), .int (188 + (nI i)), .ref 132] (hp (s_upd (s_upd (s_upd Z 132 (8 + i) (Z 132 (8 + i + 1))) 132 (68 + i) ((s_upd Z 132 (8 + i) (Z 132 (8 + i + 1))) 132 (68 + i + 1))) 132 (128 + i) ((s_upd (s_upd Z 132 (8 + i) (Z 132 (8 + i + 1))) 132 (68 + i) ((s_upd Z 132 (8 + i) (Z 132 (8 + i + 1))) 132 (68 + i + 1))) 132 (128 + i + 1))) P L) _ _
    rw [show (188 + (nI i)) = nI (188 + i) from (nI_add 188 i)]
    refine e_ast hk_107 (a := 132) (j := 188 + i) (n := 308) rfl rfl rfl (by decide) (by omega) (by decide) ?_
    show e_r 107 50 [.ref 131, .int nd, .int (nI i), .int 188] [] (hp (s_upd (s_upd (s_upd (s_upd Z 132 (8 + i) (Z 132 (8 + i + 1))) 132 (68 + i) ((s_upd Z 132 (8 + i) (Z 132 (8 + i + 1))) 132 (68 + i + 1))) 132 (128 + i) ((s_upd (s_upd Z 132 (8 + i) (Z 132 (8 + i + 1))) 132 (68 + i) ((s_upd Z 132 (8 + i) (Z 132 (8 + i + 1))) 132 (68 + i + 1))) 132 (128 + i + 1))) 132 (188 + i) ((s_upd (s_upd (s_upd Z 132 (8 + i) (Z 132 (8 + i + 1))) 132 (68 + i) ((s_upd Z 132 (8 + i) (Z 132 (8 + i + 1))) 132 (68 + i + 1))) 132 (128 + i) ((s_upd (s_upd Z 132 (8 + i) (Z 132 (8 + i + 1))) 132 (68 + i) ((s_upd Z 132 (8 + i) (Z 132 (8 + i + 1))) 132 (68 + i + 1))) 132 (128 + i + 1))) 132 (188 + i + 1))) P L) _ _
    refine e_go hk_107 5 (c := (if s_cnd .gt 248 248 = true then 56 else 32, [.ref 131, .int nd, .int (nI i), .int 248], [], hp (s_upd (s_upd (s_upd (s_upd Z 132 (8 + i) (Z 132 (8 + i + 1))) 132 (68 + i) ((s_upd Z 132 (8 + i) (Z 132 (8 + i + 1))) 132 (68 + i + 1))) 132 (128 + i) ((s_upd (s_upd Z 132 (8 + i) (Z 132 (8 + i + 1))) 132 (68 + i) ((s_upd Z 132 (8 + i) (Z 132 (8 + i + 1))) 132 (68 + i + 1))) 132 (128 + i + 1))) 132 (188 + i) ((s_upd (s_upd (s_upd Z 132 (8 + i) (Z 132 (8 + i + 1))) 132 (68 + i) ((s_upd Z 132 (8 + i) (Z 132 (8 + i + 1))) 132 (68 + i + 1))) 132 (128 + i) ((s_upd (s_upd Z 132 (8 + i) (Z 132 (8 + i + 1))) 132 (68 + i) ((s_upd Z 132 (8 + i) (Z 132 (8 + i + 1))) 132 (68 + i + 1))) 132 (128 + i + 1))) 132 (188 + i + 1))) P L)) rfl ?_
    refine e_gt (a := 56) (b := 32) (x := 248) (y := 248) (fun hc29 => absurd hc29 (by decide)) (fun hc29 => ?_)
    refine e_go hk_107 12 (c := (48, [.ref 131, .int nd, .int (nI i), .int 248], [.int ((248 + (nI i)) + 1), .ref 132, .int (248 + (nI i)), .ref 132], hp (s_upd (s_upd (s_upd (s_upd Z 132 (8 + i) (Z 132 (8 + i + 1))) 132 (68 + i) ((s_upd Z 132 (8 + i) (Z 132 (8 + i + 1))) 132 (68 + i + 1))) 132 (128 + i) ((s_upd (s_upd Z 132 (8 + i) (Z 132 (8 + i + 1))) 132 (68 + i) ((s_upd Z 132 (8 + i) (Z 132 (8 + i + 1))) 132 (68 + i + 1))) 132 (128 + i + 1))) 132 (188 + i) ((s_upd (s_upd (s_upd Z 132 (8 + i) (Z 132 (8 + i + 1))) 132 (68 + i) ((s_upd Z 132 (8 + i) (Z 132 (8 + i + 1))) 132 (68 + i + 1))) 132 (128 + i) ((s_upd (s_upd Z 132 (8 + i) (Z 132 (8 + i + 1))) 132 (68 + i) ((s_upd Z 132 (8 + i) (Z 132 (8 + i + 1))) 132 (68 + i + 1))) 132 (128 + i + 1))) 132 (188 + i + 1))) P L)) rfl ?_
    rw [show ((248 + (nI i)) + 1) = nI (248 + i + 1) from (show 248 + nI i + 1 = nI (248 + i + 1) from by rw [show 248 + nI i = nI (248 + i) from nI_add 248 i, nI_1])]
    refine e_ald hk_107 (a := 132) (j := 248 + i + 1) (n := 308) rfl rfl rfl (by omega) (by decide) ?_
    show e_r 107 49 [.ref 131, .int nd, .int (nI i), .int 248] [.int ((s_upd (s_upd (s_upd (s_upd Z 132 (8 + i) (Z 132 (8 + i + 1))) 132 (68 + i) ((s_upd Z 132 (8 + i) (Z 132 (8 + i + 1))) 132 (68 + i + 1))) 132 (128 + i) ((s_upd (s_upd Z 132 (8 + i) (Z 132 (8 + i + 1))) 132 (68 + i) ((s_upd Z 132 (8 + i) (Z 132 (8 + i + 1))) 132 (68 + i + 1))) 132 (128 + i + 1))) 132 (188 + i) ((s_upd (s_upd (s_upd Z 132 (8 + i) (Z 132 (8 + i + 1))) 132 (68 + i) ((s_upd Z 132 (8 + i) (Z 132 (8 + i + 1))) 132 (68 + i + 1))) 132 (128 + i) ((s_upd (s_upd Z 132 (8 + i) (Z 132 (8 + i + 1))) 132 (68 + i) ((s_upd Z 132 (8 + i) (Z 132 (8 + i + 1))) 132 (68 + i + 1))) 132 (128 + i + 1))) 132 (188 + i + 1))) 132 (248 + i + 1)), .int (248 + (nI i)), .ref 132] (hp (s_upd (s_upd (s_upd (s_upd Z 132 (8 + i) (Z 132 (8 + i + 1))) 132 (68 + i) ((s_upd Z 132 (8 + i) (Z 132 (8 + i + 1))) 132 (68 + i + 1))) 132 (128 + i) ((s_upd (s_upd Z 132 (8 + i) (Z 132 (8 + i + 1))) 132 (68 + i) ((s_upd Z 132 (8 + i) (Z 132 (8 + i + 1))) 132 (68 + i + 1))) 132 (128 + i + 1))) 132 (188 + i) ((s_upd (s_upd (s_upd Z 132 (8 + i) (Z 132 (8 + i + 1))) 132 (68 + i) ((s_upd Z 132 (8 + i) (Z 132 (8 + i + 1))) 132 (68 + i + 1))) 132 (128 + i) ((s_upd (s_upd Z 132 (8 + i) (Z 132 (8 + i + 1))) 132 (68 + i) ((s_upd Z 132 (8 + i) (Z 132 (8 + i + 1))) 132 (68 + i + 1))) 132 (128 + i + 1))) 132 (188 + i + 1))) P L) _ _
    rw [show (248 + (nI i)) = nI (248 + i) from (nI_add 248 i)]
    refine e_ast hk_107 (a := 132) (j := 248 + i) (n := 308) rfl rfl rfl (by decide) (by omega) (by decide) ?_
    show e_r 107 50 [.ref 131, .int nd, .int (nI i), .int 248] [] (hp (s_upd (s_upd (s_upd (s_upd (s_upd Z 132 (8 + i) (Z 132 (8 + i + 1))) 132 (68 + i) ((s_upd Z 132 (8 + i) (Z 132 (8 + i + 1))) 132 (68 + i + 1))) 132 (128 + i) ((s_upd (s_upd Z 132 (8 + i) (Z 132 (8 + i + 1))) 132 (68 + i) ((s_upd Z 132 (8 + i) (Z 132 (8 + i + 1))) 132 (68 + i + 1))) 132 (128 + i + 1))) 132 (188 + i) ((s_upd (s_upd (s_upd Z 132 (8 + i) (Z 132 (8 + i + 1))) 132 (68 + i) ((s_upd Z 132 (8 + i) (Z 132 (8 + i + 1))) 132 (68 + i + 1))) 132 (128 + i) ((s_upd (s_upd Z 132 (8 + i) (Z 132 (8 + i + 1))) 132 (68 + i) ((s_upd Z 132 (8 + i) (Z 132 (8 + i + 1))) 132 (68 + i + 1))) 132 (128 + i + 1))) 132 (188 + i + 1))) 132 (248 + i) ((s_upd (s_upd (s_upd (s_upd Z 132 (8 + i) (Z 132 (8 + i + 1))) 132 (68 + i) ((s_upd Z 132 (8 + i) (Z 132 (8 + i + 1))) 132 (68 + i + 1))) 132 (128 + i) ((s_upd (s_upd Z 132 (8 + i) (Z 132 (8 + i + 1))) 132 (68 + i) ((s_upd Z 132 (8 + i) (Z 132 (8 + i + 1))) 132 (68 + i + 1))) 132 (128 + i + 1))) 132 (188 + i) ((s_upd (s_upd (s_upd Z 132 (8 + i) (Z 132 (8 + i + 1))) 132 (68 + i) ((s_upd Z 132 (8 + i) (Z 132 (8 + i + 1))) 132 (68 + i + 1))) 132 (128 + i) ((s_upd (s_upd Z 132 (8 + i) (Z 132 (8 + i + 1))) 132 (68 + i) ((s_upd Z 132 (8 + i) (Z 132 (8 + i + 1))) 132 (68 + i + 1))) 132 (128 + i + 1))) 132 (188 + i + 1))) 132 (248 + i + 1))) P L) _ _
    refine e_go hk_107 5 (c := (if s_cnd .gt 308 248 = true then 56 else 32, [.ref 131, .int nd, .int (nI i), .int 308], [], hp (s_upd (s_upd (s_upd (s_upd (s_upd Z 132 (8 + i) (Z 132 (8 + i + 1))) 132 (68 + i) ((s_upd Z 132 (8 + i) (Z 132 (8 + i + 1))) 132 (68 + i + 1))) 132 (128 + i) ((s_upd (s_upd Z 132 (8 + i) (Z 132 (8 + i + 1))) 132 (68 + i) ((s_upd Z 132 (8 + i) (Z 132 (8 + i + 1))) 132 (68 + i + 1))) 132 (128 + i + 1))) 132 (188 + i) ((s_upd (s_upd (s_upd Z 132 (8 + i) (Z 132 (8 + i + 1))) 132 (68 + i) ((s_upd Z 132 (8 + i) (Z 132 (8 + i + 1))) 132 (68 + i + 1))) 132 (128 + i) ((s_upd (s_upd Z 132 (8 + i) (Z 132 (8 + i + 1))) 132 (68 + i) ((s_upd Z 132 (8 + i) (Z 132 (8 + i + 1))) 132 (68 + i + 1))) 132 (128 + i + 1))) 132 (188 + i + 1))) 132 (248 + i) ((s_upd (s_upd (s_upd (s_upd Z 132 (8 + i) (Z 132 (8 + i + 1))) 132 (68 + i) ((s_upd Z 132 (8 + i) (Z 132 (8 + i + 1))) 132 (68 + i + 1))) 132 (128 + i) ((s_upd (s_upd Z 132 (8 + i) (Z 132 (8 + i + 1))) 132 (68 + i) ((s_upd Z 132 (8 + i) (Z 132 (8 + i + 1))) 132 (68 + i + 1))) 132 (128 + i + 1))) 132 (188 + i) ((s_upd (s_upd (s_upd Z 132 (8 + i) (Z 132 (8 + i + 1))) 132 (68 + i) ((s_upd Z 132 (8 + i) (Z 132 (8 + i + 1))) 132 (68 + i + 1))) 132 (128 + i) ((s_upd (s_upd Z 132 (8 + i) (Z 132 (8 + i + 1))) 132 (68 + i) ((s_upd Z 132 (8 + i) (Z 132 (8 + i + 1))) 132 (68 + i + 1))) 132 (128 + i + 1))) 132 (188 + i + 1))) 132 (248 + i + 1))) P L)) rfl ?_
    refine e_gt (a := 56) (b := 32) (x := 308) (y := 248) (fun hc29 => ?_) (fun hc29 => absurd (by decide) hc29)
    refine e_go hk_107 2 (c := (12, [.ref 131, .int nd, .int ((nI i) + 1), .int 308], [], hp (s_upd (s_upd (s_upd (s_upd (s_upd Z 132 (8 + i) (Z 132 (8 + i + 1))) 132 (68 + i) ((s_upd Z 132 (8 + i) (Z 132 (8 + i + 1))) 132 (68 + i + 1))) 132 (128 + i) ((s_upd (s_upd Z 132 (8 + i) (Z 132 (8 + i + 1))) 132 (68 + i) ((s_upd Z 132 (8 + i) (Z 132 (8 + i + 1))) 132 (68 + i + 1))) 132 (128 + i + 1))) 132 (188 + i) ((s_upd (s_upd (s_upd Z 132 (8 + i) (Z 132 (8 + i + 1))) 132 (68 + i) ((s_upd Z 132 (8 + i) (Z 132 (8 + i + 1))) 132 (68 + i + 1))) 132 (128 + i) ((s_upd (s_upd Z 132 (8 + i) (Z 132 (8 + i + 1))) 132 (68 + i) ((s_upd Z 132 (8 + i) (Z 132 (8 + i + 1))) 132 (68 + i + 1))) 132 (128 + i + 1))) 132 (188 + i + 1))) 132 (248 + i) ((s_upd (s_upd (s_upd (s_upd Z 132 (8 + i) (Z 132 (8 + i + 1))) 132 (68 + i) ((s_upd Z 132 (8 + i) (Z 132 (8 + i + 1))) 132 (68 + i + 1))) 132 (128 + i) ((s_upd (s_upd Z 132 (8 + i) (Z 132 (8 + i + 1))) 132 (68 + i) ((s_upd Z 132 (8 + i) (Z 132 (8 + i + 1))) 132 (68 + i + 1))) 132 (128 + i + 1))) 132 (188 + i) ((s_upd (s_upd (s_upd Z 132 (8 + i) (Z 132 (8 + i + 1))) 132 (68 + i) ((s_upd Z 132 (8 + i) (Z 132 (8 + i + 1))) 132 (68 + i + 1))) 132 (128 + i) ((s_upd (s_upd Z 132 (8 + i) (Z 132 (8 + i + 1))) 132 (68 + i) ((s_upd Z 132 (8 + i) (Z 132 (8 + i + 1))) 132 (68 + i + 1))) 132 (128 + i + 1))) 132 (188 + i + 1))) 132 (248 + i + 1))) P L)) rfl ?_
    rw [nI_1, q_tl]
    exact q_takes_l hm k (i + 1) _ _ (by show q_t1 Z i 132 3 = nI m; rw [q_t1_lo (by omega)]; exact hN) (by omega)
theorem q_takes {Z : Nat → Nat → Int32} {P : Nat → Nat} {L n : Nat} (hN : Z 132 3 = nI n) (hn : n ≤ 60) {j : Nat} (hj : j < n) : m_r 107 [.ref 131, .int (nI j)] (hp Z P L) none (hp (q_to Z n j) P L) := by
  refine m_of (ls := [.ref 131, .int (nI j), s_no, s_no]) hk_107 rfl rfl rfl ?_
  refine e_go hk_107 4 (c := (6, [.ref 131, .int (nI j), s_no, s_no], [.int 3, .ref 132, .int 3, .ref 132], hp Z P L)) rfl ?_
  refine e_ald hk_107 (a := 132) (j := 3) (n := 308) rfl rfl rfl (by decide) (by decide) ?_
  show e_r 107 7 [.ref 131, .int (nI j), s_no, s_no] [.int (Z 132 3), .int 3, .ref 132] (hp Z P L) _ _
  refine e_go hk_107 2 (c := (9, [.ref 131, .int (nI j), s_no, s_no], [.int ((Z 132 3) - 1), .int 3, .ref 132], hp Z P L)) rfl ?_
  refine e_ast hk_107 (a := 132) (j := 3) (n := 308) rfl rfl rfl (by decide) (by decide) (by decide) ?_
  show e_r 107 10 [.ref 131, .int (nI j), s_no, s_no] [] (hp (s_upd Z 132 3 ((Z 132 3) - 1)) P L) _ _
  refine e_go hk_107 2 (c := (12, [.ref 131, .int (nI j), .int (nI j), s_no], [], hp (s_upd Z 132 3 ((Z 132 3) - 1)) P L)) rfl ?_
  exact q_takes_l (m := n - 1) (by omega) (n - 1 - j) j _ _ (by rw [s_upd_c, if_pos ⟨rfl, rfl⟩, hN, y_m1s (by omega)]) (by omega)
def q_s4 (Z : Nat → Nat → Int32) (pd w : Int32) : Nat → Nat → Int32 := s_upd (s_upd (s_upd Z 132 5 (Z 132 5 + (pd - w))) 132 4 (Z 132 4 + w)) 132 6 (Z 132 6 + 1)
def q_sp (Z : Nat → Nat → Int32) (pd w : Int32) : Nat → Nat → Int32 := s_upd (q_s4 Z pd w) 132 7 (y_mx (Z 132 7) w)
theorem y_mxl2 {w g : Int32} (h : w ≤ g) : g = y_mx g w := by
  unfold y_mx
  rw [if_neg (Int32.not_lt.mpr h)]
theorem y_mxg2 {w g : Int32} (h : ¬ w ≤ g) : w = y_mx g w := by
  unfold y_mx
  rw [if_pos (Int32.not_le.mp h)]
/-- the loop that takes hollow nodes out: lo, places left, nodes, one behind the last full one -/
def q_rl (lo : Nat) : Nat → Nat → Nat → (Nat → Nat → Int32) → Nat × (Nat → Nat → Int32)
  | 0, _, e, Z => (e, Z)
  | c + 1, n, e, Z => if Z 132 (188 + (lo + c)) = 0 then q_rl lo c (n - 1) (e - 1) (q_to (s_upd Z 132 (128 + (lo + c)) 0) n (lo + c)) else q_rl lo c n e (s_upd Z 132 (128 + (lo + c)) 0)
def q_rb (Z : Nat → Nat → Int32) (n j : Nat) : Nat × (Nat → Nat → Int32) := q_rl (q_L Z j) (q_H Z n j + 1 - q_L Z j) n (q_H Z n j + 1) (q_sp Z (t_sm (q_c Z 128) (q_L Z j) (q_H Z n j + 1 - q_L Z j) 0) (q_w Z n j))
def q_re (Z : Nat → Nat → Int32) (n j : Nat) : Nat → Nat → Int32 := q_lay (q_rb Z n j).2 (q_L Z j) (q_rb Z n j).1 (q_c Z 248 j)
theorem q_tl_lo {x : Nat} (h : x < 8) : ∀ (k i : Nat) (Z : Nat → Nat → Int32), q_tl k i Z 132 x = Z 132 x
  | 0, i, Z => rfl
  | k + 1, i, Z => by rw [q_tl, q_tl_lo h k, q_t1_lo h]
theorem q_to_3 {Z : Nat → Nat → Int32} {n j : Nat} (hN : Z 132 3 = nI n) (h0 : 0 < n) : q_to Z n j 132 3 = nI (n - 1) := by
  rw [q_to, q_tl_lo (by omega), s_upd_c, if_pos ⟨rfl, rfl⟩, hN, y_m1s h0]
theorem y_am1 (x : Int32) : x + (-1) = x - 1 := (Int32.sub_eq_add_neg x 1).symm
theorem y_m1m1 {e : Nat} (h : 0 < e) : nI e - 1 + (-1) = nI (e - 1) - 1 := by rw [y_am1, y_m1s h]
theorem y_m1lt2 {a b : Nat} (ha : a < 2 ^ 31) (hb : b < 2 ^ 31) : nI a - 1 < nI b ↔ a ≤ b := y_m1lt ha hb
theorem q_reb_l {P : Nat → Nat} {L : Nat} {lo : Nat} {nd to lv wt : Int32} (hlo : lo ≤ 60) : ∀ (c n e : Nat) (Z : Nat → Nat → Int32), Z 132 3 = nI n → n ≤ 60 → lo + c ≤ n → lo + c ≤ e → e ≤ 60 → e_r 108 106 [.ref 131, .int nd, .int (nI lo), .int to, .int lv, .int wt, .int (nI e - 1), .int (nI (lo + c) - 1)] [] (hp Z P L) (some (.int wt)) (hp (q_lay (q_rl lo c n e Z).2 lo (q_rl lo c n e Z).1 lv) P L)
  | 0, n, e, Z, hN, hn, hc, he, he2 => by
    refine e_go hk_108 3 (c := (if s_cnd .lt (nI (lo + 0) - 1) (nI lo) = true then 153 else 112, [.ref 131, .int nd, .int (nI lo), .int to, .int lv, .int wt, .int (nI e - 1), .int (nI (lo + 0) - 1)], [], hp Z P L)) rfl ?_
    refine e_lt (a := 153) (b := 112) (x := nI (lo + 0) - 1) (y := nI lo) (fun hc109 => ?_) (fun hc109 => absurd (by rw [Nat.add_zero]; exact (y_m1lt (by omega) (by omega)).mpr (Nat.le_refl _)) hc109)
    refine e_go hk_108 4 (c := (159, [.ref 131, .int nd, .int (nI lo), .int to, .int lv, .int wt, .int (nI e - 1), .int (nI (lo + 0) - 1)], [.int lv, .int (nI e - 1), .int (nI lo), .ref 131], hp Z P L)) rfl ?_
    refine e_call hk_108 (as := [.ref 131, .int (nI lo), .int (nI e - 1), .int lv]) (rest := []) rfl rfl hk_106 rfl (Nat.le_of_ble_eq_true rfl) rfl (q_lays (a := lo) (u := e) (by omega) (by omega)) ?_
    show e_r 108 162 [.ref 131, .int nd, .int (nI lo), .int to, .int lv, .int wt, .int (nI e - 1), .int (nI (lo + 0) - 1)] [] (hp ((q_lay Z lo e lv)) P L) _ _
    refine e_go hk_108 1 (c := (164, [.ref 131, .int nd, .int (nI lo), .int to, .int lv, .int wt, .int (nI e - 1), .int (nI (lo + 0) - 1)], [.int wt], hp ((q_lay Z lo e lv)) P L)) rfl ?_
    exact e_ret hk_108 rfl rfl rfl rfl rfl
  | c + 1, n, e, Z, hN, hn, hc, he, he2 => by
    rw [show nI (lo + (c + 1)) - 1 = nI (lo + c) from nI_pred (lo + c)]
    refine e_go hk_108 3 (c := (if s_cnd .lt (nI (lo + c)) (nI lo) = true then 153 else 112, [.ref 131, .int nd, .int (nI lo), .int to, .int lv, .int wt, .int (nI e - 1), .int (nI (lo + c))], [], hp Z P L)) rfl ?_
    refine e_lt (a := 153) (b := 112) (x := nI (lo + c)) (y := nI lo) (fun hc109 => absurd hc109 (nI_nlt (by omega) (by omega))) (fun hc109 => ?_)
    refine e_go hk_108 6 (c := (123, [.ref 131, .int nd, .int (nI lo), .int to, .int lv, .int wt, .int (nI e - 1), .int (nI (lo + c))], [.int 0, .int (128 + (nI (lo + c))), .ref 132], hp Z P L)) rfl ?_
    rw [show (128 + (nI (lo + c))) = nI (128 + (lo + c)) from (nI_add 128 (lo + c))]
    refine e_ast hk_108 (a := 132) (j := 128 + (lo + c)) (n := 308) rfl rfl rfl (by decide) (by omega) (by decide) ?_
    show e_r 108 124 [.ref 131, .int nd, .int (nI lo), .int to, .int lv, .int wt, .int (nI e - 1), .int (nI (lo + c))] [] (hp (s_upd Z 132 (128 + (lo + c)) 0) P L) _ _
    refine e_go hk_108 5 (c := (134, [.ref 131, .int nd, .int (nI lo), .int to, .int lv, .int wt, .int (nI e - 1), .int (nI (lo + c))], [.int (188 + (nI (lo + c))), .ref 132], hp (s_upd Z 132 (128 + (lo + c)) 0) P L)) rfl ?_
    rw [show (188 + (nI (lo + c))) = nI (188 + (lo + c)) from (nI_add 188 (lo + c))]
    refine e_ald hk_108 (a := 132) (j := 188 + (lo + c)) (n := 308) rfl rfl rfl (by omega) (by decide) ?_
    show e_r 108 135 [.ref 131, .int nd, .int (nI lo), .int to, .int lv, .int wt, .int (nI e - 1), .int (nI (lo + c))] [.int ((s_upd Z 132 (128 + (lo + c)) 0) 132 (188 + (lo + c)))] (hp (s_upd Z 132 (128 + (lo + c)) 0) P L) _ _
    refine e_go hk_108 1 (c := (if s_cnd .ne ((s_upd Z 132 (128 + (lo + c)) 0) 132 (188 + (lo + c))) 0 = true then 147 else 138, [.ref 131, .int nd, .int (nI lo), .int to, .int lv, .int wt, .int (nI e - 1), .int (nI (lo + c))], [], hp (s_upd Z 132 (128 + (lo + c)) 0) P L)) rfl ?_
    refine e_ne (a := 147) (b := 138) (x := (s_upd Z 132 (128 + (lo + c)) 0) 132 (188 + (lo + c))) (y := 0) (fun hc135 => ?_) (fun hc135 => ?_)
    · skip
      have hne : ¬ Z 132 (188 + (lo + c)) = 0 := fun z => hc135 (by rw [s_upd_c, if_neg (by omega)]; exact z)
      refine e_go hk_108 2 (c := (106, [.ref 131, .int nd, .int (nI lo), .int to, .int lv, .int wt, .int (nI e - 1), .int ((nI (lo + c)) + (-1))], [], hp (s_upd Z 132 (128 + (lo + c)) 0) P L)) rfl ?_
      rw [q_rl, if_neg hne, y_am1]
      exact q_reb_l hlo c n e _ (by rw [s_upd_c, if_neg (by omega)]; exact hN) hn (by omega) (by omega) (by omega)
    · skip
      have hne : Z 132 (188 + (lo + c)) = 0 := by rw [s_upd_c, if_neg (by omega)] at hc135; exact hc135
      refine e_go hk_108 2 (c := (141, [.ref 131, .int nd, .int (nI lo), .int to, .int lv, .int wt, .int (nI e - 1), .int (nI (lo + c))], [.int (nI (lo + c)), .ref 131], hp (s_upd Z 132 (128 + (lo + c)) 0) P L)) rfl ?_
      refine e_call hk_108 (as := [.ref 131, .int (nI (lo + c))]) (rest := []) rfl rfl hk_107 rfl (Nat.le_of_ble_eq_true rfl) rfl (q_takes (n := n) (j := lo + c) (by rw [s_upd_c, if_neg (by omega)]; exact hN) hn (by omega)) ?_
      show e_r 108 144 [.ref 131, .int nd, .int (nI lo), .int to, .int lv, .int wt, .int (nI e - 1), .int (nI (lo + c))] [] (hp ((q_to (s_upd Z 132 (128 + (lo + c)) 0) n (lo + c))) P L) _ _
      refine e_go hk_108 3 (c := (106, [.ref 131, .int nd, .int (nI lo), .int to, .int lv, .int wt, .int ((nI e - 1) + (-1)), .int ((nI (lo + c)) + (-1))], [], hp ((q_to (s_upd Z 132 (128 + (lo + c)) 0) n (lo + c))) P L)) rfl ?_
      rw [q_rl, if_pos hne, y_m1m1 (by omega), y_am1]
      exact q_reb_l hlo c (n - 1) (e - 1) _ (q_to_3 (by rw [s_upd_c, if_neg (by omega)]; exact hN) (by omega)) (by omega) (by omega) (by omega) (by omega)
theorem q_s4_7 {Z : Nat → Nat → Int32} {pd w : Int32} : q_s4 Z pd w 132 7 = Z 132 7 := by
  unfold q_s4
  simp [s_upd_c]
theorem q_sp_3 {Z : Nat → Nat → Int32} {pd w : Int32} : q_sp Z pd w 132 3 = Z 132 3 := by
  unfold q_sp q_s4
  simp [s_upd_c]
theorem q_reb {Z : Nat → Nat → Int32} {P : Nat → Nat} {L n : Nat} (hN : Z 132 3 = nI n) (hn : n ≤ 60) {j : Nat} (hj : j < n) : m_r 108 [.ref 131, .int (nI j)] (hp Z P L) (some (.int (q_w Z n j))) (hp (q_re Z n j) P L) := by
  have hLL := q_LL Z j
  have hHH := q_HH Z hj
  refine m_of (ls := [.ref 131, .int (nI j), s_no, s_no, s_no, s_no, s_no, s_no]) hk_108 rfl rfl rfl ?_
  refine e_go hk_108 2 (c := (2, [.ref 131, .int (nI j), s_no, s_no, s_no, s_no, s_no, s_no], [.int (nI j), .ref 131], hp Z P L)) rfl ?_
  refine e_call hk_108 (as := [.ref 131, .int (nI j)]) (rest := []) rfl rfl hk_97 rfl (Nat.le_of_ble_eq_true rfl) rfl (q_first (j := j) (by omega)) ?_
  show e_r 108 5 [.ref 131, .int (nI j), s_no, s_no, s_no, s_no, s_no, s_no] [.int (nI (q_L Z j))] (hp Z P L) _ _
  refine e_go hk_108 3 (c := (8, [.ref 131, .int (nI j), .int (nI (q_L Z j)), s_no, s_no, s_no, s_no, s_no], [.int (nI j), .ref 131], hp Z P L)) rfl ?_
  refine e_call hk_108 (as := [.ref 131, .int (nI j)]) (rest := []) rfl rfl hk_98 rfl (Nat.le_of_ble_eq_true rfl) rfl (q_last hN hn (j := j) (by omega)) ?_
  show e_r 108 11 [.ref 131, .int (nI j), .int (nI (q_L Z j)), s_no, s_no, s_no, s_no, s_no] [.int (nI (q_H Z n j))] (hp Z P L) _ _
  refine e_go hk_108 3 (c := (14, [.ref 131, .int (nI j), .int (nI (q_L Z j)), .int (nI (q_H Z n j)), s_no, s_no, s_no, s_no], [.int (nI j), .ref 131], hp Z P L)) rfl ?_
  refine e_call hk_108 (as := [.ref 131, .int (nI j)]) (rest := []) rfl rfl hk_95 rfl (Nat.le_of_ble_eq_true rfl) rfl (q_dep (j := j) (by omega)) ?_
  show e_r 108 17 [.ref 131, .int (nI j), .int (nI (q_L Z j)), .int (nI (q_H Z n j)), s_no, s_no, s_no, s_no] [.int (q_c Z 248 j)] (hp Z P L) _ _
  refine e_go hk_108 11 (c := (32, [.ref 131, .int (nI j), .int (nI (q_L Z j)), .int (nI (q_H Z n j)), .int (q_c Z 248 j), .int (((nI (q_H Z n j)) - (nI (q_L Z j))) + 1), s_no, s_no], [.int 5, .ref 132, .int 5, .ref 132], hp Z P L)) rfl ?_
  refine e_ald hk_108 (a := 132) (j := 5) (n := 308) rfl rfl rfl (by decide) (by decide) ?_
  show e_r 108 33 [.ref 131, .int (nI j), .int (nI (q_L Z j)), .int (nI (q_H Z n j)), .int (q_c Z 248 j), .int (((nI (q_H Z n j)) - (nI (q_L Z j))) + 1), s_no, s_no] [.int (Z 132 5), .int 5, .ref 132] (hp Z P L) _ _
  refine e_go hk_108 4 (c := (39, [.ref 131, .int (nI j), .int (nI (q_L Z j)), .int (nI (q_H Z n j)), .int (q_c Z 248 j), .int (((nI (q_H Z n j)) - (nI (q_L Z j))) + 1), s_no, s_no], [.int (nI (q_H Z n j)), .int (nI (q_L Z j)), .int 128, .ref 131, .int (Z 132 5), .int 5, .ref 132], hp Z P L)) rfl ?_
  refine e_call hk_108 (as := [.ref 131, .int 128, .int (nI (q_L Z j)), .int (nI (q_H Z n j))]) (rest := [.int (Z 132 5), .int 5, .ref 132]) rfl rfl hk_105 rfl (Nat.le_of_ble_eq_true rfl) rfl (q_sumof (b := 128) (l := q_L Z j) (u := q_H Z n j + 1) (by decide) (by omega) (by omega) (nI_pred _).symm) ?_
  show e_r 108 42 [.ref 131, .int (nI j), .int (nI (q_L Z j)), .int (nI (q_H Z n j)), .int (q_c Z 248 j), .int (((nI (q_H Z n j)) - (nI (q_L Z j))) + 1), s_no, s_no] [.int (t_sm (q_c Z 128) (q_L Z j) (q_H Z n j + 1 - q_L Z j) 0), .int (Z 132 5), .int 5, .ref 132] (hp Z P L) _ _
  refine e_go hk_108 3 (c := (46, [.ref 131, .int (nI j), .int (nI (q_L Z j)), .int (nI (q_H Z n j)), .int (q_c Z 248 j), .int (((nI (q_H Z n j)) - (nI (q_L Z j))) + 1), s_no, s_no], [.int ((Z 132 5) + ((t_sm (q_c Z 128) (q_L Z j) (q_H Z n j + 1 - q_L Z j) 0) - (((nI (q_H Z n j)) - (nI (q_L Z j))) + 1))), .int 5, .ref 132], hp Z P L)) rfl ?_
  refine e_ast hk_108 (a := 132) (j := 5) (n := 308) rfl rfl rfl (by decide) (by decide) (by decide) ?_
  show e_r 108 47 [.ref 131, .int (nI j), .int (nI (q_L Z j)), .int (nI (q_H Z n j)), .int (q_c Z 248 j), .int (((nI (q_H Z n j)) - (nI (q_L Z j))) + 1), s_no, s_no] [] (hp (s_upd Z 132 5 ((Z 132 5) + ((t_sm (q_c Z 128) (q_L Z j) (q_H Z n j + 1 - q_L Z j) 0) - (((nI (q_H Z n j)) - (nI (q_L Z j))) + 1)))) P L) _ _
  refine e_go hk_108 4 (c := (53, [.ref 131, .int (nI j), .int (nI (q_L Z j)), .int (nI (q_H Z n j)), .int (q_c Z 248 j), .int (((nI (q_H Z n j)) - (nI (q_L Z j))) + 1), s_no, s_no], [.int 4, .ref 132, .int 4, .ref 132], hp (s_upd Z 132 5 ((Z 132 5) + ((t_sm (q_c Z 128) (q_L Z j) (q_H Z n j + 1 - q_L Z j) 0) - (((nI (q_H Z n j)) - (nI (q_L Z j))) + 1)))) P L)) rfl ?_
  refine e_ald hk_108 (a := 132) (j := 4) (n := 308) rfl rfl rfl (by decide) (by decide) ?_
  show e_r 108 54 [.ref 131, .int (nI j), .int (nI (q_L Z j)), .int (nI (q_H Z n j)), .int (q_c Z 248 j), .int (((nI (q_H Z n j)) - (nI (q_L Z j))) + 1), s_no, s_no] [.int (Z 132 4), .int 4, .ref 132] (hp (s_upd Z 132 5 ((Z 132 5) + ((t_sm (q_c Z 128) (q_L Z j) (q_H Z n j + 1 - q_L Z j) 0) - (((nI (q_H Z n j)) - (nI (q_L Z j))) + 1)))) P L) _ _
  refine e_go hk_108 2 (c := (57, [.ref 131, .int (nI j), .int (nI (q_L Z j)), .int (nI (q_H Z n j)), .int (q_c Z 248 j), .int (((nI (q_H Z n j)) - (nI (q_L Z j))) + 1), s_no, s_no], [.int ((Z 132 4) + (((nI (q_H Z n j)) - (nI (q_L Z j))) + 1)), .int 4, .ref 132], hp (s_upd Z 132 5 ((Z 132 5) + ((t_sm (q_c Z 128) (q_L Z j) (q_H Z n j + 1 - q_L Z j) 0) - (((nI (q_H Z n j)) - (nI (q_L Z j))) + 1)))) P L)) rfl ?_
  refine e_ast hk_108 (a := 132) (j := 4) (n := 308) rfl rfl rfl (by decide) (by decide) (by decide) ?_
  show e_r 108 58 [.ref 131, .int (nI j), .int (nI (q_L Z j)), .int (nI (q_H Z n j)), .int (q_c Z 248 j), .int (((nI (q_H Z n j)) - (nI (q_L Z j))) + 1), s_no, s_no] [] (hp (s_upd (s_upd Z 132 5 ((Z 132 5) + ((t_sm (q_c Z 128) (q_L Z j) (q_H Z n j + 1 - q_L Z j) 0) - (((nI (q_H Z n j)) - (nI (q_L Z j))) + 1)))) 132 4 ((Z 132 4) + (((nI (q_H Z n j)) - (nI (q_L Z j))) + 1))) P L) _ _
  refine e_go hk_108 4 (c := (65, [.ref 131, .int (nI j), .int (nI (q_L Z j)), .int (nI (q_H Z n j)), .int (q_c Z 248 j), .int (((nI (q_H Z n j)) - (nI (q_L Z j))) + 1), s_no, s_no], [.int 6, .ref 132, .int 6, .ref 132], hp (s_upd (s_upd Z 132 5 ((Z 132 5) + ((t_sm (q_c Z 128) (q_L Z j) (q_H Z n j + 1 - q_L Z j) 0) - (((nI (q_H Z n j)) - (nI (q_L Z j))) + 1)))) 132 4 ((Z 132 4) + (((nI (q_H Z n j)) - (nI (q_L Z j))) + 1))) P L)) rfl ?_
  refine e_ald hk_108 (a := 132) (j := 6) (n := 308) rfl rfl rfl (by decide) (by decide) ?_
  show e_r 108 66 [.ref 131, .int (nI j), .int (nI (q_L Z j)), .int (nI (q_H Z n j)), .int (q_c Z 248 j), .int (((nI (q_H Z n j)) - (nI (q_L Z j))) + 1), s_no, s_no] [.int (Z 132 6), .int 6, .ref 132] (hp (s_upd (s_upd Z 132 5 ((Z 132 5) + ((t_sm (q_c Z 128) (q_L Z j) (q_H Z n j + 1 - q_L Z j) 0) - (((nI (q_H Z n j)) - (nI (q_L Z j))) + 1)))) 132 4 ((Z 132 4) + (((nI (q_H Z n j)) - (nI (q_L Z j))) + 1))) P L) _ _
  refine e_go hk_108 2 (c := (68, [.ref 131, .int (nI j), .int (nI (q_L Z j)), .int (nI (q_H Z n j)), .int (q_c Z 248 j), .int (((nI (q_H Z n j)) - (nI (q_L Z j))) + 1), s_no, s_no], [.int ((Z 132 6) + 1), .int 6, .ref 132], hp (s_upd (s_upd Z 132 5 ((Z 132 5) + ((t_sm (q_c Z 128) (q_L Z j) (q_H Z n j + 1 - q_L Z j) 0) - (((nI (q_H Z n j)) - (nI (q_L Z j))) + 1)))) 132 4 ((Z 132 4) + (((nI (q_H Z n j)) - (nI (q_L Z j))) + 1))) P L)) rfl ?_
  refine e_ast hk_108 (a := 132) (j := 6) (n := 308) rfl rfl rfl (by decide) (by decide) (by decide) ?_
  show e_r 108 69 [.ref 131, .int (nI j), .int (nI (q_L Z j)), .int (nI (q_H Z n j)), .int (q_c Z 248 j), .int (((nI (q_H Z n j)) - (nI (q_L Z j))) + 1), s_no, s_no] [] (hp (s_upd (s_upd (s_upd Z 132 5 ((Z 132 5) + ((t_sm (q_c Z 128) (q_L Z j) (q_H Z n j + 1 - q_L Z j) 0) - (((nI (q_H Z n j)) - (nI (q_L Z j))) + 1)))) 132 4 ((Z 132 4) + (((nI (q_H Z n j)) - (nI (q_L Z j))) + 1))) 132 6 ((Z 132 6) + 1)) P L) _ _
  show e_r 108 69 [.ref 131, .int (nI j), .int (nI (q_L Z j)), .int (nI (q_H Z n j)), .int (q_c Z 248 j), .int (q_w Z n j), s_no, s_no] [] (hp (q_s4 Z (t_sm (q_c Z 128) (q_L Z j) (q_H Z n j + 1 - q_L Z j) 0) (q_w Z n j)) P L) _ _
  refine e_go hk_108 7 (c := (83, [.ref 131, .int (nI j), .int (nI (q_L Z j)), .int (nI (q_H Z n j)), .int (q_c Z 248 j), .int (q_w Z n j), s_no, s_no], [.int 7, .ref 132, .int (q_w Z n j), .int 7, .ref 132], hp ((q_s4 Z (t_sm (q_c Z 128) (q_L Z j) (q_H Z n j + 1 - q_L Z j) 0) (q_w Z n j))) P L)) rfl ?_
  refine e_ald hk_108 (a := 132) (j := 7) (n := 308) rfl rfl rfl (by decide) (by decide) ?_
  show e_r 108 84 [.ref 131, .int (nI j), .int (nI (q_L Z j)), .int (nI (q_H Z n j)), .int (q_c Z 248 j), .int (q_w Z n j), s_no, s_no] [.int (((q_s4 Z (t_sm (q_c Z 128) (q_L Z j) (q_H Z n j + 1 - q_L Z j) 0) (q_w Z n j))) 132 7), .int (q_w Z n j), .int 7, .ref 132] (hp ((q_s4 Z (t_sm (q_c Z 128) (q_L Z j) (q_H Z n j + 1 - q_L Z j) 0) (q_w Z n j))) P L) _ _
  refine e_go hk_108 1 (c := (if s_cnd .le (q_w Z n j) (((q_s4 Z (t_sm (q_c Z 128) (q_L Z j) (q_H Z n j + 1 - q_L Z j) 0) (q_w Z n j))) 132 7) = true then 92 else 87, [.ref 131, .int (nI j), .int (nI (q_L Z j)), .int (nI (q_H Z n j)), .int (q_c Z 248 j), .int (q_w Z n j), s_no, s_no], [.int 7, .ref 132], hp ((q_s4 Z (t_sm (q_c Z 128) (q_L Z j) (q_H Z n j + 1 - q_L Z j) 0) (q_w Z n j))) P L)) rfl ?_
  refine e_le (a := 92) (b := 87) (x := q_w Z n j) (y := ((q_s4 Z (t_sm (q_c Z 128) (q_L Z j) (q_H Z n j + 1 - q_L Z j) 0) (q_w Z n j))) 132 7) (fun hc84 => ?_) (fun hc84 => ?_)
  · skip
    refine e_go hk_108 3 (c := (98, [.ref 131, .int (nI j), .int (nI (q_L Z j)), .int (nI (q_H Z n j)), .int (q_c Z 248 j), .int (q_w Z n j), s_no, s_no], [.int 7, .ref 132, .int 7, .ref 132], hp ((q_s4 Z (t_sm (q_c Z 128) (q_L Z j) (q_H Z n j + 1 - q_L Z j) 0) (q_w Z n j))) P L)) rfl ?_
    refine e_ald hk_108 (a := 132) (j := 7) (n := 308) rfl rfl rfl (by decide) (by decide) ?_
    show e_r 108 99 [.ref 131, .int (nI j), .int (nI (q_L Z j)), .int (nI (q_H Z n j)), .int (q_c Z 248 j), .int (q_w Z n j), s_no, s_no] [.int (((q_s4 Z (t_sm (q_c Z 128) (q_L Z j) (q_H Z n j + 1 - q_L Z j) 0) (q_w Z n j))) 132 7), .int 7, .ref 132] (hp ((q_s4 Z (t_sm (q_c Z 128) (q_L Z j) (q_H Z n j + 1 - q_L Z j) 0) (q_w Z n j))) P L) _ _
    rw [show (q_s4 Z (t_sm (q_c Z 128) (q_L Z j) (q_H Z n j + 1 - q_L Z j) 0) (q_w Z n j)) 132 7 = y_mx (Z 132 7) (q_w Z n j) from by rw [q_s4_7 (Z := Z) (pd := t_sm (q_c Z 128) (q_L Z j) (q_H Z n j + 1 - q_L Z j) 0) (w := q_w Z n j)] at hc84 ⊢; exact y_mxl2 hc84]
    refine e_ast hk_108 (a := 132) (j := 7) (n := 308) rfl rfl rfl (by decide) (by decide) (by decide) ?_
    show e_r 108 100 [.ref 131, .int (nI j), .int (nI (q_L Z j)), .int (nI (q_H Z n j)), .int (q_c Z 248 j), .int (q_w Z n j), s_no, s_no] [] (hp (s_upd ((q_s4 Z (t_sm (q_c Z 128) (q_L Z j) (q_H Z n j + 1 - q_L Z j) 0) (q_w Z n j))) 132 7 (y_mx (Z 132 7) (q_w Z n j))) P L) _ _
    refine e_go hk_108 4 (c := (106, [.ref 131, .int (nI j), .int (nI (q_L Z j)), .int (nI (q_H Z n j)), .int (q_c Z 248 j), .int (q_w Z n j), .int (nI (q_H Z n j)), .int (nI (q_H Z n j))], [], hp (s_upd ((q_s4 Z (t_sm (q_c Z 128) (q_L Z j) (q_H Z n j + 1 - q_L Z j) 0) (q_w Z n j))) 132 7 (y_mx (Z 132 7) (q_w Z n j))) P L)) rfl ?_
    have := q_reb_l (P := P) (L := L) (lo := q_L Z j) (nd := nI j) (to := nI (q_H Z n j)) (lv := q_c Z 248 j) (wt := q_w Z n j) (by omega) (q_H Z n j + 1 - q_L Z j) n (q_H Z n j + 1) (q_sp Z (t_sm (q_c Z 128) (q_L Z j) (q_H Z n j + 1 - q_L Z j) 0) (q_w Z n j)) (by rw [q_sp_3]; exact hN) hn (by omega) (by omega) (by omega)
    rw [show q_L Z j + (q_H Z n j + 1 - q_L Z j) = q_H Z n j + 1 by omega, nI_pred] at this
    exact this
  · skip
    refine e_go hk_108 2 (c := (99, [.ref 131, .int (nI j), .int (nI (q_L Z j)), .int (nI (q_H Z n j)), .int (q_c Z 248 j), .int (q_w Z n j), s_no, s_no], [.int (q_w Z n j), .int 7, .ref 132], hp ((q_s4 Z (t_sm (q_c Z 128) (q_L Z j) (q_H Z n j + 1 - q_L Z j) 0) (q_w Z n j))) P L)) rfl ?_
    rw [show e_r 108 99 _ [.int (q_w Z n j), .int 7, .ref 132] _ _ _ = e_r 108 99 [.ref 131, .int (nI j), .int (nI (q_L Z j)), .int (nI (q_H Z n j)), .int (q_c Z 248 j), .int (q_w Z n j), s_no, s_no] [.int (y_mx (Z 132 7) (q_w Z n j)), .int 7, .ref 132] (hp ((q_s4 Z (t_sm (q_c Z 128) (q_L Z j) (q_H Z n j + 1 - q_L Z j) 0) (q_w Z n j))) P L) _ _ from by rw [q_s4_7 (Z := Z) (pd := t_sm (q_c Z 128) (q_L Z j) (q_H Z n j + 1 - q_L Z j) 0) (w := q_w Z n j)] at hc84; exact congrArg (fun x => e_r 108 99 _ [.int x, .int 7, .ref 132] _ _ _) (y_mxg2 hc84)]
    refine e_ast hk_108 (a := 132) (j := 7) (n := 308) rfl rfl rfl (by decide) (by decide) (by decide) ?_
    show e_r 108 100 [.ref 131, .int (nI j), .int (nI (q_L Z j)), .int (nI (q_H Z n j)), .int (q_c Z 248 j), .int (q_w Z n j), s_no, s_no] [] (hp (s_upd ((q_s4 Z (t_sm (q_c Z 128) (q_L Z j) (q_H Z n j + 1 - q_L Z j) 0) (q_w Z n j))) 132 7 (y_mx (Z 132 7) (q_w Z n j))) P L) _ _
    refine e_go hk_108 4 (c := (106, [.ref 131, .int (nI j), .int (nI (q_L Z j)), .int (nI (q_H Z n j)), .int (q_c Z 248 j), .int (q_w Z n j), .int (nI (q_H Z n j)), .int (nI (q_H Z n j))], [], hp (s_upd ((q_s4 Z (t_sm (q_c Z 128) (q_L Z j) (q_H Z n j + 1 - q_L Z j) 0) (q_w Z n j))) 132 7 (y_mx (Z 132 7) (q_w Z n j))) P L)) rfl ?_
    have := q_reb_l (P := P) (L := L) (lo := q_L Z j) (nd := nI j) (to := nI (q_H Z n j)) (lv := q_c Z 248 j) (wt := q_w Z n j) (by omega) (q_H Z n j + 1 - q_L Z j) n (q_H Z n j + 1) (q_sp Z (t_sm (q_c Z 128) (q_L Z j) (q_H Z n j + 1 - q_L Z j) 0) (q_w Z n j)) (by rw [q_sp_3]; exact hN) hn (by omega) (by omega) (by omega)
    rw [show q_L Z j + (q_H Z n j + 1 - q_L Z j) = q_H Z n j + 1 by omega, nI_pred] at this
    exact this
def q_p1 (Z : Nat → Nat → Int32) (n nd i : Nat) : Nat → Nat → Int32 := s_upd Z 132 (128 + i) (Z 132 (128 + i) + (if q_u Z n nd i = true then Z 132 2 else 0))
def q_pl (n nd : Nat) : Nat → Nat → (Nat → Nat → Int32) → Nat → Nat → Int32
  | _, 0, Z => Z
  | i, k + 1, Z => q_pl n nd (i + 1) k (q_p1 Z n nd i)
def q_py (Z : Nat → Nat → Int32) (n nd : Nat) : Nat → Nat → Int32 := q_pl n nd 0 n Z
theorem q_pays_l {P : Nat → Nat} {L n : Nat} (hn : n ≤ 60) {nd : Nat} (hnd : nd < n) : ∀ (k i : Nat) (Z : Nat → Nat → Int32), Z 132 3 = nI n → i + k = n → e_r 109 2 [.ref 131, .int (nI nd), .int (nI i)] [] (hp Z P L) none (hp (q_pl n nd i k Z) P L)
  | 0, i, Z, hN, hi => by
    refine e_go hk_109 4 (c := (8, [.ref 131, .int (nI nd), .int (nI i)], [.int 3, .ref 132, .int (nI i)], hp Z P L)) rfl ?_
    refine e_ald hk_109 (a := 132) (j := 3) (n := 308) rfl rfl rfl (by decide) (by decide) ?_
    show e_r 109 9 [.ref 131, .int (nI nd), .int (nI i)] [.int (Z 132 3), .int (nI i)] (hp Z P L) _ _
    refine e_go hk_109 1 (c := (if s_cnd .ge (nI i) (Z 132 3) = true then 50 else 12, [.ref 131, .int (nI nd), .int (nI i)], [], hp Z P L)) rfl ?_
    refine e_ge (a := 50) (b := 12) (x := nI i) (y := Z 132 3) (fun hc9 => ?_) (fun hc9 => absurd (by rw [hN]; exact (y_le (by omega) (by omega)).mpr (by omega)) hc9)
    exact e_ret hk_109 rfl rfl rfl rfl rfl
  | k + 1, i, Z, hN, hi => by
    refine e_go hk_109 4 (c := (8, [.ref 131, .int (nI nd), .int (nI i)], [.int 3, .ref 132, .int (nI i)], hp Z P L)) rfl ?_
    refine e_ald hk_109 (a := 132) (j := 3) (n := 308) rfl rfl rfl (by decide) (by decide) ?_
    show e_r 109 9 [.ref 131, .int (nI nd), .int (nI i)] [.int (Z 132 3), .int (nI i)] (hp Z P L) _ _
    refine e_go hk_109 1 (c := (if s_cnd .ge (nI i) (Z 132 3) = true then 50 else 12, [.ref 131, .int (nI nd), .int (nI i)], [], hp Z P L)) rfl ?_
    refine e_ge (a := 50) (b := 12) (x := nI i) (y := Z 132 3) (fun hc9 => absurd hc9 (by rw [hN]; exact nI_ge (by omega) (by omega))) (fun hc9 => ?_)
    refine e_go hk_109 5 (c := (21, [.ref 131, .int (nI nd), .int (nI i)], [.int (128 + (nI i)), .ref 132], hp Z P L)) rfl ?_
    rw [show 128 + nI i = nI (128 + i) from nI_add 128 i]
    refine e_go hk_109 1 (c := (22, [.ref 131, .int (nI nd), .int (nI i)], [.int (nI (128 + i)), .ref 132, .int (nI (128 + i)), .ref 132], hp Z P L)) rfl ?_
    refine e_ald hk_109 (a := 132) (j := 128 + i) (n := 308) rfl rfl rfl (by omega) (by decide) ?_
    show e_r 109 23 [.ref 131, .int (nI nd), .int (nI i)] [.int (Z 132 (128 + i)), .int (nI (128 + i)), .ref 132] (hp Z P L) _ _
    refine e_go hk_109 3 (c := (26, [.ref 131, .int (nI nd), .int (nI i)], [.int (nI i), .int (nI nd), .ref 131, .int (Z 132 (128 + i)), .int (nI (128 + i)), .ref 132], hp Z P L)) rfl ?_
    refine e_call hk_109 (as := [.ref 131, .int (nI nd), .int (nI i)]) (rest := [.int (Z 132 (128 + i)), .int (nI (128 + i)), .ref 132]) rfl rfl hk_100 rfl (Nat.le_of_ble_eq_true rfl) rfl (q_under hN hn (i := nd) (a := i) (by omega) (by omega)) ?_
    show e_r 109 29 [.ref 131, .int (nI nd), .int (nI i)] [.int (y_b (q_u Z n nd i)), .int (Z 132 (128 + i)), .int (nI (128 + i)), .ref 132] (hp Z P L) _ _
    refine e_go hk_109 1 (c := (if s_cnd .eq (y_b (q_u Z n nd i)) 0 = true then 41 else 32, [.ref 131, .int (nI nd), .int (nI i)], [.int (Z 132 (128 + i)), .int (nI (128 + i)), .ref 132], hp Z P L)) rfl ?_
    refine e_eq (a := 41) (b := 32) (x := y_b (q_u Z n nd i)) (y := 0) (fun hc29 => ?_) (fun hc29 => ?_)
    · skip
      rw [y_b0] at hc29
      refine e_go hk_109 2 (c := (43, [.ref 131, .int (nI nd), .int (nI i)], [.int ((Z 132 (128 + i)) + 0), .int (nI (128 + i)), .ref 132], hp Z P L)) rfl ?_
      refine e_ast hk_109 (a := 132) (j := 128 + i) (n := 308) rfl rfl rfl (by decide) (by omega) (by decide) ?_
      show e_r 109 44 [.ref 131, .int (nI nd), .int (nI i)] [] (hp (s_upd Z 132 (128 + i) ((Z 132 (128 + i)) + 0)) P L) _ _
      refine e_go hk_109 2 (c := (2, [.ref 131, .int (nI nd), .int ((nI i) + 1)], [], hp (s_upd Z 132 (128 + i) ((Z 132 (128 + i)) + 0)) P L)) rfl ?_
      rw [nI_1, q_pl, q_p1, if_neg (c := q_u Z n nd i = true) (by rw [hc29]; decide)]
      exact q_pays_l hn hnd k (i + 1) _ (by rw [s_upd_c, if_neg (by omega)]; exact hN) (by omega)
    · skip
      rw [y_b1] at hc29
      refine e_go hk_109 3 (c := (37, [.ref 131, .int (nI nd), .int (nI i)], [.int 2, .ref 132, .int (Z 132 (128 + i)), .int (nI (128 + i)), .ref 132], hp Z P L)) rfl ?_
      refine e_ald hk_109 (a := 132) (j := 2) (n := 308) rfl rfl rfl (by decide) (by decide) ?_
      show e_r 109 38 [.ref 131, .int (nI nd), .int (nI i)] [.int (Z 132 2), .int (Z 132 (128 + i)), .int (nI (128 + i)), .ref 132] (hp Z P L) _ _
      refine e_go hk_109 2 (c := (43, [.ref 131, .int (nI nd), .int (nI i)], [.int ((Z 132 (128 + i)) + (Z 132 2)), .int (nI (128 + i)), .ref 132], hp Z P L)) rfl ?_
      refine e_ast hk_109 (a := 132) (j := 128 + i) (n := 308) rfl rfl rfl (by decide) (by omega) (by decide) ?_
      show e_r 109 44 [.ref 131, .int (nI nd), .int (nI i)] [] (hp (s_upd Z 132 (128 + i) ((Z 132 (128 + i)) + (Z 132 2))) P L) _ _
      refine e_go hk_109 2 (c := (2, [.ref 131, .int (nI nd), .int ((nI i) + 1)], [], hp (s_upd Z 132 (128 + i) ((Z 132 (128 + i)) + (Z 132 2))) P L)) rfl ?_
      rw [nI_1, q_pl, q_p1, if_pos (c := q_u Z n nd i = true) hc29]
      exact q_pays_l hn hnd k (i + 1) _ (by rw [s_upd_c, if_neg (by omega)]; exact hN) (by omega)
theorem q_pays {Z : Nat → Nat → Int32} {P : Nat → Nat} {L n : Nat} (hN : Z 132 3 = nI n) (hn : n ≤ 60) {nd : Nat} (hnd : nd < n) : m_r 109 [.ref 131, .int (nI nd)] (hp Z P L) none (hp (q_py Z n nd) P L) := by
  refine m_of (ls := [.ref 131, .int (nI nd), s_no]) hk_109 rfl rfl rfl ?_
  refine e_go hk_109 2 (c := (2, [.ref 131, .int (nI nd), .int 0], [], hp Z P L)) rfl ?_
  exact q_pays_l hn hnd n 0 Z hN (by omega)
def q_c1 (Z : Nat → Nat → Int32) (p c : Nat) : Nat → Nat → Int32 := q_cy (q_cy (q_cy (q_cy (q_cy Z (8 + (p + (c + 1))) (8 + (p + c))) (68 + (p + (c + 1))) (68 + (p + c))) (128 + (p + (c + 1))) (128 + (p + c))) (188 + (p + (c + 1))) (188 + (p + c))) (248 + (p + (c + 1))) (248 + (p + c))
def q_sh (p : Nat) : Nat → (Nat → Nat → Int32) → Nat → Nat → Int32
  | 0, Z => Z
  | c + 1, Z => q_sh p c (q_c1 Z p c)
def q_cw (Z : Nat → Nat → Int32) (p : Nat) (key value dep : Int32) : Nat → Nat → Int32 := s_upd (s_upd (s_upd (s_upd (s_upd (s_upd Z 132 3 (Z 132 3 + 1)) 132 (8 + p) key) 132 (68 + p) value) 132 (128 + p) 0) 132 (188 + p) 1) 132 (248 + p) dep
def q_cm (Z : Nat → Nat → Int32) (n p : Nat) (key value : Int32) : Nat → Nat → Int32 := q_cw (q_sh p (n - p) Z) p key value (y_mx (t_bf (q_c Z 248) p) (t_bh (q_c Z 248) n p) + 1)
theorem q_ixm (b q : Nat) : nI b + nI (q + 1) - 1 = nI (b + q) := by rw [nI_add, show b + (q + 1) = b + q + 1 by omega, nI_pred]
theorem q_comes_l {Z : Nat → Nat → Int32} {P : Nat → Nat} {L n : Nat} (hN : Z 132 3 = nI n) (hn : n ≤ 60) {key value : Int32} {v : Option Value} {h2 : sHp} : ∀ (k i : Nat), i + k = n → e_r 111 31 [.ref 131, .int key, .int value, .int (nI (t_pl (q_c Z 8) key i k)), s_no, s_no, s_no] [] (hp Z P L) v h2 → e_r 111 2 [.ref 131, .int key, .int value, .int (nI i), s_no, s_no, s_no] [] (hp Z P L) v h2
  | 0, i, hi, kk => by
    refine e_go hk_111 4 (c := (8, [.ref 131, .int key, .int value, .int (nI i), s_no, s_no, s_no], [.int 3, .ref 132, .int (nI i)], hp Z P L)) rfl ?_
    refine e_ald hk_111 (a := 132) (j := 3) (n := 308) rfl rfl rfl (by decide) (by decide) ?_
    show e_r 111 9 [.ref 131, .int key, .int value, .int (nI i), s_no, s_no, s_no] [.int (Z 132 3), .int (nI i)] (hp Z P L) _ _
    refine e_go hk_111 1 (c := (if s_cnd .ge (nI i) (Z 132 3) = true then 31 else 12, [.ref 131, .int key, .int value, .int (nI i), s_no, s_no, s_no], [], hp Z P L)) rfl ?_
    refine e_ge (a := 31) (b := 12) (x := nI i) (y := Z 132 3) (fun hc9 => ?_) (fun hc9 => absurd (by rw [hN]; exact (y_le (by omega) (by omega)).mpr (by omega)) hc9)
    exact kk
  | k + 1, i, hi, kk => by
    refine e_go hk_111 4 (c := (8, [.ref 131, .int key, .int value, .int (nI i), s_no, s_no, s_no], [.int 3, .ref 132, .int (nI i)], hp Z P L)) rfl ?_
    refine e_ald hk_111 (a := 132) (j := 3) (n := 308) rfl rfl rfl (by decide) (by decide) ?_
    show e_r 111 9 [.ref 131, .int key, .int value, .int (nI i), s_no, s_no, s_no] [.int (Z 132 3), .int (nI i)] (hp Z P L) _ _
    refine e_go hk_111 1 (c := (if s_cnd .ge (nI i) (Z 132 3) = true then 31 else 12, [.ref 131, .int key, .int value, .int (nI i), s_no, s_no, s_no], [], hp Z P L)) rfl ?_
    refine e_ge (a := 31) (b := 12) (x := nI i) (y := Z 132 3) (fun hc9 => absurd hc9 (by rw [hN]; exact nI_ge (by omega) (by omega))) (fun hc9 => ?_)
    refine e_go hk_111 5 (c := (20, [.ref 131, .int key, .int value, .int (nI i), s_no, s_no, s_no], [.int (8 + (nI i)), .ref 132], hp Z P L)) rfl ?_
    rw [show (8 + (nI i)) = nI (8 + i) from (nI_add 8 i)]
    refine e_ald hk_111 (a := 132) (j := 8 + i) (n := 308) rfl rfl rfl (by omega) (by decide) ?_
    show e_r 111 21 [.ref 131, .int key, .int value, .int (nI i), s_no, s_no, s_no] [.int (Z 132 (8 + i))] (hp Z P L) _ _
    refine e_go hk_111 2 (c := (if s_cnd .ge (Z 132 (8 + i)) key = true then 31 else 25, [.ref 131, .int key, .int value, .int (nI i), s_no, s_no, s_no], [], hp Z P L)) rfl ?_
    refine e_ge (a := 31) (b := 25) (x := Z 132 (8 + i)) (y := key) (fun hc22 => ?_) (fun hc22 => ?_)
    · skip
      rw [t_pl, if_neg (Int32.not_lt.mpr hc22)] at kk
      exact kk
    · skip
      rw [t_pl, if_pos (Int32.not_le.mp hc22)] at kk
      refine e_go hk_111 2 (c := (2, [.ref 131, .int key, .int value, .int ((nI i) + 1), s_no, s_no, s_no], [], hp Z P L)) rfl ?_
      rw [nI_1]
      exact q_comes_l hN hn k (i + 1) (by omega) kk
theorem q_comes_m {P : Nat → Nat} {L : Nat} {p : Nat} {key value dep : Int32} (hp0 : p < 60) : ∀ (c : Nat) (Z : Nat → Nat → Int32) (y6 : Value), p + c < 60 → e_r 111 46 [.ref 131, .int key, .int value, .int (nI p), .int dep, .int (nI (p + c)), y6] [] (hp Z P L) none (hp (q_cw (q_sh p c Z) p key value dep) P L)
  | 0, Z, y6, hc => by
    refine e_go hk_111 3 (c := (if s_cnd .le (nI (p + 0)) (nI p) = true then 98 else 52, [.ref 131, .int key, .int value, .int (nI p), .int dep, .int (nI (p + 0)), y6], [], hp Z P L)) rfl ?_
    refine e_le (a := 98) (b := 52) (x := nI (p + 0)) (y := nI p) (fun hc49 => ?_) (fun hc49 => absurd ((y_le (by omega) (by omega)).mpr (by omega)) hc49)
    refine e_go hk_111 4 (c := (104, [.ref 131, .int key, .int value, .int (nI p), .int dep, .int (nI (p + 0)), y6], [.int 3, .ref 132, .int 3, .ref 132], hp Z P L)) rfl ?_
    refine e_ald hk_111 (a := 132) (j := 3) (n := 308) rfl rfl rfl (by decide) (by decide) ?_
    show e_r 111 105 [.ref 131, .int key, .int value, .int (nI p), .int dep, .int (nI (p + 0)), y6] [.int (Z 132 3), .int 3, .ref 132] (hp Z P L) _ _
    refine e_go hk_111 2 (c := (107, [.ref 131, .int key, .int value, .int (nI p), .int dep, .int (nI (p + 0)), y6], [.int ((Z 132 3) + 1), .int 3, .ref 132], hp Z P L)) rfl ?_
    refine e_ast hk_111 (a := 132) (j := 3) (n := 308) rfl rfl rfl (by decide) (by decide) (by decide) ?_
    show e_r 111 108 [.ref 131, .int key, .int value, .int (nI p), .int dep, .int (nI (p + 0)), y6] [] (hp (s_upd Z 132 3 ((Z 132 3) + 1)) P L) _ _
    refine e_go hk_111 6 (c := (117, [.ref 131, .int key, .int value, .int (nI p), .int dep, .int (nI (p + 0)), y6], [.int key, .int (8 + (nI p)), .ref 132], hp (s_upd Z 132 3 ((Z 132 3) + 1)) P L)) rfl ?_
    rw [show (8 + (nI p)) = nI (8 + p) from (nI_add 8 p)]
    refine e_ast hk_111 (a := 132) (j := 8 + p) (n := 308) rfl rfl rfl (by decide) (by omega) (by decide) ?_
    show e_r 111 118 [.ref 131, .int key, .int value, .int (nI p), .int dep, .int (nI (p + 0)), y6] [] (hp (s_upd (s_upd Z 132 3 ((Z 132 3) + 1)) 132 (8 + p) key) P L) _ _
    refine e_go hk_111 6 (c := (127, [.ref 131, .int key, .int value, .int (nI p), .int dep, .int (nI (p + 0)), y6], [.int value, .int (68 + (nI p)), .ref 132], hp (s_upd (s_upd Z 132 3 ((Z 132 3) + 1)) 132 (8 + p) key) P L)) rfl ?_
    rw [show (68 + (nI p)) = nI (68 + p) from (nI_add 68 p)]
    refine e_ast hk_111 (a := 132) (j := 68 + p) (n := 308) rfl rfl rfl (by decide) (by omega) (by decide) ?_
    show e_r 111 128 [.ref 131, .int key, .int value, .int (nI p), .int dep, .int (nI (p + 0)), y6] [] (hp (s_upd (s_upd (s_upd Z 132 3 ((Z 132 3) + 1)) 132 (8 + p) key) 132 (68 + p) value) P L) _ _
    refine e_go hk_111 6 (c := (138, [.ref 131, .int key, .int value, .int (nI p), .int dep, .int (nI (p + 0)), y6], [.int 0, .int (128 + (nI p)), .ref 132], hp (s_upd (s_upd (s_upd Z 132 3 ((Z 132 3) + 1)) 132 (8 + p) key) 132 (68 + p) value) P L)) rfl ?_
    rw [show (128 + (nI p)) = nI (128 + p) from (nI_add 128 p)]
    refine e_ast hk_111 (a := 132) (j := 128 + p) (n := 308) rfl rfl rfl (by decide) (by omega) (by decide) ?_
    show e_r 111 139 [.ref 131, .int key, .int value, .int (nI p), .int dep, .int (nI (p + 0)), y6] [] (hp (s_upd (s_upd (s_upd (s_upd Z 132 3 ((Z 132 3) + 1)) 132 (8 + p) key) 132 (68 + p) value) 132 (128 + p) 0) P L) _ _
    refine e_go hk_111 6 (c := (149, [.ref 131, .int key, .int value, .int (nI p), .int dep, .int (nI (p + 0)), y6], [.int 1, .int (188 + (nI p)), .ref 132], hp (s_upd (s_upd (s_upd (s_upd Z 132 3 ((Z 132 3) + 1)) 132 (8 + p) key) 132 (68 + p) value) 132 (128 + p) 0) P L)) rfl ?_
    rw [show (188 + (nI p)) = nI (188 + p) from (nI_add 188 p)]
    refine e_ast hk_111 (a := 132) (j := 188 + p) (n := 308) rfl rfl rfl (by decide) (by omega) (by decide) ?_
    show e_r 111 150 [.ref 131, .int key, .int value, .int (nI p), .int dep, .int (nI (p + 0)), y6] [] (hp (s_upd (s_upd (s_upd (s_upd (s_upd Z 132 3 ((Z 132 3) + 1)) 132 (8 + p) key) 132 (68 + p) value) 132 (128 + p) 0) 132 (188 + p) 1) P L) _ _
    refine e_go hk_111 6 (c := (161, [.ref 131, .int key, .int value, .int (nI p), .int dep, .int (nI (p + 0)), y6], [.int dep, .int (248 + (nI p)), .ref 132], hp (s_upd (s_upd (s_upd (s_upd (s_upd Z 132 3 ((Z 132 3) + 1)) 132 (8 + p) key) 132 (68 + p) value) 132 (128 + p) 0) 132 (188 + p) 1) P L)) rfl ?_
    rw [show (248 + (nI p)) = nI (248 + p) from (nI_add 248 p)]
    refine e_ast hk_111 (a := 132) (j := 248 + p) (n := 308) rfl rfl rfl (by decide) (by omega) (by decide) ?_
    show e_r 111 162 [.ref 131, .int key, .int value, .int (nI p), .int dep, .int (nI (p + 0)), y6] [] (hp (s_upd (s_upd (s_upd (s_upd (s_upd (s_upd Z 132 3 ((Z 132 3) + 1)) 132 (8 + p) key) 132 (68 + p) value) 132 (128 + p) 0) 132 (188 + p) 1) 132 (248 + p) dep) P L) _ _
    exact e_ret hk_111 rfl rfl rfl rfl rfl
  | c + 1, Z, y6, hc => by
    refine e_go hk_111 3 (c := (if s_cnd .le (nI (p + (c + 1))) (nI p) = true then 98 else 52, [.ref 131, .int key, .int value, .int (nI p), .int dep, .int (nI (p + (c + 1))), y6], [], hp Z P L)) rfl ?_
    refine e_le (a := 98) (b := 52) (x := nI (p + (c + 1))) (y := nI p) (fun hc49 => absurd hc49 (nI_ge (by omega) (by omega))) (fun hc49 => ?_)
    refine e_go hk_111 5 (c := (if s_cnd .gt 8 248 = true then 92 else 64, [.ref 131, .int key, .int value, .int (nI p), .int dep, .int (nI (p + (c + 1))), .int 8], [], hp Z P L)) rfl ?_
    refine e_gt (a := 92) (b := 64) (x := 8) (y := 248) (fun hc61 => absurd hc61 (by decide)) (fun hc61 => ?_)
    refine e_go hk_111 12 (c := (84, [.ref 131, .int key, .int value, .int (nI p), .int dep, .int (nI (p + (c + 1))), .int 8], [.int ((8 + (nI (p + (c + 1)))) - 1), .ref 132, .int (8 + (nI (p + (c + 1)))), .ref 132], hp Z P L)) rfl ?_
    rw [show ((8 + (nI (p + (c + 1)))) - 1) = nI (8 + (p + c)) from (q_ixm 8 (p + c))]
    refine e_ald hk_111 (a := 132) (j := 8 + (p + c)) (n := 308) rfl rfl rfl (by omega) (by decide) ?_
    show e_r 111 85 [.ref 131, .int key, .int value, .int (nI p), .int dep, .int (nI (p + (c + 1))), .int 8] [.int (Z 132 (8 + (p + c))), .int (8 + (nI (p + (c + 1)))), .ref 132] (hp Z P L) _ _
    rw [show (8 + (nI (p + (c + 1)))) = nI (8 + (p + (c + 1))) from (nI_add 8 (p + (c + 1)))]
    refine e_ast hk_111 (a := 132) (j := 8 + (p + (c + 1))) (n := 308) rfl rfl rfl (by decide) (by omega) (by decide) ?_
    show e_r 111 86 [.ref 131, .int key, .int value, .int (nI p), .int dep, .int (nI (p + (c + 1))), .int 8] [] (hp (s_upd Z 132 (8 + (p + (c + 1))) (Z 132 (8 + (p + c)))) P L) _ _
    refine e_go hk_111 5 (c := (if s_cnd .gt 68 248 = true then 92 else 64, [.ref 131, .int key, .int value, .int (nI p), .int dep, .int (nI (p + (c + 1))), .int 68], [], hp (s_upd Z 132 (8 + (p + (c + 1))) (Z 132 (8 + (p + c)))) P L)) rfl ?_
    refine e_gt (a := 92) (b := 64) (x := 68) (y := 248) (fun hc61 => absurd hc61 (by decide)) (fun hc61 => ?_)
    refine e_go hk_111 12 (c := (84, [.ref 131, .int key, .int value, .int (nI p), .int dep, .int (nI (p + (c + 1))), .int 68], [.int ((68 + (nI (p + (c + 1)))) - 1), .ref 132, .int (68 + (nI (p + (c + 1)))), .ref 132], hp (s_upd Z 132 (8 + (p + (c + 1))) (Z 132 (8 + (p + c)))) P L)) rfl ?_
    rw [show ((68 + (nI (p + (c + 1)))) - 1) = nI (68 + (p + c)) from (q_ixm 68 (p + c))]
    refine e_ald hk_111 (a := 132) (j := 68 + (p + c)) (n := 308) rfl rfl rfl (by omega) (by decide) ?_
    show e_r 111 85 [.ref 131, .int key, .int value, .int (nI p), .int dep, .int (nI (p + (c + 1))), .int 68] [.int ((s_upd Z 132 (8 + (p + (c + 1))) (Z 132 (8 + (p + c)))) 132 (68 + (p + c))), .int (68 + (nI (p + (c + 1)))), .ref 132] (hp (s_upd Z 132 (8 + (p + (c + 1))) (Z 132 (8 + (p + c)))) P L) _ _
    rw [show (68 + (nI (p + (c + 1)))) = nI (68 + (p + (c + 1))) from (nI_add 68 (p + (c + 1)))]
    refine e_ast hk_111 (a := 132) (j := 68 + (p + (c + 1))) (n := 308) rfl rfl rfl (by decide) (by omega) (by decide) ?_
    show e_r 111 86 [.ref 131, .int key, .int value, .int (nI p), .int dep, .int (nI (p + (c + 1))), .int 68] [] (hp (s_upd (s_upd Z 132 (8 + (p + (c + 1))) (Z 132 (8 + (p + c)))) 132 (68 + (p + (c + 1))) ((s_upd Z 132 (8 + (p + (c + 1))) (Z 132 (8 + (p + c)))) 132 (68 + (p + c)))) P L) _ _
    refine e_go hk_111 5 (c := (if s_cnd .gt 128 248 = true then 92 else 64, [.ref 131, .int key, .int value, .int (nI p), .int dep, .int (nI (p + (c + 1))), .int 128], [], hp (s_upd (s_upd Z 132 (8 + (p + (c + 1))) (Z 132 (8 + (p + c)))) 132 (68 + (p + (c + 1))) ((s_upd Z 132 (8 + (p + (c + 1))) (Z 132 (8 + (p + c)))) 132 (68 + (p + c)))) P L)) rfl ?_
    refine e_gt (a := 92) (b := 64) (x := 128) (y := 248) (fun hc61 => absurd hc61 (by decide)) (fun hc61 => ?_)
    refine e_go hk_111 12 (c := (84, [.ref 131, .int key, .int value, .int (nI p), .int dep, .int (nI (p + (c + 1))), .int 128], [.int ((128 + (nI (p + (c + 1)))) - 1), .ref 132, .int (128 + (nI (p + (c + 1)))), .ref 132], hp (s_upd (s_upd Z 132 (8 + (p + (c + 1))) (Z 132 (8 + (p + c)))) 132 (68 + (p + (c + 1))) ((s_upd Z 132 (8 + (p + (c + 1))) (Z 132 (8 + (p + c)))) 132 (68 + (p + c)))) P L)) rfl ?_
    rw [show ((128 + (nI (p + (c + 1)))) - 1) = nI (128 + (p + c)) from (q_ixm 128 (p + c))]
    refine e_ald hk_111 (a := 132) (j := 128 + (p + c)) (n := 308) rfl rfl rfl (by omega) (by decide) ?_
    show e_r 111 85 [.ref 131, .int key, .int value, .int (nI p), .int dep, .int (nI (p + (c + 1))), .int 128] [.int ((s_upd (s_upd Z 132 (8 + (p + (c + 1))) (Z 132 (8 + (p + c)))) 132 (68 + (p + (c + 1))) ((s_upd Z 132 (8 + (p + (c + 1))) (Z 132 (8 + (p + c)))) 132 (68 + (p + c)))) 132 (128 + (p + c))), .int (128 + (nI (p + (c + 1)))), .ref 132] (hp (s_upd (s_upd Z 132 (8 + (p + (c + 1))) (Z 132 (8 + (p + c)))) 132 (68 + (p + (c + 1))) ((s_upd Z 132 (8 + (p + (c + 1))) (Z 132 (8 + (p + c)))) 132 (68 + (p + c)))) P L) _ _
    rw [show (128 + (nI (p + (c + 1)))) = nI (128 + (p + (c + 1))) from (nI_add 128 (p + (c + 1)))]
    refine e_ast hk_111 (a := 132) (j := 128 + (p + (c + 1))) (n := 308) rfl rfl rfl (by decide) (by omega) (by decide) ?_
    show e_r 111 86 [.ref 131, .int key, .int value, .int (nI p), .int dep, .int (nI (p + (c + 1))), .int 128] [] (hp (s_upd (s_upd (s_upd Z 132 (8 + (p + (c + 1))) (Z 132 (8 + (p + c)))) 132 (68 + (p + (c + 1))) ((s_upd Z 132 (8 + (p + (c + 1))) (Z 132 (8 + (p + c)))) 132 (68 + (p + c)))) 132 (128 + (p + (c + 1))) ((s_upd (s_upd Z 132 (8 + (p + (c + 1))) (Z 132 (8 + (p + c)))) 132 (68 + (p + (c + 1))) ((s_upd Z 132 (8 + (p + (c + 1))) (Z 132 (8 + (p + c)))) 132 (68 + (p + c)))) 132 (128 + (p + c)))) P L) _ _
    refine e_go hk_111 5 (c := (if s_cnd .gt 188 248 = true then 92 else 64, [.ref 131, .int key, .int value, .int (nI p), .int dep, .int (nI (p + (c + 1))), .int 188], [], hp (s_upd (s_upd (s_upd Z 132 (8 + (p + (c + 1))) (Z 132 (8 + (p + c)))) 132 (68 + (p + (c + 1))) ((s_upd Z 132 (8 + (p + (c + 1))) (Z 132 (8 + (p + c)))) 132 (68 + (p + c)))) 132 (128 + (p + (c + 1))) ((s_upd (s_upd Z 132 (8 + (p + (c + 1))) (Z 132 (8 + (p + c)))) 132 (68 + (p + (c + 1))) ((s_upd Z 132 (8 + (p + (c + 1))) (Z 132 (8 + (p + c)))) 132 (68 + (p + c)))) 132 (128 + (p + c)))) P L)) rfl ?_
    refine e_gt (a := 92) (b := 64) (x := 188) (y := 248) (fun hc61 => absurd hc61 (by decide)) (fun hc61 => ?_)
    refine e_go hk_111 12 (c := (84, [.ref 131, .int key, .int value, .int (nI p), .int dep, .int (nI (p + (c + 1))), .int 188], [.int ((188 + (nI (p + (c + 1)))) - 1), .ref 132, .int (188 + (nI (p + (c + 1)))), .ref 132], hp (s_upd (s_upd (s_upd Z 132 (8 + (p + (c + 1))) (Z 132 (8 + (p + c)))) 132 (68 + (p + (c + 1))) ((s_upd Z 132 (8 + (p + (c + 1))) (Z 132 (8 + (p + c)))) 132 (68 + (p + c)))) 132 (128 + (p + (c + 1))) ((s_upd (s_upd Z 132 (8 + (p + (c + 1))) (Z 132 (8 + (p + c)))) 132 (68 + (p + (c + 1))) ((s_upd Z 132 (8 + (p + (c + 1))) (Z 132 (8 + (p + c)))) 132 (68 + (p + c)))) 132 (128 + (p + c)))) P L)) rfl ?_
    rw [show ((188 + (nI (p + (c + 1)))) - 1) = nI (188 + (p + c)) from (q_ixm 188 (p + c))]
    refine e_ald hk_111 (a := 132) (j := 188 + (p + c)) (n := 308) rfl rfl rfl (by omega) (by decide) ?_
    show e_r 111 85 [.ref 131, .int key, .int value, .int (nI p), .int dep, .int (nI (p + (c + 1))), .int 188] [.int ((s_upd (s_upd (s_upd Z 132 (8 + (p + (c + 1))) (Z 132 (8 + (p + c)))) 132 (68 + (p + (c + 1))) ((s_upd Z 132 (8 + (p + (c + 1))) (Z 132 (8 + (p + c)))) 132 (68 + (p + c)))) 132 (128 + (p + (c + 1))) ((s_upd (s_upd Z 132 (8 + (p + (c + 1))) (Z 132 (8 + (p + c)))) 132 (68 + (p + (c + 1))) ((s_upd Z 132 (8 + (p + (c + 1))) (Z 132 (8 + (p + c)))) 132 (68 + (p + c)))) 132 (128 + (p + c)))) 132 (188 + (p + c))), .int (188 + (nI (p + (c + 1)))), .ref 132] (hp (s_upd (s_upd (s_upd Z 132 (8 + (p + (c + 1))) (Z 132 (8 + (p + c)))) 132 (68 + (p + (c + 1))) ((s_upd Z 132 (8 + (p + (c + 1))) (Z 132 (8 + (p + c)))) 132 (68 + (p + c)))) 132 (128 + (p + (c + 1))) ((s_upd (s_upd Z 132 (8 + (p + (c + 1))) (Z 132 (8 + (p + c)))) 132 (68 + (p + (c + 1))) ((s_upd Z 132 (8 + (p + (c + 1))) (Z 132 (8 + (p + c)))) 132 (68 + (p + c)))) 132 (128 + (p + c)))) P L) _ _
    rw [show (188 + (nI (p + (c + 1)))) = nI (188 + (p + (c + 1))) from (nI_add 188 (p + (c + 1)))]
    refine e_ast hk_111 (a := 132) (j := 188 + (p + (c + 1))) (n := 308) rfl rfl rfl (by decide) (by omega) (by decide) ?_
    show e_r 111 86 [.ref 131, .int key, .int value, .int (nI p), .int dep, .int (nI (p + (c + 1))), .int 188] [] (hp (s_upd (s_upd (s_upd (s_upd Z 132 (8 + (p + (c + 1))) (Z 132 (8 + (p + c)))) 132 (68 + (p + (c + 1))) ((s_upd Z 132 (8 + (p + (c + 1))) (Z 132 (8 + (p + c)))) 132 (68 + (p + c)))) 132 (128 + (p + (c + 1))) ((s_upd (s_upd Z 132 (8 + (p + (c + 1))) (Z 132 (8 + (p + c)))) 132 (68 + (p + (c + 1))) ((s_upd Z 132 (8 + (p + (c + 1))) (Z 132 (8 + (p + c)))) 132 (68 + (p + c)))) 132 (128 + (p + c)))) 132 (188 + (p + (c + 1))) ((s_upd (s_upd (s_upd Z 132 (8 + (p + (c + 1))) (Z 132 (8 + (p + c)))) 132 (68 + (p + (c + 1))) ((s_upd Z 132 (8 + (p + (c + 1))) (Z 132 (8 + (p + c)))) 132 (68 + (p + c)))) 132 (128 + (p + (c + 1))) ((s_upd (s_upd Z 132 (8 + (p + (c + 1))) (Z 132 (8 + (p + c)))) 132 (68 + (p + (c + 1))) ((s_upd Z 132 (8 + (p + (c + 1))) (Z 132 (8 + (p + c)))) 132 (68 + (p + c)))) 132 (128 + (p + c)))) 132 (188 + (p + c)))) P L) _ _
    refine e_go hk_111 5 (c := (if s_cnd .gt 248 248 = true then 92 else 64, [.ref 131, .int key, .int value, .int (nI p), .int dep, .int (nI (p + (c + 1))), .int 248], [], hp (s_upd (s_upd (s_upd (s_upd Z 132 (8 + (p + (c + 1))) (Z 132 (8 + (p + c)))) 132 (68 + (p + (c + 1))) ((s_upd Z 132 (8 + (p + (c + 1))) (Z 132 (8 + (p + c)))) 132 (68 + (p + c)))) 132 (128 + (p + (c + 1))) ((s_upd (s_upd Z 132 (8 + (p + (c + 1))) (Z 132 (8 + (p + c)))) 132 (68 + (p + (c + 1))) ((s_upd Z 132 (8 + (p + (c + 1))) (Z 132 (8 + (p + c)))) 132 (68 + (p + c)))) 132 (128 + (p + c)))) 132 (188 + (p + (c + 1))) ((s_upd (s_upd (s_upd Z 132 (8 + (p + (c + 1))) (Z 132 (8 + (p + c)))) 132 (68 + (p + (c + 1))) ((s_upd Z 132 (8 + (p + (c + 1))) (Z 132 (8 + (p + c)))) 132 (68 + (p + c)))) 132 (128 + (p + (c + 1))) ((s_upd (s_upd Z 132 (8 + (p + (c + 1))) (Z 132 (8 + (p + c)))) 132 (68 + (p + (c + 1))) ((s_upd Z 132 (8 + (p + (c + 1))) (Z 132 (8 + (p + c)))) 132 (68 + (p + c)))) 132 (128 + (p + c)))) 132 (188 + (p + c)))) P L)) rfl ?_
    refine e_gt (a := 92) (b := 64) (x := 248) (y := 248) (fun hc61 => absurd hc61 (by decide)) (fun hc61 => ?_)
    refine e_go hk_111 12 (c := (84, [.ref 131, .int key, .int value, .int (nI p), .int dep, .int (nI (p + (c + 1))), .int 248], [.int ((248 + (nI (p + (c + 1)))) - 1), .ref 132, .int (248 + (nI (p + (c + 1)))), .ref 132], hp (s_upd (s_upd (s_upd (s_upd Z 132 (8 + (p + (c + 1))) (Z 132 (8 + (p + c)))) 132 (68 + (p + (c + 1))) ((s_upd Z 132 (8 + (p + (c + 1))) (Z 132 (8 + (p + c)))) 132 (68 + (p + c)))) 132 (128 + (p + (c + 1))) ((s_upd (s_upd Z 132 (8 + (p + (c + 1))) (Z 132 (8 + (p + c)))) 132 (68 + (p + (c + 1))) ((s_upd Z 132 (8 + (p + (c + 1))) (Z 132 (8 + (p + c)))) 132 (68 + (p + c)))) 132 (128 + (p + c)))) 132 (188 + (p + (c + 1))) ((s_upd (s_upd (s_upd Z 132 (8 + (p + (c + 1))) (Z 132 (8 + (p + c)))) 132 (68 + (p + (c + 1))) ((s_upd Z 132 (8 + (p + (c + 1))) (Z 132 (8 + (p + c)))) 132 (68 + (p + c)))) 132 (128 + (p + (c + 1))) ((s_upd (s_upd Z 132 (8 + (p + (c + 1))) (Z 132 (8 + (p + c)))) 132 (68 + (p + (c + 1))) ((s_upd Z 132 (8 + (p + (c + 1))) (Z 132 (8 + (p + c)))) 132 (68 + (p + c)))) 132 (128 + (p + c)))) 132 (188 + (p + c)))) P L)) rfl ?_
    rw [show ((248 + (nI (p + (c + 1)))) - 1) = nI (248 + (p + c)) from (q_ixm 248 (p + c))]
    refine e_ald hk_111 (a := 132) (j := 248 + (p + c)) (n := 308) rfl rfl rfl (by omega) (by decide) ?_
    show e_r 111 85 [.ref 131, .int key, .int value, .int (nI p), .int dep, .int (nI (p + (c + 1))), .int 248] [.int ((s_upd (s_upd (s_upd (s_upd Z 132 (8 + (p + (c + 1))) (Z 132 (8 + (p + c)))) 132 (68 + (p + (c + 1))) ((s_upd Z 132 (8 + (p + (c + 1))) (Z 132 (8 + (p + c)))) 132 (68 + (p + c)))) 132 (128 + (p + (c + 1))) ((s_upd (s_upd Z 132 (8 + (p + (c + 1))) (Z 132 (8 + (p + c)))) 132 (68 + (p + (c + 1))) ((s_upd Z 132 (8 + (p + (c + 1))) (Z 132 (8 + (p + c)))) 132 (68 + (p + c)))) 132 (128 + (p + c)))) 132 (188 + (p + (c + 1))) ((s_upd (s_upd (s_upd Z 132 (8 + (p + (c + 1))) (Z 132 (8 + (p + c)))) 132 (68 + (p + (c + 1))) ((s_upd Z 132 (8 + (p + (c + 1))) (Z 132 (8 + (p + c)))) 132 (68 + (p + c)))) 132 (128 + (p + (c + 1))) ((s_upd (s_upd Z 132 (8 + (p + (c + 1))) (Z 132 (8 + (p + c)))) 132 (68 + (p + (c + 1))) ((s_upd Z 132 (8 + (p + (c + 1))) (Z 132 (8 + (p + c)))) 132 (68 + (p + c)))) 132 (128 + (p + c)))) 132 (188 + (p + c)))) 132 (248 + (p + c))), .int (248 + (nI (p + (c + 1)))), .ref 132] (hp (s_upd (s_upd (s_upd (s_upd Z 132 (8 + (p + (c + 1))) (Z 132 (8 + (p + c)))) 132 (68 + (p + (c + 1))) ((s_upd Z 132 (8 + (p + (c + 1))) (Z 132 (8 + (p + c)))) 132 (68 + (p + c)))) 132 (128 + (p + (c + 1))) ((s_upd (s_upd Z 132 (8 + (p + (c + 1))) (Z 132 (8 + (p + c)))) 132 (68 + (p + (c + 1))) ((s_upd Z 132 (8 + (p + (c + 1))) (Z 132 (8 + (p + c)))) 132 (68 + (p + c)))) 132 (128 + (p + c)))) 132 (188 + (p + (c + 1))) ((s_upd (s_upd (s_upd Z 132 (8 + (p + (c + 1))) (Z 132 (8 + (p + c)))) 132 (68 + (p + (c + 1))) ((s_upd Z 132 (8 + (p + (c + 1))) (Z 132 (8 + (p + c)))) 132 (68 + (p + c)))) 132 (128 + (p + (c + 1))) ((s_upd (s_upd Z 132 (8 + (p + (c + 1))) (Z 132 (8 + (p + c)))) 132 (68 + (p + (c + 1))) ((s_upd Z 132 (8 + (p + (c + 1))) (Z 132 (8 + (p + c)))) 132 (68 + (p + c)))) 132 (128 + (p + c)))) 132 (188 + (p + c)))) P L) _ _
    rw [show (248 + (nI (p + (c + 1)))) = nI (248 + (p + (c + 1))) from (nI_add 248 (p + (c + 1)))]
    refine e_ast hk_111 (a := 132) (j := 248 + (p + (c + 1))) (n := 308) rfl rfl rfl (by decide) (by omega) (by decide) ?_
    show e_r 111 86 [.ref 131, .int key, .int value, .int (nI p), .int dep, .int (nI (p + (c + 1))), .int 248] [] (hp (s_upd (s_upd (s_upd (s_upd (s_upd Z 132 (8 + (p + (c + 1))) (Z 132 (8 + (p + c)))) 132 (68 + (p + (c + 1))) ((s_upd Z 132 (8 + (p + (c + 1))) (Z 132 (8 + (p + c)))) 132 (68 + (p + c)))) 132 (128 + (p + (c + 1))) ((s_upd (s_upd Z 132 (8 + (p + (c + 1))) (Z 132 (8 + (p + c)))) 132 (68 + (p + (c + 1))) ((s_upd Z 132 (8 + (p + (c + 1))) (Z 132 (8 + (p + c)))) 132 (68 + (p + c)))) 132 (128 + (p + c)))) 132 (188 + (p + (c + 1))) ((s_upd (s_upd (s_upd Z 132 (8 + (p + (c + 1))) (Z 132 (8 + (p + c)))) 132 (68 + (p + (c + 1))) ((s_upd Z 132 (8 + (p + (c + 1))) (Z 132 (8 + (p + c)))) 132 (68 + (p + c)))) 132 (128 + (p + (c + 1))) ((s_upd (s_upd Z 132 (8 + (p + (c + 1))) (Z 132 (8 + (p + c)))) 132 (68 + (p + (c + 1))) ((s_upd Z 132 (8 + (p + (c + 1))) (Z 132 (8 + (p + c)))) 132 (68 + (p + c)))) 132 (128 + (p + c)))) 132 (188 + (p + c)))) 132 (248 + (p + (c + 1))) ((s_upd (s_upd (s_upd (s_upd Z 132 (8 + (p + (c + 1))) (Z 132 (8 + (p + c)))) 132 (68 + (p + (c + 1))) ((s_upd Z 132 (8 + (p + (c + 1))) (Z 132 (8 + (p + c)))) 132 (68 + (p + c)))) 132 (128 + (p + (c + 1))) ((s_upd (s_upd Z 132 (8 + (p + (c + 1))) (Z 132 (8 + (p + c)))) 132 (68 + (p + (c + 1))) ((s_upd Z 132 (8 + (p + (c + 1))) (Z 132 (8 + (p + c)))) 132 (68 + (p + c)))) 132 (128 + (p + c)))) 132 (188 + (p + (c + 1))) ((s_upd (s_upd (s_upd Z 132 (8 + (p + (c + 1))) (Z 132 (8 + (p + c)))) 132 (68 + (p + (c + 1))) ((s_upd Z 132 (8 + (p + (c + 1))) (Z 132 (8 + (p + c)))) 132 (68 + (p + c)))) 132 (128 + (p + (c + 1))) ((s_upd (s_upd Z 132 (8 + (p + (c + 1))) (Z 132 (8 + (p + c)))) 132 (68 + (p + (c + 1))) ((s_upd Z 132 (8 + (p + (c + 1))) (Z 132 (8 + (p + c)))) 132 (68 + (p + c)))) 132 (128 + (p + c)))) 132 (188 + (p + c)))) 132 (248 + (p + c)))) P L) _ _
    refine e_go hk_111 5 (c := (if s_cnd .gt 308 248 = true then 92 else 64, [.ref 131, .int key, .int value, .int (nI p), .int dep, .int (nI (p + (c + 1))), .int 308], [], hp (s_upd (s_upd (s_upd (s_upd (s_upd Z 132 (8 + (p + (c + 1))) (Z 132 (8 + (p + c)))) 132 (68 + (p + (c + 1))) ((s_upd Z 132 (8 + (p + (c + 1))) (Z 132 (8 + (p + c)))) 132 (68 + (p + c)))) 132 (128 + (p + (c + 1))) ((s_upd (s_upd Z 132 (8 + (p + (c + 1))) (Z 132 (8 + (p + c)))) 132 (68 + (p + (c + 1))) ((s_upd Z 132 (8 + (p + (c + 1))) (Z 132 (8 + (p + c)))) 132 (68 + (p + c)))) 132 (128 + (p + c)))) 132 (188 + (p + (c + 1))) ((s_upd (s_upd (s_upd Z 132 (8 + (p + (c + 1))) (Z 132 (8 + (p + c)))) 132 (68 + (p + (c + 1))) ((s_upd Z 132 (8 + (p + (c + 1))) (Z 132 (8 + (p + c)))) 132 (68 + (p + c)))) 132 (128 + (p + (c + 1))) ((s_upd (s_upd Z 132 (8 + (p + (c + 1))) (Z 132 (8 + (p + c)))) 132 (68 + (p + (c + 1))) ((s_upd Z 132 (8 + (p + (c + 1))) (Z 132 (8 + (p + c)))) 132 (68 + (p + c)))) 132 (128 + (p + c)))) 132 (188 + (p + c)))) 132 (248 + (p + (c + 1))) ((s_upd (s_upd (s_upd (s_upd Z 132 (8 + (p + (c + 1))) (Z 132 (8 + (p + c)))) 132 (68 + (p + (c + 1))) ((s_upd Z 132 (8 + (p + (c + 1))) (Z 132 (8 + (p + c)))) 132 (68 + (p + c)))) 132 (128 + (p + (c + 1))) ((s_upd (s_upd Z 132 (8 + (p + (c + 1))) (Z 132 (8 + (p + c)))) 132 (68 + (p + (c + 1))) ((s_upd Z 132 (8 + (p + (c + 1))) (Z 132 (8 + (p + c)))) 132 (68 + (p + c)))) 132 (128 + (p + c)))) 132 (188 + (p + (c + 1))) ((s_upd (s_upd (s_upd Z 132 (8 + (p + (c + 1))) (Z 132 (8 + (p + c)))) 132 (68 + (p + (c + 1))) ((s_upd Z 132 (8 + (p + (c + 1))) (Z 132 (8 + (p + c)))) 132 (68 + (p + c)))) 132 (128 + (p + (c + 1))) ((s_upd (s_upd Z 132 (8 + (p + (c + 1))) (Z 132 (8 + (p + c)))) 132 (68 + (p + (c + 1))) ((s_upd Z 132 (8 + (p + (c + 1))) (Z 132 (8 + (p + c)))) 132 (68 + (p + c)))) 132 (128 + (p + c)))) 132 (188 + (p + c)))) 132 (248 + (p + c)))) P L)) rfl ?_
    refine e_gt (a := 92) (b := 64) (x := 308) (y := 248) (fun hc61 => ?_) (fun hc61 => absurd (by decide) hc61)
    refine e_go hk_111 2 (c := (46, [.ref 131, .int key, .int value, .int (nI p), .int dep, .int ((nI (p + (c + 1))) + (-1)), .int 308], [], hp (s_upd (s_upd (s_upd (s_upd (s_upd Z 132 (8 + (p + (c + 1))) (Z 132 (8 + (p + c)))) 132 (68 + (p + (c + 1))) ((s_upd Z 132 (8 + (p + (c + 1))) (Z 132 (8 + (p + c)))) 132 (68 + (p + c)))) 132 (128 + (p + (c + 1))) ((s_upd (s_upd Z 132 (8 + (p + (c + 1))) (Z 132 (8 + (p + c)))) 132 (68 + (p + (c + 1))) ((s_upd Z 132 (8 + (p + (c + 1))) (Z 132 (8 + (p + c)))) 132 (68 + (p + c)))) 132 (128 + (p + c)))) 132 (188 + (p + (c + 1))) ((s_upd (s_upd (s_upd Z 132 (8 + (p + (c + 1))) (Z 132 (8 + (p + c)))) 132 (68 + (p + (c + 1))) ((s_upd Z 132 (8 + (p + (c + 1))) (Z 132 (8 + (p + c)))) 132 (68 + (p + c)))) 132 (128 + (p + (c + 1))) ((s_upd (s_upd Z 132 (8 + (p + (c + 1))) (Z 132 (8 + (p + c)))) 132 (68 + (p + (c + 1))) ((s_upd Z 132 (8 + (p + (c + 1))) (Z 132 (8 + (p + c)))) 132 (68 + (p + c)))) 132 (128 + (p + c)))) 132 (188 + (p + c)))) 132 (248 + (p + (c + 1))) ((s_upd (s_upd (s_upd (s_upd Z 132 (8 + (p + (c + 1))) (Z 132 (8 + (p + c)))) 132 (68 + (p + (c + 1))) ((s_upd Z 132 (8 + (p + (c + 1))) (Z 132 (8 + (p + c)))) 132 (68 + (p + c)))) 132 (128 + (p + (c + 1))) ((s_upd (s_upd Z 132 (8 + (p + (c + 1))) (Z 132 (8 + (p + c)))) 132 (68 + (p + (c + 1))) ((s_upd Z 132 (8 + (p + (c + 1))) (Z 132 (8 + (p + c)))) 132 (68 + (p + c)))) 132 (128 + (p + c)))) 132 (188 + (p + (c + 1))) ((s_upd (s_upd (s_upd Z 132 (8 + (p + (c + 1))) (Z 132 (8 + (p + c)))) 132 (68 + (p + (c + 1))) ((s_upd Z 132 (8 + (p + (c + 1))) (Z 132 (8 + (p + c)))) 132 (68 + (p + c)))) 132 (128 + (p + (c + 1))) ((s_upd (s_upd Z 132 (8 + (p + (c + 1))) (Z 132 (8 + (p + c)))) 132 (68 + (p + (c + 1))) ((s_upd Z 132 (8 + (p + (c + 1))) (Z 132 (8 + (p + c)))) 132 (68 + (p + c)))) 132 (128 + (p + c)))) 132 (188 + (p + c)))) 132 (248 + (p + c)))) P L)) rfl ?_
    rw [show nI (p + (c + 1)) + (-1) = nI (p + c) from pk_m1 (p + c), q_sh]
    exact q_comes_m hp0 c _ _ (by omega)
theorem q_comes_2 {Z : Nat → Nat → Int32} {P : Nat → Nat} {L n : Nat} (hN : Z 132 3 = nI n) (hn : n < 60) {p : Nat} (hp0 : p ≤ n) {key value : Int32} : e_r 111 31 [.ref 131, .int key, .int value, .int (nI p), s_no, s_no, s_no] [] (hp Z P L) none (hp (q_cm Z n p key value) P L) := by
  refine e_go hk_111 2 (c := (33, [.ref 131, .int key, .int value, .int (nI p), s_no, s_no, s_no], [.int (nI p), .ref 131], hp Z P L)) rfl ?_
  refine e_call hk_111 (as := [.ref 131, .int (nI p)]) (rest := []) rfl rfl hk_110 rfl (Nat.le_of_ble_eq_true rfl) rfl (q_nd hN hn (p := p) hp0) ?_
  show e_r 111 36 [.ref 131, .int key, .int value, .int (nI p), s_no, s_no, s_no] [.int (y_mx (t_bf (q_c Z 248) p) (t_bh (q_c Z 248) n p) + 1)] (hp Z P L) _ _
  refine e_go hk_111 4 (c := (43, [.ref 131, .int key, .int value, .int (nI p), .int (y_mx (t_bf (q_c Z 248) p) (t_bh (q_c Z 248) n p) + 1), s_no, s_no], [.int 3, .ref 132], hp Z P L)) rfl ?_
  refine e_ald hk_111 (a := 132) (j := 3) (n := 308) rfl rfl rfl (by decide) (by decide) ?_
  show e_r 111 44 [.ref 131, .int key, .int value, .int (nI p), .int (y_mx (t_bf (q_c Z 248) p) (t_bh (q_c Z 248) n p) + 1), s_no, s_no] [.int (Z 132 3)] (hp Z P L) _ _
  refine e_go hk_111 1 (c := (46, [.ref 131, .int key, .int value, .int (nI p), .int (y_mx (t_bf (q_c Z 248) p) (t_bh (q_c Z 248) n p) + 1), .int (Z 132 3), s_no], [], hp Z P L)) rfl ?_
  have := q_comes_m (P := P) (L := L) (p := p) (key := key) (value := value) (dep := y_mx (t_bf (q_c Z 248) p) (t_bh (q_c Z 248) n p) + 1) (by omega) (n - p) Z s_no (by omega)
  rw [show p + (n - p) = n by omega] at this
  rw [hN]
  exact this
theorem q_comes {Z : Nat → Nat → Int32} {P : Nat → Nat} {L n : Nat} (hN : Z 132 3 = nI n) (hn : n < 60) {key value : Int32} : m_r 111 [.ref 131, .int key, .int value] (hp Z P L) none (hp (q_cm Z n (t_pl (q_c Z 8) key 0 n) key value) P L) := by
  refine m_of (ls := [.ref 131, .int key, .int value, s_no, s_no, s_no, s_no]) hk_111 rfl rfl rfl ?_
  refine e_go hk_111 2 (c := (2, [.ref 131, .int key, .int value, .int 0, s_no, s_no, s_no], [], hp Z P L)) rfl ?_
  exact q_comes_l hN (by omega) n 0 (by omega) (q_comes_2 hN hn (by have := (t_pl_le (q_c Z 8) key n 0).2; omega))
