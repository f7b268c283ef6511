/-! Tree: hollowOut; become; printed by wip/whole/gen/tree6.py -/
def t_h2 (Z : Nat → Nat → Int32) (n : Nat) : Int32 × (Nat → Nat → Int32) := if Z 7 1 * nI n < 100 * (nI n - t_sm (Z 17) 0 n 0) then (t_wt Z n (t_tp (Z 15) 0 0 (n - 1 - 0)), t_la Z n (t_tp (Z 15) 0 0 (n - 1 - 0))) else (0, Z)
def t_hl (Z : Nat → Nat → Int32) (n : Nat) (key : Int32) : Int32 × (Nat → Nat → Int32) := match t_fn (Z 9) (Z 17) n key with
  | none => (-1, Z)
  | some j => t_h2 (t_py j 60 0 0 n (s_upd Z 17 j 0)) n
theorem x_hl_2 {Z : Nat → Nat → Int32} {P : Nat → Nat} {L n : Nat} (hN : Z 5 6 = nI n) (hn : n ≤ 60) (hF : ∀ i, i < n → Z 17 i = 0 ∨ Z 17 i = 1) (h0 : 0 < n) {j : Nat} {key : Int32} : e_r 47 28 [.ref 5, .int key, .int (nI j), s_no] [] (hp Z P L) (some (.int (t_h2 Z n).1)) (hp (t_h2 Z n).2 P L) := by
  refine e_go hk_47 3 (c := (33, [.ref 5, .int key, .int (nI j), s_no], [.ref 5, .int (Z 5 6)], hp Z P L)) rfl ?_
  refine e_call hk_47 (as := [.ref 5]) (rest := [.int (Z 5 6)]) rfl rfl hk_34 rfl (Nat.le_of_ble_eq_true rfl) rfl (x_all hN hn) ?_
  show e_r 47 36 [.ref 5, .int key, .int (nI j), s_no] [.int (t_sm (Z 17) 0 n 0), .int (Z 5 6)] (hp Z P L) _ _
  refine e_go hk_47 8 (c := (47, [.ref 5, .int key, .int (nI j), .int ((Z 5 6) - (t_sm (Z 17) 0 n 0))], [.int 1, .ref 6, .int (100 * ((Z 5 6) - (t_sm (Z 17) 0 n 0)))], hp Z P L)) rfl ?_
  refine e_call hk_47 (as := [.ref 6, .int (nI 1)]) (rest := [.int (100 * ((Z 5 6) - (t_sm (Z 17) 0 n 0)))]) rfl rfl hk_22 rfl (Nat.le_of_ble_eq_true rfl) rfl (x_at (r := 6) (a := 7) (n := 3) rfl rfl rfl (by decide) (j := 1) (by decide)) ?_
  show e_r 47 50 [.ref 5, .int key, .int (nI j), .int ((Z 5 6) - (t_sm (Z 17) 0 n 0))] [.int (Z 7 1), .int (100 * ((Z 5 6) - (t_sm (Z 17) 0 n 0)))] (hp Z P L) _ _
  refine e_go hk_47 4 (c := (if s_cnd .le (100 * ((Z 5 6) - (t_sm (Z 17) 0 n 0))) ((Z 7 1) * (Z 5 6)) = true then 77 else 58, [.ref 5, .int key, .int (nI j), .int ((Z 5 6) - (t_sm (Z 17) 0 n 0))], [], hp Z P L)) rfl ?_
  refine e_le (a := 77) (b := 58) (x := 100 * ((Z 5 6) - (t_sm (Z 17) 0 n 0))) (y := (Z 7 1) * (Z 5 6)) (fun hc55 => ?_) (fun hc55 => ?_)
  · skip
    rw [hN] at hc55
    refine e_go hk_47 1 (c := (78, [.ref 5, .int key, .int (nI j), .int ((Z 5 6) - (t_sm (Z 17) 0 n 0))], [.int 0], hp Z P L)) rfl ?_
    exact e_ret hk_47 rfl rfl rfl (by rw [t_h2, if_neg (Int32.not_lt.mpr hc55)]) (by rw [t_h2, if_neg (Int32.not_lt.mpr hc55)])
  · skip
    rw [hN] at hc55
    refine e_go hk_47 8 (c := (68, [.ref 5, .int key, .int (nI j), .int ((Z 5 6) - (t_sm (Z 17) 0 n 0))], [.int 0, .int ((Z 5 6) - 1), .int 0, .ref 5, .ref 5], hp Z P L)) rfl ?_
    rw [hN, y_m1s h0]
    refine e_call hk_47 (as := [.ref 5, .int (nI 0), .int (nI (n - 1)), .int 0]) (rest := [.ref 5]) rfl rfl hk_39 rfl (Nat.le_of_ble_eq_true rfl) rfl (x_top (l := 0) (u := n - 1) (by omega) (by omega)) ?_
    show e_r 47 71 [.ref 5, .int key, .int (nI j), .int (nI n - (t_sm (Z 17) 0 n 0))] [.int (nI (t_tp (Z 15) 0 0 (n - 1 - 0))), .ref 5] (hp Z P L) _ _
    have htp := t_tp_le (Z 15) 0 (n - 1 - 0) 0
    refine e_call hk_47 (as := [.ref 5, .int (nI (t_tp (Z 15) 0 0 (n - 1 - 0)))]) (rest := []) rfl rfl hk_52 rfl (Nat.le_of_ble_eq_true rfl) rfl (x_lay (Z := Z) hN hn hF (j := t_tp (Z 15) 0 0 (n - 1 - 0)) (by omega)) ?_
    show e_r 47 74 [.ref 5, .int key, .int (nI j), .int (nI n - (t_sm (Z 17) 0 n 0))] [.int (t_wt Z n (t_tp (Z 15) 0 0 (n - 1 - 0)))] (hp ((t_la Z n (t_tp (Z 15) 0 0 (n - 1 - 0)))) P L) _ _
    refine e_go hk_47 1 (c := (78, [.ref 5, .int key, .int (nI j), .int (nI n - (t_sm (Z 17) 0 n 0))], [.int (t_wt Z n (t_tp (Z 15) 0 0 (n - 1 - 0)))], hp ((t_la Z n (t_tp (Z 15) 0 0 (n - 1 - 0)))) P L)) rfl ?_
    exact e_ret hk_47 rfl rfl rfl (by rw [t_h2, if_pos (Int32.not_le.mp hc55)]) (by rw [t_h2, if_pos (Int32.not_le.mp hc55)])
theorem x_hl_none {Z : Nat → Nat → Int32} {P : Nat → Nat} {L n : Nat} (hN : Z 5 6 = nI n) (hn : n ≤ 60) (hF : ∀ i, i < n → Z 17 i = 0 ∨ Z 17 i = 1) {key : Int32} (hq : t_fn (Z 9) (Z 17) n key = none) : m_r 47 [.ref 5, .int key] (hp Z P L) (some (.int (t_hl Z n key).1)) (hp (t_hl Z n key).2 P L) := by
  refine m_of (ls := [.ref 5, .int key, s_no, s_no]) hk_47 rfl rfl rfl ?_
  refine e_go hk_47 2 (c := (2, [.ref 5, .int key, s_no, s_no], [.int key, .ref 5], hp Z P L)) rfl ?_
  refine e_call hk_47 (as := [.ref 5, .int key]) (rest := []) rfl rfl hk_32 rfl (Nat.le_of_ble_eq_true rfl) rfl (show m_r 32 [.ref 5, .int key] (hp Z P L) (some (.int (-6))) (hp Z P L) from (by have := x_fnode (P := P) (L := L) (key := key) hN hn; rw [hq] at this; exact this)) ?_
  show e_r 47 5 [.ref 5, .int key, s_no, s_no] [.int ((-6))] (hp Z P L) _ _
  refine e_go hk_47 4 (c := (if s_cnd .ne ((-6)) ((-6)) = true then 14 else 12, [.ref 5, .int key, .int ((-6)), s_no], [], hp Z P L)) rfl ?_
  refine e_ne (a := 14) (b := 12) (x := (-6)) (y := (-6)) (fun hc9 => absurd (rfl) hc9) (fun hc9 => ?_)
  refine e_go hk_47 1 (c := (13, [.ref 5, .int key, .int ((-6)), s_no], [.int ((-1))], hp Z P L)) rfl ?_
  exact e_ret hk_47 rfl rfl rfl (by rw [t_hl, hq]) (by rw [t_hl, hq])
theorem x_hl_some {Z : Nat → Nat → Int32} {P : Nat → Nat} {L n : Nat} (hN : Z 5 6 = nI n) (hn : n ≤ 60) (hF : ∀ i, i < n → Z 17 i = 0 ∨ Z 17 i = 1) {key : Int32} {j : Nat} (hq : t_fn (Z 9) (Z 17) n key = some j) : m_r 47 [.ref 5, .int key] (hp Z P L) (some (.int (t_hl Z n key).1)) (hp (t_hl Z n key).2 P L) := by
  have hjn := (t_fn_lt hq).1
  refine m_of (ls := [.ref 5, .int key, s_no, s_no]) hk_47 rfl rfl rfl ?_
  refine e_go hk_47 2 (c := (2, [.ref 5, .int key, s_no, s_no], [.int key, .ref 5], hp Z P L)) rfl ?_
  refine e_call hk_47 (as := [.ref 5, .int key]) (rest := []) rfl rfl hk_32 rfl (Nat.le_of_ble_eq_true rfl) rfl (show m_r 32 [.ref 5, .int key] (hp Z P L) (some (.int (nI j))) (hp Z P L) from (by have := x_fnode (P := P) (L := L) (key := key) hN hn; rw [hq] at this; exact this)) ?_
  show e_r 47 5 [.ref 5, .int key, s_no, s_no] [.int (nI j)] (hp Z P L) _ _
  refine e_go hk_47 4 (c := (if s_cnd .ne (nI j) ((-6)) = true then 14 else 12, [.ref 5, .int key, .int (nI j), s_no], [], hp Z P L)) rfl ?_
  refine e_ne (a := 14) (b := 12) (x := nI j) (y := (-6)) (fun hc9 => ?_) (fun hc9 => absurd hc9 (fun z => absurd ((y_o_none (q := some j) (fun i hi => by cases hi; omega)).mp z) (by simp)))
  refine e_go hk_47 4 (c := (20, [.ref 5, .int key, .int (nI j), s_no], [.int 0, .int (nI j), .ref 16], hp Z P L)) rfl ?_
  refine e_call hk_47 (as := [.ref 16, .int (nI j), .int 0]) (rest := []) rfl rfl hk_23 rfl (Nat.le_of_ble_eq_true rfl) rfl (x_write (r := 16) (a := 17) (n := 60) rfl rfl rfl (by decide) (by decide) (j := j) (by omega)) ?_
  show e_r 47 23 [.ref 5, .int key, .int (nI j), s_no] [] (hp (s_upd Z 17 j 0) P L) _ _
  refine e_go hk_47 2 (c := (25, [.ref 5, .int key, .int (nI j), s_no], [.int (nI j), .ref 5], hp (s_upd Z 17 j 0) P L)) rfl ?_
  refine e_call hk_47 (as := [.ref 5, .int (nI j)]) (rest := []) rfl rfl hk_49 rfl (Nat.le_of_ble_eq_true rfl) rfl (x_pay (Z := s_upd Z 17 j 0) (n := n) hN hn (p := j) (by omega)) ?_
  show e_r 47 28 [.ref 5, .int key, .int (nI j), s_no] [] (hp ((t_py j 60 0 0 n (s_upd Z 17 j 0))) P L) _ _
  rw [t_hl, hq]
  refine x_hl_2 (Z := t_py j 60 0 0 n (s_upd Z 17 j 0)) ?_ hn ?_ (by omega)
  · rw [t_py_o (by decide)]; exact hN
  · intro i hi
    rw [t_py_o (by decide), s_upd_c]
    split
    · exact Or.inl rfl
    · exact hF i hi
theorem x_hollow {Z : Nat → Nat → Int32} {P : Nat → Nat} {L n : Nat} (hN : Z 5 6 = nI n) (hn : n ≤ 60) (hF : ∀ i, i < n → Z 17 i = 0 ∨ Z 17 i = 1) {key : Int32} : m_r 47 [.ref 5, .int key] (hp Z P L) (some (.int (t_hl Z n key).1)) (hp (t_hl Z n key).2 P L) := by
  cases hq : t_fn (Z 9) (Z 17) n key with
  | none => exact x_hl_none hN hn hF hq
  | some j => exact x_hl_some hN hn hF hq
def t_cp (Z : Nat → Nat → Int32) (a b n : Nat) : Nat → Nat → Int32 := fun i => if i = b then va_cpy (Z a) (Z b) 0 0 n else Z i
theorem e_acpy {k pc : Nat} {r : sM} {cn : Option Nat} {ls rest : List Value} {h h2 : sHp} {v : Option Value} (hk : s_T k = some (r, cn)) {e : sE} {a b n : Nat} (hat : s_at (s_cd r) pc = some e) (hi : e.2.1 = .monitorexit) (hsa : s_nth h.2.2 a = some (1, n)) (hsb : s_nth h.2.2 b = some (1, n)) (ha : 4 ≤ a) (hb : 4 ≤ b) (hn : n < 2 ^ 31) (hcat : s_cat rest ≤ 8) (kk : e_r k (pc + e.2.2.1) ls rest (t_cp h.1 a b n, h.2) v h2) : e_r k pc ls (.int (nI n) :: .int 0 :: .ref b :: .int 0 :: .ref a :: rest) h v h2 := by
  refine e_step (c := (pc + e.2.2.1, ls, rest, (t_cp h.1 a b n, h.2))) hk hat (by rw [hi]; rfl) (by rw [hi]; rfl) ?_ kk
  rw [hi]
  dsimp only [s_x]
  rw [hsa, hsb]
  have hz : (0 : Int32).toNatClampNeg = 0 := rfl
  show (if 8 < s_cat rest ∨ (0 : Int32) < 0 ∨ (0 : Int32) < 0 ∨ nI n < 0 ∨ n < (0 : Int32).toNatClampNeg + (nI n).toNatClampNeg ∨ n < (0 : Int32).toNatClampNeg + (nI n).toNatClampNeg ∨ a < 4 ∨ b < 4 then none else some (pc + e.2.2.1, ls, rest, ((fun i => if i = b then va_cpy (h.1 a) (h.1 b) (0 : Int32).toNatClampNeg (0 : Int32).toNatClampNeg (nI n).toNatClampNeg else h.1 i : Nat → Nat → Int32), h.2))) = _
  rw [hz, nI_clamp hn, if_neg]
  · rfl
  · simp only [not_or, Nat.zero_add, Nat.lt_irrefl, Nat.not_lt, not_false_eq_true, true_and]
    exact ⟨hcat, by decide, by decide, nI_pos hn, ha, hb⟩
theorem x_rbec {r r2 a b n : Nat} {h : sHp} (h1 : s_nth h.2.2 r = some (0, 3)) (h2 : h.2.1 r 0 = some b) (h3 : s_nth h.2.2 b = some (1, n)) (g1 : s_nth h.2.2 r2 = some (0, 3)) (g2 : h.2.1 r2 0 = some a) (g3 : s_nth h.2.2 a = some (1, n)) (ha : 4 ≤ a) (hb : 4 ≤ b) (hn : n < 2 ^ 31) : m_r 24 [.ref r, .ref r2] h none (t_cp h.1 a b n, h.2) := by
  refine m_of (ls := [.ref r, .ref r2]) hk_24 rfl rfl rfl ?_
  refine e_go hk_24 1 (c := (1, [.ref r, .ref r2], [.ref r2], h)) rfl ?_
  refine e_getr hk_24 (ev := 3074) (b := a) rfl rfl g1 rfl g2 ?_
  refine e_go hk_24 2 (c := (6, [.ref r, .ref r2], [.ref r, .int 0, .ref a], h)) rfl ?_
  refine e_getr hk_24 (ev := 3074) (b := b) rfl rfl h1 rfl h2 ?_
  refine e_go hk_24 2 (c := (11, [.ref r, .ref r2], [.ref r, .int 0, .ref b, .int 0, .ref a], h)) rfl ?_
  refine e_getr hk_24 (ev := 3074) (b := b) rfl rfl h1 rfl h2 ?_
  refine e_alen hk_24 (a := b) rfl rfl h3 ?_
  refine e_go hk_24 1 (c := (16, [.ref r, .ref r2], [.ref r2, .int (nI n), .int 0, .ref b, .int 0, .ref a], h)) rfl ?_
  refine e_getr hk_24 (ev := 3074) (b := a) rfl rfl g1 rfl g2 ?_
  refine e_alen hk_24 (a := a) rfl rfl g3 ?_
  refine e_go hk_24 1 (c := (23, [.ref r, .ref r2], [.int (if nI n < nI n then nI n else nI n), .int 0, .ref b, .int 0, .ref a], h)) rfl ?_
  rw [ite_self]
  refine e_acpy hk_24 (a := a) (b := b) (n := n) rfl rfl g3 h3 ha hb hn (by decide) ?_
  exact e_ret hk_24 rfl rfl rfl rfl rfl
/-- at cell x of this heap stands a tree with its rows -/
def t_is (h : sHp) (x : Nat) : Prop := s_nth h.2.2 x = some (0, 5) ∧ (s_nth h.2.2 (x + 1) = some (0, 3) ∧ s_nth h.2.2 (x + 3) = some (0, 3) ∧ s_nth h.2.2 (x + 5) = some (0, 3) ∧ s_nth h.2.2 (x + 7) = some (0, 3) ∧ s_nth h.2.2 (x + 9) = some (0, 3) ∧ s_nth h.2.2 (x + 11) = some (0, 3)) ∧ (s_nth h.2.2 (x + 2) = some (1, 3) ∧ s_nth h.2.2 (x + 4) = some (1, 60) ∧ s_nth h.2.2 (x + 6) = some (1, 60) ∧ s_nth h.2.2 (x + 8) = some (1, 60) ∧ s_nth h.2.2 (x + 10) = some (1, 60) ∧ s_nth h.2.2 (x + 12) = some (1, 60)) ∧ (h.2.1 x 0 = some (x + 1) ∧ h.2.1 x 1 = some (x + 3) ∧ h.2.1 x 2 = some (x + 5) ∧ h.2.1 x 3 = some (x + 7) ∧ h.2.1 x 4 = some (x + 9) ∧ h.2.1 x 5 = some (x + 11)) ∧ (h.2.1 (x + 1) 0 = some (x + 2) ∧ h.2.1 (x + 3) 0 = some (x + 4) ∧ h.2.1 (x + 5) 0 = some (x + 6) ∧ h.2.1 (x + 7) 0 = some (x + 8) ∧ h.2.1 (x + 9) 0 = some (x + 10) ∧ h.2.1 (x + 11) 0 = some (x + 12))
/-- the six rows of the tree at y into those of the tree at x -/
def t_bc6 (Z : Nat → Nat → Int32) (x y : Nat) : Nat → Nat → Int32 := t_cp (t_cp (t_cp (t_cp (t_cp (t_cp Z (y + 2) (x + 2) 3) (y + 4) (x + 4) 60) (y + 6) (x + 6) 60) (y + 8) (x + 8) 60) (y + 10) (x + 10) 60) (y + 12) (x + 12) 60
def t_bc5 (Z : Nat → Nat → Int32) (x y s : Nat) : Nat → Nat → Int32 := s_upd Z x s (Z y s)
/-- the tree at x becomes the tree at y -/
def t_bc (Z : Nat → Nat → Int32) (x y : Nat) : Nat → Nat → Int32 := t_bc5 (t_bc5 (t_bc5 (t_bc5 (t_bc5 (t_bc6 Z x y) x y 6) x y 7) x y 8) x y 9) x y 10
theorem x_tbec {x y : Nat} {h : sHp} (hx : t_is h x) (hy : t_is h y) (h4 : 4 ≤ x) (k4 : 4 ≤ y) : m_r 29 [.ref x, .ref y] h none (t_bc h.1 x y, h.2) := by
  obtain ⟨x0, ⟨x1, x3, x5, x7, x9, x11⟩, ⟨x2, x4, x6, x8, x10, x12⟩, ⟨q0, q1, q2, q3, q4, q5⟩, ⟨r1, r3, r5, r7, r9, r11⟩⟩ := hx
  obtain ⟨y0, ⟨y1, y3, y5, y7, y9, y11⟩, ⟨y2, y4, y6, y8, y10, y12⟩, ⟨p0, p1, p2, p3, p4, p5⟩, ⟨s1, s3, s5, s7, s9, s11⟩⟩ := hy
  refine m_of (ls := [.ref x, .ref y]) hk_29 rfl rfl rfl ?_
  refine e_go hk_29 1 (c := (1, [.ref x, .ref y], [.ref x], h)) rfl ?_
  refine e_getr hk_29 (ev := 5122) (b := x + 1) rfl rfl x0 rfl q0 ?_
  refine e_go hk_29 1 (c := (5, [.ref x, .ref y], [.ref y, .ref (x + 1)], h)) rfl ?_
  refine e_getr hk_29 (ev := 5122) (b := y + 1) rfl rfl y0 rfl p0 ?_
  refine e_call hk_29 (as := [.ref (x + 1), .ref (y + 1)]) (rest := []) rfl rfl hk_24 rfl (Nat.le_of_ble_eq_true rfl) (s_rc_of x1) (x_rbec x1 r1 x2 y1 s1 y2 (by omega) (by omega) (by decide)) ?_
  show e_r 29 11 [.ref x, .ref y] [] (t_cp h.1 (y + 2) (x + 2) 3, h.2) _ _
  refine e_go hk_29 1 (c := (12, [.ref x, .ref y], [.ref x], (t_cp h.1 (y + 2) (x + 2) 3, h.2))) rfl ?_
  refine e_getr hk_29 (ev := 5130) (b := x + 3) rfl rfl x0 rfl q1 ?_
  refine e_go hk_29 1 (c := (16, [.ref x, .ref y], [.ref y, .ref (x + 3)], (t_cp h.1 (y + 2) (x + 2) 3, h.2))) rfl ?_
  refine e_getr hk_29 (ev := 5130) (b := y + 3) rfl rfl y0 rfl p1 ?_
  refine e_call hk_29 (as := [.ref (x + 3), .ref (y + 3)]) (rest := []) rfl rfl hk_24 rfl (Nat.le_of_ble_eq_true rfl) (s_rc_of x3) (x_rbec x3 r3 x4 y3 s3 y4 (by omega) (by omega) (by decide)) ?_
  show e_r 29 22 [.ref x, .ref y] [] (t_cp (t_cp h.1 (y + 2) (x + 2) 3) (y + 4) (x + 4) 60, h.2) _ _
  refine e_go hk_29 1 (c := (23, [.ref x, .ref y], [.ref x], (t_cp (t_cp h.1 (y + 2) (x + 2) 3) (y + 4) (x + 4) 60, h.2))) rfl ?_
  refine e_getr hk_29 (ev := 5138) (b := x + 5) rfl rfl x0 rfl q2 ?_
  refine e_go hk_29 1 (c := (27, [.ref x, .ref y], [.ref y, .ref (x + 5)], (t_cp (t_cp h.1 (y + 2) (x + 2) 3) (y + 4) (x + 4) 60, h.2))) rfl ?_
  refine e_getr hk_29 (ev := 5138) (b := y + 5) rfl rfl y0 rfl p2 ?_
  refine e_call hk_29 (as := [.ref (x + 5), .ref (y + 5)]) (rest := []) rfl rfl hk_24 rfl (Nat.le_of_ble_eq_true rfl) (s_rc_of x5) (x_rbec x5 r5 x6 y5 s5 y6 (by omega) (by omega) (by decide)) ?_
  show e_r 29 33 [.ref x, .ref y] [] (t_cp (t_cp (t_cp h.1 (y + 2) (x + 2) 3) (y + 4) (x + 4) 60) (y + 6) (x + 6) 60, h.2) _ _
  refine e_go hk_29 1 (c := (34, [.ref x, .ref y], [.ref x], (t_cp (t_cp (t_cp h.1 (y + 2) (x + 2) 3) (y + 4) (x + 4) 60) (y + 6) (x + 6) 60, h.2))) rfl ?_
  refine e_getr hk_29 (ev := 5146) (b := x + 7) rfl rfl x0 rfl q3 ?_
  refine e_go hk_29 1 (c := (38, [.ref x, .ref y], [.ref y, .ref (x + 7)], (t_cp (t_cp (t_cp h.1 (y + 2) (x + 2) 3) (y + 4) (x + 4) 60) (y + 6) (x + 6) 60, h.2))) rfl ?_
  refine e_getr hk_29 (ev := 5146) (b := y + 7) rfl rfl y0 rfl p3 ?_
  refine e_call hk_29 (as := [.ref (x + 7), .ref (y + 7)]) (rest := []) rfl rfl hk_24 rfl (Nat.le_of_ble_eq_true rfl) (s_rc_of x7) (x_rbec x7 r7 x8 y7 s7 y8 (by omega) (by omega) (by decide)) ?_
  show e_r 29 44 [.ref x, .ref y] [] (t_cp (t_cp (t_cp (t_cp h.1 (y + 2) (x + 2) 3) (y + 4) (x + 4) 60) (y + 6) (x + 6) 60) (y + 8) (x + 8) 60, h.2) _ _
  refine e_go hk_29 1 (c := (45, [.ref x, .ref y], [.ref x], (t_cp (t_cp (t_cp (t_cp h.1 (y + 2) (x + 2) 3) (y + 4) (x + 4) 60) (y + 6) (x + 6) 60) (y + 8) (x + 8) 60, h.2))) rfl ?_
  refine e_getr hk_29 (ev := 5154) (b := x + 9) rfl rfl x0 rfl q4 ?_
  refine e_go hk_29 1 (c := (49, [.ref x, .ref y], [.ref y, .ref (x + 9)], (t_cp (t_cp (t_cp (t_cp h.1 (y + 2) (x + 2) 3) (y + 4) (x + 4) 60) (y + 6) (x + 6) 60) (y + 8) (x + 8) 60, h.2))) rfl ?_
  refine e_getr hk_29 (ev := 5154) (b := y + 9) rfl rfl y0 rfl p4 ?_
  refine e_call hk_29 (as := [.ref (x + 9), .ref (y + 9)]) (rest := []) rfl rfl hk_24 rfl (Nat.le_of_ble_eq_true rfl) (s_rc_of x9) (x_rbec x9 r9 x10 y9 s9 y10 (by omega) (by omega) (by decide)) ?_
  show e_r 29 55 [.ref x, .ref y] [] (t_cp (t_cp (t_cp (t_cp (t_cp h.1 (y + 2) (x + 2) 3) (y + 4) (x + 4) 60) (y + 6) (x + 6) 60) (y + 8) (x + 8) 60) (y + 10) (x + 10) 60, h.2) _ _
  refine e_go hk_29 1 (c := (56, [.ref x, .ref y], [.ref x], (t_cp (t_cp (t_cp (t_cp (t_cp h.1 (y + 2) (x + 2) 3) (y + 4) (x + 4) 60) (y + 6) (x + 6) 60) (y + 8) (x + 8) 60) (y + 10) (x + 10) 60, h.2))) rfl ?_
  refine e_getr hk_29 (ev := 5162) (b := x + 11) rfl rfl x0 rfl q5 ?_
  refine e_go hk_29 1 (c := (60, [.ref x, .ref y], [.ref y, .ref (x + 11)], (t_cp (t_cp (t_cp (t_cp (t_cp h.1 (y + 2) (x + 2) 3) (y + 4) (x + 4) 60) (y + 6) (x + 6) 60) (y + 8) (x + 8) 60) (y + 10) (x + 10) 60, h.2))) rfl ?_
  refine e_getr hk_29 (ev := 5162) (b := y + 11) rfl rfl y0 rfl p5 ?_
  refine e_call hk_29 (as := [.ref (x + 11), .ref (y + 11)]) (rest := []) rfl rfl hk_24 rfl (Nat.le_of_ble_eq_true rfl) (s_rc_of x11) (x_rbec x11 r11 x12 y11 s11 y12 (by omega) (by omega) (by decide)) ?_
  show e_r 29 66 [.ref x, .ref y] [] (t_cp (t_cp (t_cp (t_cp (t_cp (t_cp h.1 (y + 2) (x + 2) 3) (y + 4) (x + 4) 60) (y + 6) (x + 6) 60) (y + 8) (x + 8) 60) (y + 10) (x + 10) 60) (y + 12) (x + 12) 60, h.2) _ _
  show e_r 29 66 [.ref x, .ref y] [] (t_bc6 h.1 x y, h.2) _ _
  generalize hW : t_bc6 h.1 x y = W
  unfold t_bc
  rw [hW]
  refine e_go hk_29 2 (c := (68, [.ref x, .ref y], [.ref y, .ref x], (W, h.2))) rfl ?_
  refine e_geti hk_29 (ev := 5168) rfl rfl y0 (by decide) ?_
  refine e_puti hk_29 (ev := 5168) rfl rfl x0 rfl ?_
  show e_r 29 74 [.ref x, .ref y] [] (t_bc5 W x y 6, h.2) _ _
  refine e_go hk_29 2 (c := (76, [.ref x, .ref y], [.ref y, .ref x], (t_bc5 W x y 6, h.2))) rfl ?_
  refine e_geti hk_29 (ev := 5176) rfl rfl y0 (by decide) ?_
  refine e_puti hk_29 (ev := 5176) rfl rfl x0 rfl ?_
  show e_r 29 82 [.ref x, .ref y] [] (t_bc5 (t_bc5 W x y 6) x y 7, h.2) _ _
  refine e_go hk_29 2 (c := (84, [.ref x, .ref y], [.ref y, .ref x], (t_bc5 (t_bc5 W x y 6) x y 7, h.2))) rfl ?_
  refine e_geti hk_29 (ev := 5184) rfl rfl y0 (by decide) ?_
  refine e_puti hk_29 (ev := 5184) rfl rfl x0 rfl ?_
  show e_r 29 90 [.ref x, .ref y] [] (t_bc5 (t_bc5 (t_bc5 W x y 6) x y 7) x y 8, h.2) _ _
  refine e_go hk_29 2 (c := (92, [.ref x, .ref y], [.ref y, .ref x], (t_bc5 (t_bc5 (t_bc5 W x y 6) x y 7) x y 8, h.2))) rfl ?_
  refine e_geti hk_29 (ev := 5192) rfl rfl y0 (by decide) ?_
  refine e_puti hk_29 (ev := 5192) rfl rfl x0 rfl ?_
  show e_r 29 98 [.ref x, .ref y] [] (t_bc5 (t_bc5 (t_bc5 (t_bc5 W x y 6) x y 7) x y 8) x y 9, h.2) _ _
  refine e_go hk_29 2 (c := (100, [.ref x, .ref y], [.ref y, .ref x], (t_bc5 (t_bc5 (t_bc5 (t_bc5 W x y 6) x y 7) x y 8) x y 9, h.2))) rfl ?_
  refine e_geti hk_29 (ev := 5200) rfl rfl y0 (by decide) ?_
  refine e_puti hk_29 (ev := 5200) rfl rfl x0 rfl ?_
  show e_r 29 106 [.ref x, .ref y] [] (t_bc5 (t_bc5 (t_bc5 (t_bc5 (t_bc5 W x y 6) x y 7) x y 8) x y 9) x y 10, h.2) _ _
  exact e_ret hk_29 rfl rfl rfl rfl rfl
