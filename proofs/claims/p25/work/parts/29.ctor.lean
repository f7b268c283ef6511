/-! The constructors, step by step; printed by wip/p25/gen/ctor.py -/
def s_UL : List (Nat × Nat × Nat) := [(6, 0, 7), (5, 0, 6), (8, 0, 9), (5, 1, 8), (10, 0, 11), (5, 2, 10), (12, 0, 13), (5, 3, 12), (14, 0, 15), (5, 4, 14), (16, 0, 17), (5, 5, 16), (4, 0, 5), (18, 0, 19), (21, 0, 22), (20, 0, 21), (23, 0, 24), (20, 1, 23), (25, 0, 26), (20, 2, 25), (27, 0, 28), (20, 3, 27), (29, 0, 30), (20, 4, 29), (31, 0, 32), (20, 5, 31), (19, 0, 20), (34, 0, 35), (33, 0, 34), (36, 0, 37), (33, 1, 36), (38, 0, 39), (33, 2, 38), (40, 0, 41), (33, 3, 40), (42, 0, 43), (33, 4, 42), (44, 0, 45), (33, 5, 44), (19, 1, 33), (47, 0, 48), (46, 0, 47), (49, 0, 50), (46, 1, 49), (51, 0, 52), (46, 2, 51), (53, 0, 54), (46, 3, 53), (55, 0, 56), (46, 4, 55), (57, 0, 58), (46, 5, 57), (19, 2, 46), (60, 0, 61), (59, 0, 60), (62, 0, 63), (59, 1, 62), (64, 0, 65), (59, 2, 64), (66, 0, 67), (59, 3, 66), (68, 0, 69), (59, 4, 68), (70, 0, 71), (59, 5, 70), (19, 3, 59), (73, 0, 74), (72, 0, 73), (75, 0, 76), (72, 1, 75), (77, 0, 78), (72, 2, 77), (79, 0, 80), (72, 3, 79), (81, 0, 82), (72, 4, 81), (83, 0, 84), (72, 5, 83), (19, 4, 72), (86, 0, 87), (85, 0, 86), (88, 0, 89), (85, 1, 88), (90, 0, 91), (85, 2, 90), (92, 0, 93), (85, 3, 92), (94, 0, 95), (85, 4, 94), (96, 0, 97), (85, 5, 96), (19, 5, 85), (4, 1, 18), (4, 2, 98), (100, 0, 101), (99, 0, 100), (4, 3, 99), (4, 4, 102), (105, 0, 106), (104, 0, 105), (107, 0, 108), (104, 1, 107), (109, 0, 110), (104, 2, 109), (111, 0, 112), (104, 3, 111), (113, 0, 114), (104, 4, 113), (115, 0, 116), (104, 5, 115), (103, 0, 104), (98, 0, 103), (119, 0, 120), (118, 0, 119), (121, 0, 122), (118, 1, 121), (123, 0, 124), (118, 2, 123), (125, 0, 126), (118, 3, 125), (127, 0, 128), (118, 4, 127), (129, 0, 130), (118, 5, 129), (117, 0, 118), (98, 1, 117)]
def s_WL : List (Nat × Nat × Int32) := [(7, 0, 70), (7, 1, 40), (7, 2, 2), (22, 0, 70), (22, 1, 40), (22, 2, 2), (35, 0, 70), (35, 1, 40), (35, 2, 2), (48, 0, 70), (48, 1, 40), (48, 2, 2), (61, 0, 70), (61, 1, 40), (61, 2, 2), (74, 0, 70), (74, 1, 40), (74, 2, 2), (87, 0, 70), (87, 1, 40), (87, 2, 2), (106, 0, 70), (106, 1, 40), (106, 2, 2), (120, 0, 70), (120, 1, 40), (120, 2, 2)]
def s_u (m : Nat) : Nat × Nat × Nat := (s_nth s_UL m).getD (0, 0, 0)
def s_w (m : Nat) : Nat × Nat × Int32 := (s_nth s_WL m).getD (0, 0, 0)
def rU : Nat → Nat → Nat → Option Nat
  | 0 => fun _ _ => none
  | m + 1 => s_updR (rU m) (s_u m).1 (s_u m).2.1 (some (s_u m).2.2)
theorem rU_out {i j : Nat} : ∀ m, (∀ x, x < m → ¬ ((s_u x).1 = i ∧ (s_u x).2.1 = j)) → rU m i j = none
  | 0, h => rfl
  | m + 1, h => by
    show s_updR (rU m) (s_u m).1 (s_u m).2.1 (some (s_u m).2.2) i j = none
    unfold s_updR va_up
    by_cases h1 : i = (s_u m).1
    · rw [if_pos h1]
      by_cases h2 : j = (s_u m).2.1
      · exact absurd ⟨h1.symm, h2.symm⟩ (h m (by omega))
      · show (if j = (s_u m).2.1 then some (s_u m).2.2 else rU m i j) = none
        rw [if_neg h2]
        exact rU_out m (fun x hx => h x (by omega))
    · rw [if_neg h1]
      exact rU_out m (fun x hx => h x (by omega))
def frU (u k : Nat) : Bool := (List.range u).all (fun x => Nat.blt (s_u x).1 k)
theorem rU_fresh {u k : Nat} (h : frU u k = true) : rU u k = fun _ => none := by
  funext j
  refine rU_out u (fun x hx z => ?_)
  have := List.all_eq_true.mp h x (List.mem_range.mpr hx)
  have := Nat.le_of_ble_eq_true this
  omega
def zW (xs : Nat → Int32) : Nat → Nat → Nat → Int32
  | 0 => s_Z0 xs
  | m + 1 => s_upd (zW xs m) (s_w m).1 (s_w m).2.1 (s_w m).2.2
abbrev c_h (xs : Nat → Int32) (L w u k : Nat) : sHp := (zW xs w, rU u, (s_SH L).take k)
theorem new_heap {xs : Nat → Int32} {L w u k t n : Nat} (hz : zW xs w k = fun _ => 0) (hr : rU u k = fun _ => none) (hl : ((s_SH L).take k).length = k) (hs : (s_SH L).take k ++ [(t, n)] = (s_SH L).take (k + 1)) : s_new (c_h xs L w u k) t n = c_h xs L w u (k + 1) := by
  unfold s_new
  dsimp only
  rw [hl, hs]
  have e1 : (fun i => if i = k then (fun _ => 0) else zW xs w i) = zW xs w := by
    funext i
    by_cases h : i = k
    · rw [if_pos h, h, hz]
    · rw [if_neg h]
  have e2 : (fun i => if i = k then (fun _ => none) else rU u i) = rU u := by
    funext i
    by_cases h : i = k
    · rw [if_pos h, h, hr]
    · rw [if_neg h]
  rw [e1, e2]
section NEW
variable {q pc : Nat} {r : sM} {cn : Option Nat} {ls rest : List Value} {h2 : sHp} {v : Option Value} {xs : Nat → Int32} {L w u k : Nat}
theorem e_newo (hk : s_T q = some (r, cn)) {e : sE} {c : Nat} (hat : s_at (s_cd r) pc = some e) (hi : e.2.1 = .new c) (hz : zW xs w k = fun _ => 0) (hr : rU u k = fun _ => none) (hl : ((s_SH L).take k).length = k) (hs : (s_SH L).take k ++ [(0, c)] = (s_SH L).take (k + 1)) (kk : e_r q (pc + e.2.2.1) ls (.ref k :: rest) (c_h xs L w u (k + 1)) v h2) : e_r q pc ls rest (c_h xs L w u k) v h2 := by
  refine e_step (c := (pc + e.2.2.1, ls, .ref k :: rest, c_h xs L w u (k + 1))) hk hat (by rw [hi]; rfl) (by rw [hi]; rfl) ?_ kk
  rw [hi]
  dsimp only [s_x]
  rw [new_heap hz hr hl hs, hl]
theorem e_newa (hk : s_T q = some (r, cn)) {e : sE} {m : Nat} (hat : s_at (s_cd r) pc = some e) (hi : e.2.1 = .newarray .int) (hm : m ≤ 65536) (hz : zW xs w k = fun _ => 0) (hr : rU u k = fun _ => none) (hl : ((s_SH L).take k).length = k) (hs : (s_SH L).take k ++ [(1, m)] = (s_SH L).take (k + 1)) (kk : e_r q (pc + e.2.2.1) ls (.ref k :: rest) (c_h xs L w u (k + 1)) v h2) : e_r q pc ls (.int (nI m) :: rest) (c_h xs L w u k) v h2 := by
  refine e_step (c := (pc + e.2.2.1, ls, .ref k :: rest, c_h xs L w u (k + 1))) hk hat (by rw [hi]; rfl) (by rw [hi]; rfl) ?_ kk
  rw [hi]
  dsimp only [s_x]
  rw [if_neg, nI_clamp (by omega), new_heap hz hr hl hs, hl]
  rintro (h | h)
  · exact nI_pos (by omega) h
  · exact absurd ((y_lt (a := 65536) (b := m) (by omega) (by omega)).mp h) (by omega)
theorem e_newr (hk : s_T q = some (r, cn)) {e : sE} {t m : Nat} (hat : s_at (s_cd r) pc = some e) (hi : e.2.1 = .anewarray t) (hm : m ≤ 65536) (hz : zW xs w k = fun _ => 0) (hr : rU u k = fun _ => none) (hl : ((s_SH L).take k).length = k) (hs : (s_SH L).take k ++ [(t + 2, m)] = (s_SH L).take (k + 1)) (kk : e_r q (pc + e.2.2.1) ls (.ref k :: rest) (c_h xs L w u (k + 1)) v h2) : e_r q pc ls (.int (nI m) :: rest) (c_h xs L w u k) v h2 := by
  refine e_step (c := (pc + e.2.2.1, ls, .ref k :: rest, c_h xs L w u (k + 1))) hk hat (by rw [hi]; rfl) (by rw [hi]; rfl) ?_ kk
  rw [hi]
  dsimp only [s_x]
  rw [if_neg, nI_clamp (by omega), new_heap hz hr hl hs, hl]
  rintro (h | h)
  · exact nI_pos (by omega) h
  · exact absurd ((y_lt (a := 65536) (b := m) (by omega) (by omega)).mp h) (by omega)
theorem e_putr (hk : s_T q = some (r, cn)) {e : sE} {ev a b : Nat} (hat : s_at (s_cd r) pc = some e) (hi : e.2.1 = .putfield ev) (hs : s_nth ((s_SH L).take k) a = some (0, ev / 1024)) (hkd : ev % 8 = 2) (hu : s_u u = (a, ev % 1024 / 8, b)) (kk : e_r q (pc + e.2.2.1) ls rest (c_h xs L w (u + 1) k) v h2) : e_r q pc ls (.ref b :: .ref a :: rest) (c_h xs L w u k) v h2 := by
  refine e_step (c := (pc + e.2.2.1, ls, rest, c_h xs L w (u + 1) k)) hk hat (by rw [hi]; rfl) (by rw [hi]; rfl) ?_ kk
  rw [hi]
  dsimp only [s_x]
  rw [hs]
  show (if ev / 1024 = ev / 1024 then (if ev % 8 = 2 then some (pc + e.2.2.1, ls, rest, (zW xs w, s_updR (rU u) a (ev % 1024 / 8) (some b), (s_SH L).take k)) else none) else none) = _
  rw [if_pos rfl, if_pos hkd]
  show _ = some (pc + e.2.2.1, ls, rest, (zW xs w, s_updR (rU u) (s_u u).1 (s_u u).2.1 (some (s_u u).2.2), (s_SH L).take k))
  rw [hu]
theorem e_aast (hk : s_T q = some (r, cn)) {e : sE} {a b t n i : Nat} (hat : s_at (s_cd r) pc = some e) (hi : e.2.1 = .aastore) (hs : s_nth ((s_SH L).take k) a = some (t + 2, n)) (hb : s_nth ((s_SH L).take k) b = some (0, t)) (hin : i < n) (hn : n < 2 ^ 31) (ha4 : 4 ≤ a) (hb4 : 4 ≤ b) (hu : s_u u = (a, i, b)) (kk : e_r q (pc + e.2.2.1) ls rest (c_h xs L w (u + 1) k) v h2) : e_r q pc ls (.ref b :: .int (nI i) :: .ref a :: rest) (c_h xs L w u k) v h2 := by
  refine e_step (c := (pc + e.2.2.1, ls, rest, c_h xs L w (u + 1) k)) hk hat (by rw [hi]; rfl) (by rw [hi]; rfl) ?_ kk
  rw [hi]
  dsimp only [s_x]
  rw [hs, hb]
  show (if s_outb (nI i) n = true ∨ a < 4 ∨ b < 4 ∨ t ≠ t then none else some (pc + e.2.2.1, ls, rest, (zW xs w, s_updR (rU u) a (nI i).toNatClampNeg (some b), (s_SH L).take k))) = _
  rw [if_neg (by
    rintro (h | h | h | h)
    · exact s_outb_nI hin hn h
    · omega
    · omega
    · exact h rfl), nI_clamp (by omega)]
  show _ = some (pc + e.2.2.1, ls, rest, (zW xs w, s_updR (rU u) (s_u u).1 (s_u u).2.1 (some (s_u u).2.2), (s_SH L).take k))
  rw [hu]
end NEW
theorem x_row {xs : Nat → Int32} {L w u k a n : Nat} (hz : zW xs w k = fun _ => 0) (hr : rU u k = fun _ => none) (hl : ((s_SH L).take k).length = k) (hs : (s_SH L).take k ++ [(1, n)] = (s_SH L).take (k + 1)) (hn : n ≤ 65536) (ha : s_nth ((s_SH L).take (k + 1)) a = some (0, 3)) (hu : s_u u = (a, 0, k)) : m_r 21 [.ref a, .int (nI n)] (c_h xs L w u k) none (c_h xs L w (u + 1) (k + 1)) := by
  refine m_of (ls := [.ref a, .int (nI n)]) hk_21 rfl rfl rfl ?_
  refine e_go hk_21 5 (c := (if s_cnd .ge (nI n) 0 = true then 13 else 9, [.ref a, .int (nI n)], [.ref a], c_h xs L w u k)) rfl ?_
  refine e_ge (a := 13) (b := 9) (x := nI n) (y := 0) (fun _ => ?_) (fun h => absurd (nI_pos' (by omega)) h)
  refine e_go hk_21 1 (c := (14, [.ref a, .int (nI n)], [.int (nI n), .ref a], c_h xs L w u k)) rfl ?_
  refine e_newa hk_21 (m := n) rfl rfl hn hz hr hl hs ?_
  show e_r 21 16 [.ref a, .int (nI n)] [.ref k, .ref a] (c_h xs L w u (k + 1)) _ _
  refine e_putr hk_21 (ev := 3074) rfl rfl ha rfl hu ?_
  exact e_ret hk_21 rfl rfl rfl rfl rfl
set_option maxRecDepth 20000 in
theorem k_28_5 {xs : Nat → Int32} {L : Nat} : m_r 28 [.ref 5] (c_h xs L 0 0 6) none (c_h xs L 3 12 18) := by
  refine m_of (ls := [.ref 5, s_no]) hk_28 rfl rfl rfl ?_
  refine e_go hk_28 3 (c := (5, [.ref 5, s_no], [.ref 5], c_h xs L 0 0 6)) rfl ?_
  refine e_newo hk_28 rfl rfl rfl (rU_fresh (by decide +kernel)) rfl rfl ?_
  show e_r 28 8 [.ref 5, s_no] [.ref 6, .ref 5] (c_h xs L 0 0 7) _ _
  refine e_go hk_28 3 (c := (13, [.ref 5, s_no], [.int 3, .ref 6, .ref 6, .ref 5], c_h xs L 0 0 7)) rfl ?_
  refine e_call hk_28 (as := [.ref 6, .int 3]) (rest := [.ref 6, .ref 5]) rfl rfl hk_21 rfl (Nat.le_of_ble_eq_true rfl) rfl (x_row (n := 3) rfl (rU_fresh (by decide +kernel)) rfl rfl (by decide) rfl rfl) ?_
  show e_r 28 16 [.ref 5, s_no] [.ref 6, .ref 5] (c_h xs L 0 1 8) _ _
  refine e_putr hk_28 (ev := 5122) rfl rfl rfl rfl rfl ?_
  show e_r 28 19 [.ref 5, s_no] [] (c_h xs L 0 2 8) _ _
  refine e_go hk_28 1 (c := (20, [.ref 5, s_no], [.ref 5], c_h xs L 0 2 8)) rfl ?_
  refine e_newo hk_28 rfl rfl rfl (rU_fresh (by decide +kernel)) rfl rfl ?_
  show e_r 28 23 [.ref 5, s_no] [.ref 8, .ref 5] (c_h xs L 0 2 9) _ _
  refine e_go hk_28 2 (c := (26, [.ref 5, s_no], [.int 60, .ref 8, .ref 8, .ref 5], c_h xs L 0 2 9)) rfl ?_
  refine e_call hk_28 (as := [.ref 8, .int 60]) (rest := [.ref 8, .ref 5]) rfl rfl hk_21 rfl (Nat.le_of_ble_eq_true rfl) rfl (x_row (n := 60) rfl (rU_fresh (by decide +kernel)) rfl rfl (by decide) rfl rfl) ?_
  show e_r 28 29 [.ref 5, s_no] [.ref 8, .ref 5] (c_h xs L 0 3 10) _ _
  refine e_putr hk_28 (ev := 5130) rfl rfl rfl rfl rfl ?_
  show e_r 28 32 [.ref 5, s_no] [] (c_h xs L 0 4 10) _ _
  refine e_go hk_28 1 (c := (33, [.ref 5, s_no], [.ref 5], c_h xs L 0 4 10)) rfl ?_
  refine e_newo hk_28 rfl rfl rfl (rU_fresh (by decide +kernel)) rfl rfl ?_
  show e_r 28 36 [.ref 5, s_no] [.ref 10, .ref 5] (c_h xs L 0 4 11) _ _
  refine e_go hk_28 2 (c := (39, [.ref 5, s_no], [.int 60, .ref 10, .ref 10, .ref 5], c_h xs L 0 4 11)) rfl ?_
  refine e_call hk_28 (as := [.ref 10, .int 60]) (rest := [.ref 10, .ref 5]) rfl rfl hk_21 rfl (Nat.le_of_ble_eq_true rfl) rfl (x_row (n := 60) rfl (rU_fresh (by decide +kernel)) rfl rfl (by decide) rfl rfl) ?_
  show e_r 28 42 [.ref 5, s_no] [.ref 10, .ref 5] (c_h xs L 0 5 12) _ _
  refine e_putr hk_28 (ev := 5138) rfl rfl rfl rfl rfl ?_
  show e_r 28 45 [.ref 5, s_no] [] (c_h xs L 0 6 12) _ _
  refine e_go hk_28 1 (c := (46, [.ref 5, s_no], [.ref 5], c_h xs L 0 6 12)) rfl ?_
  refine e_newo hk_28 rfl rfl rfl (rU_fresh (by decide +kernel)) rfl rfl ?_
  show e_r 28 49 [.ref 5, s_no] [.ref 12, .ref 5] (c_h xs L 0 6 13) _ _
  refine e_go hk_28 2 (c := (52, [.ref 5, s_no], [.int 60, .ref 12, .ref 12, .ref 5], c_h xs L 0 6 13)) rfl ?_
  refine e_call hk_28 (as := [.ref 12, .int 60]) (rest := [.ref 12, .ref 5]) rfl rfl hk_21 rfl (Nat.le_of_ble_eq_true rfl) rfl (x_row (n := 60) rfl (rU_fresh (by decide +kernel)) rfl rfl (by decide) rfl rfl) ?_
  show e_r 28 55 [.ref 5, s_no] [.ref 12, .ref 5] (c_h xs L 0 7 14) _ _
  refine e_putr hk_28 (ev := 5146) rfl rfl rfl rfl rfl ?_
  show e_r 28 58 [.ref 5, s_no] [] (c_h xs L 0 8 14) _ _
  refine e_go hk_28 1 (c := (59, [.ref 5, s_no], [.ref 5], c_h xs L 0 8 14)) rfl ?_
  refine e_newo hk_28 rfl rfl rfl (rU_fresh (by decide +kernel)) rfl rfl ?_
  show e_r 28 62 [.ref 5, s_no] [.ref 14, .ref 5] (c_h xs L 0 8 15) _ _
  refine e_go hk_28 2 (c := (65, [.ref 5, s_no], [.int 60, .ref 14, .ref 14, .ref 5], c_h xs L 0 8 15)) rfl ?_
  refine e_call hk_28 (as := [.ref 14, .int 60]) (rest := [.ref 14, .ref 5]) rfl rfl hk_21 rfl (Nat.le_of_ble_eq_true rfl) rfl (x_row (n := 60) rfl (rU_fresh (by decide +kernel)) rfl rfl (by decide) rfl rfl) ?_
  show e_r 28 68 [.ref 5, s_no] [.ref 14, .ref 5] (c_h xs L 0 9 16) _ _
  refine e_putr hk_28 (ev := 5154) rfl rfl rfl rfl rfl ?_
  show e_r 28 71 [.ref 5, s_no] [] (c_h xs L 0 10 16) _ _
  refine e_go hk_28 1 (c := (72, [.ref 5, s_no], [.ref 5], c_h xs L 0 10 16)) rfl ?_
  refine e_newo hk_28 rfl rfl rfl (rU_fresh (by decide +kernel)) rfl rfl ?_
  show e_r 28 75 [.ref 5, s_no] [.ref 16, .ref 5] (c_h xs L 0 10 17) _ _
  refine e_go hk_28 2 (c := (78, [.ref 5, s_no], [.int 60, .ref 16, .ref 16, .ref 5], c_h xs L 0 10 17)) rfl ?_
  refine e_call hk_28 (as := [.ref 16, .int 60]) (rest := [.ref 16, .ref 5]) rfl rfl hk_21 rfl (Nat.le_of_ble_eq_true rfl) rfl (x_row (n := 60) rfl (rU_fresh (by decide +kernel)) rfl rfl (by decide) rfl rfl) ?_
  show e_r 28 81 [.ref 5, s_no] [.ref 16, .ref 5] (c_h xs L 0 11 18) _ _
  refine e_putr hk_28 (ev := 5162) rfl rfl rfl rfl rfl ?_
  show e_r 28 84 [.ref 5, s_no] [] (c_h xs L 0 12 18) _ _
  refine e_go hk_28 6 (c := (if s_cnd .ge 0 3 = true then 113 else 94, [.ref 5, .int 0], [], c_h xs L 0 12 18)) rfl ?_
  refine e_ge (a := 113) (b := 94) (x := 0) (y := 3) (fun hc91 => absurd hc91 (by decide)) (fun hc91 => ?_)
  refine e_go hk_28 5 (c := (103, [.ref 5, .int 0], [.int 0, .ref 0, .int 0, .ref 6], c_h xs L 0 12 18)) rfl ?_
  refine e_ald hk_28 (a := 0) (j := 0) (n := 3) rfl rfl rfl (by decide) (by decide) ?_
  show e_r 28 104 [.ref 5, .int 0] [.int 70, .int 0, .ref 6] (c_h xs L 0 12 18) _ _
  refine e_call hk_28 (as := [.ref 6, .int 0, .int 70]) (rest := []) rfl rfl hk_23 rfl (Nat.le_of_ble_eq_true rfl) rfl (x_write (r := 6) (a := 7) (n := 3) (x := 70) rfl rfl rfl (by decide) (by decide) (j := 0) (by decide)) ?_
  show e_r 28 107 [.ref 5, .int 0] [] (c_h xs L 1 12 18) _ _
  refine e_go hk_28 6 (c := (if s_cnd .ge 1 3 = true then 113 else 94, [.ref 5, .int 1], [], c_h xs L 1 12 18)) rfl ?_
  refine e_ge (a := 113) (b := 94) (x := 1) (y := 3) (fun hc91 => absurd hc91 (by decide)) (fun hc91 => ?_)
  refine e_go hk_28 5 (c := (103, [.ref 5, .int 1], [.int 1, .ref 0, .int 1, .ref 6], c_h xs L 1 12 18)) rfl ?_
  refine e_ald hk_28 (a := 0) (j := 1) (n := 3) rfl rfl rfl (by decide) (by decide) ?_
  show e_r 28 104 [.ref 5, .int 1] [.int 40, .int 1, .ref 6] (c_h xs L 1 12 18) _ _
  refine e_call hk_28 (as := [.ref 6, .int 1, .int 40]) (rest := []) rfl rfl hk_23 rfl (Nat.le_of_ble_eq_true rfl) rfl (x_write (r := 6) (a := 7) (n := 3) (x := 40) rfl rfl rfl (by decide) (by decide) (j := 1) (by decide)) ?_
  show e_r 28 107 [.ref 5, .int 1] [] (c_h xs L 2 12 18) _ _
  refine e_go hk_28 6 (c := (if s_cnd .ge 2 3 = true then 113 else 94, [.ref 5, .int 2], [], c_h xs L 2 12 18)) rfl ?_
  refine e_ge (a := 113) (b := 94) (x := 2) (y := 3) (fun hc91 => absurd hc91 (by decide)) (fun hc91 => ?_)
  refine e_go hk_28 5 (c := (103, [.ref 5, .int 2], [.int 2, .ref 0, .int 2, .ref 6], c_h xs L 2 12 18)) rfl ?_
  refine e_ald hk_28 (a := 0) (j := 2) (n := 3) rfl rfl rfl (by decide) (by decide) ?_
  show e_r 28 104 [.ref 5, .int 2] [.int 2, .int 2, .ref 6] (c_h xs L 2 12 18) _ _
  refine e_call hk_28 (as := [.ref 6, .int 2, .int 2]) (rest := []) rfl rfl hk_23 rfl (Nat.le_of_ble_eq_true rfl) rfl (x_write (r := 6) (a := 7) (n := 3) (x := 2) rfl rfl rfl (by decide) (by decide) (j := 2) (by decide)) ?_
  show e_r 28 107 [.ref 5, .int 2] [] (c_h xs L 3 12 18) _ _
  refine e_go hk_28 6 (c := (if s_cnd .ge 3 3 = true then 113 else 94, [.ref 5, .int 3], [], c_h xs L 3 12 18)) rfl ?_
  refine e_ge (a := 113) (b := 94) (x := 3) (y := 3) (fun hc91 => ?_) (fun hc91 => absurd (by decide) hc91)
  exact e_ret hk_28 rfl rfl rfl rfl rfl
set_option maxRecDepth 20000 in
theorem k_28_20 {xs : Nat → Int32} {L : Nat} : m_r 28 [.ref 20] (c_h xs L 3 14 21) none (c_h xs L 6 26 33) := by
  refine m_of (ls := [.ref 20, s_no]) hk_28 rfl rfl rfl ?_
  refine e_go hk_28 3 (c := (5, [.ref 20, s_no], [.ref 20], c_h xs L 3 14 21)) rfl ?_
  refine e_newo hk_28 rfl rfl rfl (rU_fresh (by decide +kernel)) rfl rfl ?_
  show e_r 28 8 [.ref 20, s_no] [.ref 21, .ref 20] (c_h xs L 3 14 22) _ _
  refine e_go hk_28 3 (c := (13, [.ref 20, s_no], [.int 3, .ref 21, .ref 21, .ref 20], c_h xs L 3 14 22)) rfl ?_
  refine e_call hk_28 (as := [.ref 21, .int 3]) (rest := [.ref 21, .ref 20]) rfl rfl hk_21 rfl (Nat.le_of_ble_eq_true rfl) rfl (x_row (n := 3) rfl (rU_fresh (by decide +kernel)) rfl rfl (by decide) rfl rfl) ?_
  show e_r 28 16 [.ref 20, s_no] [.ref 21, .ref 20] (c_h xs L 3 15 23) _ _
  refine e_putr hk_28 (ev := 5122) rfl rfl rfl rfl rfl ?_
  show e_r 28 19 [.ref 20, s_no] [] (c_h xs L 3 16 23) _ _
  refine e_go hk_28 1 (c := (20, [.ref 20, s_no], [.ref 20], c_h xs L 3 16 23)) rfl ?_
  refine e_newo hk_28 rfl rfl rfl (rU_fresh (by decide +kernel)) rfl rfl ?_
  show e_r 28 23 [.ref 20, s_no] [.ref 23, .ref 20] (c_h xs L 3 16 24) _ _
  refine e_go hk_28 2 (c := (26, [.ref 20, s_no], [.int 60, .ref 23, .ref 23, .ref 20], c_h xs L 3 16 24)) rfl ?_
  refine e_call hk_28 (as := [.ref 23, .int 60]) (rest := [.ref 23, .ref 20]) rfl rfl hk_21 rfl (Nat.le_of_ble_eq_true rfl) rfl (x_row (n := 60) rfl (rU_fresh (by decide +kernel)) rfl rfl (by decide) rfl rfl) ?_
  show e_r 28 29 [.ref 20, s_no] [.ref 23, .ref 20] (c_h xs L 3 17 25) _ _
  refine e_putr hk_28 (ev := 5130) rfl rfl rfl rfl rfl ?_
  show e_r 28 32 [.ref 20, s_no] [] (c_h xs L 3 18 25) _ _
  refine e_go hk_28 1 (c := (33, [.ref 20, s_no], [.ref 20], c_h xs L 3 18 25)) rfl ?_
  refine e_newo hk_28 rfl rfl rfl (rU_fresh (by decide +kernel)) rfl rfl ?_
  show e_r 28 36 [.ref 20, s_no] [.ref 25, .ref 20] (c_h xs L 3 18 26) _ _
  refine e_go hk_28 2 (c := (39, [.ref 20, s_no], [.int 60, .ref 25, .ref 25, .ref 20], c_h xs L 3 18 26)) rfl ?_
  refine e_call hk_28 (as := [.ref 25, .int 60]) (rest := [.ref 25, .ref 20]) rfl rfl hk_21 rfl (Nat.le_of_ble_eq_true rfl) rfl (x_row (n := 60) rfl (rU_fresh (by decide +kernel)) rfl rfl (by decide) rfl rfl) ?_
  show e_r 28 42 [.ref 20, s_no] [.ref 25, .ref 20] (c_h xs L 3 19 27) _ _
  refine e_putr hk_28 (ev := 5138) rfl rfl rfl rfl rfl ?_
  show e_r 28 45 [.ref 20, s_no] [] (c_h xs L 3 20 27) _ _
  refine e_go hk_28 1 (c := (46, [.ref 20, s_no], [.ref 20], c_h xs L 3 20 27)) rfl ?_
  refine e_newo hk_28 rfl rfl rfl (rU_fresh (by decide +kernel)) rfl rfl ?_
  show e_r 28 49 [.ref 20, s_no] [.ref 27, .ref 20] (c_h xs L 3 20 28) _ _
  refine e_go hk_28 2 (c := (52, [.ref 20, s_no], [.int 60, .ref 27, .ref 27, .ref 20], c_h xs L 3 20 28)) rfl ?_
  refine e_call hk_28 (as := [.ref 27, .int 60]) (rest := [.ref 27, .ref 20]) rfl rfl hk_21 rfl (Nat.le_of_ble_eq_true rfl) rfl (x_row (n := 60) rfl (rU_fresh (by decide +kernel)) rfl rfl (by decide) rfl rfl) ?_
  show e_r 28 55 [.ref 20, s_no] [.ref 27, .ref 20] (c_h xs L 3 21 29) _ _
  refine e_putr hk_28 (ev := 5146) rfl rfl rfl rfl rfl ?_
  show e_r 28 58 [.ref 20, s_no] [] (c_h xs L 3 22 29) _ _
  refine e_go hk_28 1 (c := (59, [.ref 20, s_no], [.ref 20], c_h xs L 3 22 29)) rfl ?_
  refine e_newo hk_28 rfl rfl rfl (rU_fresh (by decide +kernel)) rfl rfl ?_
  show e_r 28 62 [.ref 20, s_no] [.ref 29, .ref 20] (c_h xs L 3 22 30) _ _
  refine e_go hk_28 2 (c := (65, [.ref 20, s_no], [.int 60, .ref 29, .ref 29, .ref 20], c_h xs L 3 22 30)) rfl ?_
  refine e_call hk_28 (as := [.ref 29, .int 60]) (rest := [.ref 29, .ref 20]) rfl rfl hk_21 rfl (Nat.le_of_ble_eq_true rfl) rfl (x_row (n := 60) rfl (rU_fresh (by decide +kernel)) rfl rfl (by decide) rfl rfl) ?_
  show e_r 28 68 [.ref 20, s_no] [.ref 29, .ref 20] (c_h xs L 3 23 31) _ _
  refine e_putr hk_28 (ev := 5154) rfl rfl rfl rfl rfl ?_
  show e_r 28 71 [.ref 20, s_no] [] (c_h xs L 3 24 31) _ _
  refine e_go hk_28 1 (c := (72, [.ref 20, s_no], [.ref 20], c_h xs L 3 24 31)) rfl ?_
  refine e_newo hk_28 rfl rfl rfl (rU_fresh (by decide +kernel)) rfl rfl ?_
  show e_r 28 75 [.ref 20, s_no] [.ref 31, .ref 20] (c_h xs L 3 24 32) _ _
  refine e_go hk_28 2 (c := (78, [.ref 20, s_no], [.int 60, .ref 31, .ref 31, .ref 20], c_h xs L 3 24 32)) rfl ?_
  refine e_call hk_28 (as := [.ref 31, .int 60]) (rest := [.ref 31, .ref 20]) rfl rfl hk_21 rfl (Nat.le_of_ble_eq_true rfl) rfl (x_row (n := 60) rfl (rU_fresh (by decide +kernel)) rfl rfl (by decide) rfl rfl) ?_
  show e_r 28 81 [.ref 20, s_no] [.ref 31, .ref 20] (c_h xs L 3 25 33) _ _
  refine e_putr hk_28 (ev := 5162) rfl rfl rfl rfl rfl ?_
  show e_r 28 84 [.ref 20, s_no] [] (c_h xs L 3 26 33) _ _
  refine e_go hk_28 6 (c := (if s_cnd .ge 0 3 = true then 113 else 94, [.ref 20, .int 0], [], c_h xs L 3 26 33)) rfl ?_
  refine e_ge (a := 113) (b := 94) (x := 0) (y := 3) (fun hc91 => absurd hc91 (by decide)) (fun hc91 => ?_)
  refine e_go hk_28 5 (c := (103, [.ref 20, .int 0], [.int 0, .ref 0, .int 0, .ref 21], c_h xs L 3 26 33)) rfl ?_
  refine e_ald hk_28 (a := 0) (j := 0) (n := 3) rfl rfl rfl (by decide) (by decide) ?_
  show e_r 28 104 [.ref 20, .int 0] [.int 70, .int 0, .ref 21] (c_h xs L 3 26 33) _ _
  refine e_call hk_28 (as := [.ref 21, .int 0, .int 70]) (rest := []) rfl rfl hk_23 rfl (Nat.le_of_ble_eq_true rfl) rfl (x_write (r := 21) (a := 22) (n := 3) (x := 70) rfl rfl rfl (by decide) (by decide) (j := 0) (by decide)) ?_
  show e_r 28 107 [.ref 20, .int 0] [] (c_h xs L 4 26 33) _ _
  refine e_go hk_28 6 (c := (if s_cnd .ge 1 3 = true then 113 else 94, [.ref 20, .int 1], [], c_h xs L 4 26 33)) rfl ?_
  refine e_ge (a := 113) (b := 94) (x := 1) (y := 3) (fun hc91 => absurd hc91 (by decide)) (fun hc91 => ?_)
  refine e_go hk_28 5 (c := (103, [.ref 20, .int 1], [.int 1, .ref 0, .int 1, .ref 21], c_h xs L 4 26 33)) rfl ?_
  refine e_ald hk_28 (a := 0) (j := 1) (n := 3) rfl rfl rfl (by decide) (by decide) ?_
  show e_r 28 104 [.ref 20, .int 1] [.int 40, .int 1, .ref 21] (c_h xs L 4 26 33) _ _
  refine e_call hk_28 (as := [.ref 21, .int 1, .int 40]) (rest := []) rfl rfl hk_23 rfl (Nat.le_of_ble_eq_true rfl) rfl (x_write (r := 21) (a := 22) (n := 3) (x := 40) rfl rfl rfl (by decide) (by decide) (j := 1) (by decide)) ?_
  show e_r 28 107 [.ref 20, .int 1] [] (c_h xs L 5 26 33) _ _
  refine e_go hk_28 6 (c := (if s_cnd .ge 2 3 = true then 113 else 94, [.ref 20, .int 2], [], c_h xs L 5 26 33)) rfl ?_
  refine e_ge (a := 113) (b := 94) (x := 2) (y := 3) (fun hc91 => absurd hc91 (by decide)) (fun hc91 => ?_)
  refine e_go hk_28 5 (c := (103, [.ref 20, .int 2], [.int 2, .ref 0, .int 2, .ref 21], c_h xs L 5 26 33)) rfl ?_
  refine e_ald hk_28 (a := 0) (j := 2) (n := 3) rfl rfl rfl (by decide) (by decide) ?_
  show e_r 28 104 [.ref 20, .int 2] [.int 2, .int 2, .ref 21] (c_h xs L 5 26 33) _ _
  refine e_call hk_28 (as := [.ref 21, .int 2, .int 2]) (rest := []) rfl rfl hk_23 rfl (Nat.le_of_ble_eq_true rfl) rfl (x_write (r := 21) (a := 22) (n := 3) (x := 2) rfl rfl rfl (by decide) (by decide) (j := 2) (by decide)) ?_
  show e_r 28 107 [.ref 20, .int 2] [] (c_h xs L 6 26 33) _ _
  refine e_go hk_28 6 (c := (if s_cnd .ge 3 3 = true then 113 else 94, [.ref 20, .int 3], [], c_h xs L 6 26 33)) rfl ?_
  refine e_ge (a := 113) (b := 94) (x := 3) (y := 3) (fun hc91 => ?_) (fun hc91 => absurd (by decide) hc91)
  exact e_ret hk_28 rfl rfl rfl rfl rfl
set_option maxRecDepth 20000 in
theorem k_28_33 {xs : Nat → Int32} {L : Nat} : m_r 28 [.ref 33] (c_h xs L 6 27 34) none (c_h xs L 9 39 46) := by
  refine m_of (ls := [.ref 33, s_no]) hk_28 rfl rfl rfl ?_
  refine e_go hk_28 3 (c := (5, [.ref 33, s_no], [.ref 33], c_h xs L 6 27 34)) rfl ?_
  refine e_newo hk_28 rfl rfl rfl (rU_fresh (by decide +kernel)) rfl rfl ?_
  show e_r 28 8 [.ref 33, s_no] [.ref 34, .ref 33] (c_h xs L 6 27 35) _ _
  refine e_go hk_28 3 (c := (13, [.ref 33, s_no], [.int 3, .ref 34, .ref 34, .ref 33], c_h xs L 6 27 35)) rfl ?_
  refine e_call hk_28 (as := [.ref 34, .int 3]) (rest := [.ref 34, .ref 33]) rfl rfl hk_21 rfl (Nat.le_of_ble_eq_true rfl) rfl (x_row (n := 3) rfl (rU_fresh (by decide +kernel)) rfl rfl (by decide) rfl rfl) ?_
  show e_r 28 16 [.ref 33, s_no] [.ref 34, .ref 33] (c_h xs L 6 28 36) _ _
  refine e_putr hk_28 (ev := 5122) rfl rfl rfl rfl rfl ?_
  show e_r 28 19 [.ref 33, s_no] [] (c_h xs L 6 29 36) _ _
  refine e_go hk_28 1 (c := (20, [.ref 33, s_no], [.ref 33], c_h xs L 6 29 36)) rfl ?_
  refine e_newo hk_28 rfl rfl rfl (rU_fresh (by decide +kernel)) rfl rfl ?_
  show e_r 28 23 [.ref 33, s_no] [.ref 36, .ref 33] (c_h xs L 6 29 37) _ _
  refine e_go hk_28 2 (c := (26, [.ref 33, s_no], [.int 60, .ref 36, .ref 36, .ref 33], c_h xs L 6 29 37)) rfl ?_
  refine e_call hk_28 (as := [.ref 36, .int 60]) (rest := [.ref 36, .ref 33]) rfl rfl hk_21 rfl (Nat.le_of_ble_eq_true rfl) rfl (x_row (n := 60) rfl (rU_fresh (by decide +kernel)) rfl rfl (by decide) rfl rfl) ?_
  show e_r 28 29 [.ref 33, s_no] [.ref 36, .ref 33] (c_h xs L 6 30 38) _ _
  refine e_putr hk_28 (ev := 5130) rfl rfl rfl rfl rfl ?_
  show e_r 28 32 [.ref 33, s_no] [] (c_h xs L 6 31 38) _ _
  refine e_go hk_28 1 (c := (33, [.ref 33, s_no], [.ref 33], c_h xs L 6 31 38)) rfl ?_
  refine e_newo hk_28 rfl rfl rfl (rU_fresh (by decide +kernel)) rfl rfl ?_
  show e_r 28 36 [.ref 33, s_no] [.ref 38, .ref 33] (c_h xs L 6 31 39) _ _
  refine e_go hk_28 2 (c := (39, [.ref 33, s_no], [.int 60, .ref 38, .ref 38, .ref 33], c_h xs L 6 31 39)) rfl ?_
  refine e_call hk_28 (as := [.ref 38, .int 60]) (rest := [.ref 38, .ref 33]) rfl rfl hk_21 rfl (Nat.le_of_ble_eq_true rfl) rfl (x_row (n := 60) rfl (rU_fresh (by decide +kernel)) rfl rfl (by decide) rfl rfl) ?_
  show e_r 28 42 [.ref 33, s_no] [.ref 38, .ref 33] (c_h xs L 6 32 40) _ _
  refine e_putr hk_28 (ev := 5138) rfl rfl rfl rfl rfl ?_
  show e_r 28 45 [.ref 33, s_no] [] (c_h xs L 6 33 40) _ _
  refine e_go hk_28 1 (c := (46, [.ref 33, s_no], [.ref 33], c_h xs L 6 33 40)) rfl ?_
  refine e_newo hk_28 rfl rfl rfl (rU_fresh (by decide +kernel)) rfl rfl ?_
  show e_r 28 49 [.ref 33, s_no] [.ref 40, .ref 33] (c_h xs L 6 33 41) _ _
  refine e_go hk_28 2 (c := (52, [.ref 33, s_no], [.int 60, .ref 40, .ref 40, .ref 33], c_h xs L 6 33 41)) rfl ?_
  refine e_call hk_28 (as := [.ref 40, .int 60]) (rest := [.ref 40, .ref 33]) rfl rfl hk_21 rfl (Nat.le_of_ble_eq_true rfl) rfl (x_row (n := 60) rfl (rU_fresh (by decide +kernel)) rfl rfl (by decide) rfl rfl) ?_
  show e_r 28 55 [.ref 33, s_no] [.ref 40, .ref 33] (c_h xs L 6 34 42) _ _
  refine e_putr hk_28 (ev := 5146) rfl rfl rfl rfl rfl ?_
  show e_r 28 58 [.ref 33, s_no] [] (c_h xs L 6 35 42) _ _
  refine e_go hk_28 1 (c := (59, [.ref 33, s_no], [.ref 33], c_h xs L 6 35 42)) rfl ?_
  refine e_newo hk_28 rfl rfl rfl (rU_fresh (by decide +kernel)) rfl rfl ?_
  show e_r 28 62 [.ref 33, s_no] [.ref 42, .ref 33] (c_h xs L 6 35 43) _ _
  refine e_go hk_28 2 (c := (65, [.ref 33, s_no], [.int 60, .ref 42, .ref 42, .ref 33], c_h xs L 6 35 43)) rfl ?_
  refine e_call hk_28 (as := [.ref 42, .int 60]) (rest := [.ref 42, .ref 33]) rfl rfl hk_21 rfl (Nat.le_of_ble_eq_true rfl) rfl (x_row (n := 60) rfl (rU_fresh (by decide +kernel)) rfl rfl (by decide) rfl rfl) ?_
  show e_r 28 68 [.ref 33, s_no] [.ref 42, .ref 33] (c_h xs L 6 36 44) _ _
  refine e_putr hk_28 (ev := 5154) rfl rfl rfl rfl rfl ?_
  show e_r 28 71 [.ref 33, s_no] [] (c_h xs L 6 37 44) _ _
  refine e_go hk_28 1 (c := (72, [.ref 33, s_no], [.ref 33], c_h xs L 6 37 44)) rfl ?_
  refine e_newo hk_28 rfl rfl rfl (rU_fresh (by decide +kernel)) rfl rfl ?_
  show e_r 28 75 [.ref 33, s_no] [.ref 44, .ref 33] (c_h xs L 6 37 45) _ _
  refine e_go hk_28 2 (c := (78, [.ref 33, s_no], [.int 60, .ref 44, .ref 44, .ref 33], c_h xs L 6 37 45)) rfl ?_
  refine e_call hk_28 (as := [.ref 44, .int 60]) (rest := [.ref 44, .ref 33]) rfl rfl hk_21 rfl (Nat.le_of_ble_eq_true rfl) rfl (x_row (n := 60) rfl (rU_fresh (by decide +kernel)) rfl rfl (by decide) rfl rfl) ?_
  show e_r 28 81 [.ref 33, s_no] [.ref 44, .ref 33] (c_h xs L 6 38 46) _ _
  refine e_putr hk_28 (ev := 5162) rfl rfl rfl rfl rfl ?_
  show e_r 28 84 [.ref 33, s_no] [] (c_h xs L 6 39 46) _ _
  refine e_go hk_28 6 (c := (if s_cnd .ge 0 3 = true then 113 else 94, [.ref 33, .int 0], [], c_h xs L 6 39 46)) rfl ?_
  refine e_ge (a := 113) (b := 94) (x := 0) (y := 3) (fun hc91 => absurd hc91 (by decide)) (fun hc91 => ?_)
  refine e_go hk_28 5 (c := (103, [.ref 33, .int 0], [.int 0, .ref 0, .int 0, .ref 34], c_h xs L 6 39 46)) rfl ?_
  refine e_ald hk_28 (a := 0) (j := 0) (n := 3) rfl rfl rfl (by decide) (by decide) ?_
  show e_r 28 104 [.ref 33, .int 0] [.int 70, .int 0, .ref 34] (c_h xs L 6 39 46) _ _
  refine e_call hk_28 (as := [.ref 34, .int 0, .int 70]) (rest := []) rfl rfl hk_23 rfl (Nat.le_of_ble_eq_true rfl) rfl (x_write (r := 34) (a := 35) (n := 3) (x := 70) rfl rfl rfl (by decide) (by decide) (j := 0) (by decide)) ?_
  show e_r 28 107 [.ref 33, .int 0] [] (c_h xs L 7 39 46) _ _
  refine e_go hk_28 6 (c := (if s_cnd .ge 1 3 = true then 113 else 94, [.ref 33, .int 1], [], c_h xs L 7 39 46)) rfl ?_
  refine e_ge (a := 113) (b := 94) (x := 1) (y := 3) (fun hc91 => absurd hc91 (by decide)) (fun hc91 => ?_)
  refine e_go hk_28 5 (c := (103, [.ref 33, .int 1], [.int 1, .ref 0, .int 1, .ref 34], c_h xs L 7 39 46)) rfl ?_
  refine e_ald hk_28 (a := 0) (j := 1) (n := 3) rfl rfl rfl (by decide) (by decide) ?_
  show e_r 28 104 [.ref 33, .int 1] [.int 40, .int 1, .ref 34] (c_h xs L 7 39 46) _ _
  refine e_call hk_28 (as := [.ref 34, .int 1, .int 40]) (rest := []) rfl rfl hk_23 rfl (Nat.le_of_ble_eq_true rfl) rfl (x_write (r := 34) (a := 35) (n := 3) (x := 40) rfl rfl rfl (by decide) (by decide) (j := 1) (by decide)) ?_
  show e_r 28 107 [.ref 33, .int 1] [] (c_h xs L 8 39 46) _ _
  refine e_go hk_28 6 (c := (if s_cnd .ge 2 3 = true then 113 else 94, [.ref 33, .int 2], [], c_h xs L 8 39 46)) rfl ?_
  refine e_ge (a := 113) (b := 94) (x := 2) (y := 3) (fun hc91 => absurd hc91 (by decide)) (fun hc91 => ?_)
  refine e_go hk_28 5 (c := (103, [.ref 33, .int 2], [.int 2, .ref 0, .int 2, .ref 34], c_h xs L 8 39 46)) rfl ?_
  refine e_ald hk_28 (a := 0) (j := 2) (n := 3) rfl rfl rfl (by decide) (by decide) ?_
  show e_r 28 104 [.ref 33, .int 2] [.int 2, .int 2, .ref 34] (c_h xs L 8 39 46) _ _
  refine e_call hk_28 (as := [.ref 34, .int 2, .int 2]) (rest := []) rfl rfl hk_23 rfl (Nat.le_of_ble_eq_true rfl) rfl (x_write (r := 34) (a := 35) (n := 3) (x := 2) rfl rfl rfl (by decide) (by decide) (j := 2) (by decide)) ?_
  show e_r 28 107 [.ref 33, .int 2] [] (c_h xs L 9 39 46) _ _
  refine e_go hk_28 6 (c := (if s_cnd .ge 3 3 = true then 113 else 94, [.ref 33, .int 3], [], c_h xs L 9 39 46)) rfl ?_
  refine e_ge (a := 113) (b := 94) (x := 3) (y := 3) (fun hc91 => ?_) (fun hc91 => absurd (by decide) hc91)
  exact e_ret hk_28 rfl rfl rfl rfl rfl
set_option maxRecDepth 20000 in
theorem k_28_46 {xs : Nat → Int32} {L : Nat} : m_r 28 [.ref 46] (c_h xs L 9 40 47) none (c_h xs L 12 52 59) := by
  refine m_of (ls := [.ref 46, s_no]) hk_28 rfl rfl rfl ?_
  refine e_go hk_28 3 (c := (5, [.ref 46, s_no], [.ref 46], c_h xs L 9 40 47)) rfl ?_
  refine e_newo hk_28 rfl rfl rfl (rU_fresh (by decide +kernel)) rfl rfl ?_
  show e_r 28 8 [.ref 46, s_no] [.ref 47, .ref 46] (c_h xs L 9 40 48) _ _
  refine e_go hk_28 3 (c := (13, [.ref 46, s_no], [.int 3, .ref 47, .ref 47, .ref 46], c_h xs L 9 40 48)) rfl ?_
  refine e_call hk_28 (as := [.ref 47, .int 3]) (rest := [.ref 47, .ref 46]) rfl rfl hk_21 rfl (Nat.le_of_ble_eq_true rfl) rfl (x_row (n := 3) rfl (rU_fresh (by decide +kernel)) rfl rfl (by decide) rfl rfl) ?_
  show e_r 28 16 [.ref 46, s_no] [.ref 47, .ref 46] (c_h xs L 9 41 49) _ _
  refine e_putr hk_28 (ev := 5122) rfl rfl rfl rfl rfl ?_
  show e_r 28 19 [.ref 46, s_no] [] (c_h xs L 9 42 49) _ _
  refine e_go hk_28 1 (c := (20, [.ref 46, s_no], [.ref 46], c_h xs L 9 42 49)) rfl ?_
  refine e_newo hk_28 rfl rfl rfl (rU_fresh (by decide +kernel)) rfl rfl ?_
  show e_r 28 23 [.ref 46, s_no] [.ref 49, .ref 46] (c_h xs L 9 42 50) _ _
  refine e_go hk_28 2 (c := (26, [.ref 46, s_no], [.int 60, .ref 49, .ref 49, .ref 46], c_h xs L 9 42 50)) rfl ?_
  refine e_call hk_28 (as := [.ref 49, .int 60]) (rest := [.ref 49, .ref 46]) rfl rfl hk_21 rfl (Nat.le_of_ble_eq_true rfl) rfl (x_row (n := 60) rfl (rU_fresh (by decide +kernel)) rfl rfl (by decide) rfl rfl) ?_
  show e_r 28 29 [.ref 46, s_no] [.ref 49, .ref 46] (c_h xs L 9 43 51) _ _
  refine e_putr hk_28 (ev := 5130) rfl rfl rfl rfl rfl ?_
  show e_r 28 32 [.ref 46, s_no] [] (c_h xs L 9 44 51) _ _
  refine e_go hk_28 1 (c := (33, [.ref 46, s_no], [.ref 46], c_h xs L 9 44 51)) rfl ?_
  refine e_newo hk_28 rfl rfl rfl (rU_fresh (by decide +kernel)) rfl rfl ?_
  show e_r 28 36 [.ref 46, s_no] [.ref 51, .ref 46] (c_h xs L 9 44 52) _ _
  refine e_go hk_28 2 (c := (39, [.ref 46, s_no], [.int 60, .ref 51, .ref 51, .ref 46], c_h xs L 9 44 52)) rfl ?_
  refine e_call hk_28 (as := [.ref 51, .int 60]) (rest := [.ref 51, .ref 46]) rfl rfl hk_21 rfl (Nat.le_of_ble_eq_true rfl) rfl (x_row (n := 60) rfl (rU_fresh (by decide +kernel)) rfl rfl (by decide) rfl rfl) ?_
  show e_r 28 42 [.ref 46, s_no] [.ref 51, .ref 46] (c_h xs L 9 45 53) _ _
  refine e_putr hk_28 (ev := 5138) rfl rfl rfl rfl rfl ?_
  show e_r 28 45 [.ref 46, s_no] [] (c_h xs L 9 46 53) _ _
  refine e_go hk_28 1 (c := (46, [.ref 46, s_no], [.ref 46], c_h xs L 9 46 53)) rfl ?_
  refine e_newo hk_28 rfl rfl rfl (rU_fresh (by decide +kernel)) rfl rfl ?_
  show e_r 28 49 [.ref 46, s_no] [.ref 53, .ref 46] (c_h xs L 9 46 54) _ _
  refine e_go hk_28 2 (c := (52, [.ref 46, s_no], [.int 60, .ref 53, .ref 53, .ref 46], c_h xs L 9 46 54)) rfl ?_
  refine e_call hk_28 (as := [.ref 53, .int 60]) (rest := [.ref 53, .ref 46]) rfl rfl hk_21 rfl (Nat.le_of_ble_eq_true rfl) rfl (x_row (n := 60) rfl (rU_fresh (by decide +kernel)) rfl rfl (by decide) rfl rfl) ?_
  show e_r 28 55 [.ref 46, s_no] [.ref 53, .ref 46] (c_h xs L 9 47 55) _ _
  refine e_putr hk_28 (ev := 5146) rfl rfl rfl rfl rfl ?_
  show e_r 28 58 [.ref 46, s_no] [] (c_h xs L 9 48 55) _ _
  refine e_go hk_28 1 (c := (59, [.ref 46, s_no], [.ref 46], c_h xs L 9 48 55)) rfl ?_
  refine e_newo hk_28 rfl rfl rfl (rU_fresh (by decide +kernel)) rfl rfl ?_
  show e_r 28 62 [.ref 46, s_no] [.ref 55, .ref 46] (c_h xs L 9 48 56) _ _
  refine e_go hk_28 2 (c := (65, [.ref 46, s_no], [.int 60, .ref 55, .ref 55, .ref 46], c_h xs L 9 48 56)) rfl ?_
  refine e_call hk_28 (as := [.ref 55, .int 60]) (rest := [.ref 55, .ref 46]) rfl rfl hk_21 rfl (Nat.le_of_ble_eq_true rfl) rfl (x_row (n := 60) rfl (rU_fresh (by decide +kernel)) rfl rfl (by decide) rfl rfl) ?_
  show e_r 28 68 [.ref 46, s_no] [.ref 55, .ref 46] (c_h xs L 9 49 57) _ _
  refine e_putr hk_28 (ev := 5154) rfl rfl rfl rfl rfl ?_
  show e_r 28 71 [.ref 46, s_no] [] (c_h xs L 9 50 57) _ _
  refine e_go hk_28 1 (c := (72, [.ref 46, s_no], [.ref 46], c_h xs L 9 50 57)) rfl ?_
  refine e_newo hk_28 rfl rfl rfl (rU_fresh (by decide +kernel)) rfl rfl ?_
  show e_r 28 75 [.ref 46, s_no] [.ref 57, .ref 46] (c_h xs L 9 50 58) _ _
  refine e_go hk_28 2 (c := (78, [.ref 46, s_no], [.int 60, .ref 57, .ref 57, .ref 46], c_h xs L 9 50 58)) rfl ?_
  refine e_call hk_28 (as := [.ref 57, .int 60]) (rest := [.ref 57, .ref 46]) rfl rfl hk_21 rfl (Nat.le_of_ble_eq_true rfl) rfl (x_row (n := 60) rfl (rU_fresh (by decide +kernel)) rfl rfl (by decide) rfl rfl) ?_
  show e_r 28 81 [.ref 46, s_no] [.ref 57, .ref 46] (c_h xs L 9 51 59) _ _
  refine e_putr hk_28 (ev := 5162) rfl rfl rfl rfl rfl ?_
  show e_r 28 84 [.ref 46, s_no] [] (c_h xs L 9 52 59) _ _
  refine e_go hk_28 6 (c := (if s_cnd .ge 0 3 = true then 113 else 94, [.ref 46, .int 0], [], c_h xs L 9 52 59)) rfl ?_
  refine e_ge (a := 113) (b := 94) (x := 0) (y := 3) (fun hc91 => absurd hc91 (by decide)) (fun hc91 => ?_)
  refine e_go hk_28 5 (c := (103, [.ref 46, .int 0], [.int 0, .ref 0, .int 0, .ref 47], c_h xs L 9 52 59)) rfl ?_
  refine e_ald hk_28 (a := 0) (j := 0) (n := 3) rfl rfl rfl (by decide) (by decide) ?_
  show e_r 28 104 [.ref 46, .int 0] [.int 70, .int 0, .ref 47] (c_h xs L 9 52 59) _ _
  refine e_call hk_28 (as := [.ref 47, .int 0, .int 70]) (rest := []) rfl rfl hk_23 rfl (Nat.le_of_ble_eq_true rfl) rfl (x_write (r := 47) (a := 48) (n := 3) (x := 70) rfl rfl rfl (by decide) (by decide) (j := 0) (by decide)) ?_
  show e_r 28 107 [.ref 46, .int 0] [] (c_h xs L 10 52 59) _ _
  refine e_go hk_28 6 (c := (if s_cnd .ge 1 3 = true then 113 else 94, [.ref 46, .int 1], [], c_h xs L 10 52 59)) rfl ?_
  refine e_ge (a := 113) (b := 94) (x := 1) (y := 3) (fun hc91 => absurd hc91 (by decide)) (fun hc91 => ?_)
  refine e_go hk_28 5 (c := (103, [.ref 46, .int 1], [.int 1, .ref 0, .int 1, .ref 47], c_h xs L 10 52 59)) rfl ?_
  refine e_ald hk_28 (a := 0) (j := 1) (n := 3) rfl rfl rfl (by decide) (by decide) ?_
  show e_r 28 104 [.ref 46, .int 1] [.int 40, .int 1, .ref 47] (c_h xs L 10 52 59) _ _
  refine e_call hk_28 (as := [.ref 47, .int 1, .int 40]) (rest := []) rfl rfl hk_23 rfl (Nat.le_of_ble_eq_true rfl) rfl (x_write (r := 47) (a := 48) (n := 3) (x := 40) rfl rfl rfl (by decide) (by decide) (j := 1) (by decide)) ?_
  show e_r 28 107 [.ref 46, .int 1] [] (c_h xs L 11 52 59) _ _
  refine e_go hk_28 6 (c := (if s_cnd .ge 2 3 = true then 113 else 94, [.ref 46, .int 2], [], c_h xs L 11 52 59)) rfl ?_
  refine e_ge (a := 113) (b := 94) (x := 2) (y := 3) (fun hc91 => absurd hc91 (by decide)) (fun hc91 => ?_)
  refine e_go hk_28 5 (c := (103, [.ref 46, .int 2], [.int 2, .ref 0, .int 2, .ref 47], c_h xs L 11 52 59)) rfl ?_
  refine e_ald hk_28 (a := 0) (j := 2) (n := 3) rfl rfl rfl (by decide) (by decide) ?_
  show e_r 28 104 [.ref 46, .int 2] [.int 2, .int 2, .ref 47] (c_h xs L 11 52 59) _ _
  refine e_call hk_28 (as := [.ref 47, .int 2, .int 2]) (rest := []) rfl rfl hk_23 rfl (Nat.le_of_ble_eq_true rfl) rfl (x_write (r := 47) (a := 48) (n := 3) (x := 2) rfl rfl rfl (by decide) (by decide) (j := 2) (by decide)) ?_
  show e_r 28 107 [.ref 46, .int 2] [] (c_h xs L 12 52 59) _ _
  refine e_go hk_28 6 (c := (if s_cnd .ge 3 3 = true then 113 else 94, [.ref 46, .int 3], [], c_h xs L 12 52 59)) rfl ?_
  refine e_ge (a := 113) (b := 94) (x := 3) (y := 3) (fun hc91 => ?_) (fun hc91 => absurd (by decide) hc91)
  exact e_ret hk_28 rfl rfl rfl rfl rfl
set_option maxRecDepth 20000 in
theorem k_28_59 {xs : Nat → Int32} {L : Nat} : m_r 28 [.ref 59] (c_h xs L 12 53 60) none (c_h xs L 15 65 72) := by
  refine m_of (ls := [.ref 59, s_no]) hk_28 rfl rfl rfl ?_
  refine e_go hk_28 3 (c := (5, [.ref 59, s_no], [.ref 59], c_h xs L 12 53 60)) rfl ?_
  refine e_newo hk_28 rfl rfl rfl (rU_fresh (by decide +kernel)) rfl rfl ?_
  show e_r 28 8 [.ref 59, s_no] [.ref 60, .ref 59] (c_h xs L 12 53 61) _ _
  refine e_go hk_28 3 (c := (13, [.ref 59, s_no], [.int 3, .ref 60, .ref 60, .ref 59], c_h xs L 12 53 61)) rfl ?_
  refine e_call hk_28 (as := [.ref 60, .int 3]) (rest := [.ref 60, .ref 59]) rfl rfl hk_21 rfl (Nat.le_of_ble_eq_true rfl) rfl (x_row (n := 3) rfl (rU_fresh (by decide +kernel)) rfl rfl (by decide) rfl rfl) ?_
  show e_r 28 16 [.ref 59, s_no] [.ref 60, .ref 59] (c_h xs L 12 54 62) _ _
  refine e_putr hk_28 (ev := 5122) rfl rfl rfl rfl rfl ?_
  show e_r 28 19 [.ref 59, s_no] [] (c_h xs L 12 55 62) _ _
  refine e_go hk_28 1 (c := (20, [.ref 59, s_no], [.ref 59], c_h xs L 12 55 62)) rfl ?_
  refine e_newo hk_28 rfl rfl rfl (rU_fresh (by decide +kernel)) rfl rfl ?_
  show e_r 28 23 [.ref 59, s_no] [.ref 62, .ref 59] (c_h xs L 12 55 63) _ _
  refine e_go hk_28 2 (c := (26, [.ref 59, s_no], [.int 60, .ref 62, .ref 62, .ref 59], c_h xs L 12 55 63)) rfl ?_
  refine e_call hk_28 (as := [.ref 62, .int 60]) (rest := [.ref 62, .ref 59]) rfl rfl hk_21 rfl (Nat.le_of_ble_eq_true rfl) rfl (x_row (n := 60) rfl (rU_fresh (by decide +kernel)) rfl rfl (by decide) rfl rfl) ?_
  show e_r 28 29 [.ref 59, s_no] [.ref 62, .ref 59] (c_h xs L 12 56 64) _ _
  refine e_putr hk_28 (ev := 5130) rfl rfl rfl rfl rfl ?_
  show e_r 28 32 [.ref 59, s_no] [] (c_h xs L 12 57 64) _ _
  refine e_go hk_28 1 (c := (33, [.ref 59, s_no], [.ref 59], c_h xs L 12 57 64)) rfl ?_
  refine e_newo hk_28 rfl rfl rfl (rU_fresh (by decide +kernel)) rfl rfl ?_
  show e_r 28 36 [.ref 59, s_no] [.ref 64, .ref 59] (c_h xs L 12 57 65) _ _
  refine e_go hk_28 2 (c := (39, [.ref 59, s_no], [.int 60, .ref 64, .ref 64, .ref 59], c_h xs L 12 57 65)) rfl ?_
  refine e_call hk_28 (as := [.ref 64, .int 60]) (rest := [.ref 64, .ref 59]) rfl rfl hk_21 rfl (Nat.le_of_ble_eq_true rfl) rfl (x_row (n := 60) rfl (rU_fresh (by decide +kernel)) rfl rfl (by decide) rfl rfl) ?_
  show e_r 28 42 [.ref 59, s_no] [.ref 64, .ref 59] (c_h xs L 12 58 66) _ _
  refine e_putr hk_28 (ev := 5138) rfl rfl rfl rfl rfl ?_
  show e_r 28 45 [.ref 59, s_no] [] (c_h xs L 12 59 66) _ _
  refine e_go hk_28 1 (c := (46, [.ref 59, s_no], [.ref 59], c_h xs L 12 59 66)) rfl ?_
  refine e_newo hk_28 rfl rfl rfl (rU_fresh (by decide +kernel)) rfl rfl ?_
  show e_r 28 49 [.ref 59, s_no] [.ref 66, .ref 59] (c_h xs L 12 59 67) _ _
  refine e_go hk_28 2 (c := (52, [.ref 59, s_no], [.int 60, .ref 66, .ref 66, .ref 59], c_h xs L 12 59 67)) rfl ?_
  refine e_call hk_28 (as := [.ref 66, .int 60]) (rest := [.ref 66, .ref 59]) rfl rfl hk_21 rfl (Nat.le_of_ble_eq_true rfl) rfl (x_row (n := 60) rfl (rU_fresh (by decide +kernel)) rfl rfl (by decide) rfl rfl) ?_
  show e_r 28 55 [.ref 59, s_no] [.ref 66, .ref 59] (c_h xs L 12 60 68) _ _
  refine e_putr hk_28 (ev := 5146) rfl rfl rfl rfl rfl ?_
  show e_r 28 58 [.ref 59, s_no] [] (c_h xs L 12 61 68) _ _
  refine e_go hk_28 1 (c := (59, [.ref 59, s_no], [.ref 59], c_h xs L 12 61 68)) rfl ?_
  refine e_newo hk_28 rfl rfl rfl (rU_fresh (by decide +kernel)) rfl rfl ?_
  show e_r 28 62 [.ref 59, s_no] [.ref 68, .ref 59] (c_h xs L 12 61 69) _ _
  refine e_go hk_28 2 (c := (65, [.ref 59, s_no], [.int 60, .ref 68, .ref 68, .ref 59], c_h xs L 12 61 69)) rfl ?_
  refine e_call hk_28 (as := [.ref 68, .int 60]) (rest := [.ref 68, .ref 59]) rfl rfl hk_21 rfl (Nat.le_of_ble_eq_true rfl) rfl (x_row (n := 60) rfl (rU_fresh (by decide +kernel)) rfl rfl (by decide) rfl rfl) ?_
  show e_r 28 68 [.ref 59, s_no] [.ref 68, .ref 59] (c_h xs L 12 62 70) _ _
  refine e_putr hk_28 (ev := 5154) rfl rfl rfl rfl rfl ?_
  show e_r 28 71 [.ref 59, s_no] [] (c_h xs L 12 63 70) _ _
  refine e_go hk_28 1 (c := (72, [.ref 59, s_no], [.ref 59], c_h xs L 12 63 70)) rfl ?_
  refine e_newo hk_28 rfl rfl rfl (rU_fresh (by decide +kernel)) rfl rfl ?_
  show e_r 28 75 [.ref 59, s_no] [.ref 70, .ref 59] (c_h xs L 12 63 71) _ _
  refine e_go hk_28 2 (c := (78, [.ref 59, s_no], [.int 60, .ref 70, .ref 70, .ref 59], c_h xs L 12 63 71)) rfl ?_
  refine e_call hk_28 (as := [.ref 70, .int 60]) (rest := [.ref 70, .ref 59]) rfl rfl hk_21 rfl (Nat.le_of_ble_eq_true rfl) rfl (x_row (n := 60) rfl (rU_fresh (by decide +kernel)) rfl rfl (by decide) rfl rfl) ?_
  show e_r 28 81 [.ref 59, s_no] [.ref 70, .ref 59] (c_h xs L 12 64 72) _ _
  refine e_putr hk_28 (ev := 5162) rfl rfl rfl rfl rfl ?_
  show e_r 28 84 [.ref 59, s_no] [] (c_h xs L 12 65 72) _ _
  refine e_go hk_28 6 (c := (if s_cnd .ge 0 3 = true then 113 else 94, [.ref 59, .int 0], [], c_h xs L 12 65 72)) rfl ?_
  refine e_ge (a := 113) (b := 94) (x := 0) (y := 3) (fun hc91 => absurd hc91 (by decide)) (fun hc91 => ?_)
  refine e_go hk_28 5 (c := (103, [.ref 59, .int 0], [.int 0, .ref 0, .int 0, .ref 60], c_h xs L 12 65 72)) rfl ?_
  refine e_ald hk_28 (a := 0) (j := 0) (n := 3) rfl rfl rfl (by decide) (by decide) ?_
  show e_r 28 104 [.ref 59, .int 0] [.int 70, .int 0, .ref 60] (c_h xs L 12 65 72) _ _
  refine e_call hk_28 (as := [.ref 60, .int 0, .int 70]) (rest := []) rfl rfl hk_23 rfl (Nat.le_of_ble_eq_true rfl) rfl (x_write (r := 60) (a := 61) (n := 3) (x := 70) rfl rfl rfl (by decide) (by decide) (j := 0) (by decide)) ?_
  show e_r 28 107 [.ref 59, .int 0] [] (c_h xs L 13 65 72) _ _
  refine e_go hk_28 6 (c := (if s_cnd .ge 1 3 = true then 113 else 94, [.ref 59, .int 1], [], c_h xs L 13 65 72)) rfl ?_
  refine e_ge (a := 113) (b := 94) (x := 1) (y := 3) (fun hc91 => absurd hc91 (by decide)) (fun hc91 => ?_)
  refine e_go hk_28 5 (c := (103, [.ref 59, .int 1], [.int 1, .ref 0, .int 1, .ref 60], c_h xs L 13 65 72)) rfl ?_
  refine e_ald hk_28 (a := 0) (j := 1) (n := 3) rfl rfl rfl (by decide) (by decide) ?_
  show e_r 28 104 [.ref 59, .int 1] [.int 40, .int 1, .ref 60] (c_h xs L 13 65 72) _ _
  refine e_call hk_28 (as := [.ref 60, .int 1, .int 40]) (rest := []) rfl rfl hk_23 rfl (Nat.le_of_ble_eq_true rfl) rfl (x_write (r := 60) (a := 61) (n := 3) (x := 40) rfl rfl rfl (by decide) (by decide) (j := 1) (by decide)) ?_
  show e_r 28 107 [.ref 59, .int 1] [] (c_h xs L 14 65 72) _ _
  refine e_go hk_28 6 (c := (if s_cnd .ge 2 3 = true then 113 else 94, [.ref 59, .int 2], [], c_h xs L 14 65 72)) rfl ?_
  refine e_ge (a := 113) (b := 94) (x := 2) (y := 3) (fun hc91 => absurd hc91 (by decide)) (fun hc91 => ?_)
  refine e_go hk_28 5 (c := (103, [.ref 59, .int 2], [.int 2, .ref 0, .int 2, .ref 60], c_h xs L 14 65 72)) rfl ?_
  refine e_ald hk_28 (a := 0) (j := 2) (n := 3) rfl rfl rfl (by decide) (by decide) ?_
  show e_r 28 104 [.ref 59, .int 2] [.int 2, .int 2, .ref 60] (c_h xs L 14 65 72) _ _
  refine e_call hk_28 (as := [.ref 60, .int 2, .int 2]) (rest := []) rfl rfl hk_23 rfl (Nat.le_of_ble_eq_true rfl) rfl (x_write (r := 60) (a := 61) (n := 3) (x := 2) rfl rfl rfl (by decide) (by decide) (j := 2) (by decide)) ?_
  show e_r 28 107 [.ref 59, .int 2] [] (c_h xs L 15 65 72) _ _
  refine e_go hk_28 6 (c := (if s_cnd .ge 3 3 = true then 113 else 94, [.ref 59, .int 3], [], c_h xs L 15 65 72)) rfl ?_
  refine e_ge (a := 113) (b := 94) (x := 3) (y := 3) (fun hc91 => ?_) (fun hc91 => absurd (by decide) hc91)
  exact e_ret hk_28 rfl rfl rfl rfl rfl
set_option maxRecDepth 20000 in
theorem k_28_72 {xs : Nat → Int32} {L : Nat} : m_r 28 [.ref 72] (c_h xs L 15 66 73) none (c_h xs L 18 78 85) := by
  refine m_of (ls := [.ref 72, s_no]) hk_28 rfl rfl rfl ?_
  refine e_go hk_28 3 (c := (5, [.ref 72, s_no], [.ref 72], c_h xs L 15 66 73)) rfl ?_
  refine e_newo hk_28 rfl rfl rfl (rU_fresh (by decide +kernel)) rfl rfl ?_
  show e_r 28 8 [.ref 72, s_no] [.ref 73, .ref 72] (c_h xs L 15 66 74) _ _
  refine e_go hk_28 3 (c := (13, [.ref 72, s_no], [.int 3, .ref 73, .ref 73, .ref 72], c_h xs L 15 66 74)) rfl ?_
  refine e_call hk_28 (as := [.ref 73, .int 3]) (rest := [.ref 73, .ref 72]) rfl rfl hk_21 rfl (Nat.le_of_ble_eq_true rfl) rfl (x_row (n := 3) rfl (rU_fresh (by decide +kernel)) rfl rfl (by decide) rfl rfl) ?_
  show e_r 28 16 [.ref 72, s_no] [.ref 73, .ref 72] (c_h xs L 15 67 75) _ _
  refine e_putr hk_28 (ev := 5122) rfl rfl rfl rfl rfl ?_
  show e_r 28 19 [.ref 72, s_no] [] (c_h xs L 15 68 75) _ _
  refine e_go hk_28 1 (c := (20, [.ref 72, s_no], [.ref 72], c_h xs L 15 68 75)) rfl ?_
  refine e_newo hk_28 rfl rfl rfl (rU_fresh (by decide +kernel)) rfl rfl ?_
  show e_r 28 23 [.ref 72, s_no] [.ref 75, .ref 72] (c_h xs L 15 68 76) _ _
  refine e_go hk_28 2 (c := (26, [.ref 72, s_no], [.int 60, .ref 75, .ref 75, .ref 72], c_h xs L 15 68 76)) rfl ?_
  refine e_call hk_28 (as := [.ref 75, .int 60]) (rest := [.ref 75, .ref 72]) rfl rfl hk_21 rfl (Nat.le_of_ble_eq_true rfl) rfl (x_row (n := 60) rfl (rU_fresh (by decide +kernel)) rfl rfl (by decide) rfl rfl) ?_
  show e_r 28 29 [.ref 72, s_no] [.ref 75, .ref 72] (c_h xs L 15 69 77) _ _
  refine e_putr hk_28 (ev := 5130) rfl rfl rfl rfl rfl ?_
  show e_r 28 32 [.ref 72, s_no] [] (c_h xs L 15 70 77) _ _
  refine e_go hk_28 1 (c := (33, [.ref 72, s_no], [.ref 72], c_h xs L 15 70 77)) rfl ?_
  refine e_newo hk_28 rfl rfl rfl (rU_fresh (by decide +kernel)) rfl rfl ?_
  show e_r 28 36 [.ref 72, s_no] [.ref 77, .ref 72] (c_h xs L 15 70 78) _ _
  refine e_go hk_28 2 (c := (39, [.ref 72, s_no], [.int 60, .ref 77, .ref 77, .ref 72], c_h xs L 15 70 78)) rfl ?_
  refine e_call hk_28 (as := [.ref 77, .int 60]) (rest := [.ref 77, .ref 72]) rfl rfl hk_21 rfl (Nat.le_of_ble_eq_true rfl) rfl (x_row (n := 60) rfl (rU_fresh (by decide +kernel)) rfl rfl (by decide) rfl rfl) ?_
  show e_r 28 42 [.ref 72, s_no] [.ref 77, .ref 72] (c_h xs L 15 71 79) _ _
  refine e_putr hk_28 (ev := 5138) rfl rfl rfl rfl rfl ?_
  show e_r 28 45 [.ref 72, s_no] [] (c_h xs L 15 72 79) _ _
  refine e_go hk_28 1 (c := (46, [.ref 72, s_no], [.ref 72], c_h xs L 15 72 79)) rfl ?_
  refine e_newo hk_28 rfl rfl rfl (rU_fresh (by decide +kernel)) rfl rfl ?_
  show e_r 28 49 [.ref 72, s_no] [.ref 79, .ref 72] (c_h xs L 15 72 80) _ _
  refine e_go hk_28 2 (c := (52, [.ref 72, s_no], [.int 60, .ref 79, .ref 79, .ref 72], c_h xs L 15 72 80)) rfl ?_
  refine e_call hk_28 (as := [.ref 79, .int 60]) (rest := [.ref 79, .ref 72]) rfl rfl hk_21 rfl (Nat.le_of_ble_eq_true rfl) rfl (x_row (n := 60) rfl (rU_fresh (by decide +kernel)) rfl rfl (by decide) rfl rfl) ?_
  show e_r 28 55 [.ref 72, s_no] [.ref 79, .ref 72] (c_h xs L 15 73 81) _ _
  refine e_putr hk_28 (ev := 5146) rfl rfl rfl rfl rfl ?_
  show e_r 28 58 [.ref 72, s_no] [] (c_h xs L 15 74 81) _ _
  refine e_go hk_28 1 (c := (59, [.ref 72, s_no], [.ref 72], c_h xs L 15 74 81)) rfl ?_
  refine e_newo hk_28 rfl rfl rfl (rU_fresh (by decide +kernel)) rfl rfl ?_
  show e_r 28 62 [.ref 72, s_no] [.ref 81, .ref 72] (c_h xs L 15 74 82) _ _
  refine e_go hk_28 2 (c := (65, [.ref 72, s_no], [.int 60, .ref 81, .ref 81, .ref 72], c_h xs L 15 74 82)) rfl ?_
  refine e_call hk_28 (as := [.ref 81, .int 60]) (rest := [.ref 81, .ref 72]) rfl rfl hk_21 rfl (Nat.le_of_ble_eq_true rfl) rfl (x_row (n := 60) rfl (rU_fresh (by decide +kernel)) rfl rfl (by decide) rfl rfl) ?_
  show e_r 28 68 [.ref 72, s_no] [.ref 81, .ref 72] (c_h xs L 15 75 83) _ _
  refine e_putr hk_28 (ev := 5154) rfl rfl rfl rfl rfl ?_
  show e_r 28 71 [.ref 72, s_no] [] (c_h xs L 15 76 83) _ _
  refine e_go hk_28 1 (c := (72, [.ref 72, s_no], [.ref 72], c_h xs L 15 76 83)) rfl ?_
  refine e_newo hk_28 rfl rfl rfl (rU_fresh (by decide +kernel)) rfl rfl ?_
  show e_r 28 75 [.ref 72, s_no] [.ref 83, .ref 72] (c_h xs L 15 76 84) _ _
  refine e_go hk_28 2 (c := (78, [.ref 72, s_no], [.int 60, .ref 83, .ref 83, .ref 72], c_h xs L 15 76 84)) rfl ?_
  refine e_call hk_28 (as := [.ref 83, .int 60]) (rest := [.ref 83, .ref 72]) rfl rfl hk_21 rfl (Nat.le_of_ble_eq_true rfl) rfl (x_row (n := 60) rfl (rU_fresh (by decide +kernel)) rfl rfl (by decide) rfl rfl) ?_
  show e_r 28 81 [.ref 72, s_no] [.ref 83, .ref 72] (c_h xs L 15 77 85) _ _
  refine e_putr hk_28 (ev := 5162) rfl rfl rfl rfl rfl ?_
  show e_r 28 84 [.ref 72, s_no] [] (c_h xs L 15 78 85) _ _
  refine e_go hk_28 6 (c := (if s_cnd .ge 0 3 = true then 113 else 94, [.ref 72, .int 0], [], c_h xs L 15 78 85)) rfl ?_
  refine e_ge (a := 113) (b := 94) (x := 0) (y := 3) (fun hc91 => absurd hc91 (by decide)) (fun hc91 => ?_)
  refine e_go hk_28 5 (c := (103, [.ref 72, .int 0], [.int 0, .ref 0, .int 0, .ref 73], c_h xs L 15 78 85)) rfl ?_
  refine e_ald hk_28 (a := 0) (j := 0) (n := 3) rfl rfl rfl (by decide) (by decide) ?_
  show e_r 28 104 [.ref 72, .int 0] [.int 70, .int 0, .ref 73] (c_h xs L 15 78 85) _ _
  refine e_call hk_28 (as := [.ref 73, .int 0, .int 70]) (rest := []) rfl rfl hk_23 rfl (Nat.le_of_ble_eq_true rfl) rfl (x_write (r := 73) (a := 74) (n := 3) (x := 70) rfl rfl rfl (by decide) (by decide) (j := 0) (by decide)) ?_
  show e_r 28 107 [.ref 72, .int 0] [] (c_h xs L 16 78 85) _ _
  refine e_go hk_28 6 (c := (if s_cnd .ge 1 3 = true then 113 else 94, [.ref 72, .int 1], [], c_h xs L 16 78 85)) rfl ?_
  refine e_ge (a := 113) (b := 94) (x := 1) (y := 3) (fun hc91 => absurd hc91 (by decide)) (fun hc91 => ?_)
  refine e_go hk_28 5 (c := (103, [.ref 72, .int 1], [.int 1, .ref 0, .int 1, .ref 73], c_h xs L 16 78 85)) rfl ?_
  refine e_ald hk_28 (a := 0) (j := 1) (n := 3) rfl rfl rfl (by decide) (by decide) ?_
  show e_r 28 104 [.ref 72, .int 1] [.int 40, .int 1, .ref 73] (c_h xs L 16 78 85) _ _
  refine e_call hk_28 (as := [.ref 73, .int 1, .int 40]) (rest := []) rfl rfl hk_23 rfl (Nat.le_of_ble_eq_true rfl) rfl (x_write (r := 73) (a := 74) (n := 3) (x := 40) rfl rfl rfl (by decide) (by decide) (j := 1) (by decide)) ?_
  show e_r 28 107 [.ref 72, .int 1] [] (c_h xs L 17 78 85) _ _
  refine e_go hk_28 6 (c := (if s_cnd .ge 2 3 = true then 113 else 94, [.ref 72, .int 2], [], c_h xs L 17 78 85)) rfl ?_
  refine e_ge (a := 113) (b := 94) (x := 2) (y := 3) (fun hc91 => absurd hc91 (by decide)) (fun hc91 => ?_)
  refine e_go hk_28 5 (c := (103, [.ref 72, .int 2], [.int 2, .ref 0, .int 2, .ref 73], c_h xs L 17 78 85)) rfl ?_
  refine e_ald hk_28 (a := 0) (j := 2) (n := 3) rfl rfl rfl (by decide) (by decide) ?_
  show e_r 28 104 [.ref 72, .int 2] [.int 2, .int 2, .ref 73] (c_h xs L 17 78 85) _ _
  refine e_call hk_28 (as := [.ref 73, .int 2, .int 2]) (rest := []) rfl rfl hk_23 rfl (Nat.le_of_ble_eq_true rfl) rfl (x_write (r := 73) (a := 74) (n := 3) (x := 2) rfl rfl rfl (by decide) (by decide) (j := 2) (by decide)) ?_
  show e_r 28 107 [.ref 72, .int 2] [] (c_h xs L 18 78 85) _ _
  refine e_go hk_28 6 (c := (if s_cnd .ge 3 3 = true then 113 else 94, [.ref 72, .int 3], [], c_h xs L 18 78 85)) rfl ?_
  refine e_ge (a := 113) (b := 94) (x := 3) (y := 3) (fun hc91 => ?_) (fun hc91 => absurd (by decide) hc91)
  exact e_ret hk_28 rfl rfl rfl rfl rfl
set_option maxRecDepth 20000 in
theorem k_28_85 {xs : Nat → Int32} {L : Nat} : m_r 28 [.ref 85] (c_h xs L 18 79 86) none (c_h xs L 21 91 98) := by
  refine m_of (ls := [.ref 85, s_no]) hk_28 rfl rfl rfl ?_
  refine e_go hk_28 3 (c := (5, [.ref 85, s_no], [.ref 85], c_h xs L 18 79 86)) rfl ?_
  refine e_newo hk_28 rfl rfl rfl (rU_fresh (by decide +kernel)) rfl rfl ?_
  show e_r 28 8 [.ref 85, s_no] [.ref 86, .ref 85] (c_h xs L 18 79 87) _ _
  refine e_go hk_28 3 (c := (13, [.ref 85, s_no], [.int 3, .ref 86, .ref 86, .ref 85], c_h xs L 18 79 87)) rfl ?_
  refine e_call hk_28 (as := [.ref 86, .int 3]) (rest := [.ref 86, .ref 85]) rfl rfl hk_21 rfl (Nat.le_of_ble_eq_true rfl) rfl (x_row (n := 3) rfl (rU_fresh (by decide +kernel)) rfl rfl (by decide) rfl rfl) ?_
  show e_r 28 16 [.ref 85, s_no] [.ref 86, .ref 85] (c_h xs L 18 80 88) _ _
  refine e_putr hk_28 (ev := 5122) rfl rfl rfl rfl rfl ?_
  show e_r 28 19 [.ref 85, s_no] [] (c_h xs L 18 81 88) _ _
  refine e_go hk_28 1 (c := (20, [.ref 85, s_no], [.ref 85], c_h xs L 18 81 88)) rfl ?_
  refine e_newo hk_28 rfl rfl rfl (rU_fresh (by decide +kernel)) rfl rfl ?_
  show e_r 28 23 [.ref 85, s_no] [.ref 88, .ref 85] (c_h xs L 18 81 89) _ _
  refine e_go hk_28 2 (c := (26, [.ref 85, s_no], [.int 60, .ref 88, .ref 88, .ref 85], c_h xs L 18 81 89)) rfl ?_
  refine e_call hk_28 (as := [.ref 88, .int 60]) (rest := [.ref 88, .ref 85]) rfl rfl hk_21 rfl (Nat.le_of_ble_eq_true rfl) rfl (x_row (n := 60) rfl (rU_fresh (by decide +kernel)) rfl rfl (by decide) rfl rfl) ?_
  show e_r 28 29 [.ref 85, s_no] [.ref 88, .ref 85] (c_h xs L 18 82 90) _ _
  refine e_putr hk_28 (ev := 5130) rfl rfl rfl rfl rfl ?_
  show e_r 28 32 [.ref 85, s_no] [] (c_h xs L 18 83 90) _ _
  refine e_go hk_28 1 (c := (33, [.ref 85, s_no], [.ref 85], c_h xs L 18 83 90)) rfl ?_
  refine e_newo hk_28 rfl rfl rfl (rU_fresh (by decide +kernel)) rfl rfl ?_
  show e_r 28 36 [.ref 85, s_no] [.ref 90, .ref 85] (c_h xs L 18 83 91) _ _
  refine e_go hk_28 2 (c := (39, [.ref 85, s_no], [.int 60, .ref 90, .ref 90, .ref 85], c_h xs L 18 83 91)) rfl ?_
  refine e_call hk_28 (as := [.ref 90, .int 60]) (rest := [.ref 90, .ref 85]) rfl rfl hk_21 rfl (Nat.le_of_ble_eq_true rfl) rfl (x_row (n := 60) rfl (rU_fresh (by decide +kernel)) rfl rfl (by decide) rfl rfl) ?_
  show e_r 28 42 [.ref 85, s_no] [.ref 90, .ref 85] (c_h xs L 18 84 92) _ _
  refine e_putr hk_28 (ev := 5138) rfl rfl rfl rfl rfl ?_
  show e_r 28 45 [.ref 85, s_no] [] (c_h xs L 18 85 92) _ _
  refine e_go hk_28 1 (c := (46, [.ref 85, s_no], [.ref 85], c_h xs L 18 85 92)) rfl ?_
  refine e_newo hk_28 rfl rfl rfl (rU_fresh (by decide +kernel)) rfl rfl ?_
  show e_r 28 49 [.ref 85, s_no] [.ref 92, .ref 85] (c_h xs L 18 85 93) _ _
  refine e_go hk_28 2 (c := (52, [.ref 85, s_no], [.int 60, .ref 92, .ref 92, .ref 85], c_h xs L 18 85 93)) rfl ?_
  refine e_call hk_28 (as := [.ref 92, .int 60]) (rest := [.ref 92, .ref 85]) rfl rfl hk_21 rfl (Nat.le_of_ble_eq_true rfl) rfl (x_row (n := 60) rfl (rU_fresh (by decide +kernel)) rfl rfl (by decide) rfl rfl) ?_
  show e_r 28 55 [.ref 85, s_no] [.ref 92, .ref 85] (c_h xs L 18 86 94) _ _
  refine e_putr hk_28 (ev := 5146) rfl rfl rfl rfl rfl ?_
  show e_r 28 58 [.ref 85, s_no] [] (c_h xs L 18 87 94) _ _
  refine e_go hk_28 1 (c := (59, [.ref 85, s_no], [.ref 85], c_h xs L 18 87 94)) rfl ?_
  refine e_newo hk_28 rfl rfl rfl (rU_fresh (by decide +kernel)) rfl rfl ?_
  show e_r 28 62 [.ref 85, s_no] [.ref 94, .ref 85] (c_h xs L 18 87 95) _ _
  refine e_go hk_28 2 (c := (65, [.ref 85, s_no], [.int 60, .ref 94, .ref 94, .ref 85], c_h xs L 18 87 95)) rfl ?_
  refine e_call hk_28 (as := [.ref 94, .int 60]) (rest := [.ref 94, .ref 85]) rfl rfl hk_21 rfl (Nat.le_of_ble_eq_true rfl) rfl (x_row (n := 60) rfl (rU_fresh (by decide +kernel)) rfl rfl (by decide) rfl rfl) ?_
  show e_r 28 68 [.ref 85, s_no] [.ref 94, .ref 85] (c_h xs L 18 88 96) _ _
  refine e_putr hk_28 (ev := 5154) rfl rfl rfl rfl rfl ?_
  show e_r 28 71 [.ref 85, s_no] [] (c_h xs L 18 89 96) _ _
  refine e_go hk_28 1 (c := (72, [.ref 85, s_no], [.ref 85], c_h xs L 18 89 96)) rfl ?_
  refine e_newo hk_28 rfl rfl rfl (rU_fresh (by decide +kernel)) rfl rfl ?_
  show e_r 28 75 [.ref 85, s_no] [.ref 96, .ref 85] (c_h xs L 18 89 97) _ _
  refine e_go hk_28 2 (c := (78, [.ref 85, s_no], [.int 60, .ref 96, .ref 96, .ref 85], c_h xs L 18 89 97)) rfl ?_
  refine e_call hk_28 (as := [.ref 96, .int 60]) (rest := [.ref 96, .ref 85]) rfl rfl hk_21 rfl (Nat.le_of_ble_eq_true rfl) rfl (x_row (n := 60) rfl (rU_fresh (by decide +kernel)) rfl rfl (by decide) rfl rfl) ?_
  show e_r 28 81 [.ref 85, s_no] [.ref 96, .ref 85] (c_h xs L 18 90 98) _ _
  refine e_putr hk_28 (ev := 5162) rfl rfl rfl rfl rfl ?_
  show e_r 28 84 [.ref 85, s_no] [] (c_h xs L 18 91 98) _ _
  refine e_go hk_28 6 (c := (if s_cnd .ge 0 3 = true then 113 else 94, [.ref 85, .int 0], [], c_h xs L 18 91 98)) rfl ?_
  refine e_ge (a := 113) (b := 94) (x := 0) (y := 3) (fun hc91 => absurd hc91 (by decide)) (fun hc91 => ?_)
  refine e_go hk_28 5 (c := (103, [.ref 85, .int 0], [.int 0, .ref 0, .int 0, .ref 86], c_h xs L 18 91 98)) rfl ?_
  refine e_ald hk_28 (a := 0) (j := 0) (n := 3) rfl rfl rfl (by decide) (by decide) ?_
  show e_r 28 104 [.ref 85, .int 0] [.int 70, .int 0, .ref 86] (c_h xs L 18 91 98) _ _
  refine e_call hk_28 (as := [.ref 86, .int 0, .int 70]) (rest := []) rfl rfl hk_23 rfl (Nat.le_of_ble_eq_true rfl) rfl (x_write (r := 86) (a := 87) (n := 3) (x := 70) rfl rfl rfl (by decide) (by decide) (j := 0) (by decide)) ?_
  show e_r 28 107 [.ref 85, .int 0] [] (c_h xs L 19 91 98) _ _
  refine e_go hk_28 6 (c := (if s_cnd .ge 1 3 = true then 113 else 94, [.ref 85, .int 1], [], c_h xs L 19 91 98)) rfl ?_
  refine e_ge (a := 113) (b := 94) (x := 1) (y := 3) (fun hc91 => absurd hc91 (by decide)) (fun hc91 => ?_)
  refine e_go hk_28 5 (c := (103, [.ref 85, .int 1], [.int 1, .ref 0, .int 1, .ref 86], c_h xs L 19 91 98)) rfl ?_
  refine e_ald hk_28 (a := 0) (j := 1) (n := 3) rfl rfl rfl (by decide) (by decide) ?_
  show e_r 28 104 [.ref 85, .int 1] [.int 40, .int 1, .ref 86] (c_h xs L 19 91 98) _ _
  refine e_call hk_28 (as := [.ref 86, .int 1, .int 40]) (rest := []) rfl rfl hk_23 rfl (Nat.le_of_ble_eq_true rfl) rfl (x_write (r := 86) (a := 87) (n := 3) (x := 40) rfl rfl rfl (by decide) (by decide) (j := 1) (by decide)) ?_
  show e_r 28 107 [.ref 85, .int 1] [] (c_h xs L 20 91 98) _ _
  refine e_go hk_28 6 (c := (if s_cnd .ge 2 3 = true then 113 else 94, [.ref 85, .int 2], [], c_h xs L 20 91 98)) rfl ?_
  refine e_ge (a := 113) (b := 94) (x := 2) (y := 3) (fun hc91 => absurd hc91 (by decide)) (fun hc91 => ?_)
  refine e_go hk_28 5 (c := (103, [.ref 85, .int 2], [.int 2, .ref 0, .int 2, .ref 86], c_h xs L 20 91 98)) rfl ?_
  refine e_ald hk_28 (a := 0) (j := 2) (n := 3) rfl rfl rfl (by decide) (by decide) ?_
  show e_r 28 104 [.ref 85, .int 2] [.int 2, .int 2, .ref 86] (c_h xs L 20 91 98) _ _
  refine e_call hk_28 (as := [.ref 86, .int 2, .int 2]) (rest := []) rfl rfl hk_23 rfl (Nat.le_of_ble_eq_true rfl) rfl (x_write (r := 86) (a := 87) (n := 3) (x := 2) rfl rfl rfl (by decide) (by decide) (j := 2) (by decide)) ?_
  show e_r 28 107 [.ref 85, .int 2] [] (c_h xs L 21 91 98) _ _
  refine e_go hk_28 6 (c := (if s_cnd .ge 3 3 = true then 113 else 94, [.ref 85, .int 3], [], c_h xs L 21 91 98)) rfl ?_
  refine e_ge (a := 113) (b := 94) (x := 3) (y := 3) (fun hc91 => ?_) (fun hc91 => absurd (by decide) hc91)
  exact e_ret hk_28 rfl rfl rfl rfl rfl
set_option maxRecDepth 20000 in
theorem k_0_18 {xs : Nat → Int32} {L : Nat} : m_r 0 [.ref 18] (c_h xs L 3 13 19) none (c_h xs L 21 92 98) := by
  refine m_of (ls := [.ref 18, s_no]) hk_0 rfl rfl rfl ?_
  refine e_go hk_0 4 (c := (7, [.ref 18, s_no], [.int 6, .ref 18], c_h xs L 3 13 19)) rfl ?_
  refine e_newr hk_0 (m := 6) rfl rfl (by decide) rfl (rU_fresh (by decide +kernel)) rfl rfl ?_
  show e_r 0 10 [.ref 18, s_no] [.ref 19, .ref 18] (c_h xs L 3 13 20) _ _
  refine e_putr hk_0 (ev := 2) rfl rfl rfl rfl rfl ?_
  show e_r 0 13 [.ref 18, s_no] [] (c_h xs L 3 14 20) _ _
  refine e_go hk_0 7 (c := (if s_cnd .ge 0 6 = true then 43 else 24, [.ref 18, .int 0], [], c_h xs L 3 14 20)) rfl ?_
  refine e_ge (a := 43) (b := 24) (x := 0) (y := 6) (fun hc21 => absurd hc21 (by decide)) (fun hc21 => ?_)
  refine e_go hk_0 3 (c := (29, [.ref 18, .int 0], [.int 0, .ref 19], c_h xs L 3 14 20)) rfl ?_
  refine e_newo hk_0 rfl rfl rfl (rU_fresh (by decide +kernel)) rfl rfl ?_
  show e_r 0 32 [.ref 18, .int 0] [.ref 20, .int 0, .ref 19] (c_h xs L 3 14 21) _ _
  refine e_go hk_0 1 (c := (33, [.ref 18, .int 0], [.ref 20, .ref 20, .int 0, .ref 19], c_h xs L 3 14 21)) rfl ?_
  refine e_call hk_0 (as := [.ref 20]) (rest := [.ref 20, .int 0, .ref 19]) rfl rfl hk_28 rfl (Nat.le_of_ble_eq_true rfl) rfl k_28_20 ?_
  show e_r 0 36 [.ref 18, .int 0] [.ref 20, .int 0, .ref 19] (c_h xs L 6 26 33) _ _
  refine e_aast hk_0 (i := 0) rfl rfl rfl rfl (by decide) (by decide) (by decide) (by decide) rfl ?_
  show e_r 0 37 [.ref 18, .int 0] [] (c_h xs L 6 27 33) _ _
  refine e_go hk_0 7 (c := (if s_cnd .ge 1 6 = true then 43 else 24, [.ref 18, .int 1], [], c_h xs L 6 27 33)) rfl ?_
  refine e_ge (a := 43) (b := 24) (x := 1) (y := 6) (fun hc21 => absurd hc21 (by decide)) (fun hc21 => ?_)
  refine e_go hk_0 3 (c := (29, [.ref 18, .int 1], [.int 1, .ref 19], c_h xs L 6 27 33)) rfl ?_
  refine e_newo hk_0 rfl rfl rfl (rU_fresh (by decide +kernel)) rfl rfl ?_
  show e_r 0 32 [.ref 18, .int 1] [.ref 33, .int 1, .ref 19] (c_h xs L 6 27 34) _ _
  refine e_go hk_0 1 (c := (33, [.ref 18, .int 1], [.ref 33, .ref 33, .int 1, .ref 19], c_h xs L 6 27 34)) rfl ?_
  refine e_call hk_0 (as := [.ref 33]) (rest := [.ref 33, .int 1, .ref 19]) rfl rfl hk_28 rfl (Nat.le_of_ble_eq_true rfl) rfl k_28_33 ?_
  show e_r 0 36 [.ref 18, .int 1] [.ref 33, .int 1, .ref 19] (c_h xs L 9 39 46) _ _
  refine e_aast hk_0 (i := 1) rfl rfl rfl rfl (by decide) (by decide) (by decide) (by decide) rfl ?_
  show e_r 0 37 [.ref 18, .int 1] [] (c_h xs L 9 40 46) _ _
  refine e_go hk_0 7 (c := (if s_cnd .ge 2 6 = true then 43 else 24, [.ref 18, .int 2], [], c_h xs L 9 40 46)) rfl ?_
  refine e_ge (a := 43) (b := 24) (x := 2) (y := 6) (fun hc21 => absurd hc21 (by decide)) (fun hc21 => ?_)
  refine e_go hk_0 3 (c := (29, [.ref 18, .int 2], [.int 2, .ref 19], c_h xs L 9 40 46)) rfl ?_
  refine e_newo hk_0 rfl rfl rfl (rU_fresh (by decide +kernel)) rfl rfl ?_
  show e_r 0 32 [.ref 18, .int 2] [.ref 46, .int 2, .ref 19] (c_h xs L 9 40 47) _ _
  refine e_go hk_0 1 (c := (33, [.ref 18, .int 2], [.ref 46, .ref 46, .int 2, .ref 19], c_h xs L 9 40 47)) rfl ?_
  refine e_call hk_0 (as := [.ref 46]) (rest := [.ref 46, .int 2, .ref 19]) rfl rfl hk_28 rfl (Nat.le_of_ble_eq_true rfl) rfl k_28_46 ?_
  show e_r 0 36 [.ref 18, .int 2] [.ref 46, .int 2, .ref 19] (c_h xs L 12 52 59) _ _
  refine e_aast hk_0 (i := 2) rfl rfl rfl rfl (by decide) (by decide) (by decide) (by decide) rfl ?_
  show e_r 0 37 [.ref 18, .int 2] [] (c_h xs L 12 53 59) _ _
  refine e_go hk_0 7 (c := (if s_cnd .ge 3 6 = true then 43 else 24, [.ref 18, .int 3], [], c_h xs L 12 53 59)) rfl ?_
  refine e_ge (a := 43) (b := 24) (x := 3) (y := 6) (fun hc21 => absurd hc21 (by decide)) (fun hc21 => ?_)
  refine e_go hk_0 3 (c := (29, [.ref 18, .int 3], [.int 3, .ref 19], c_h xs L 12 53 59)) rfl ?_
  refine e_newo hk_0 rfl rfl rfl (rU_fresh (by decide +kernel)) rfl rfl ?_
  show e_r 0 32 [.ref 18, .int 3] [.ref 59, .int 3, .ref 19] (c_h xs L 12 53 60) _ _
  refine e_go hk_0 1 (c := (33, [.ref 18, .int 3], [.ref 59, .ref 59, .int 3, .ref 19], c_h xs L 12 53 60)) rfl ?_
  refine e_call hk_0 (as := [.ref 59]) (rest := [.ref 59, .int 3, .ref 19]) rfl rfl hk_28 rfl (Nat.le_of_ble_eq_true rfl) rfl k_28_59 ?_
  show e_r 0 36 [.ref 18, .int 3] [.ref 59, .int 3, .ref 19] (c_h xs L 15 65 72) _ _
  refine e_aast hk_0 (i := 3) rfl rfl rfl rfl (by decide) (by decide) (by decide) (by decide) rfl ?_
  show e_r 0 37 [.ref 18, .int 3] [] (c_h xs L 15 66 72) _ _
  refine e_go hk_0 7 (c := (if s_cnd .ge 4 6 = true then 43 else 24, [.ref 18, .int 4], [], c_h xs L 15 66 72)) rfl ?_
  refine e_ge (a := 43) (b := 24) (x := 4) (y := 6) (fun hc21 => absurd hc21 (by decide)) (fun hc21 => ?_)
  refine e_go hk_0 3 (c := (29, [.ref 18, .int 4], [.int 4, .ref 19], c_h xs L 15 66 72)) rfl ?_
  refine e_newo hk_0 rfl rfl rfl (rU_fresh (by decide +kernel)) rfl rfl ?_
  show e_r 0 32 [.ref 18, .int 4] [.ref 72, .int 4, .ref 19] (c_h xs L 15 66 73) _ _
  refine e_go hk_0 1 (c := (33, [.ref 18, .int 4], [.ref 72, .ref 72, .int 4, .ref 19], c_h xs L 15 66 73)) rfl ?_
  refine e_call hk_0 (as := [.ref 72]) (rest := [.ref 72, .int 4, .ref 19]) rfl rfl hk_28 rfl (Nat.le_of_ble_eq_true rfl) rfl k_28_72 ?_
  show e_r 0 36 [.ref 18, .int 4] [.ref 72, .int 4, .ref 19] (c_h xs L 18 78 85) _ _
  refine e_aast hk_0 (i := 4) rfl rfl rfl rfl (by decide) (by decide) (by decide) (by decide) rfl ?_
  show e_r 0 37 [.ref 18, .int 4] [] (c_h xs L 18 79 85) _ _
  refine e_go hk_0 7 (c := (if s_cnd .ge 5 6 = true then 43 else 24, [.ref 18, .int 5], [], c_h xs L 18 79 85)) rfl ?_
  refine e_ge (a := 43) (b := 24) (x := 5) (y := 6) (fun hc21 => absurd hc21 (by decide)) (fun hc21 => ?_)
  refine e_go hk_0 3 (c := (29, [.ref 18, .int 5], [.int 5, .ref 19], c_h xs L 18 79 85)) rfl ?_
  refine e_newo hk_0 rfl rfl rfl (rU_fresh (by decide +kernel)) rfl rfl ?_
  show e_r 0 32 [.ref 18, .int 5] [.ref 85, .int 5, .ref 19] (c_h xs L 18 79 86) _ _
  refine e_go hk_0 1 (c := (33, [.ref 18, .int 5], [.ref 85, .ref 85, .int 5, .ref 19], c_h xs L 18 79 86)) rfl ?_
  refine e_call hk_0 (as := [.ref 85]) (rest := [.ref 85, .int 5, .ref 19]) rfl rfl hk_28 rfl (Nat.le_of_ble_eq_true rfl) rfl k_28_85 ?_
  show e_r 0 36 [.ref 18, .int 5] [.ref 85, .int 5, .ref 19] (c_h xs L 21 91 98) _ _
  refine e_aast hk_0 (i := 5) rfl rfl rfl rfl (by decide) (by decide) (by decide) (by decide) rfl ?_
  show e_r 0 37 [.ref 18, .int 5] [] (c_h xs L 21 92 98) _ _
  refine e_go hk_0 7 (c := (if s_cnd .ge 6 6 = true then 43 else 24, [.ref 18, .int 6], [], c_h xs L 21 92 98)) rfl ?_
  refine e_ge (a := 43) (b := 24) (x := 6) (y := 6) (fun hc21 => ?_) (fun hc21 => absurd (by decide) hc21)
  exact e_ret hk_0 rfl rfl rfl rfl rfl
set_option maxRecDepth 20000 in
theorem k_17_99 {xs : Nat → Int32} {L : Nat} : m_r 17 [.ref 99] (c_h xs L 21 94 100) none (c_h xs L 21 96 102) := by
  refine m_of (ls := [.ref 99]) hk_17 rfl rfl rfl ?_
  refine e_go hk_17 3 (c := (5, [.ref 99], [.ref 99], c_h xs L 21 94 100)) rfl ?_
  refine e_newo hk_17 rfl rfl rfl (rU_fresh (by decide +kernel)) rfl rfl ?_
  show e_r 17 8 [.ref 99] [.ref 100, .ref 99] (c_h xs L 21 94 101) _ _
  refine e_go hk_17 2 (c := (11, [.ref 99], [.int 80, .ref 100, .ref 100, .ref 99], c_h xs L 21 94 101)) rfl ?_
  refine e_call hk_17 (as := [.ref 100, .int 80]) (rest := [.ref 100, .ref 99]) rfl rfl hk_21 rfl (Nat.le_of_ble_eq_true rfl) rfl (x_row (n := 80) rfl (rU_fresh (by decide +kernel)) rfl rfl (by decide) rfl rfl) ?_
  show e_r 17 14 [.ref 99] [.ref 100, .ref 99] (c_h xs L 21 95 102) _ _
  refine e_putr hk_17 (ev := 2050) rfl rfl rfl rfl rfl ?_
  show e_r 17 17 [.ref 99] [] (c_h xs L 21 96 102) _ _
  exact e_ret hk_17 rfl rfl rfl rfl rfl
set_option maxRecDepth 20000 in
theorem k_5_102 {xs : Nat → Int32} {L : Nat} : m_r 5 [.ref 102] (c_h xs L 21 97 103) none (c_h xs L 21 97 103) := by
  refine m_of (ls := [.ref 102]) hk_5 rfl rfl rfl ?_
  refine e_go hk_5 2 (c := (4, [.ref 102], [], c_h xs L 21 97 103)) rfl ?_
  exact e_ret hk_5 rfl rfl rfl rfl rfl
set_option maxRecDepth 20000 in
theorem k_28_104 {xs : Nat → Int32} {L : Nat} : m_r 28 [.ref 104] (c_h xs L 21 98 105) none (c_h xs L 24 110 117) := by
  refine m_of (ls := [.ref 104, s_no]) hk_28 rfl rfl rfl ?_
  refine e_go hk_28 3 (c := (5, [.ref 104, s_no], [.ref 104], c_h xs L 21 98 105)) rfl ?_
  refine e_newo hk_28 rfl rfl rfl (rU_fresh (by decide +kernel)) rfl rfl ?_
  show e_r 28 8 [.ref 104, s_no] [.ref 105, .ref 104] (c_h xs L 21 98 106) _ _
  refine e_go hk_28 3 (c := (13, [.ref 104, s_no], [.int 3, .ref 105, .ref 105, .ref 104], c_h xs L 21 98 106)) rfl ?_
  refine e_call hk_28 (as := [.ref 105, .int 3]) (rest := [.ref 105, .ref 104]) rfl rfl hk_21 rfl (Nat.le_of_ble_eq_true rfl) rfl (x_row (n := 3) rfl (rU_fresh (by decide +kernel)) rfl rfl (by decide) rfl rfl) ?_
  show e_r 28 16 [.ref 104, s_no] [.ref 105, .ref 104] (c_h xs L 21 99 107) _ _
  refine e_putr hk_28 (ev := 5122) rfl rfl rfl rfl rfl ?_
  show e_r 28 19 [.ref 104, s_no] [] (c_h xs L 21 100 107) _ _
  refine e_go hk_28 1 (c := (20, [.ref 104, s_no], [.ref 104], c_h xs L 21 100 107)) rfl ?_
  refine e_newo hk_28 rfl rfl rfl (rU_fresh (by decide +kernel)) rfl rfl ?_
  show e_r 28 23 [.ref 104, s_no] [.ref 107, .ref 104] (c_h xs L 21 100 108) _ _
  refine e_go hk_28 2 (c := (26, [.ref 104, s_no], [.int 60, .ref 107, .ref 107, .ref 104], c_h xs L 21 100 108)) rfl ?_
  refine e_call hk_28 (as := [.ref 107, .int 60]) (rest := [.ref 107, .ref 104]) rfl rfl hk_21 rfl (Nat.le_of_ble_eq_true rfl) rfl (x_row (n := 60) rfl (rU_fresh (by decide +kernel)) rfl rfl (by decide) rfl rfl) ?_
  show e_r 28 29 [.ref 104, s_no] [.ref 107, .ref 104] (c_h xs L 21 101 109) _ _
  refine e_putr hk_28 (ev := 5130) rfl rfl rfl rfl rfl ?_
  show e_r 28 32 [.ref 104, s_no] [] (c_h xs L 21 102 109) _ _
  refine e_go hk_28 1 (c := (33, [.ref 104, s_no], [.ref 104], c_h xs L 21 102 109)) rfl ?_
  refine e_newo hk_28 rfl rfl rfl (rU_fresh (by decide +kernel)) rfl rfl ?_
  show e_r 28 36 [.ref 104, s_no] [.ref 109, .ref 104] (c_h xs L 21 102 110) _ _
  refine e_go hk_28 2 (c := (39, [.ref 104, s_no], [.int 60, .ref 109, .ref 109, .ref 104], c_h xs L 21 102 110)) rfl ?_
  refine e_call hk_28 (as := [.ref 109, .int 60]) (rest := [.ref 109, .ref 104]) rfl rfl hk_21 rfl (Nat.le_of_ble_eq_true rfl) rfl (x_row (n := 60) rfl (rU_fresh (by decide +kernel)) rfl rfl (by decide) rfl rfl) ?_
  show e_r 28 42 [.ref 104, s_no] [.ref 109, .ref 104] (c_h xs L 21 103 111) _ _
  refine e_putr hk_28 (ev := 5138) rfl rfl rfl rfl rfl ?_
  show e_r 28 45 [.ref 104, s_no] [] (c_h xs L 21 104 111) _ _
  refine e_go hk_28 1 (c := (46, [.ref 104, s_no], [.ref 104], c_h xs L 21 104 111)) rfl ?_
  refine e_newo hk_28 rfl rfl rfl (rU_fresh (by decide +kernel)) rfl rfl ?_
  show e_r 28 49 [.ref 104, s_no] [.ref 111, .ref 104] (c_h xs L 21 104 112) _ _
  refine e_go hk_28 2 (c := (52, [.ref 104, s_no], [.int 60, .ref 111, .ref 111, .ref 104], c_h xs L 21 104 112)) rfl ?_
  refine e_call hk_28 (as := [.ref 111, .int 60]) (rest := [.ref 111, .ref 104]) rfl rfl hk_21 rfl (Nat.le_of_ble_eq_true rfl) rfl (x_row (n := 60) rfl (rU_fresh (by decide +kernel)) rfl rfl (by decide) rfl rfl) ?_
  show e_r 28 55 [.ref 104, s_no] [.ref 111, .ref 104] (c_h xs L 21 105 113) _ _
  refine e_putr hk_28 (ev := 5146) rfl rfl rfl rfl rfl ?_
  show e_r 28 58 [.ref 104, s_no] [] (c_h xs L 21 106 113) _ _
  refine e_go hk_28 1 (c := (59, [.ref 104, s_no], [.ref 104], c_h xs L 21 106 113)) rfl ?_
  refine e_newo hk_28 rfl rfl rfl (rU_fresh (by decide +kernel)) rfl rfl ?_
  show e_r 28 62 [.ref 104, s_no] [.ref 113, .ref 104] (c_h xs L 21 106 114) _ _
  refine e_go hk_28 2 (c := (65, [.ref 104, s_no], [.int 60, .ref 113, .ref 113, .ref 104], c_h xs L 21 106 114)) rfl ?_
  refine e_call hk_28 (as := [.ref 113, .int 60]) (rest := [.ref 113, .ref 104]) rfl rfl hk_21 rfl (Nat.le_of_ble_eq_true rfl) rfl (x_row (n := 60) rfl (rU_fresh (by decide +kernel)) rfl rfl (by decide) rfl rfl) ?_
  show e_r 28 68 [.ref 104, s_no] [.ref 113, .ref 104] (c_h xs L 21 107 115) _ _
  refine e_putr hk_28 (ev := 5154) rfl rfl rfl rfl rfl ?_
  show e_r 28 71 [.ref 104, s_no] [] (c_h xs L 21 108 115) _ _
  refine e_go hk_28 1 (c := (72, [.ref 104, s_no], [.ref 104], c_h xs L 21 108 115)) rfl ?_
  refine e_newo hk_28 rfl rfl rfl (rU_fresh (by decide +kernel)) rfl rfl ?_
  show e_r 28 75 [.ref 104, s_no] [.ref 115, .ref 104] (c_h xs L 21 108 116) _ _
  refine e_go hk_28 2 (c := (78, [.ref 104, s_no], [.int 60, .ref 115, .ref 115, .ref 104], c_h xs L 21 108 116)) rfl ?_
  refine e_call hk_28 (as := [.ref 115, .int 60]) (rest := [.ref 115, .ref 104]) rfl rfl hk_21 rfl (Nat.le_of_ble_eq_true rfl) rfl (x_row (n := 60) rfl (rU_fresh (by decide +kernel)) rfl rfl (by decide) rfl rfl) ?_
  show e_r 28 81 [.ref 104, s_no] [.ref 115, .ref 104] (c_h xs L 21 109 117) _ _
  refine e_putr hk_28 (ev := 5162) rfl rfl rfl rfl rfl ?_
  show e_r 28 84 [.ref 104, s_no] [] (c_h xs L 21 110 117) _ _
  refine e_go hk_28 6 (c := (if s_cnd .ge 0 3 = true then 113 else 94, [.ref 104, .int 0], [], c_h xs L 21 110 117)) rfl ?_
  refine e_ge (a := 113) (b := 94) (x := 0) (y := 3) (fun hc91 => absurd hc91 (by decide)) (fun hc91 => ?_)
  refine e_go hk_28 5 (c := (103, [.ref 104, .int 0], [.int 0, .ref 0, .int 0, .ref 105], c_h xs L 21 110 117)) rfl ?_
  refine e_ald hk_28 (a := 0) (j := 0) (n := 3) rfl rfl rfl (by decide) (by decide) ?_
  show e_r 28 104 [.ref 104, .int 0] [.int 70, .int 0, .ref 105] (c_h xs L 21 110 117) _ _
  refine e_call hk_28 (as := [.ref 105, .int 0, .int 70]) (rest := []) rfl rfl hk_23 rfl (Nat.le_of_ble_eq_true rfl) rfl (x_write (r := 105) (a := 106) (n := 3) (x := 70) rfl rfl rfl (by decide) (by decide) (j := 0) (by decide)) ?_
  show e_r 28 107 [.ref 104, .int 0] [] (c_h xs L 22 110 117) _ _
  refine e_go hk_28 6 (c := (if s_cnd .ge 1 3 = true then 113 else 94, [.ref 104, .int 1], [], c_h xs L 22 110 117)) rfl ?_
  refine e_ge (a := 113) (b := 94) (x := 1) (y := 3) (fun hc91 => absurd hc91 (by decide)) (fun hc91 => ?_)
  refine e_go hk_28 5 (c := (103, [.ref 104, .int 1], [.int 1, .ref 0, .int 1, .ref 105], c_h xs L 22 110 117)) rfl ?_
  refine e_ald hk_28 (a := 0) (j := 1) (n := 3) rfl rfl rfl (by decide) (by decide) ?_
  show e_r 28 104 [.ref 104, .int 1] [.int 40, .int 1, .ref 105] (c_h xs L 22 110 117) _ _
  refine e_call hk_28 (as := [.ref 105, .int 1, .int 40]) (rest := []) rfl rfl hk_23 rfl (Nat.le_of_ble_eq_true rfl) rfl (x_write (r := 105) (a := 106) (n := 3) (x := 40) rfl rfl rfl (by decide) (by decide) (j := 1) (by decide)) ?_
  show e_r 28 107 [.ref 104, .int 1] [] (c_h xs L 23 110 117) _ _
  refine e_go hk_28 6 (c := (if s_cnd .ge 2 3 = true then 113 else 94, [.ref 104, .int 2], [], c_h xs L 23 110 117)) rfl ?_
  refine e_ge (a := 113) (b := 94) (x := 2) (y := 3) (fun hc91 => absurd hc91 (by decide)) (fun hc91 => ?_)
  refine e_go hk_28 5 (c := (103, [.ref 104, .int 2], [.int 2, .ref 0, .int 2, .ref 105], c_h xs L 23 110 117)) rfl ?_
  refine e_ald hk_28 (a := 0) (j := 2) (n := 3) rfl rfl rfl (by decide) (by decide) ?_
  show e_r 28 104 [.ref 104, .int 2] [.int 2, .int 2, .ref 105] (c_h xs L 23 110 117) _ _
  refine e_call hk_28 (as := [.ref 105, .int 2, .int 2]) (rest := []) rfl rfl hk_23 rfl (Nat.le_of_ble_eq_true rfl) rfl (x_write (r := 105) (a := 106) (n := 3) (x := 2) rfl rfl rfl (by decide) (by decide) (j := 2) (by decide)) ?_
  show e_r 28 107 [.ref 104, .int 2] [] (c_h xs L 24 110 117) _ _
  refine e_go hk_28 6 (c := (if s_cnd .ge 3 3 = true then 113 else 94, [.ref 104, .int 3], [], c_h xs L 24 110 117)) rfl ?_
  refine e_ge (a := 113) (b := 94) (x := 3) (y := 3) (fun hc91 => ?_) (fun hc91 => absurd (by decide) hc91)
  exact e_ret hk_28 rfl rfl rfl rfl rfl
set_option maxRecDepth 20000 in
theorem k_27_103 {xs : Nat → Int32} {L : Nat} : m_r 27 [.ref 103] (c_h xs L 21 98 104) none (c_h xs L 24 111 117) := by
  refine m_of (ls := [.ref 103]) hk_27 rfl rfl rfl ?_
  refine e_go hk_27 3 (c := (5, [.ref 103], [.ref 103], c_h xs L 21 98 104)) rfl ?_
  refine e_newo hk_27 rfl rfl rfl (rU_fresh (by decide +kernel)) rfl rfl ?_
  show e_r 27 8 [.ref 103] [.ref 104, .ref 103] (c_h xs L 21 98 105) _ _
  refine e_go hk_27 1 (c := (9, [.ref 103], [.ref 104, .ref 104, .ref 103], c_h xs L 21 98 105)) rfl ?_
  refine e_call hk_27 (as := [.ref 104]) (rest := [.ref 104, .ref 103]) rfl rfl hk_28 rfl (Nat.le_of_ble_eq_true rfl) rfl k_28_104 ?_
  show e_r 27 12 [.ref 103] [.ref 104, .ref 103] (c_h xs L 24 110 117) _ _
  refine e_putr hk_27 (ev := 4098) rfl rfl rfl rfl rfl ?_
  show e_r 27 15 [.ref 103] [] (c_h xs L 24 111 117) _ _
  exact e_ret hk_27 rfl rfl rfl rfl rfl
set_option maxRecDepth 20000 in
theorem k_28_118 {xs : Nat → Int32} {L : Nat} : m_r 28 [.ref 118] (c_h xs L 24 112 119) none (c_h xs L 27 124 131) := by
  refine m_of (ls := [.ref 118, s_no]) hk_28 rfl rfl rfl ?_
  refine e_go hk_28 3 (c := (5, [.ref 118, s_no], [.ref 118], c_h xs L 24 112 119)) rfl ?_
  refine e_newo hk_28 rfl rfl rfl (rU_fresh (by decide +kernel)) rfl rfl ?_
  show e_r 28 8 [.ref 118, s_no] [.ref 119, .ref 118] (c_h xs L 24 112 120) _ _
  refine e_go hk_28 3 (c := (13, [.ref 118, s_no], [.int 3, .ref 119, .ref 119, .ref 118], c_h xs L 24 112 120)) rfl ?_
  refine e_call hk_28 (as := [.ref 119, .int 3]) (rest := [.ref 119, .ref 118]) rfl rfl hk_21 rfl (Nat.le_of_ble_eq_true rfl) rfl (x_row (n := 3) rfl (rU_fresh (by decide +kernel)) rfl rfl (by decide) rfl rfl) ?_
  show e_r 28 16 [.ref 118, s_no] [.ref 119, .ref 118] (c_h xs L 24 113 121) _ _
  refine e_putr hk_28 (ev := 5122) rfl rfl rfl rfl rfl ?_
  show e_r 28 19 [.ref 118, s_no] [] (c_h xs L 24 114 121) _ _
  refine e_go hk_28 1 (c := (20, [.ref 118, s_no], [.ref 118], c_h xs L 24 114 121)) rfl ?_
  refine e_newo hk_28 rfl rfl rfl (rU_fresh (by decide +kernel)) rfl rfl ?_
  show e_r 28 23 [.ref 118, s_no] [.ref 121, .ref 118] (c_h xs L 24 114 122) _ _
  refine e_go hk_28 2 (c := (26, [.ref 118, s_no], [.int 60, .ref 121, .ref 121, .ref 118], c_h xs L 24 114 122)) rfl ?_
  refine e_call hk_28 (as := [.ref 121, .int 60]) (rest := [.ref 121, .ref 118]) rfl rfl hk_21 rfl (Nat.le_of_ble_eq_true rfl) rfl (x_row (n := 60) rfl (rU_fresh (by decide +kernel)) rfl rfl (by decide) rfl rfl) ?_
  show e_r 28 29 [.ref 118, s_no] [.ref 121, .ref 118] (c_h xs L 24 115 123) _ _
  refine e_putr hk_28 (ev := 5130) rfl rfl rfl rfl rfl ?_
  show e_r 28 32 [.ref 118, s_no] [] (c_h xs L 24 116 123) _ _
  refine e_go hk_28 1 (c := (33, [.ref 118, s_no], [.ref 118], c_h xs L 24 116 123)) rfl ?_
  refine e_newo hk_28 rfl rfl rfl (rU_fresh (by decide +kernel)) rfl rfl ?_
  show e_r 28 36 [.ref 118, s_no] [.ref 123, .ref 118] (c_h xs L 24 116 124) _ _
  refine e_go hk_28 2 (c := (39, [.ref 118, s_no], [.int 60, .ref 123, .ref 123, .ref 118], c_h xs L 24 116 124)) rfl ?_
  refine e_call hk_28 (as := [.ref 123, .int 60]) (rest := [.ref 123, .ref 118]) rfl rfl hk_21 rfl (Nat.le_of_ble_eq_true rfl) rfl (x_row (n := 60) rfl (rU_fresh (by decide +kernel)) rfl rfl (by decide) rfl rfl) ?_
  show e_r 28 42 [.ref 118, s_no] [.ref 123, .ref 118] (c_h xs L 24 117 125) _ _
  refine e_putr hk_28 (ev := 5138) rfl rfl rfl rfl rfl ?_
  show e_r 28 45 [.ref 118, s_no] [] (c_h xs L 24 118 125) _ _
  refine e_go hk_28 1 (c := (46, [.ref 118, s_no], [.ref 118], c_h xs L 24 118 125)) rfl ?_
  refine e_newo hk_28 rfl rfl rfl (rU_fresh (by decide +kernel)) rfl rfl ?_
  show e_r 28 49 [.ref 118, s_no] [.ref 125, .ref 118] (c_h xs L 24 118 126) _ _
  refine e_go hk_28 2 (c := (52, [.ref 118, s_no], [.int 60, .ref 125, .ref 125, .ref 118], c_h xs L 24 118 126)) rfl ?_
  refine e_call hk_28 (as := [.ref 125, .int 60]) (rest := [.ref 125, .ref 118]) rfl rfl hk_21 rfl (Nat.le_of_ble_eq_true rfl) rfl (x_row (n := 60) rfl (rU_fresh (by decide +kernel)) rfl rfl (by decide) rfl rfl) ?_
  show e_r 28 55 [.ref 118, s_no] [.ref 125, .ref 118] (c_h xs L 24 119 127) _ _
  refine e_putr hk_28 (ev := 5146) rfl rfl rfl rfl rfl ?_
  show e_r 28 58 [.ref 118, s_no] [] (c_h xs L 24 120 127) _ _
  refine e_go hk_28 1 (c := (59, [.ref 118, s_no], [.ref 118], c_h xs L 24 120 127)) rfl ?_
  refine e_newo hk_28 rfl rfl rfl (rU_fresh (by decide +kernel)) rfl rfl ?_
  show e_r 28 62 [.ref 118, s_no] [.ref 127, .ref 118] (c_h xs L 24 120 128) _ _
  refine e_go hk_28 2 (c := (65, [.ref 118, s_no], [.int 60, .ref 127, .ref 127, .ref 118], c_h xs L 24 120 128)) rfl ?_
  refine e_call hk_28 (as := [.ref 127, .int 60]) (rest := [.ref 127, .ref 118]) rfl rfl hk_21 rfl (Nat.le_of_ble_eq_true rfl) rfl (x_row (n := 60) rfl (rU_fresh (by decide +kernel)) rfl rfl (by decide) rfl rfl) ?_
  show e_r 28 68 [.ref 118, s_no] [.ref 127, .ref 118] (c_h xs L 24 121 129) _ _
  refine e_putr hk_28 (ev := 5154) rfl rfl rfl rfl rfl ?_
  show e_r 28 71 [.ref 118, s_no] [] (c_h xs L 24 122 129) _ _
  refine e_go hk_28 1 (c := (72, [.ref 118, s_no], [.ref 118], c_h xs L 24 122 129)) rfl ?_
  refine e_newo hk_28 rfl rfl rfl (rU_fresh (by decide +kernel)) rfl rfl ?_
  show e_r 28 75 [.ref 118, s_no] [.ref 129, .ref 118] (c_h xs L 24 122 130) _ _
  refine e_go hk_28 2 (c := (78, [.ref 118, s_no], [.int 60, .ref 129, .ref 129, .ref 118], c_h xs L 24 122 130)) rfl ?_
  refine e_call hk_28 (as := [.ref 129, .int 60]) (rest := [.ref 129, .ref 118]) rfl rfl hk_21 rfl (Nat.le_of_ble_eq_true rfl) rfl (x_row (n := 60) rfl (rU_fresh (by decide +kernel)) rfl rfl (by decide) rfl rfl) ?_
  show e_r 28 81 [.ref 118, s_no] [.ref 129, .ref 118] (c_h xs L 24 123 131) _ _
  refine e_putr hk_28 (ev := 5162) rfl rfl rfl rfl rfl ?_
  show e_r 28 84 [.ref 118, s_no] [] (c_h xs L 24 124 131) _ _
  refine e_go hk_28 6 (c := (if s_cnd .ge 0 3 = true then 113 else 94, [.ref 118, .int 0], [], c_h xs L 24 124 131)) rfl ?_
  refine e_ge (a := 113) (b := 94) (x := 0) (y := 3) (fun hc91 => absurd hc91 (by decide)) (fun hc91 => ?_)
  refine e_go hk_28 5 (c := (103, [.ref 118, .int 0], [.int 0, .ref 0, .int 0, .ref 119], c_h xs L 24 124 131)) rfl ?_
  refine e_ald hk_28 (a := 0) (j := 0) (n := 3) rfl rfl rfl (by decide) (by decide) ?_
  show e_r 28 104 [.ref 118, .int 0] [.int 70, .int 0, .ref 119] (c_h xs L 24 124 131) _ _
  refine e_call hk_28 (as := [.ref 119, .int 0, .int 70]) (rest := []) rfl rfl hk_23 rfl (Nat.le_of_ble_eq_true rfl) rfl (x_write (r := 119) (a := 120) (n := 3) (x := 70) rfl rfl rfl (by decide) (by decide) (j := 0) (by decide)) ?_
  show e_r 28 107 [.ref 118, .int 0] [] (c_h xs L 25 124 131) _ _
  refine e_go hk_28 6 (c := (if s_cnd .ge 1 3 = true then 113 else 94, [.ref 118, .int 1], [], c_h xs L 25 124 131)) rfl ?_
  refine e_ge (a := 113) (b := 94) (x := 1) (y := 3) (fun hc91 => absurd hc91 (by decide)) (fun hc91 => ?_)
  refine e_go hk_28 5 (c := (103, [.ref 118, .int 1], [.int 1, .ref 0, .int 1, .ref 119], c_h xs L 25 124 131)) rfl ?_
  refine e_ald hk_28 (a := 0) (j := 1) (n := 3) rfl rfl rfl (by decide) (by decide) ?_
  show e_r 28 104 [.ref 118, .int 1] [.int 40, .int 1, .ref 119] (c_h xs L 25 124 131) _ _
  refine e_call hk_28 (as := [.ref 119, .int 1, .int 40]) (rest := []) rfl rfl hk_23 rfl (Nat.le_of_ble_eq_true rfl) rfl (x_write (r := 119) (a := 120) (n := 3) (x := 40) rfl rfl rfl (by decide) (by decide) (j := 1) (by decide)) ?_
  show e_r 28 107 [.ref 118, .int 1] [] (c_h xs L 26 124 131) _ _
  refine e_go hk_28 6 (c := (if s_cnd .ge 2 3 = true then 113 else 94, [.ref 118, .int 2], [], c_h xs L 26 124 131)) rfl ?_
  refine e_ge (a := 113) (b := 94) (x := 2) (y := 3) (fun hc91 => absurd hc91 (by decide)) (fun hc91 => ?_)
  refine e_go hk_28 5 (c := (103, [.ref 118, .int 2], [.int 2, .ref 0, .int 2, .ref 119], c_h xs L 26 124 131)) rfl ?_
  refine e_ald hk_28 (a := 0) (j := 2) (n := 3) rfl rfl rfl (by decide) (by decide) ?_
  show e_r 28 104 [.ref 118, .int 2] [.int 2, .int 2, .ref 119] (c_h xs L 26 124 131) _ _
  refine e_call hk_28 (as := [.ref 119, .int 2, .int 2]) (rest := []) rfl rfl hk_23 rfl (Nat.le_of_ble_eq_true rfl) rfl (x_write (r := 119) (a := 120) (n := 3) (x := 2) rfl rfl rfl (by decide) (by decide) (j := 2) (by decide)) ?_
  show e_r 28 107 [.ref 118, .int 2] [] (c_h xs L 27 124 131) _ _
  refine e_go hk_28 6 (c := (if s_cnd .ge 3 3 = true then 113 else 94, [.ref 118, .int 3], [], c_h xs L 27 124 131)) rfl ?_
  refine e_ge (a := 113) (b := 94) (x := 3) (y := 3) (fun hc91 => ?_) (fun hc91 => absurd (by decide) hc91)
  exact e_ret hk_28 rfl rfl rfl rfl rfl
set_option maxRecDepth 20000 in
theorem k_27_117 {xs : Nat → Int32} {L : Nat} : m_r 27 [.ref 117] (c_h xs L 24 112 118) none (c_h xs L 27 125 131) := by
  refine m_of (ls := [.ref 117]) hk_27 rfl rfl rfl ?_
  refine e_go hk_27 3 (c := (5, [.ref 117], [.ref 117], c_h xs L 24 112 118)) rfl ?_
  refine e_newo hk_27 rfl rfl rfl (rU_fresh (by decide +kernel)) rfl rfl ?_
  show e_r 27 8 [.ref 117] [.ref 118, .ref 117] (c_h xs L 24 112 119) _ _
  refine e_go hk_27 1 (c := (9, [.ref 117], [.ref 118, .ref 118, .ref 117], c_h xs L 24 112 119)) rfl ?_
  refine e_call hk_27 (as := [.ref 118]) (rest := [.ref 118, .ref 117]) rfl rfl hk_28 rfl (Nat.le_of_ble_eq_true rfl) rfl k_28_118 ?_
  show e_r 27 12 [.ref 117] [.ref 118, .ref 117] (c_h xs L 27 124 131) _ _
  refine e_putr hk_27 (ev := 4098) rfl rfl rfl rfl rfl ?_
  show e_r 27 15 [.ref 117] [] (c_h xs L 27 125 131) _ _
  exact e_ret hk_27 rfl rfl rfl rfl rfl
set_option maxRecDepth 20000 in
theorem k_56_4 {xs : Nat → Int32} {L : Nat} : m_r 56 [.ref 4] (c_h xs L 0 0 5) none (c_h xs L 27 126 131) := by
  refine m_of (ls := [.ref 4, s_no]) hk_56 rfl rfl rfl ?_
  refine e_go hk_56 3 (c := (5, [.ref 4, s_no], [.ref 4], c_h xs L 0 0 5)) rfl ?_
  refine e_newo hk_56 rfl rfl rfl (rU_fresh (by decide +kernel)) rfl rfl ?_
  show e_r 56 8 [.ref 4, s_no] [.ref 5, .ref 4] (c_h xs L 0 0 6) _ _
  refine e_go hk_56 1 (c := (9, [.ref 4, s_no], [.ref 5, .ref 5, .ref 4], c_h xs L 0 0 6)) rfl ?_
  refine e_call hk_56 (as := [.ref 5]) (rest := [.ref 5, .ref 4]) rfl rfl hk_28 rfl (Nat.le_of_ble_eq_true rfl) rfl k_28_5 ?_
  show e_r 56 12 [.ref 4, s_no] [.ref 5, .ref 4] (c_h xs L 3 12 18) _ _
  refine e_putr hk_56 (ev := 6146) rfl rfl rfl rfl rfl ?_
  show e_r 56 15 [.ref 4, s_no] [] (c_h xs L 3 13 18) _ _
  refine e_go hk_56 1 (c := (16, [.ref 4, s_no], [.ref 4], c_h xs L 3 13 18)) rfl ?_
  refine e_newo hk_56 rfl rfl rfl (rU_fresh (by decide +kernel)) rfl rfl ?_
  show e_r 56 19 [.ref 4, s_no] [.ref 18, .ref 4] (c_h xs L 3 13 19) _ _
  refine e_go hk_56 1 (c := (20, [.ref 4, s_no], [.ref 18, .ref 18, .ref 4], c_h xs L 3 13 19)) rfl ?_
  refine e_call hk_56 (as := [.ref 18]) (rest := [.ref 18, .ref 4]) rfl rfl hk_0 rfl (Nat.le_of_ble_eq_true rfl) rfl k_0_18 ?_
  show e_r 56 23 [.ref 4, s_no] [.ref 18, .ref 4] (c_h xs L 21 92 98) _ _
  refine e_putr hk_56 (ev := 6154) rfl rfl rfl rfl rfl ?_
  show e_r 56 26 [.ref 4, s_no] [] (c_h xs L 21 93 98) _ _
  refine e_go hk_56 2 (c := (28, [.ref 4, s_no], [.int 2, .ref 4], c_h xs L 21 93 98)) rfl ?_
  refine e_newr hk_56 (m := 2) rfl rfl (by decide) rfl (rU_fresh (by decide +kernel)) rfl rfl ?_
  show e_r 56 31 [.ref 4, s_no] [.ref 98, .ref 4] (c_h xs L 21 93 99) _ _
  refine e_putr hk_56 (ev := 6162) rfl rfl rfl rfl rfl ?_
  show e_r 56 34 [.ref 4, s_no] [] (c_h xs L 21 94 99) _ _
  refine e_go hk_56 1 (c := (35, [.ref 4, s_no], [.ref 4], c_h xs L 21 94 99)) rfl ?_
  refine e_newo hk_56 rfl rfl rfl (rU_fresh (by decide +kernel)) rfl rfl ?_
  show e_r 56 38 [.ref 4, s_no] [.ref 99, .ref 4] (c_h xs L 21 94 100) _ _
  refine e_go hk_56 1 (c := (39, [.ref 4, s_no], [.ref 99, .ref 99, .ref 4], c_h xs L 21 94 100)) rfl ?_
  refine e_call hk_56 (as := [.ref 99]) (rest := [.ref 99, .ref 4]) rfl rfl hk_17 rfl (Nat.le_of_ble_eq_true rfl) rfl k_17_99 ?_
  show e_r 56 42 [.ref 4, s_no] [.ref 99, .ref 4] (c_h xs L 21 96 102) _ _
  refine e_putr hk_56 (ev := 6170) rfl rfl rfl rfl rfl ?_
  show e_r 56 45 [.ref 4, s_no] [] (c_h xs L 21 97 102) _ _
  refine e_go hk_56 1 (c := (46, [.ref 4, s_no], [.ref 4], c_h xs L 21 97 102)) rfl ?_
  refine e_newo hk_56 rfl rfl rfl (rU_fresh (by decide +kernel)) rfl rfl ?_
  show e_r 56 49 [.ref 4, s_no] [.ref 102, .ref 4] (c_h xs L 21 97 103) _ _
  refine e_go hk_56 1 (c := (50, [.ref 4, s_no], [.ref 102, .ref 102, .ref 4], c_h xs L 21 97 103)) rfl ?_
  refine e_call hk_56 (as := [.ref 102]) (rest := [.ref 102, .ref 4]) rfl rfl hk_5 rfl (Nat.le_of_ble_eq_true rfl) rfl k_5_102 ?_
  show e_r 56 53 [.ref 4, s_no] [.ref 102, .ref 4] (c_h xs L 21 97 103) _ _
  refine e_putr hk_56 (ev := 6178) rfl rfl rfl rfl rfl ?_
  show e_r 56 56 [.ref 4, s_no] [] (c_h xs L 21 98 103) _ _
  refine e_go hk_56 7 (c := (if s_cnd .ge 0 2 = true then 86 else 67, [.ref 4, .int 0], [], c_h xs L 21 98 103)) rfl ?_
  refine e_ge (a := 86) (b := 67) (x := 0) (y := 2) (fun hc64 => absurd hc64 (by decide)) (fun hc64 => ?_)
  refine e_go hk_56 3 (c := (72, [.ref 4, .int 0], [.int 0, .ref 98], c_h xs L 21 98 103)) rfl ?_
  refine e_newo hk_56 rfl rfl rfl (rU_fresh (by decide +kernel)) rfl rfl ?_
  show e_r 56 75 [.ref 4, .int 0] [.ref 103, .int 0, .ref 98] (c_h xs L 21 98 104) _ _
  refine e_go hk_56 1 (c := (76, [.ref 4, .int 0], [.ref 103, .ref 103, .int 0, .ref 98], c_h xs L 21 98 104)) rfl ?_
  refine e_call hk_56 (as := [.ref 103]) (rest := [.ref 103, .int 0, .ref 98]) rfl rfl hk_27 rfl (Nat.le_of_ble_eq_true rfl) rfl k_27_103 ?_
  show e_r 56 79 [.ref 4, .int 0] [.ref 103, .int 0, .ref 98] (c_h xs L 24 111 117) _ _
  refine e_aast hk_56 (i := 0) rfl rfl rfl rfl (by decide) (by decide) (by decide) (by decide) rfl ?_
  show e_r 56 80 [.ref 4, .int 0] [] (c_h xs L 24 112 117) _ _
  refine e_go hk_56 7 (c := (if s_cnd .ge 1 2 = true then 86 else 67, [.ref 4, .int 1], [], c_h xs L 24 112 117)) rfl ?_
  refine e_ge (a := 86) (b := 67) (x := 1) (y := 2) (fun hc64 => absurd hc64 (by decide)) (fun hc64 => ?_)
  refine e_go hk_56 3 (c := (72, [.ref 4, .int 1], [.int 1, .ref 98], c_h xs L 24 112 117)) rfl ?_
  refine e_newo hk_56 rfl rfl rfl (rU_fresh (by decide +kernel)) rfl rfl ?_
  show e_r 56 75 [.ref 4, .int 1] [.ref 117, .int 1, .ref 98] (c_h xs L 24 112 118) _ _
  refine e_go hk_56 1 (c := (76, [.ref 4, .int 1], [.ref 117, .ref 117, .int 1, .ref 98], c_h xs L 24 112 118)) rfl ?_
  refine e_call hk_56 (as := [.ref 117]) (rest := [.ref 117, .int 1, .ref 98]) rfl rfl hk_27 rfl (Nat.le_of_ble_eq_true rfl) rfl k_27_117 ?_
  show e_r 56 79 [.ref 4, .int 1] [.ref 117, .int 1, .ref 98] (c_h xs L 27 125 131) _ _
  refine e_aast hk_56 (i := 1) rfl rfl rfl rfl (by decide) (by decide) (by decide) (by decide) rfl ?_
  show e_r 56 80 [.ref 4, .int 1] [] (c_h xs L 27 126 131) _ _
  refine e_go hk_56 7 (c := (if s_cnd .ge 2 2 = true then 86 else 67, [.ref 4, .int 2], [], c_h xs L 27 126 131)) rfl ?_
  refine e_ge (a := 86) (b := 67) (x := 2) (y := 2) (fun hc64 => ?_) (fun hc64 => absurd (by decide) hc64)
  exact e_ret hk_56 rfl rfl rfl rfl rfl
/-- the references behind the constructors -/
def p_0 (j : Nat) : Nat := 20 + 13 * j
theorem rU_in : (List.range 131).all (fun i => (List.range 16).all (fun j => decide (rU 126 i j = s_RR p_0 i j))) = true := by decide +kernel
theorem s_u_b : (List.range 126).all (fun x => decide ((s_u x).1 < 131 ∧ (s_u x).2.1 < 16)) = true := by decide +kernel
theorem s_RF_b : s_RF.all (fun l => decide (l.length ≤ 16)) = true := by decide +kernel
theorem rU_fin : rU 126 = s_RR p_0 := by
  funext i j
  by_cases h : i < 131 ∧ j < 16
  · have h1 := List.all_eq_true.mp rU_in i (List.mem_range.mpr h.1)
    exact of_decide_eq_true (List.all_eq_true.mp h1 j (List.mem_range.mpr h.2))
  · rw [rU_out 126 (fun x hx z => by
      have := of_decide_eq_true (List.all_eq_true.mp s_u_b x (List.mem_range.mpr hx))
      omega)]
    unfold s_RR
    by_cases h19 : i = 19
    · subst h19
      have hj : Nat.blt j 6 = false := by
        cases hb : Nat.blt j 6 with
        | false => rfl
        | true =>
          have := Nat.le_of_ble_eq_true hb
          omega
      rw [hj]
    · have hb : Nat.beq i 19 = false := Bool.eq_false_iff.mpr (fun z => h19 (Nat.eq_of_beq_eq_true z))
      rw [hb]
      dsimp only
      rw [s_nth_eq]
      cases hl : s_RF[i]? with
      | none => rfl
      | some l =>
        dsimp only
        rw [s_nth_eq]
        have hm := List.mem_of_getElem? hl
        have hlen := of_decide_eq_true (List.all_eq_true.mp s_RF_b l hm)
        have hi : i < 131 := (List.getElem?_eq_some_iff.mp hl).1
        rw [List.getElem?_eq_none (by omega)]
abbrev z_0 (xs : Nat → Int32) : Nat → Nat → Int32 := zW xs 27
