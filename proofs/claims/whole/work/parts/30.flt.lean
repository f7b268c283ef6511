/-! Floating numbers: rules; printed by wip/whole/gen/flt.py -/
theorem e_fdiv {k pc : Nat} {r : sM} {cn : Option Nat} {ls rest : List Value} {h h2 : sHp} {v : Option Value} (hk : s_T k = some (r, cn)) {e : sE} {x y : UInt32} (hat : s_at (s_cd r) pc = some e) (hi : e.2.1 = .fdiv) (hf : FP.fdiv x y &&& 0x7fffffff ≤ 0x7f800000) (kk : e_r k (pc + e.2.2.1) ls (.float (FP.fdiv x y) :: rest) h v h2) : e_r k pc ls (.float y :: .float x :: rest) h v h2 := by
  refine e_step (c := (pc + e.2.2.1, ls, .float (FP.fdiv x y) :: rest, h)) hk hat (by rw [hi]; rfl) (by rw [hi]; rfl) ?_ kk
  rw [hi]
  dsimp only [s_x]
  rw [if_pos hf]
theorem e_fmul {k pc : Nat} {r : sM} {cn : Option Nat} {ls rest : List Value} {h h2 : sHp} {v : Option Value} (hk : s_T k = some (r, cn)) {e : sE} {x y : UInt32} (hat : s_at (s_cd r) pc = some e) (hi : e.2.1 = .fmul) (hf : FP.fmul x y &&& 0x7fffffff ≤ 0x7f800000) (kk : e_r k (pc + e.2.2.1) ls (.float (FP.fmul x y) :: rest) h v h2) : e_r k pc ls (.float y :: .float x :: rest) h v h2 := by
  refine e_step (c := (pc + e.2.2.1, ls, .float (FP.fmul x y) :: rest, h)) hk hat (by rw [hi]; rfl) (by rw [hi]; rfl) ?_ kk
  rw [hi]
  dsimp only [s_x]
  rw [if_pos hf]
theorem e_fsub {k pc : Nat} {r : sM} {cn : Option Nat} {ls rest : List Value} {h h2 : sHp} {v : Option Value} (hk : s_T k = some (r, cn)) {e : sE} {x y : UInt32} (hat : s_at (s_cd r) pc = some e) (hi : e.2.1 = .fsub) (hf : FP.fsub x y &&& 0x7fffffff ≤ 0x7f800000) (kk : e_r k (pc + e.2.2.1) ls (.float (FP.fsub x y) :: rest) h v h2) : e_r k pc ls (.float y :: .float x :: rest) h v h2 := by
  refine e_step (c := (pc + e.2.2.1, ls, .float (FP.fsub x y) :: rest, h)) hk hat (by rw [hi]; rfl) (by rw [hi]; rfl) ?_ kk
  rw [hi]
  dsimp only [s_x]
  rw [if_pos hf]
theorem e_ddiv {k pc : Nat} {r : sM} {cn : Option Nat} {ls rest : List Value} {h h2 : sHp} {v : Option Value} (hk : s_T k = some (r, cn)) {e : sE} {x y : UInt64} (hat : s_at (s_cd r) pc = some e) (hi : e.2.1 = .ddiv) (hf : FP.ddiv x y &&& 0x7fffffffffffffff ≤ 0x7ff0000000000000) (kk : e_r k (pc + e.2.2.1) ls (.double (FP.ddiv x y) :: rest) h v h2) : e_r k pc ls (.double y :: .double x :: rest) h v h2 := by
  refine e_step (c := (pc + e.2.2.1, ls, .double (FP.ddiv x y) :: rest, h)) hk hat (by rw [hi]; rfl) (by rw [hi]; rfl) ?_ kk
  rw [hi]
  dsimp only [s_x]
  rw [if_pos hf]
theorem e_dmul {k pc : Nat} {r : sM} {cn : Option Nat} {ls rest : List Value} {h h2 : sHp} {v : Option Value} (hk : s_T k = some (r, cn)) {e : sE} {x y : UInt64} (hat : s_at (s_cd r) pc = some e) (hi : e.2.1 = .dmul) (hf : FP.dmul x y &&& 0x7fffffffffffffff ≤ 0x7ff0000000000000) (kk : e_r k (pc + e.2.2.1) ls (.double (FP.dmul x y) :: rest) h v h2) : e_r k pc ls (.double y :: .double x :: rest) h v h2 := by
  refine e_step (c := (pc + e.2.2.1, ls, .double (FP.dmul x y) :: rest, h)) hk hat (by rw [hi]; rfl) (by rw [hi]; rfl) ?_ kk
  rw [hi]
  dsimp only [s_x]
  rw [if_pos hf]
theorem e_dsub {k pc : Nat} {r : sM} {cn : Option Nat} {ls rest : List Value} {h h2 : sHp} {v : Option Value} (hk : s_T k = some (r, cn)) {e : sE} {x y : UInt64} (hat : s_at (s_cd r) pc = some e) (hi : e.2.1 = .dsub) (hf : FP.dsub x y &&& 0x7fffffffffffffff ≤ 0x7ff0000000000000) (kk : e_r k (pc + e.2.2.1) ls (.double (FP.dsub x y) :: rest) h v h2) : e_r k pc ls (.double y :: .double x :: rest) h v h2 := by
  refine e_step (c := (pc + e.2.2.1, ls, .double (FP.dsub x y) :: rest, h)) hk hat (by rw [hi]; rfl) (by rw [hi]; rfl) ?_ kk
  rw [hi]
  dsimp only [s_x]
  rw [if_pos hf]
def f_fin (x : UInt32) : Prop := x &&& 0x7fffffff ≤ 0x7f800000
def f_lp : Nat → UInt32 → Int32 → UInt32 × Int32
  | 0, x, p => (x, p)
  | k + 1, x, p => if 0 ≤ Op.cmpValue (FP.fcmp x FP.fconst1) .g then (x, p) else f_lp k (FP.fmul x FP.fconst2) (p + (-1))
def f_ok : Nat → UInt32 → Prop
  | 0, _ => True
  | k + 1, x => ¬ 0 ≤ Op.cmpValue (FP.fcmp x FP.fconst1) .g → f_fin (FP.fmul x FP.fconst2) ∧ f_ok k (FP.fmul x FP.fconst2)
def f_end (y : UInt32) : UInt32 := FP.fmul (FP.fsub y FP.fconst1) (UInt32.ofNat 1258291200)
def f_fok (y : UInt32) : Prop := f_fin (FP.fsub y FP.fconst1) ∧ f_fin (f_end y)
def f_bits (x : UInt32) : Int32 := if 0 < Op.cmpValue (FP.fcmp x FP.fconst0) .l then (((f_lp 64 x 0).2 + 127) <<< (23 &&& 31)) + FP.f2i (f_end (f_lp 64 x 0).1) else 0
theorem f_l {h : sHp} {x0 : UInt32} : ∀ (k i : Nat) (x : UInt32) (p : Int32), i + k = 64 → f_ok k x → f_fok (f_lp k x p).1 → e_r 88 14 [.float x0, .float x, .int p, .int (nI i)] [] h (some (.int ((((f_lp k x p).2 + 127) <<< (23 &&& 31)) + FP.f2i (f_end (f_lp k x p).1)))) h
  | 0, i, x, p, hi, hK, hE => by
    refine e_go hk_88 3 (c := (if s_cnd .ge (nI i) 64 = true then 39 else 20, [.float x0, .float x, .int p, .int (nI i)], [], h)) rfl ?_
    refine e_ge (a := 39) (b := 20) (x := nI i) (y := 64) (fun hc17 => ?_) (fun hc17 => absurd (by rw [show i = 64 by omega]; decide) hc17)
    refine e_go hk_88 7 (c := (48, [.float x0, .float x, .int p, .int (nI i)], [.float FP.fconst1, .float x, .int ((p + 127) <<< (23 &&& 31))], h)) rfl ?_
    refine e_fsub hk_88 (x := x) (y := FP.fconst1) rfl rfl hE.1 ?_
    show e_r 88 49 [.float x0, .float x, .int p, .int (nI i)] [.float (FP.fsub x FP.fconst1), .int ((p + 127) <<< (23 &&& 31))] h _ _
    refine e_go hk_88 1 (c := (52, [.float x0, .float x, .int p, .int (nI i)], [.float (UInt32.ofNat 1258291200), .float (FP.fsub x FP.fconst1), .int ((p + 127) <<< (23 &&& 31))], h)) rfl ?_
    refine e_fmul hk_88 (x := FP.fsub x FP.fconst1) (y := UInt32.ofNat 1258291200) rfl rfl hE.2 ?_
    show e_r 88 53 [.float x0, .float x, .int p, .int (nI i)] [.float (FP.fmul (FP.fsub x FP.fconst1) (UInt32.ofNat 1258291200)), .int ((p + 127) <<< (23 &&& 31))] h _ _
    refine e_go hk_88 2 (c := (55, [.float x0, .float x, .int p, .int (nI i)], [.int (((p + 127) <<< (23 &&& 31)) + (FP.f2i (FP.fmul (FP.fsub x FP.fconst1) (UInt32.ofNat 1258291200))))], h)) rfl ?_
    exact e_ret hk_88 rfl rfl rfl rfl rfl
  | k + 1, i, x, p, hi, hK, hE => by
    refine e_go hk_88 3 (c := (if s_cnd .ge (nI i) 64 = true then 39 else 20, [.float x0, .float x, .int p, .int (nI i)], [], h)) rfl ?_
    refine e_ge (a := 39) (b := 20) (x := nI i) (y := 64) (fun hc17 => absurd hc17 ((show ¬ nI 64 ≤ nI i from nI_ge (by omega) (by decide)))) (fun hc17 => ?_)
    refine e_go hk_88 4 (c := (if s_cnd .ge (Op.cmpValue (FP.fcmp x FP.fconst1) .g) 0 = true then 39 else 26, [.float x0, .float x, .int p, .int (nI i)], [], h)) rfl ?_
    refine e_ge (a := 39) (b := 26) (x := Op.cmpValue (FP.fcmp x FP.fconst1) .g) (y := 0) (fun hc23 => ?_) (fun hc23 => ?_)
    · skip
      rw [f_lp, if_pos hc23] at hE ⊢
      refine e_go hk_88 7 (c := (48, [.float x0, .float x, .int p, .int (nI i)], [.float FP.fconst1, .float x, .int ((p + 127) <<< (23 &&& 31))], h)) rfl ?_
      refine e_fsub hk_88 (x := x) (y := FP.fconst1) rfl rfl hE.1 ?_
      show e_r 88 49 [.float x0, .float x, .int p, .int (nI i)] [.float (FP.fsub x FP.fconst1), .int ((p + 127) <<< (23 &&& 31))] h _ _
      refine e_go hk_88 1 (c := (52, [.float x0, .float x, .int p, .int (nI i)], [.float (UInt32.ofNat 1258291200), .float (FP.fsub x FP.fconst1), .int ((p + 127) <<< (23 &&& 31))], h)) rfl ?_
      refine e_fmul hk_88 (x := FP.fsub x FP.fconst1) (y := UInt32.ofNat 1258291200) rfl rfl hE.2 ?_
      show e_r 88 53 [.float x0, .float x, .int p, .int (nI i)] [.float (FP.fmul (FP.fsub x FP.fconst1) (UInt32.ofNat 1258291200)), .int ((p + 127) <<< (23 &&& 31))] h _ _
      refine e_go hk_88 2 (c := (55, [.float x0, .float x, .int p, .int (nI i)], [.int (((p + 127) <<< (23 &&& 31)) + (FP.f2i (FP.fmul (FP.fsub x FP.fconst1) (UInt32.ofNat 1258291200))))], h)) rfl ?_
      exact e_ret hk_88 rfl rfl rfl rfl rfl
    · skip
      rw [f_lp, if_neg hc23] at hE ⊢
      refine e_go hk_88 2 (c := (28, [.float x0, .float x, .int p, .int (nI i)], [.float FP.fconst2, .float x], h)) rfl ?_
      refine e_fmul hk_88 (x := x) (y := FP.fconst2) rfl rfl (hK hc23).1 ?_
      show e_r 88 29 [.float x0, .float x, .int p, .int (nI i)] [.float (FP.fmul x FP.fconst2)] h _ _
      refine e_go hk_88 4 (c := (14, [.float x0, .float (FP.fmul x FP.fconst2), .int (p + (-1)), .int ((nI i) + 1)], [], h)) rfl ?_
      rw [nI_1]
      exact f_l k (i + 1) _ _ (by omega) (hK hc23).2 hE
theorem x_fbits {h : sHp} {x : UInt32} (hK : f_ok 64 x) (hE : f_fok (f_lp 64 x 0).1) : m_r 88 [.float x] h (some (.int (f_bits x))) h := by
  refine m_of (ls := [.float x, s_no, s_no, s_no]) hk_88 rfl rfl rfl ?_
  refine e_go hk_88 4 (c := (if s_cnd .gt (Op.cmpValue (FP.fcmp x FP.fconst0) .l) 0 = true then 8 else 6, [.float x, s_no, s_no, s_no], [], h)) rfl ?_
  refine e_gt (a := 8) (b := 6) (x := Op.cmpValue (FP.fcmp x FP.fconst0) .l) (y := 0) (fun hc3 => ?_) (fun hc3 => ?_)
  · skip
    rw [f_bits, if_pos hc3]
    refine e_go hk_88 6 (c := (14, [.float x, .float x, .int 0, .int 0], [], h)) rfl ?_
    exact f_l 64 0 _ _ rfl hK hE
  · skip
    rw [f_bits, if_neg hc3]
    refine e_go hk_88 1 (c := (7, [.float x, s_no, s_no, s_no], [.int 0], h)) rfl ?_
    exact e_ret hk_88 rfl rfl rfl rfl rfl
def f_lx (Z : Nat → Nat → Int32) (n j : Nat) : UInt32 := FP.fdiv (FP.i2f (if nI j - nI (t_L Z j) < nI (t_H Z n j) - nI j then nI (t_H Z n j) - nI j else nI j - nI (t_L Z j))) (FP.i2f (t_wt Z n j))
def c_lean (Z : Nat → Nat → Int32) (n : Nat) (key : Int32) : Int32 := if y_nm key = true then (match t_nd (Z 9) n key with
  | none => -1
  | some j => f_bits (f_lx Z n j)) else -2
def f_all (x : UInt32) : Prop := f_fin x ∧ f_ok 64 x ∧ f_fok (f_lp 64 x 0).1
theorem x_lean {Z : Nat → Nat → Int32} {P : Nat → Nat} {L n : Nat} (hN : Z 5 6 = nI n) (hn : n ≤ 60) {key : Int32} (hA : ∀ j, t_nd (Z 9) n key = some j → f_all (f_lx Z n j)) : m_r 65 [.ref 4, .int key] (hp Z P L) (some (.int (c_lean Z n key))) (hp Z P L) := by
  refine m_of (ls := [.ref 4, .int key, s_no, s_no, s_no, s_no]) hk_65 rfl rfl rfl ?_
  refine e_go hk_65 1 (c := (1, [.ref 4, .int key, s_no, s_no, s_no, s_no], [.int key], hp Z P L)) rfl ?_
  refine e_call hk_65 (as := [.int key]) (rest := []) rfl rfl hk_79 rfl (Nat.le_of_ble_eq_true rfl) rfl (x_num (k := key)) ?_
  show e_r 65 4 [.ref 4, .int key, s_no, s_no, s_no, s_no] [.int (y_b (y_nm key))] (hp Z P L) _ _
  refine e_go hk_65 1 (c := (if s_cnd .ne (y_b (y_nm key)) 0 = true then 10 else 7, [.ref 4, .int key, s_no, s_no, s_no, s_no], [], hp Z P L)) rfl ?_
  refine e_ne (a := 10) (b := 7) (x := y_b (y_nm key)) (y := 0) (fun hc4 => ?_) (fun hc4 => ?_)
  · skip
    rw [y_b1] at hc4
    refine e_go hk_65 3 (c := (15, [.ref 4, .int key, s_no, s_no, s_no, s_no], [.int key, .ref 5], hp Z P L)) rfl ?_
    refine e_call hk_65 (as := [.ref 5, .int key]) (rest := []) rfl rfl hk_31 rfl (Nat.le_of_ble_eq_true rfl) rfl (x_node hN hn) ?_
    show e_r 65 18 [.ref 4, .int key, s_no, s_no, s_no, s_no] [.int (y_o (t_nd (Z 9) n key))] (hp Z P L) _ _
    refine e_go hk_65 4 (c := (if s_cnd .ne (y_o (t_nd (Z 9) n key)) ((-6)) = true then 27 else 25, [.ref 4, .int key, .int (y_o (t_nd (Z 9) n key)), s_no, s_no, s_no], [], hp Z P L)) rfl ?_
    refine e_ne (a := 27) (b := 25) (x := y_o (t_nd (Z 9) n key)) (y := (-6)) (fun hc22 => ?_) (fun hc22 => ?_)
    · skip
      rw [y_o_none (fun j hj => by have := (t_nd_lt hj).1; omega)] at hc22
      obtain ⟨j, hj⟩ := Option.ne_none_iff_exists'.mp hc22
      have hjn := (fun z => (t_nd_lt z).1) hj
      rw [hj]
      obtain ⟨hf1, hf2, hf3⟩ := hA j hj
      have hlo : t_L Z j ≤ j := t_lo_le (Z 15) (Z 15 j) j
      have hhi : j ≤ t_H Z n j ∧ t_H Z n j ≤ j + (n - 1 - j) := t_hi_le (Z 15) (Z 15 j) (n - 1 - j) j
      have hwt : 0 < nI (t_H Z n j) - nI (t_L Z j) + 1 := by
        rw [pk_sub (by omega), nI_1]
        exact (nI_ltI (by decide) (by omega)).mpr (by omega : 0 < t_H Z n j - t_L Z j + 1)
      refine e_go hk_65 3 (c := (32, [.ref 4, .int key, .int (nI j), s_no, s_no, s_no], [.int (nI j), .ref 5], hp Z P L)) rfl ?_
      refine e_call hk_65 (as := [.ref 5, .int (nI j)]) (rest := []) rfl rfl hk_37 rfl (Nat.le_of_ble_eq_true rfl) rfl (x_low (j := j) (by omega)) ?_
      show e_r 65 35 [.ref 4, .int key, .int (nI j), s_no, s_no, s_no] [.int (nI (t_L Z j))] (hp Z P L) _ _
      refine e_go hk_65 4 (c := (41, [.ref 4, .int key, .int (nI j), .int (nI (t_L Z j)), s_no, s_no], [.int (nI j), .ref 5], hp Z P L)) rfl ?_
      refine e_call hk_65 (as := [.ref 5, .int (nI j)]) (rest := []) rfl rfl hk_38 rfl (Nat.le_of_ble_eq_true rfl) rfl (x_high hN hn (j := j) (by omega)) ?_
      show e_r 65 44 [.ref 4, .int key, .int (nI j), .int (nI (t_L Z j)), s_no, s_no] [.int (nI (t_H Z n j))] (hp Z P L) _ _
      refine e_go hk_65 9 (c := (if s_cnd .gt (((nI (t_H Z n j)) - (nI (t_L Z j))) + 1) 0 = true then 61 else 59, [.ref 4, .int key, .int (nI j), .int (nI (t_L Z j)), .int (nI (t_H Z n j)), .int (((nI (t_H Z n j)) - (nI (t_L Z j))) + 1)], [], hp Z P L)) rfl ?_
      refine e_gt (a := 61) (b := 59) (x := ((nI (t_H Z n j)) - (nI (t_L Z j))) + 1) (y := 0) (fun hc56 => ?_) (fun hc56 => absurd (hwt) hc56)
      refine e_go hk_65 10 (c := (75, [.ref 4, .int key, .int (nI j), .int (nI (t_L Z j)), .int (nI (t_H Z n j)), .int (((nI (t_H Z n j)) - (nI (t_L Z j))) + 1)], [.float (FP.i2f (((nI (t_H Z n j)) - (nI (t_L Z j))) + 1)), .float (FP.i2f (if (nI j) - (nI (t_L Z j)) < (nI (t_H Z n j)) - (nI j) then (nI (t_H Z n j)) - (nI j) else (nI j) - (nI (t_L Z j))))], hp Z P L)) rfl ?_
      refine e_fdiv hk_65 (x := FP.i2f (if (nI j) - (nI (t_L Z j)) < (nI (t_H Z n j)) - (nI j) then (nI (t_H Z n j)) - (nI j) else (nI j) - (nI (t_L Z j)))) (y := FP.i2f (((nI (t_H Z n j)) - (nI (t_L Z j))) + 1)) rfl rfl hf1 ?_
      show e_r 65 76 [.ref 4, .int key, .int (nI j), .int (nI (t_L Z j)), .int (nI (t_H Z n j)), .int (((nI (t_H Z n j)) - (nI (t_L Z j))) + 1)] [.float (FP.fdiv (FP.i2f (if (nI j) - (nI (t_L Z j)) < (nI (t_H Z n j)) - (nI j) then (nI (t_H Z n j)) - (nI j) else (nI j) - (nI (t_L Z j)))) (FP.i2f (((nI (t_H Z n j)) - (nI (t_L Z j))) + 1)))] (hp Z P L) _ _
      refine e_call hk_65 (as := [.float (FP.fdiv (FP.i2f (if (nI j) - (nI (t_L Z j)) < (nI (t_H Z n j)) - (nI j) then (nI (t_H Z n j)) - (nI j) else (nI j) - (nI (t_L Z j)))) (FP.i2f (((nI (t_H Z n j)) - (nI (t_L Z j))) + 1)))]) (rest := []) rfl rfl hk_88 rfl (Nat.le_of_ble_eq_true rfl) rfl (x_fbits (x := f_lx Z n j) hf2 hf3) ?_
      show e_r 65 79 [.ref 4, .int key, .int (nI j), .int (nI (t_L Z j)), .int (nI (t_H Z n j)), .int (((nI (t_H Z n j)) - (nI (t_L Z j))) + 1)] [.int (f_bits (f_lx Z n j))] (hp Z P L) _ _
      exact e_ret hk_65 rfl rfl rfl (by rw [c_lean, if_pos hc4, hj]) rfl
    · skip
      rw [y_o_none (fun j hj => by have := (t_nd_lt hj).1; omega)] at hc22
      refine e_go hk_65 1 (c := (26, [.ref 4, .int key, .int (y_o (t_nd (Z 9) n key)), s_no, s_no, s_no], [.int ((-1))], hp Z P L)) rfl ?_
      exact e_ret hk_65 rfl rfl rfl (by rw [c_lean, if_pos hc4, hc22]) rfl
  · skip
    rw [y_b0] at hc4
    refine e_go hk_65 1 (c := (9, [.ref 4, .int key, s_no, s_no, s_no, s_no], [.int ((-2))], hp Z P L)) rfl ?_
    exact e_ret hk_65 rfl rfl rfl (by rw [c_lean, if_neg (by rw [hc4]; decide)]) rfl
