/-! meanDepth, bitsOfDouble; printed by wip/whole/gen/dbl.py -/
def g_fin (x : UInt64) : Prop := x &&& 0x7fffffffffffffff ≤ 0x7ff0000000000000
def g_l1 : Nat → UInt64 → Int32 → UInt64 × Int32
  | 0, x, p => (x, p)
  | k + 1, x, p => if Op.cmpValue (FP.dcmp x (UInt64.ofNat 4611686018427387904)) .l < 0 then (x, p) else g_l1 k (FP.ddiv x (UInt64.ofNat 4611686018427387904)) (p + 1)
def g_l2 : Nat → UInt64 → Int32 → UInt64 × Int32
  | 0, x, p => (x, p)
  | k + 1, x, p => if 0 ≤ Op.cmpValue (FP.dcmp x FP.dconst1) .g then (x, p) else g_l2 k (FP.dmul x (UInt64.ofNat 4611686018427387904)) (p + (-1))
def g_ok1 : Nat → UInt64 → Prop
  | 0, _ => True
  | k + 1, x => ¬ Op.cmpValue (FP.dcmp x (UInt64.ofNat 4611686018427387904)) .l < 0 → g_fin (FP.ddiv x (UInt64.ofNat 4611686018427387904)) ∧ g_ok1 k (FP.ddiv x (UInt64.ofNat 4611686018427387904))
def g_ok2 : Nat → UInt64 → Prop
  | 0, _ => True
  | k + 1, x => ¬ 0 ≤ Op.cmpValue (FP.dcmp x FP.dconst1) .g → g_fin (FP.dmul x (UInt64.ofNat 4611686018427387904)) ∧ g_ok2 k (FP.dmul x (UInt64.ofNat 4611686018427387904))
def g_end (y : UInt64) : UInt64 := FP.dmul (FP.dsub y FP.dconst1) (UInt64.ofNat 4841369599423283200)
def g_fok (y : UInt64) : Prop := g_fin (FP.dsub y FP.dconst1) ∧ g_fin (g_end y)
def g_res (q : UInt64 × Int32) : Int64 := ((q.2 + 1023).toInt64 <<< ((52 : Int32).toInt64 &&& 63)) + FP.d2l (g_end q.1)
def g_fst (x : UInt64) : UInt64 × Int32 := g_l1 64 x 0
def g_snd (x : UInt64) : UInt64 × Int32 := g_l2 64 (g_fst x).1 (g_fst x).2
def g_bits (x : UInt64) : Int64 := if 0 < Op.cmpValue (FP.dcmp x FP.dconst0) .l then g_res (g_snd x) else 0
def g_all (x : UInt64) : Prop := g_ok1 64 x ∧ g_ok2 64 (g_fst x).1 ∧ g_fok (g_snd x).1
theorem g_w2 {h : sHp} {x0 : UInt64} : ∀ (k i : Nat) (x : UInt64) (p : Int32), i + k = 64 → g_ok2 k x → g_fok (g_l2 k x p).1 → e_r 87 49 [.double x0, s_no, .double x, s_no, .int p, .int (nI i)] [] h (some (.long (g_res (g_l2 k x p)))) h
  | 0, i, x, p, hi, hK, hE => by
    refine e_go hk_87 3 (c := (if s_cnd .ge (nI i) 64 = true then 77 else 56, [.double x0, s_no, .double x, s_no, .int p, .int (nI i)], [], h)) rfl ?_
    refine e_ge (a := 77) (b := 56) (x := nI i) (y := 64) (fun hc53 => ?_) (fun hc53 => absurd (by rw [show i = 64 by omega]; decide) hc53)
    refine e_go hk_87 8 (c := (89, [.double x0, s_no, .double x, s_no, .int p, .int (nI i)], [.double FP.dconst1, .double x, .long (((p + 1023).toInt64) <<< ((52 : Int32).toInt64 &&& 63))], h)) rfl ?_
    refine e_dsub hk_87 (x := x) (y := FP.dconst1) rfl rfl hE.1 ?_
    show e_r 87 90 [.double x0, s_no, .double x, s_no, .int p, .int (nI i)] [.double (FP.dsub x FP.dconst1), .long (((p + 1023).toInt64) <<< ((52 : Int32).toInt64 &&& 63))] h _ _
    refine e_go hk_87 1 (c := (93, [.double x0, s_no, .double x, s_no, .int p, .int (nI i)], [.double (UInt64.ofNat 4841369599423283200), .double (FP.dsub x FP.dconst1), .long (((p + 1023).toInt64) <<< ((52 : Int32).toInt64 &&& 63))], h)) rfl ?_
    refine e_dmul hk_87 (x := FP.dsub x FP.dconst1) (y := UInt64.ofNat 4841369599423283200) rfl rfl hE.2 ?_
    show e_r 87 94 [.double x0, s_no, .double x, s_no, .int p, .int (nI i)] [.double (FP.dmul (FP.dsub x FP.dconst1) (UInt64.ofNat 4841369599423283200)), .long (((p + 1023).toInt64) <<< ((52 : Int32).toInt64 &&& 63))] h _ _
    refine e_go hk_87 2 (c := (96, [.double x0, s_no, .double x, s_no, .int p, .int (nI i)], [.long ((((p + 1023).toInt64) <<< ((52 : Int32).toInt64 &&& 63)) + (FP.d2l (FP.dmul (FP.dsub x FP.dconst1) (UInt64.ofNat 4841369599423283200))))], h)) rfl ?_
    exact e_ret hk_87 rfl rfl rfl rfl rfl
  | k + 1, i, x, p, hi, hK, hE => by
    refine e_go hk_87 3 (c := (if s_cnd .ge (nI i) 64 = true then 77 else 56, [.double x0, s_no, .double x, s_no, .int p, .int (nI i)], [], h)) rfl ?_
    refine e_ge (a := 77) (b := 56) (x := nI i) (y := 64) (fun hc53 => absurd hc53 ((show ¬ nI 64 ≤ nI i from nI_ge (by omega) (by decide)))) (fun hc53 => ?_)
    refine e_go hk_87 4 (c := (if s_cnd .ge (Op.cmpValue (FP.dcmp x FP.dconst1) .g) 0 = true then 77 else 62, [.double x0, s_no, .double x, s_no, .int p, .int (nI i)], [], h)) rfl ?_
    refine e_ge (a := 77) (b := 62) (x := Op.cmpValue (FP.dcmp x FP.dconst1) .g) (y := 0) (fun hc59 => ?_) (fun hc59 => ?_)
    · skip
      rw [g_l2, if_pos hc59] at hE ⊢
      refine e_go hk_87 8 (c := (89, [.double x0, s_no, .double x, s_no, .int p, .int (nI i)], [.double FP.dconst1, .double x, .long (((p + 1023).toInt64) <<< ((52 : Int32).toInt64 &&& 63))], h)) rfl ?_
      refine e_dsub hk_87 (x := x) (y := FP.dconst1) rfl rfl hE.1 ?_
      show e_r 87 90 [.double x0, s_no, .double x, s_no, .int p, .int (nI i)] [.double (FP.dsub x FP.dconst1), .long (((p + 1023).toInt64) <<< ((52 : Int32).toInt64 &&& 63))] h _ _
      refine e_go hk_87 1 (c := (93, [.double x0, s_no, .double x, s_no, .int p, .int (nI i)], [.double (UInt64.ofNat 4841369599423283200), .double (FP.dsub x FP.dconst1), .long (((p + 1023).toInt64) <<< ((52 : Int32).toInt64 &&& 63))], h)) rfl ?_
      refine e_dmul hk_87 (x := FP.dsub x FP.dconst1) (y := UInt64.ofNat 4841369599423283200) rfl rfl hE.2 ?_
      show e_r 87 94 [.double x0, s_no, .double x, s_no, .int p, .int (nI i)] [.double (FP.dmul (FP.dsub x FP.dconst1) (UInt64.ofNat 4841369599423283200)), .long (((p + 1023).toInt64) <<< ((52 : Int32).toInt64 &&& 63))] h _ _
      refine e_go hk_87 2 (c := (96, [.double x0, s_no, .double x, s_no, .int p, .int (nI i)], [.long ((((p + 1023).toInt64) <<< ((52 : Int32).toInt64 &&& 63)) + (FP.d2l (FP.dmul (FP.dsub x FP.dconst1) (UInt64.ofNat 4841369599423283200))))], h)) rfl ?_
      exact e_ret hk_87 rfl rfl rfl rfl rfl
    · skip
      rw [g_l2, if_neg hc59] at hE ⊢
      refine e_go hk_87 2 (c := (66, [.double x0, s_no, .double x, s_no, .int p, .int (nI i)], [.double (UInt64.ofNat 4611686018427387904), .double x], h)) rfl ?_
      refine e_dmul hk_87 (x := x) (y := UInt64.ofNat 4611686018427387904) rfl rfl (hK hc59).1 ?_
      show e_r 87 67 [.double x0, s_no, .double x, s_no, .int p, .int (nI i)] [.double (FP.dmul x (UInt64.ofNat 4611686018427387904))] h _ _
      refine e_go hk_87 4 (c := (49, [.double x0, s_no, .double (FP.dmul x (UInt64.ofNat 4611686018427387904)), s_no, .int (p + (-1)), .int ((nI i) + 1)], [], h)) rfl ?_
      rw [nI_1]
      exact g_w2 k (i + 1) _ _ (by omega) (hK hc59).2 hE
theorem g_w1 {h : sHp} {x0 : UInt64} : ∀ (k i : Nat) (x : UInt64) (p : Int32), i + k = 64 → g_ok1 k x → g_ok2 64 (g_l1 k x p).1 → g_fok (g_l2 64 (g_l1 k x p).1 (g_l1 k x p).2).1 → e_r 87 16 [.double x0, s_no, .double x, s_no, .int p, .int (nI i)] [] h (some (.long (g_res (g_l2 64 (g_l1 k x p).1 (g_l1 k x p).2)))) h
  | 0, i, x, p, hi, hK, hK2, hE => by
    refine e_go hk_87 3 (c := (if s_cnd .ge (nI i) 64 = true then 46 else 23, [.double x0, s_no, .double x, s_no, .int p, .int (nI i)], [], h)) rfl ?_
    refine e_ge (a := 46) (b := 23) (x := nI i) (y := 64) (fun hc20 => ?_) (fun hc20 => absurd (by rw [show i = 64 by omega]; decide) hc20)
    refine e_go hk_87 2 (c := (49, [.double x0, s_no, .double x, s_no, .int p, .int 0], [], h)) rfl ?_
    exact g_w2 64 0 _ _ rfl hK2 hE
  | k + 1, i, x, p, hi, hK, hK2, hE => by
    refine e_go hk_87 3 (c := (if s_cnd .ge (nI i) 64 = true then 46 else 23, [.double x0, s_no, .double x, s_no, .int p, .int (nI i)], [], h)) rfl ?_
    refine e_ge (a := 46) (b := 23) (x := nI i) (y := 64) (fun hc20 => absurd hc20 ((show ¬ nI 64 ≤ nI i from nI_ge (by omega) (by decide)))) (fun hc20 => ?_)
    refine e_go hk_87 4 (c := (if s_cnd .lt (Op.cmpValue (FP.dcmp x (UInt64.ofNat 4611686018427387904)) .l) 0 = true then 46 else 31, [.double x0, s_no, .double x, s_no, .int p, .int (nI i)], [], h)) rfl ?_
    refine e_lt (a := 46) (b := 31) (x := Op.cmpValue (FP.dcmp x (UInt64.ofNat 4611686018427387904)) .l) (y := 0) (fun hc28 => ?_) (fun hc28 => ?_)
    · skip
      rw [g_l1, if_pos hc28] at hK2 hE ⊢
      refine e_go hk_87 2 (c := (49, [.double x0, s_no, .double x, s_no, .int p, .int 0], [], h)) rfl ?_
      exact g_w2 64 0 _ _ rfl hK2 hE
    · skip
      rw [g_l1, if_neg hc28] at hK2 hE ⊢
      refine e_go hk_87 2 (c := (35, [.double x0, s_no, .double x, s_no, .int p, .int (nI i)], [.double (UInt64.ofNat 4611686018427387904), .double x], h)) rfl ?_
      refine e_ddiv hk_87 (x := x) (y := UInt64.ofNat 4611686018427387904) rfl rfl (hK hc28).1 ?_
      show e_r 87 36 [.double x0, s_no, .double x, s_no, .int p, .int (nI i)] [.double (FP.ddiv x (UInt64.ofNat 4611686018427387904))] h _ _
      refine e_go hk_87 4 (c := (16, [.double x0, s_no, .double (FP.ddiv x (UInt64.ofNat 4611686018427387904)), s_no, .int (p + 1), .int ((nI i) + 1)], [], h)) rfl ?_
      rw [nI_1]
      exact g_w1 k (i + 1) _ _ (by omega) (hK hc28).2 hK2 hE
theorem x_gbits {h : sHp} {x : UInt64} (hA : g_all x) : m_r 87 [.double x] h (some (.long (g_bits x))) h := by
  refine m_of (ls := [.double x, s_no, s_no, s_no, s_no, s_no]) hk_87 rfl rfl rfl ?_
  refine e_go hk_87 4 (c := (if s_cnd .gt (Op.cmpValue (FP.dcmp x FP.dconst0) .l) 0 = true then 8 else 6, [.double x, s_no, s_no, s_no, s_no, s_no], [], h)) rfl ?_
  refine e_gt (a := 8) (b := 6) (x := Op.cmpValue (FP.dcmp x FP.dconst0) .l) (y := 0) (fun hc3 => ?_) (fun hc3 => ?_)
  · skip
    rw [g_bits, if_pos hc3]
    refine e_go hk_87 6 (c := (16, [.double x, s_no, .double x, s_no, .int 0, .int 0], [], h)) rfl ?_
    exact g_w1 64 0 _ _ rfl hA.1 hA.2.1 hA.2.2
  · skip
    rw [g_bits, if_neg hc3]
    refine e_go hk_87 1 (c := (7, [.double x, s_no, s_no, s_no, s_no, s_no], [.long 0], h)) rfl ?_
    exact e_ret hk_87 rfl rfl rfl rfl rfl
def g_mean (Z : Nat → Nat → Int32) (n : Nat) : UInt64 := FP.ddiv (FP.i2d (t_sm (Z 15) 0 (n - 0) 0)) (FP.i2d (nI n))
def g_rest (x : UInt64) : UInt64 := FP.dsub x (FP.l2d (FP.d2l x))
def c_mean (Z : Nat → Nat → Int32) (n : Nat) (what : Int32) : Int64 := if what = 0 ∨ what = 1 then (if n = 0 then 0 else if what = 0 then g_bits (g_mean Z n) else g_bits (g_rest (g_mean Z n))) else -2
theorem x_mean {Z : Nat → Nat → Int32} {P : Nat → Nat} {L n : Nat} (hN : Z 5 6 = nI n) (hn : n ≤ 60) {what : Int32} (hA : ¬ n = 0 → g_fin (g_mean Z n) ∧ g_all (g_mean Z n) ∧ g_fin (g_rest (g_mean Z n)) ∧ g_all (g_rest (g_mean Z n))) : m_r 64 [.ref 4, .int what] (hp Z P L) (some (.long (c_mean Z n what))) (hp Z P L) := by
  refine m_of (ls := [.ref 4, .int what, s_no, s_no]) hk_64 rfl rfl rfl ?_
  refine e_go hk_64 2 (c := (if s_cnd .eq what 0 = true then 13 else 4, [.ref 4, .int what, s_no, s_no], [], hp Z P L)) rfl ?_
  refine e_eq (a := 13) (b := 4) (x := what) (y := 0) (fun hc1 => ?_) (fun hc1 => ?_)
  · skip
    refine e_go hk_64 4 (c := (if s_cnd .gt (Z 5 6) 0 = true then 25 else 23, [.ref 4, .int what, s_no, s_no], [], hp Z P L)) rfl ?_
    refine e_gt (a := 25) (b := 23) (x := Z 5 6) (y := 0) (fun hc20 => ?_) (fun hc20 => ?_)
    · skip
      have h0 : ¬ n = 0 := fun z => by rw [hN, z] at hc20; exact absurd hc20 (by decide)
      rw [hN] at hc20
      refine e_go hk_64 9 (c := (42, [.ref 4, .int what, s_no, s_no], [.int ((Z 5 6) - 1), .int 0, .ref 14], hp Z P L)) rfl ?_
      rw [hN]
      refine e_call hk_64 (as := [.ref 14, .int (nI 0), .int (nI n - 1)]) (rest := []) rfl rfl hk_25 rfl (Nat.le_of_ble_eq_true rfl) rfl (x_total (r := 14) (a := 15) (n := 60) rfl rfl rfl (by decide) (l := 0) (u := n) (by omega) hn) ?_
      show e_r 64 45 [.ref 4, .int what, s_no, s_no] [.int (t_sm (Z 15) 0 (n - 0) 0)] (hp Z P L) _ _
      refine e_go hk_64 1 (c := (46, [.ref 4, .int what, s_no, s_no], [.double (FP.i2d (t_sm (Z 15) 0 (n - 0) 0))], hp Z P L)) rfl ?_
      refine e_go hk_64 3 (c := (53, [.ref 4, .int what, s_no, s_no], [.int (Z 5 6), .double (FP.i2d (t_sm (Z 15) 0 (n - 0) 0))], hp Z P L)) rfl ?_
      rw [hN]
      refine e_go hk_64 1 (c := (54, [.ref 4, .int what, s_no, s_no], [.double (FP.i2d (nI n)), .double (FP.i2d (t_sm (Z 15) 0 (n - 0) 0))], hp Z P L)) rfl ?_
      refine e_ddiv hk_64 (x := FP.i2d (t_sm (Z 15) 0 (n - 0) 0)) (y := FP.i2d (nI n)) rfl rfl (hA h0).1 ?_
      show e_r 64 55 [.ref 4, .int what, s_no, s_no] [.double (FP.ddiv (FP.i2d (t_sm (Z 15) 0 (n - 0) 0)) (FP.i2d (nI n)))] (hp Z P L) _ _
      refine e_go hk_64 3 (c := (if s_cnd .ne what 0 = true then 64 else 60, [.ref 4, .int what, .double (FP.ddiv (FP.i2d (t_sm (Z 15) 0 (n - 0) 0)) (FP.i2d (nI n))), s_no], [], hp Z P L)) rfl ?_
      refine e_ne (a := 64) (b := 60) (x := what) (y := 0) (fun hc57 => absurd (hc1) hc57) (fun hc57 => ?_)
      refine e_go hk_64 2 (c := (69, [.ref 4, .int what, .double (FP.ddiv (FP.i2d (t_sm (Z 15) 0 (n - 0) 0)) (FP.i2d (nI n))), s_no], [.double (FP.ddiv (FP.i2d (t_sm (Z 15) 0 (n - 0) 0)) (FP.i2d (nI n)))], hp Z P L)) rfl ?_
      refine e_call hk_64 (as := [.double (FP.ddiv (FP.i2d (t_sm (Z 15) 0 (n - 0) 0)) (FP.i2d (nI n)))]) (rest := []) rfl rfl hk_87 rfl (Nat.le_of_ble_eq_true rfl) rfl (x_gbits (x := g_mean Z n) (hA h0).2.1) ?_
      show e_r 64 72 [.ref 4, .int what, .double (FP.ddiv (FP.i2d (t_sm (Z 15) 0 (n - 0) 0)) (FP.i2d (nI n))), s_no] [.long (g_bits (g_mean Z n))] (hp Z P L) _ _
      exact e_ret hk_64 rfl rfl rfl (by rw [c_mean, if_pos (Or.inl hc1), if_neg h0, if_pos hc1]) rfl
    · skip
      have h0 : n = 0 := by
        rcases Nat.eq_zero_or_pos n with z | z
        · exact z
        · exact absurd (by rw [hN]; exact (nI_ltI (by decide) (by omega)).mpr z : (0 : Int32) < Z 5 6) hc20
      refine e_go hk_64 1 (c := (24, [.ref 4, .int what, s_no, s_no], [.long 0], hp Z P L)) rfl ?_
      exact e_ret hk_64 rfl rfl rfl (by rw [c_mean, if_pos (Or.inl hc1), if_pos h0]) rfl
  · skip
    refine e_go hk_64 3 (c := (if s_cnd .eq what 1 = true then 13 else 9, [.ref 4, .int what, s_no, s_no], [], hp Z P L)) rfl ?_
    refine e_eq (a := 13) (b := 9) (x := what) (y := 1) (fun hc6 => ?_) (fun hc6 => ?_)
    · skip
      refine e_go hk_64 4 (c := (if s_cnd .gt (Z 5 6) 0 = true then 25 else 23, [.ref 4, .int what, s_no, s_no], [], hp Z P L)) rfl ?_
      refine e_gt (a := 25) (b := 23) (x := Z 5 6) (y := 0) (fun hc20 => ?_) (fun hc20 => ?_)
      · skip
        have h0 : ¬ n = 0 := fun z => by rw [hN, z] at hc20; exact absurd hc20 (by decide)
        rw [hN] at hc20
        refine e_go hk_64 9 (c := (42, [.ref 4, .int what, s_no, s_no], [.int ((Z 5 6) - 1), .int 0, .ref 14], hp Z P L)) rfl ?_
        rw [hN]
        refine e_call hk_64 (as := [.ref 14, .int (nI 0), .int (nI n - 1)]) (rest := []) rfl rfl hk_25 rfl (Nat.le_of_ble_eq_true rfl) rfl (x_total (r := 14) (a := 15) (n := 60) rfl rfl rfl (by decide) (l := 0) (u := n) (by omega) hn) ?_
        show e_r 64 45 [.ref 4, .int what, s_no, s_no] [.int (t_sm (Z 15) 0 (n - 0) 0)] (hp Z P L) _ _
        refine e_go hk_64 1 (c := (46, [.ref 4, .int what, s_no, s_no], [.double (FP.i2d (t_sm (Z 15) 0 (n - 0) 0))], hp Z P L)) rfl ?_
        refine e_go hk_64 3 (c := (53, [.ref 4, .int what, s_no, s_no], [.int (Z 5 6), .double (FP.i2d (t_sm (Z 15) 0 (n - 0) 0))], hp Z P L)) rfl ?_
        rw [hN]
        refine e_go hk_64 1 (c := (54, [.ref 4, .int what, s_no, s_no], [.double (FP.i2d (nI n)), .double (FP.i2d (t_sm (Z 15) 0 (n - 0) 0))], hp Z P L)) rfl ?_
        refine e_ddiv hk_64 (x := FP.i2d (t_sm (Z 15) 0 (n - 0) 0)) (y := FP.i2d (nI n)) rfl rfl (hA h0).1 ?_
        show e_r 64 55 [.ref 4, .int what, s_no, s_no] [.double (FP.ddiv (FP.i2d (t_sm (Z 15) 0 (n - 0) 0)) (FP.i2d (nI n)))] (hp Z P L) _ _
        refine e_go hk_64 3 (c := (if s_cnd .ne what 0 = true then 64 else 60, [.ref 4, .int what, .double (FP.ddiv (FP.i2d (t_sm (Z 15) 0 (n - 0) 0)) (FP.i2d (nI n))), s_no], [], hp Z P L)) rfl ?_
        refine e_ne (a := 64) (b := 60) (x := what) (y := 0) (fun hc57 => ?_) (fun hc57 => absurd hc57 (hc1))
        refine e_go hk_64 4 (c := (68, [.ref 4, .int what, .double (FP.ddiv (FP.i2d (t_sm (Z 15) 0 (n - 0) 0)) (FP.i2d (nI n))), s_no], [.double (FP.l2d (FP.d2l (FP.ddiv (FP.i2d (t_sm (Z 15) 0 (n - 0) 0)) (FP.i2d (nI n))))), .double (FP.ddiv (FP.i2d (t_sm (Z 15) 0 (n - 0) 0)) (FP.i2d (nI n)))], hp Z P L)) rfl ?_
        refine e_dsub hk_64 (x := FP.ddiv (FP.i2d (t_sm (Z 15) 0 (n - 0) 0)) (FP.i2d (nI n))) (y := FP.l2d (FP.d2l (FP.ddiv (FP.i2d (t_sm (Z 15) 0 (n - 0) 0)) (FP.i2d (nI n))))) rfl rfl (hA h0).2.2.1 ?_
        show e_r 64 69 [.ref 4, .int what, .double (FP.ddiv (FP.i2d (t_sm (Z 15) 0 (n - 0) 0)) (FP.i2d (nI n))), s_no] [.double (FP.dsub (FP.ddiv (FP.i2d (t_sm (Z 15) 0 (n - 0) 0)) (FP.i2d (nI n))) (FP.l2d (FP.d2l (FP.ddiv (FP.i2d (t_sm (Z 15) 0 (n - 0) 0)) (FP.i2d (nI n))))))] (hp Z P L) _ _
        refine e_call hk_64 (as := [.double (FP.dsub (FP.ddiv (FP.i2d (t_sm (Z 15) 0 (n - 0) 0)) (FP.i2d (nI n))) (FP.l2d (FP.d2l (FP.ddiv (FP.i2d (t_sm (Z 15) 0 (n - 0) 0)) (FP.i2d (nI n))))))]) (rest := []) rfl rfl hk_87 rfl (Nat.le_of_ble_eq_true rfl) rfl (x_gbits (x := g_rest (g_mean Z n)) (hA h0).2.2.2) ?_
        show e_r 64 72 [.ref 4, .int what, .double (FP.ddiv (FP.i2d (t_sm (Z 15) 0 (n - 0) 0)) (FP.i2d (nI n))), s_no] [.long (g_bits (g_rest (g_mean Z n)))] (hp Z P L) _ _
        exact e_ret hk_64 rfl rfl rfl (by rw [c_mean, if_pos (Or.inr hc6), if_neg h0, if_neg hc1]) rfl
      · skip
        have h0 : n = 0 := by
          rcases Nat.eq_zero_or_pos n with z | z
          · exact z
          · exact absurd (by rw [hN]; exact (nI_ltI (by decide) (by omega)).mpr z : (0 : Int32) < Z 5 6) hc20
        refine e_go hk_64 1 (c := (24, [.ref 4, .int what, s_no, s_no], [.long 0], hp Z P L)) rfl ?_
        exact e_ret hk_64 rfl rfl rfl (by rw [c_mean, if_pos (Or.inr hc6), if_pos h0]) rfl
    · skip
      refine e_go hk_64 1 (c := (12, [.ref 4, .int what, s_no, s_no], [.long ((-2))], hp Z P L)) rfl ?_
      exact e_ret hk_64 rfl rfl rfl (by rw [c_mean, if_neg (by rw [not_or]; exact ⟨hc1, hc6⟩)]) rfl
