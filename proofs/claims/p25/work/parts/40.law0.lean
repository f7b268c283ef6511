/-! The law's own rules and its small methods; printed by wip/p25/gen/law0.py -/
def s_lit (q : Nat) : List (Nat × Nat) := [(1, 3), (1, 3), (1, 3), (1, q), (0, 6), (0, 5), (0, 3), (1, 3), (0, 3), (1, 60), (0, 3), (1, 60), (0, 3), (1, 60), (0, 3), (1, 60), (0, 3), (1, 60), (0, 0), (7, 6), (0, 5), (0, 3), (1, 3), (0, 3), (1, 60), (0, 3), (1, 60), (0, 3), (1, 60), (0, 3), (1, 60), (0, 3), (1, 60), (0, 5), (0, 3), (1, 3), (0, 3), (1, 60), (0, 3), (1, 60), (0, 3), (1, 60), (0, 3), (1, 60), (0, 3), (1, 60), (0, 5), (0, 3), (1, 3), (0, 3), (1, 60), (0, 3), (1, 60), (0, 3), (1, 60), (0, 3), (1, 60), (0, 3), (1, 60), (0, 5), (0, 3), (1, 3), (0, 3), (1, 60), (0, 3), (1, 60), (0, 3), (1, 60), (0, 3), (1, 60), (0, 3), (1, 60), (0, 5), (0, 3), (1, 3), (0, 3), (1, 60), (0, 3), (1, 60), (0, 3), (1, 60), (0, 3), (1, 60), (0, 3), (1, 60), (0, 5), (0, 3), (1, 3), (0, 3), (1, 60), (0, 3), (1, 60), (0, 3), (1, 60), (0, 3), (1, 60), (0, 3), (1, 60), (6, 2), (0, 2), (0, 3), (1, 80), (0, 1), (0, 4), (0, 5), (0, 3), (1, 3), (0, 3), (1, 60), (0, 3), (1, 60), (0, 3), (1, 60), (0, 3), (1, 60), (0, 3), (1, 60), (0, 4), (0, 5), (0, 3), (1, 3), (0, 3), (1, 60), (0, 3), (1, 60), (0, 3), (1, 60), (0, 3), (1, 60), (0, 3), (1, 60)]
set_option maxRecDepth 20000 in
theorem s_SHb (L : Nat) : s_SH L = s_lit (L % 512) ++ s_SX L := rfl
set_option maxRecDepth 20000 in
theorem s_litl (q : Nat) : (s_lit q).length = 131 := rfl
theorem s_SHl (L : Nat) : (s_SH L).length = 131 + L / 512 := by
  rw [s_SHb, List.length_append, s_litl]
  unfold s_SX
  rw [List.length_replicate]
theorem s_SHr {L e : Nat} (h : e < L / 512) : s_nth (s_SH L) (131 + e) = some (1, 62) := by
  rw [s_nth_eq, s_SHb, List.getElem?_append_right (by rw [s_litl]; omega), s_litl, Nat.add_sub_cancel_left]
  unfold s_SX
  rw [List.getElem?_replicate, if_pos h]
theorem s_SHn (L : Nat) : s_SH L ++ [(1, 62)] = s_SH (L + 512) := by
  rw [s_SHb L, s_SHb (L + 512), List.append_assoc, show (L + 512) % 512 = L % 512 by omega]
  congr 1
  unfold s_SX
  rw [show (L + 512) / 512 = L / 512 + 1 by omega, List.replicate_succ']
/-- a new row, all 0 -/
def r_new (Z : Nat → Nat → Int32) (r : Nat) : Nat → Nat → Int32 := fun i => if i = r then (fun _ => 0) else Z i
theorem r_new_o {Z : Nat → Nat → Int32} {r c : Nat} (h : c < 131) (hr : 131 ≤ r) : r_new Z r c = Z c := if_neg (by omega)
set_option maxRecDepth 20000 in
theorem s_RR_big {P : Nat → Nat} {i : Nat} (h : 131 ≤ i) : s_RR P i = fun _ => none := by
  funext j
  unfold s_RR
  have hb : Nat.beq i 19 = false := Bool.eq_false_iff.mpr (fun z => by have := Nat.eq_of_beq_eq_true z; omega)
  rw [hb]
  dsimp only
  rw [s_nth_eq, List.getElem?_eq_none (show s_RF.length ≤ i from h)]
theorem hp_new {Z : Nat → Nat → Int32} {P : Nat → Nat} {L : Nat} : s_new (hp Z P L) 1 62 = hp (r_new Z (131 + L / 512)) P (L + 512) := by
  unfold s_new
  dsimp only
  rw [s_SHl, s_SHn]
  have e2 : (fun i => if i = 131 + L / 512 then (fun _ => none) else s_RR P i) = s_RR P := by
    funext i
    by_cases h : i = 131 + L / 512
    · rw [if_pos h, h, s_RR_big (by omega)]
    · rw [if_neg h]
  rw [e2]
  rfl
section LW
variable {k pc : Nat} {r : sM} {cn : Option Nat} {ls rest : List Value} {h h2 : sHp} {v : Option Value}
theorem e_irem (hk : s_T k = some (r, cn)) {e : sE} {x y : Int32} (hat : s_at (s_cd r) pc = some e) (hi : e.2.1 = .irem) (hy : ¬ y = 0) (kk : e_r k (pc + e.2.2.1) ls (.int (x - x / y * y) :: rest) h v h2) : e_r k pc ls (.int y :: .int x :: rest) h v h2 := by
  refine e_step (c := (pc + e.2.2.1, ls, .int (x - x / y * y) :: rest, h)) hk hat (by rw [hi]; rfl) (by rw [hi]; rfl) ?_ kk
  rw [hi]
  dsimp only [s_x]
  rw [if_neg hy]
theorem e_newl {Z : Nat → Nat → Int32} {P : Nat → Nat} {L : Nat} (hk : s_T k = some (r, cn)) {e : sE} (hat : s_at (s_cd r) pc = some e) (hi : e.2.1 = .newarray .int) (kk : e_r k (pc + e.2.2.1) ls (.ref (131 + L / 512) :: rest) (hp (r_new Z (131 + L / 512)) P (L + 512)) v h2) : e_r k pc ls (.int 62 :: rest) (hp Z P L) v h2 := by
  refine e_step (c := (pc + e.2.2.1, ls, .ref (131 + L / 512) :: rest, hp (r_new Z (131 + L / 512)) P (L + 512))) hk hat (by rw [hi]; rfl) (by rw [hi]; rfl) ?_ kk
  rw [hi]
  dsimp only [s_x]
  rw [show (62 : Int32) = nI 62 from rfl, nI_clamp (by omega), hp_new, s_SHl, if_neg]
  rintro (h | h)
  · exact nI_pos (by omega) h
  · exact absurd ((y_lt (a := 65536) (b := 62) (by omega) (by omega)).mp h) (by omega)
end LW
/-! up -/
def l_u (v : Int32) (m : Nat) : Nat := (v &&& 2147483647).toNatClampNeg % m
theorem l_and (x : Int32) : ∃ a, a < 2 ^ 31 ∧ x &&& 2147483647 = nI a := by
  refine ⟨(x &&& 2147483647).toUInt32.toNat, ?_, ?_⟩
  · rw [Int32.toUInt32_and, UInt32.toNat_and]
    exact Nat.lt_of_le_of_lt Nat.and_le_right (by decide)
  · have h1 : (x &&& 2147483647).toUInt32 = (nI (x &&& 2147483647).toUInt32.toNat).toUInt32 := by
      show _ = (Int32.ofNat _).toUInt32
      rw [Int32.toUInt32_ofNat', UInt32.ofNat_toNat]
    exact congrArg UInt32.toInt32 h1
theorem l_u_lt {v : Int32} {m : Nat} (h : 0 < m) : l_u v m < m := Nat.mod_lt _ h
theorem l_u_eq {v : Int32} {m : Nat} (h0 : 0 < m) (hm : m < 2 ^ 31) : (v &&& 2147483647) - (v &&& 2147483647) / nI m * nI m = nI (l_u v m) := by
  obtain ⟨a, h1, h2⟩ := l_and v
  unfold l_u
  rw [h2, nI_clamp h1, pk_div h1 h0 hm, nI_mul, nI_sub (Nat.div_mul_le_self a m)]
  congr 1
  have := Nat.div_add_mod a m
  rw [Nat.mul_comm] at this
  omega
theorem x_up {h : sHp} {v : Int32} {m : Nat} (h0 : 0 < m) (hm : m < 2 ^ 31) : m_r 90 [.int v, .int (nI m)] h (some (.int (nI (l_u v m)))) h := by
  refine m_of (ls := [.int v, .int (nI m)]) hk_90 rfl rfl rfl ?_
  refine e_go hk_90 4 (c := (5, [.int v, .int (nI m)], [.int (nI m), .int (v &&& 2147483647)], h)) rfl ?_
  refine e_irem hk_90 (x := v &&& 2147483647) (y := nI m) rfl rfl (nI_ne0 h0 hm) ?_
  rw [l_u_eq h0 hm]
  exact e_ret hk_90 rfl rfl rfl rfl rfl
/-! cell -/
theorem x_cell {Z : Nat → Nat → Int32} {P : Nat → Nat} {L k : Nat} (hk : k < 100) : ∃ v : Int32, m_r 89 [.ref 3, .int (nI k)] (hp Z P L) (some (.int v)) (hp Z P L) := by
  by_cases h : k < L % 512
  · refine ⟨Z 3 k, m_of (ls := [.ref 3, .int (nI k)]) hk_89 rfl rfl rfl ?_⟩
    refine e_go hk_89 2 (c := (2, [.ref 3, .int (nI k)], [.ref 3, .int (nI k)], hp Z P L)) rfl ?_
    refine e_alen hk_89 (t := 0) (n := L % 512) rfl rfl rfl ?_
    show e_r 89 3 [.ref 3, .int (nI k)] [.int (nI (L % 512)), .int (nI k)] (hp Z P L) _ _
    refine e_go hk_89 1 (c := (if s_cnd .ge (nI k) (nI (L % 512)) = true then 12 else 6, [.ref 3, .int (nI k)], [], hp Z P L)) rfl ?_
    refine e_ge (a := 12) (b := 6) (x := nI k) (y := nI (L % 512)) (fun hc => absurd hc (nI_ge h (by omega))) (fun _ => ?_)
    refine e_go hk_89 2 (c := (8, [.ref 3, .int (nI k)], [.int (nI k), .ref 3], hp Z P L)) rfl ?_
    refine e_ald hk_89 (a := 3) (j := k) (n := L % 512) rfl rfl rfl h (by omega) ?_
    show e_r 89 9 [.ref 3, .int (nI k)] [.int (Z 3 k)] (hp Z P L) _ _
    refine e_go hk_89 1 (c := (20, [.ref 3, .int (nI k)], [.int (Z 3 k)], hp Z P L)) rfl ?_
    exact e_ret hk_89 rfl rfl rfl rfl rfl
  · refine ⟨1867459125 * (nI k + 787), m_of (ls := [.ref 3, .int (nI k)]) hk_89 rfl rfl rfl ?_⟩
    refine e_go hk_89 2 (c := (2, [.ref 3, .int (nI k)], [.ref 3, .int (nI k)], hp Z P L)) rfl ?_
    refine e_alen hk_89 (t := 0) (n := L % 512) rfl rfl rfl ?_
    show e_r 89 3 [.ref 3, .int (nI k)] [.int (nI (L % 512)), .int (nI k)] (hp Z P L) _ _
    refine e_go hk_89 1 (c := (if s_cnd .ge (nI k) (nI (L % 512)) = true then 12 else 6, [.ref 3, .int (nI k)], [], hp Z P L)) rfl ?_
    refine e_ge (a := 12) (b := 6) (x := nI k) (y := nI (L % 512)) (fun _ => ?_) (fun hc => absurd (nI_le (by omega) (by omega)) hc)
    refine e_go hk_89 5 (c := (20, [.ref 3, .int (nI k)], [.int (1867459125 * (nI k + 787))], hp Z P L)) rfl ?_
    exact e_ret hk_89 rfl rfl rfl rfl rfl
/-! counts and nodes, read off the tree -/
theorem y_paid {a b c s : Int32} : a + (b + c) - c + s = a + b + s := by
  rw [← Int32.add_assoc, Int32.add_sub_cancel]
section ASKS
variable {Z : Nat → Nat → Int32} {P : Nat → Nat} {L n : Nat}
theorem a_c0 (hJ : K_J Z n) : m_r 63 [.ref 4, .int 0] (hp Z P L) (some (.int (nI n))) (hp Z P L) := x_count0 hJ.1 hJ.2.1
theorem a_c1 (hJ : K_J Z n) : m_r 63 [.ref 4, .int 1] (hp Z P L) (some (.int (t_sm (Z 17) 0 n 0))) (hp Z P L) := x_count1 hJ.1 hJ.2.1
theorem a_c2 (hJ : K_J Z n) : m_r 63 [.ref 4, .int 2] (hp Z P L) (some (.int (t_ktp Z 0 n 0))) (hp Z P L) := x_count2 hJ.1 hJ.2.1
theorem a_c3 (hJ : K_J Z n) : m_r 63 [.ref 4, .int 3] (hp Z P L) (some (.int (if n = 0 then -6 else t_mx (Z 15) 0 n (Z 15 0)))) (hp Z P L) := x_count3 hJ.1 hJ.2.1
theorem a_c4 (hJ : K_J Z n) : m_r 63 [.ref 4, .int 4] (hp Z P L) (some (.int (Z 5 7))) (hp Z P L) := x_count4 hJ.1 hJ.2.1
theorem a_c5 (hJ : K_J Z n) : m_r 63 [.ref 4, .int 5] (hp Z P L) (some (.int (Z 5 8 + 1000000))) (hp Z P L) := x_count5 hJ.1 hJ.2.1
theorem a_c6 (hJ : K_J Z n) : m_r 63 [.ref 4, .int 6] (hp Z P L) (some (.int (t_sm (Z 13) 0 n 0))) (hp Z P L) := x_count6 hJ.1 hJ.2.1
theorem a_c8 (hJ : K_J Z n) : m_r 63 [.ref 4, .int 8] (hp Z P L) (some (.int (Z 5 10))) (hp Z P L) := x_count8 hJ.1 hJ.2.1
theorem a_c9 (hJ : K_J Z n) : m_r 63 [.ref 4, .int 9] (hp Z P L) (some (.int (t_lnc Z n 0 n 0))) (hp Z P L) := x_count9 hJ.1 hJ.2.1
theorem a_c10 (hJ : K_J Z n) : m_r 63 [.ref 4, .int 10] (hp Z P L) (some (.int (Z 7 0))) (hp Z P L) := x_count10 hJ.1 hJ.2.1
theorem a_c12 (hJ : K_J Z n) : m_r 63 [.ref 4, .int 12] (hp Z P L) (some (.int (Z 7 2))) (hp Z P L) := x_count12 hJ.1 hJ.2.1
theorem a_val (hJ : K_J Z n) {key : Int32} : m_r 61 [.ref 4, .int key] (hp Z P L) (some (.int (c_val Z n key))) (hp Z P L) := x_val hJ.1 hJ.2.1 hJ.2.2.2.2.1
theorem a_wc (hJ : K_J Z n) {key : Int32} : m_r 70 [.ref 4, .int key] (hp Z P L) (some (.int (c_wc Z n key))) (hp Z P L) := x_wc hJ.1 hJ.2.1 hJ.2.2.2.2.1
theorem a_rank (hJ : K_J Z n) {key : Int32} : m_r 66 [.ref 4, .int key] (hp Z P L) (some (.int (c_rank Z n key))) (hp Z P L) := x_rank hJ.1 hJ.2.1 hJ.2.2.2.2.1
theorem a_kth (hJ : K_J Z n) {k : Int32} : m_r 67 [.ref 4, .int k] (hp Z P L) (some (.int (c_kth Z n k))) (hp Z P L) := x_ckth hJ.1 hJ.2.1 hJ.2.2.2.2.1
theorem a_nb (hJ : K_J Z n) {key what : Int32} : m_r 68 [.ref 4, .int key, .int what] (hp Z P L) (some (.int (c_nb Z n key what))) (hp Z P L) := x_nb hJ.1 hJ.2.1 hJ.2.2.2.2.1
theorem a_sum (hJ : K_J Z n) {lo hi : Int32} : m_r 69 [.ref 4, .int lo, .int hi] (hp Z P L) (some (.int (c_sum Z n lo hi))) (hp Z P L) := x_sum hJ.1 hJ.2.1 hJ.2.2.2.2.1
theorem x_paid (hJ : K_J Z n) : m_r 91 [.ref 4] (hp Z P L) (some (.int (k_p Z n))) (hp Z P L) := by
  refine m_of (ls := [.ref 4]) hk_91 rfl rfl rfl ?_
  refine e_go hk_91 2 (c := (2, [.ref 4], [.int 4, .ref 4], hp Z P L)) rfl ?_
  refine e_call hk_91 (as := [.ref 4, .int 4]) (rest := []) rfl rfl hk_63 rfl (Nat.le_of_ble_eq_true rfl) rfl (a_c4 hJ) ?_
  show e_r 91 5 [.ref 4] [.int (Z 5 7)] (hp Z P L) _ _
  refine e_go hk_91 2 (c := (7, [.ref 4], [.int 5, .ref 4, .int (Z 5 7)], hp Z P L)) rfl ?_
  refine e_call hk_91 (as := [.ref 4, .int 5]) (rest := [.int (Z 5 7)]) rfl rfl hk_63 rfl (Nat.le_of_ble_eq_true rfl) rfl (a_c5 hJ) ?_
  show e_r 91 10 [.ref 4] [.int (Z 5 8 + 1000000), .int (Z 5 7)] (hp Z P L) _ _
  refine e_go hk_91 5 (c := (17, [.ref 4], [.int 6, .ref 4, .int (Z 5 7 + (Z 5 8 + 1000000) - 1000000)], hp Z P L)) rfl ?_
  refine e_call hk_91 (as := [.ref 4, .int 6]) (rest := [.int (Z 5 7 + (Z 5 8 + 1000000) - 1000000)]) rfl rfl hk_63 rfl (Nat.le_of_ble_eq_true rfl) rfl (a_c6 hJ) ?_
  show e_r 91 20 [.ref 4] [.int (t_sm (Z 13) 0 n 0), .int (Z 5 7 + (Z 5 8 + 1000000) - 1000000)] (hp Z P L) _ _
  refine e_go hk_91 1 (c := (21, [.ref 4], [.int (Z 5 7 + (Z 5 8 + 1000000) - 1000000 + t_sm (Z 13) 0 n 0)], hp Z P L)) rfl ?_
  rw [y_paid]
  exact e_ret hk_91 rfl rfl rfl rfl rfl
end ASKS
