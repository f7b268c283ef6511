/-! The law's isStep; printed by wip/p25/gen/step.py -/
abbrev l_y (x : Int32) : Int32 := x >>> (4 &&& 31)
theorem y_sub {a b : Int32} : a + b - a = b := by rw [Int32.add_comm, Int32.add_sub_cancel]
theorem w_ne {k : Int32} (hk : k = -1 ∨ k = -4) : ∀ w, w ≤ 60 → ¬ nI w = k := by
  have h1 : ∀ w, w < 61 → ¬ nI w = -1 := by decide +kernel
  have h2 : ∀ w, w < 61 → ¬ nI w = -4 := by decide +kernel
  intro w hw
  rcases hk with rfl | rfl
  · exact h1 w (by omega)
  · exact h2 w (by omega)
theorem w_pay {c q : Nat} (hc : 1 ≤ c ∧ c ≤ 60) (hq : q ≤ 9) : (nI q = 0 → nI (c * q) = 0) ∧ (¬ nI q = 0 → nI (c * q) - nI (c * q) / nI q * nI q = 0 ∧ ¬ nI (c * q) < nI q ∧ ¬ 60 * nI q < nI (c * q)) := by
  have hm : c * q ≤ 60 * q := Nat.mul_le_mul_right q hc.2
  have hm2 : 1 * q ≤ c * q := Nat.mul_le_mul_right q hc.1
  refine ⟨fun h => ?_, fun h => ?_⟩
  · have h0 : q = 0 := (nI_eq (a := q) (b := 0) (by omega) (by omega)).mp h
    rw [h0, Nat.mul_zero]
    rfl
  · have h0 : 0 < q := by
      rcases Nat.eq_zero_or_pos q with z | z
      · rw [z] at h
        exact absurd rfl h
      · exact z
    refine ⟨?_, nI_nlt (by omega) (by omega), ?_⟩
    · rw [pk_div (by omega) h0 (by omega), Nat.mul_div_cancel _ h0, nI_mul, Int32.sub_self]
    · rw [show (60 : Int32) = nI 60 from rfl, nI_mul]
      exact nI_nlt hm (by omega)
/-- what the law knows of whether the key is there -/
def l_is (Z : Nat → Nat → Int32) (n : Nat) (key w : Int32) : Prop := (t_fn (Z 9) (Z 17) n key = none ∧ w = 0) ∨ (¬ t_fn (Z 9) (Z 17) n key = none ∧ w = 1)
theorem val_fn {Z : Nat → Nat → Int32} {n : Nat} {key : Int32} (hJ : K_J Z n) (hk : y_nm key = true) : c_val Z n key = -6 ↔ t_fn (Z 9) (Z 17) n key = none := by
  constructor
  · intro h
    cases hq : t_fn (Z 9) (Z 17) n key with
    | none => rfl
    | some j =>
      have h1 := fn_in hq
      rw [val_in hJ hk h1] at h
      exact absurd h (in_val hJ h1)
  · intro h
    exact val_out hk (fn_none hJ h)
set_option maxRecDepth 20000 in
theorem st_head {Z : Nat → Nat → Int32} {P : Nat → Nat} {L : Nat} {x : Int32} : ∃ ky : Nat, ky ≤ 999 ∧ ∀ v h2, e_r 92 35 [.ref 4, .int x, .int (l_y x), s_no, s_no, s_no, s_no, s_no, s_no, s_no, s_no, s_no, s_no] [.int (nI ky)] (hp Z P L) v h2 → m_r 92 [.ref 4, .int x] (hp Z P L) v h2 := by
  by_cases h0 : nI (l_u (l_y x) 3) = 0
  · refine ⟨l_u (l_y x >>> (2 &&& 31)) 1000, by have := l_u_lt (v := l_y x >>> (2 &&& 31)) (m := 1000) (by decide); omega, fun v h2 kk => ?_⟩
    refine m_of (ls := [.ref 4, .int x, s_no, s_no, s_no, s_no, s_no, s_no, s_no, s_no, s_no, s_no, s_no]) hk_92 rfl rfl rfl ?_
    refine e_go hk_92 4 (c := (4, [.ref 4, .int x, .int (x >>> (4 &&& 31)), s_no, s_no, s_no, s_no, s_no, s_no, s_no, s_no, s_no, s_no], [], hp Z P L)) rfl ?_
    refine e_go hk_92 2 (c := (6, [.ref 4, .int x, .int (l_y x), s_no, s_no, s_no, s_no, s_no, s_no, s_no, s_no, s_no, s_no], [.int 3, .int (l_y x)], hp Z P L)) rfl ?_
    refine e_call hk_92 (as := [.int (l_y x), .int 3]) (rest := []) rfl rfl hk_90 rfl (Nat.le_of_ble_eq_true rfl) rfl (show m_r 90 [.int (l_y x), .int 3] (hp Z P L) (some (.int (nI (l_u (l_y x) 3)))) (hp Z P L) from x_up (m := 3) (by decide) (by decide)) ?_
    show e_r 92 9 [.ref 4, .int x, .int (l_y x), s_no, s_no, s_no, s_no, s_no, s_no, s_no, s_no, s_no, s_no] [.int (nI (l_u (l_y x) 3))] (hp Z P L) _ _
    refine e_go hk_92 1 (c := (if s_cnd .ne (nI (l_u (l_y x) 3)) 0 = true then 24 else 12, [.ref 4, .int x, .int (l_y x), s_no, s_no, s_no, s_no, s_no, s_no, s_no, s_no, s_no, s_no], [], hp Z P L)) rfl ?_
    refine e_ne (a := 24) (b := 12) (x := nI (l_u (l_y x) 3)) (y := 0) (fun hc9 => absurd (h0) hc9) (fun hc9 => ?_)
    refine e_go hk_92 4 (c := (18, [.ref 4, .int x, .int (l_y x), s_no, s_no, s_no, s_no, s_no, s_no, s_no, s_no, s_no, s_no], [.int 1000, .int ((l_y x) >>> (2 &&& 31))], hp Z P L)) rfl ?_
    refine e_call hk_92 (as := [.int ((l_y x) >>> (2 &&& 31)), .int 1000]) (rest := []) rfl rfl hk_90 rfl (Nat.le_of_ble_eq_true rfl) rfl (show m_r 90 [.int ((l_y x) >>> (2 &&& 31)), .int 1000] (hp Z P L) (some (.int (nI (l_u ((l_y x) >>> (2 &&& 31)) 1000)))) (hp Z P L) from x_up (m := 1000) (by decide) (by decide)) ?_
    show e_r 92 21 [.ref 4, .int x, .int (l_y x), s_no, s_no, s_no, s_no, s_no, s_no, s_no, s_no, s_no, s_no] [.int (nI (l_u ((l_y x) >>> (2 &&& 31)) 1000))] (hp Z P L) _ _
    refine e_go hk_92 1 (c := (35, [.ref 4, .int x, .int (l_y x), s_no, s_no, s_no, s_no, s_no, s_no, s_no, s_no, s_no, s_no], [.int (nI (l_u ((l_y x) >>> (2 &&& 31)) 1000))], hp Z P L)) rfl ?_
    exact kk
  · refine ⟨11 * l_u (l_y x >>> (2 &&& 31)) 60, by have := l_u_lt (v := l_y x >>> (2 &&& 31)) (m := 60) (by decide); omega, fun v h2 kk => ?_⟩
    refine m_of (ls := [.ref 4, .int x, s_no, s_no, s_no, s_no, s_no, s_no, s_no, s_no, s_no, s_no, s_no]) hk_92 rfl rfl rfl ?_
    refine e_go hk_92 4 (c := (4, [.ref 4, .int x, .int (x >>> (4 &&& 31)), s_no, s_no, s_no, s_no, s_no, s_no, s_no, s_no, s_no, s_no], [], hp Z P L)) rfl ?_
    refine e_go hk_92 2 (c := (6, [.ref 4, .int x, .int (l_y x), s_no, s_no, s_no, s_no, s_no, s_no, s_no, s_no, s_no, s_no], [.int 3, .int (l_y x)], hp Z P L)) rfl ?_
    refine e_call hk_92 (as := [.int (l_y x), .int 3]) (rest := []) rfl rfl hk_90 rfl (Nat.le_of_ble_eq_true rfl) rfl (show m_r 90 [.int (l_y x), .int 3] (hp Z P L) (some (.int (nI (l_u (l_y x) 3)))) (hp Z P L) from x_up (m := 3) (by decide) (by decide)) ?_
    show e_r 92 9 [.ref 4, .int x, .int (l_y x), s_no, s_no, s_no, s_no, s_no, s_no, s_no, s_no, s_no, s_no] [.int (nI (l_u (l_y x) 3))] (hp Z P L) _ _
    refine e_go hk_92 1 (c := (if s_cnd .ne (nI (l_u (l_y x) 3)) 0 = true then 24 else 12, [.ref 4, .int x, .int (l_y x), s_no, s_no, s_no, s_no, s_no, s_no, s_no, s_no, s_no, s_no], [], hp Z P L)) rfl ?_
    refine e_ne (a := 24) (b := 12) (x := nI (l_u (l_y x) 3)) (y := 0) (fun hc9 => ?_) (fun hc9 => absurd hc9 (h0))
    refine e_go hk_92 5 (c := (31, [.ref 4, .int x, .int (l_y x), s_no, s_no, s_no, s_no, s_no, s_no, s_no, s_no, s_no, s_no], [.int 60, .int ((l_y x) >>> (2 &&& 31)), .int 11], hp Z P L)) rfl ?_
    refine e_call hk_92 (as := [.int ((l_y x) >>> (2 &&& 31)), .int 60]) (rest := [.int 11]) rfl rfl hk_90 rfl (Nat.le_of_ble_eq_true rfl) rfl (show m_r 90 [.int ((l_y x) >>> (2 &&& 31)), .int 60] (hp Z P L) (some (.int (nI (l_u ((l_y x) >>> (2 &&& 31)) 60)))) (hp Z P L) from x_up (m := 60) (by decide) (by decide)) ?_
    show e_r 92 34 [.ref 4, .int x, .int (l_y x), s_no, s_no, s_no, s_no, s_no, s_no, s_no, s_no, s_no, s_no] [.int (nI (l_u ((l_y x) >>> (2 &&& 31)) 60)), .int 11] (hp Z P L) _ _
    refine e_go hk_92 1 (c := (35, [.ref 4, .int x, .int (l_y x), s_no, s_no, s_no, s_no, s_no, s_no, s_no, s_no, s_no, s_no], [.int ((11 : Int32) * (nI (l_u ((l_y x) >>> (2 &&& 31)) 60)))], hp Z P L)) rfl ?_
    rw [show (11 : Int32) * nI (l_u (l_y x >>> (2 &&& 31)) 60) = nI (11 * l_u (l_y x >>> (2 &&& 31)) 60) from nI_mul 11 _]
    exact kk
set_option maxRecDepth 20000 in
theorem st_2 {Z : Nat → Nat → Int32} {P : Nat → Nat} {L n m q : Nat} (hQ : K_Q Z P n m q) {x y w : Int32} {ky : Nat} (hk : ky ≤ 999) (hw : l_is Z n (nI ky) w) {v : Option Value} {h2 : sHp} (kk : e_r 92 89 [.ref 4, .int x, .int y, .int (nI ky), .int (k_p Z n), .int (Z 5 7), .int (t_sm (Z 17) 0 n 0), .int (nI q), .int w, .int (nI (l_u x 14)), s_no, s_no, s_no] [] (hp Z P L) v h2) : e_r 92 35 [.ref 4, .int x, .int y, s_no, s_no, s_no, s_no, s_no, s_no, s_no, s_no, s_no, s_no] [.int (nI ky)] (hp Z P L) v h2 := by
  have hc12 : m_r 63 [.ref 4, .int 12] (hp Z P L) (some (.int (nI q))) (hp Z P L) := by
    rw [← hQ.2.1.2.2.1]
    exact a_c12 hQ.1
  have hv := val_fn (key := nI ky) hQ.1 (y_nmt (y_nmn hk))
  rcases hw with ⟨h1, h2⟩ | ⟨h1, h2⟩
  · subst h2
    refine e_go hk_92 2 (c := (37, [.ref 4, .int x, .int y, .int (nI ky), s_no, s_no, s_no, s_no, s_no, s_no, s_no, s_no, s_no], [.ref 4], hp Z P L)) rfl ?_
    refine e_call hk_92 (as := [.ref 4]) (rest := []) rfl rfl hk_91 rfl (Nat.le_of_ble_eq_true rfl) rfl (x_paid hQ.1) ?_
    show e_r 92 40 [.ref 4, .int x, .int y, .int (nI ky), s_no, s_no, s_no, s_no, s_no, s_no, s_no, s_no, s_no] [.int (k_p Z n)] (hp Z P L) _ _
    refine e_go hk_92 3 (c := (44, [.ref 4, .int x, .int y, .int (nI ky), .int (k_p Z n), s_no, s_no, s_no, s_no, s_no, s_no, s_no, s_no], [.int 4, .ref 4], hp Z P L)) rfl ?_
    refine e_call hk_92 (as := [.ref 4, .int 4]) (rest := []) rfl rfl hk_63 rfl (Nat.le_of_ble_eq_true rfl) rfl (a_c4 hQ.1) ?_
    show e_r 92 47 [.ref 4, .int x, .int y, .int (nI ky), .int (k_p Z n), s_no, s_no, s_no, s_no, s_no, s_no, s_no, s_no] [.int (Z 5 7)] (hp Z P L) _ _
    refine e_go hk_92 3 (c := (51, [.ref 4, .int x, .int y, .int (nI ky), .int (k_p Z n), .int (Z 5 7), s_no, s_no, s_no, s_no, s_no, s_no, s_no], [.int 1, .ref 4], hp Z P L)) rfl ?_
    refine e_call hk_92 (as := [.ref 4, .int 1]) (rest := []) rfl rfl hk_63 rfl (Nat.le_of_ble_eq_true rfl) rfl (a_c1 hQ.1) ?_
    show e_r 92 54 [.ref 4, .int x, .int y, .int (nI ky), .int (k_p Z n), .int (Z 5 7), s_no, s_no, s_no, s_no, s_no, s_no, s_no] [.int (t_sm (Z 17) 0 n 0)] (hp Z P L) _ _
    refine e_go hk_92 3 (c := (59, [.ref 4, .int x, .int y, .int (nI ky), .int (k_p Z n), .int (Z 5 7), .int (t_sm (Z 17) 0 n 0), s_no, s_no, s_no, s_no, s_no, s_no], [.int 12, .ref 4], hp Z P L)) rfl ?_
    refine e_call hk_92 (as := [.ref 4, .int 12]) (rest := []) rfl rfl hk_63 rfl (Nat.le_of_ble_eq_true rfl) rfl hc12 ?_
    show e_r 92 62 [.ref 4, .int x, .int y, .int (nI ky), .int (k_p Z n), .int (Z 5 7), .int (t_sm (Z 17) 0 n 0), s_no, s_no, s_no, s_no, s_no, s_no] [.int (nI q)] (hp Z P L) _ _
    refine e_go hk_92 3 (c := (66, [.ref 4, .int x, .int y, .int (nI ky), .int (k_p Z n), .int (Z 5 7), .int (t_sm (Z 17) 0 n 0), .int (nI q), s_no, s_no, s_no, s_no, s_no], [.int (nI ky), .ref 4], hp Z P L)) rfl ?_
    refine e_call hk_92 (as := [.ref 4, .int (nI ky)]) (rest := []) rfl rfl hk_61 rfl (Nat.le_of_ble_eq_true rfl) rfl (a_val hQ.1) ?_
    show e_r 92 69 [.ref 4, .int x, .int y, .int (nI ky), .int (k_p Z n), .int (Z 5 7), .int (t_sm (Z 17) 0 n 0), .int (nI q), s_no, s_no, s_no, s_no, s_no] [.int (c_val Z n (nI ky))] (hp Z P L) _ _
    refine e_go hk_92 2 (c := (if s_cnd .eq (c_val Z n (nI ky)) ((-6)) = true then 78 else 74, [.ref 4, .int x, .int y, .int (nI ky), .int (k_p Z n), .int (Z 5 7), .int (t_sm (Z 17) 0 n 0), .int (nI q), s_no, s_no, s_no, s_no, s_no], [], hp Z P L)) rfl ?_
    refine e_eq (a := 78) (b := 74) (x := c_val Z n (nI ky)) (y := (-6)) (fun hc71 => ?_) (fun hc71 => absurd (hv.mpr h1) hc71)
    refine e_go hk_92 4 (c := (84, [.ref 4, .int x, .int y, .int (nI ky), .int (k_p Z n), .int (Z 5 7), .int (t_sm (Z 17) 0 n 0), .int (nI q), .int 0, s_no, s_no, s_no, s_no], [.int 14, .int x], hp Z P L)) rfl ?_
    refine e_call hk_92 (as := [.int x, .int 14]) (rest := []) rfl rfl hk_90 rfl (Nat.le_of_ble_eq_true rfl) rfl (show m_r 90 [.int x, .int 14] (hp Z P L) (some (.int (nI (l_u x 14)))) (hp Z P L) from x_up (m := 14) (by decide) (by decide)) ?_
    show e_r 92 87 [.ref 4, .int x, .int y, .int (nI ky), .int (k_p Z n), .int (Z 5 7), .int (t_sm (Z 17) 0 n 0), .int (nI q), .int 0, s_no, s_no, s_no, s_no] [.int (nI (l_u x 14))] (hp Z P L) _ _
    refine e_go hk_92 1 (c := (89, [.ref 4, .int x, .int y, .int (nI ky), .int (k_p Z n), .int (Z 5 7), .int (t_sm (Z 17) 0 n 0), .int (nI q), .int 0, .int (nI (l_u x 14)), s_no, s_no, s_no], [], hp Z P L)) rfl ?_
    exact kk
  · subst h2
    refine e_go hk_92 2 (c := (37, [.ref 4, .int x, .int y, .int (nI ky), s_no, s_no, s_no, s_no, s_no, s_no, s_no, s_no, s_no], [.ref 4], hp Z P L)) rfl ?_
    refine e_call hk_92 (as := [.ref 4]) (rest := []) rfl rfl hk_91 rfl (Nat.le_of_ble_eq_true rfl) rfl (x_paid hQ.1) ?_
    show e_r 92 40 [.ref 4, .int x, .int y, .int (nI ky), s_no, s_no, s_no, s_no, s_no, s_no, s_no, s_no, s_no] [.int (k_p Z n)] (hp Z P L) _ _
    refine e_go hk_92 3 (c := (44, [.ref 4, .int x, .int y, .int (nI ky), .int (k_p Z n), s_no, s_no, s_no, s_no, s_no, s_no, s_no, s_no], [.int 4, .ref 4], hp Z P L)) rfl ?_
    refine e_call hk_92 (as := [.ref 4, .int 4]) (rest := []) rfl rfl hk_63 rfl (Nat.le_of_ble_eq_true rfl) rfl (a_c4 hQ.1) ?_
    show e_r 92 47 [.ref 4, .int x, .int y, .int (nI ky), .int (k_p Z n), s_no, s_no, s_no, s_no, s_no, s_no, s_no, s_no] [.int (Z 5 7)] (hp Z P L) _ _
    refine e_go hk_92 3 (c := (51, [.ref 4, .int x, .int y, .int (nI ky), .int (k_p Z n), .int (Z 5 7), s_no, s_no, s_no, s_no, s_no, s_no, s_no], [.int 1, .ref 4], hp Z P L)) rfl ?_
    refine e_call hk_92 (as := [.ref 4, .int 1]) (rest := []) rfl rfl hk_63 rfl (Nat.le_of_ble_eq_true rfl) rfl (a_c1 hQ.1) ?_
    show e_r 92 54 [.ref 4, .int x, .int y, .int (nI ky), .int (k_p Z n), .int (Z 5 7), s_no, s_no, s_no, s_no, s_no, s_no, s_no] [.int (t_sm (Z 17) 0 n 0)] (hp Z P L) _ _
    refine e_go hk_92 3 (c := (59, [.ref 4, .int x, .int y, .int (nI ky), .int (k_p Z n), .int (Z 5 7), .int (t_sm (Z 17) 0 n 0), s_no, s_no, s_no, s_no, s_no, s_no], [.int 12, .ref 4], hp Z P L)) rfl ?_
    refine e_call hk_92 (as := [.ref 4, .int 12]) (rest := []) rfl rfl hk_63 rfl (Nat.le_of_ble_eq_true rfl) rfl hc12 ?_
    show e_r 92 62 [.ref 4, .int x, .int y, .int (nI ky), .int (k_p Z n), .int (Z 5 7), .int (t_sm (Z 17) 0 n 0), s_no, s_no, s_no, s_no, s_no, s_no] [.int (nI q)] (hp Z P L) _ _
    refine e_go hk_92 3 (c := (66, [.ref 4, .int x, .int y, .int (nI ky), .int (k_p Z n), .int (Z 5 7), .int (t_sm (Z 17) 0 n 0), .int (nI q), s_no, s_no, s_no, s_no, s_no], [.int (nI ky), .ref 4], hp Z P L)) rfl ?_
    refine e_call hk_92 (as := [.ref 4, .int (nI ky)]) (rest := []) rfl rfl hk_61 rfl (Nat.le_of_ble_eq_true rfl) rfl (a_val hQ.1) ?_
    show e_r 92 69 [.ref 4, .int x, .int y, .int (nI ky), .int (k_p Z n), .int (Z 5 7), .int (t_sm (Z 17) 0 n 0), .int (nI q), s_no, s_no, s_no, s_no, s_no] [.int (c_val Z n (nI ky))] (hp Z P L) _ _
    refine e_go hk_92 2 (c := (if s_cnd .eq (c_val Z n (nI ky)) ((-6)) = true then 78 else 74, [.ref 4, .int x, .int y, .int (nI ky), .int (k_p Z n), .int (Z 5 7), .int (t_sm (Z 17) 0 n 0), .int (nI q), s_no, s_no, s_no, s_no, s_no], [], hp Z P L)) rfl ?_
    refine e_eq (a := 78) (b := 74) (x := c_val Z n (nI ky)) (y := (-6)) (fun hc71 => absurd hc71 (fun z => h1 (hv.mp z))) (fun hc71 => ?_)
    refine e_go hk_92 5 (c := (84, [.ref 4, .int x, .int y, .int (nI ky), .int (k_p Z n), .int (Z 5 7), .int (t_sm (Z 17) 0 n 0), .int (nI q), .int 1, s_no, s_no, s_no, s_no], [.int 14, .int x], hp Z P L)) rfl ?_
    refine e_call hk_92 (as := [.int x, .int 14]) (rest := []) rfl rfl hk_90 rfl (Nat.le_of_ble_eq_true rfl) rfl (show m_r 90 [.int x, .int 14] (hp Z P L) (some (.int (nI (l_u x 14)))) (hp Z P L) from x_up (m := 14) (by decide) (by decide)) ?_
    show e_r 92 87 [.ref 4, .int x, .int y, .int (nI ky), .int (k_p Z n), .int (Z 5 7), .int (t_sm (Z 17) 0 n 0), .int (nI q), .int 1, s_no, s_no, s_no, s_no] [.int (nI (l_u x 14))] (hp Z P L) _ _
    refine e_go hk_92 1 (c := (89, [.ref 4, .int x, .int y, .int (nI ky), .int (k_p Z n), .int (Z 5 7), .int (t_sm (Z 17) 0 n 0), .int (nI q), .int 1, .int (nI (l_u x 14)), s_no, s_no, s_no], [], hp Z P L)) rfl ?_
    exact kk
set_option maxRecDepth 20000 in
theorem st_put {Z : Nat → Nat → Int32} {P : Nat → Nat} {L n m q : Nat} (hQ : K_Q Z P n m q) {x y w : Int32} {ky of : Nat} (hk : ky ≤ 999) (hw : l_is Z n (nI ky) w) (h8 : ¬ 8 ≤ nI of) : ∃ (Z2 : Nat → Nat → Int32) (P2 : Nat → Nat), K_G Z2 P2 ∧ e_r 92 89 [.ref 4, .int x, .int y, .int (nI ky), .int (k_p Z n), .int (Z 5 7), .int (t_sm (Z 17) 0 n 0), .int (nI q), .int w, .int (nI of), s_no, s_no, s_no] [] (hp Z P L) (some (.int 1)) (hp Z2 P2 L) := by
  rcases q_put (L := L) hQ hk (vl := l_u (y >>> (13 &&& 31)) 1000) (by have := l_u_lt (v := y >>> (13 &&& 31)) (m := 1000) (by decide); omega) with ⟨g1, g2, g3, g4⟩ | ⟨Z2, P2, n2, m2, wt, c, hQ2, g1, g2, g3, g4, g5, g6, g7, g8, g9⟩
  · have hw0 : w = 0 := hw.elim (fun z => z.2) (fun z => absurd g2 z.1)
    subst hw0
    have g3 : m_r 70 [.ref 4, .int (nI ky)] (hp Z P L) (some (.int (-4))) (hp Z P L) := by rw [← g3]; exact a_wc hQ.1
    refine ⟨Z, P, ⟨n, m, q, hQ⟩, ?_⟩
    refine e_go hk_92 3 (c := (if s_cnd .ge (nI of) 8 = true then 283 else 96, [.ref 4, .int x, .int y, .int (nI ky), .int (k_p Z n), .int (Z 5 7), .int (t_sm (Z 17) 0 n 0), .int (nI q), .int 0, .int (nI of), s_no, s_no, s_no], [], hp Z P L)) rfl ?_
    refine e_ge (a := 283) (b := 96) (x := nI of) (y := 8) (fun hc93 => absurd hc93 (h8)) (fun hc93 => ?_)
    refine e_go hk_92 2 (c := (98, [.ref 4, .int x, .int y, .int (nI ky), .int (k_p Z n), .int (Z 5 7), .int (t_sm (Z 17) 0 n 0), .int (nI q), .int 0, .int (nI of), s_no, s_no, s_no], [.int (nI ky), .ref 4], hp Z P L)) rfl ?_
    refine e_call hk_92 (as := [.ref 4, .int (nI ky)]) (rest := []) rfl rfl hk_70 rfl (Nat.le_of_ble_eq_true rfl) rfl g3 ?_
    show e_r 92 101 [.ref 4, .int x, .int y, .int (nI ky), .int (k_p Z n), .int (Z 5 7), .int (t_sm (Z 17) 0 n 0), .int (nI q), .int 0, .int (nI of), s_no, s_no, s_no] [.int ((-4))] (hp Z P L) _ _
    refine e_go hk_92 7 (c := (112, [.ref 4, .int x, .int y, .int (nI ky), .int (k_p Z n), .int (Z 5 7), .int (t_sm (Z 17) 0 n 0), .int (nI q), .int 0, .int (nI of), .int ((-4)), s_no, s_no], [.int 1000, .int (y >>> (13 &&& 31)), .int (nI ky), .ref 4], hp Z P L)) rfl ?_
    refine e_call hk_92 (as := [.int (y >>> (13 &&& 31)), .int 1000]) (rest := [.int (nI ky), .ref 4]) rfl rfl hk_90 rfl (Nat.le_of_ble_eq_true rfl) rfl (show m_r 90 [.int (y >>> (13 &&& 31)), .int 1000] (hp Z P L) (some (.int (nI (l_u (y >>> (13 &&& 31)) 1000)))) (hp Z P L) from x_up (m := 1000) (by decide) (by decide)) ?_
    show e_r 92 115 [.ref 4, .int x, .int y, .int (nI ky), .int (k_p Z n), .int (Z 5 7), .int (t_sm (Z 17) 0 n 0), .int (nI q), .int 0, .int (nI of), .int ((-4)), s_no, s_no] [.int (nI (l_u (y >>> (13 &&& 31)) 1000)), .int (nI ky), .ref 4] (hp Z P L) _ _
    refine e_call hk_92 (as := [.ref 4, .int (nI ky), .int (nI (l_u (y >>> (13 &&& 31)) 1000))]) (rest := []) rfl rfl hk_58 rfl (Nat.le_of_ble_eq_true rfl) rfl g4 ?_
    show e_r 92 118 [.ref 4, .int x, .int y, .int (nI ky), .int (k_p Z n), .int (Z 5 7), .int (t_sm (Z 17) 0 n 0), .int (nI q), .int 0, .int (nI of), .int ((-4)), s_no, s_no] [.int ((-4))] (hp Z P L) _ _
    refine e_go hk_92 4 (c := (if s_cnd .ne ((-4)) ((-4)) = true then 155 else 127, [.ref 4, .int x, .int y, .int (nI ky), .int (k_p Z n), .int (Z 5 7), .int (t_sm (Z 17) 0 n 0), .int (nI q), .int 0, .int (nI of), .int ((-4)), .int ((-4)), s_no], [], hp Z P L)) rfl ?_
    refine e_ne (a := 155) (b := 127) (x := (-4)) (y := (-4)) (fun hc124 => absurd (rfl) hc124) (fun hc124 => ?_)
    refine e_go hk_92 3 (c := (if s_cnd .ne ((-4)) ((-4)) = true then 153 else 134, [.ref 4, .int x, .int y, .int (nI ky), .int (k_p Z n), .int (Z 5 7), .int (t_sm (Z 17) 0 n 0), .int (nI q), .int 0, .int (nI of), .int ((-4)), .int ((-4)), s_no], [], hp Z P L)) rfl ?_
    refine e_ne (a := 153) (b := 134) (x := (-4)) (y := (-4)) (fun hc131 => absurd (rfl) hc131) (fun hc131 => ?_)
    refine e_go hk_92 2 (c := (136, [.ref 4, .int x, .int y, .int (nI ky), .int (k_p Z n), .int (Z 5 7), .int (t_sm (Z 17) 0 n 0), .int (nI q), .int 0, .int (nI of), .int ((-4)), .int ((-4)), s_no], [.int 0, .ref 4], hp Z P L)) rfl ?_
    refine e_call hk_92 (as := [.ref 4, .int 0]) (rest := []) rfl rfl hk_63 rfl (Nat.le_of_ble_eq_true rfl) rfl (a_c0 hQ.1) ?_
    show e_r 92 139 [.ref 4, .int x, .int y, .int (nI ky), .int (k_p Z n), .int (Z 5 7), .int (t_sm (Z 17) 0 n 0), .int (nI q), .int 0, .int (nI of), .int ((-4)), .int ((-4)), s_no] [.int (nI n)] (hp Z P L) _ _
    refine e_go hk_92 2 (c := (if s_cnd .ne (nI n) 60 = true then 153 else 144, [.ref 4, .int x, .int y, .int (nI ky), .int (k_p Z n), .int (Z 5 7), .int (t_sm (Z 17) 0 n 0), .int (nI q), .int 0, .int (nI of), .int ((-4)), .int ((-4)), s_no], [], hp Z P L)) rfl ?_
    refine e_ne (a := 153) (b := 144) (x := nI n) (y := 60) (fun hc141 => absurd (by rw [g1]; rfl) hc141) (fun hc141 => ?_)
    refine e_go hk_92 2 (c := (if s_cnd .ne 0 0 = true then 153 else 149, [.ref 4, .int x, .int y, .int (nI ky), .int (k_p Z n), .int (Z 5 7), .int (t_sm (Z 17) 0 n 0), .int (nI q), .int 0, .int (nI of), .int ((-4)), .int ((-4)), s_no], [], hp Z P L)) rfl ?_
    refine e_ne (a := 153) (b := 149) (x := 0) (y := 0) (fun hc146 => absurd (rfl) hc146) (fun hc146 => ?_)
    refine e_go hk_92 2 (c := (154, [.ref 4, .int x, .int y, .int (nI ky), .int (k_p Z n), .int (Z 5 7), .int (t_sm (Z 17) 0 n 0), .int (nI q), .int 0, .int (nI of), .int ((-4)), .int ((-4)), s_no], [.int 1], hp Z P L)) rfl ?_
    exact e_ret hk_92 rfl rfl rfl rfl rfl
  · have g3 : m_r 70 [.ref 4, .int (nI ky)] (hp Z P L) (some (.int (nI wt))) (hp Z P L) := by rw [← g3]; exact a_wc hQ.1
    have hp2 : m_r 91 [.ref 4] (hp Z2 P2 L) (some (.int (k_p Z n + nI (c * q)))) (hp Z2 P2 L) := by rw [← g5]; exact x_paid hQ2.1
    have hc4 : m_r 63 [.ref 4, .int 4] (hp Z2 P2 L) (some (.int (Z 5 7 + nI wt))) (hp Z2 P2 L) := by rw [← g4]; exact a_c4 hQ2.1
    have hvl : m_r 61 [.ref 4, .int (nI ky)] (hp Z2 P2 L) (some (.int (nI (l_u (y >>> (13 &&& 31)) 1000)))) (hp Z2 P2 L) := by rw [← g7]; exact a_val hQ2.1
    obtain ⟨p1, p2⟩ := w_pay g6 hQ.2.1.2.2.2
    have hn4 := w_ne (Or.inr rfl) wt g2
    have h10 : ¬ nI wt = 0 → ¬ Z2 5 10 < nI wt := fun z => g9.resolve_left (fun y => z (by rw [y]; rfl))
    refine ⟨Z2, P2, ⟨n2, m2, q, hQ2⟩, ?_⟩
    rcases hw with ⟨w1, w2⟩ | ⟨w1, w2⟩
    · subst w2
      have hc1 : m_r 63 [.ref 4, .int 1] (hp Z2 P2 L) (some (.int (t_sm (Z 17) 0 n 0 + 1))) (hp Z2 P2 L) := by
        have z := a_c1 (P := P2) (L := L) hQ2.1
        rw [g8, if_pos w1] at z
        exact z
      refine e_go hk_92 3 (c := (if s_cnd .ge (nI of) 8 = true then 283 else 96, [.ref 4, .int x, .int y, .int (nI ky), .int (k_p Z n), .int (Z 5 7), .int (t_sm (Z 17) 0 n 0), .int (nI q), .int 0, .int (nI of), s_no, s_no, s_no], [], hp Z P L)) rfl ?_
      refine e_ge (a := 283) (b := 96) (x := nI of) (y := 8) (fun hc93 => absurd hc93 (h8)) (fun hc93 => ?_)
      refine e_go hk_92 2 (c := (98, [.ref 4, .int x, .int y, .int (nI ky), .int (k_p Z n), .int (Z 5 7), .int (t_sm (Z 17) 0 n 0), .int (nI q), .int 0, .int (nI of), s_no, s_no, s_no], [.int (nI ky), .ref 4], hp Z P L)) rfl ?_
      refine e_call hk_92 (as := [.ref 4, .int (nI ky)]) (rest := []) rfl rfl hk_70 rfl (Nat.le_of_ble_eq_true rfl) rfl g3 ?_
      show e_r 92 101 [.ref 4, .int x, .int y, .int (nI ky), .int (k_p Z n), .int (Z 5 7), .int (t_sm (Z 17) 0 n 0), .int (nI q), .int 0, .int (nI of), s_no, s_no, s_no] [.int (nI wt)] (hp Z P L) _ _
      refine e_go hk_92 7 (c := (112, [.ref 4, .int x, .int y, .int (nI ky), .int (k_p Z n), .int (Z 5 7), .int (t_sm (Z 17) 0 n 0), .int (nI q), .int 0, .int (nI of), .int (nI wt), s_no, s_no], [.int 1000, .int (y >>> (13 &&& 31)), .int (nI ky), .ref 4], hp Z P L)) rfl ?_
      refine e_call hk_92 (as := [.int (y >>> (13 &&& 31)), .int 1000]) (rest := [.int (nI ky), .ref 4]) rfl rfl hk_90 rfl (Nat.le_of_ble_eq_true rfl) rfl (show m_r 90 [.int (y >>> (13 &&& 31)), .int 1000] (hp Z P L) (some (.int (nI (l_u (y >>> (13 &&& 31)) 1000)))) (hp Z P L) from x_up (m := 1000) (by decide) (by decide)) ?_
      show e_r 92 115 [.ref 4, .int x, .int y, .int (nI ky), .int (k_p Z n), .int (Z 5 7), .int (t_sm (Z 17) 0 n 0), .int (nI q), .int 0, .int (nI of), .int (nI wt), s_no, s_no] [.int (nI (l_u (y >>> (13 &&& 31)) 1000)), .int (nI ky), .ref 4] (hp Z P L) _ _
      refine e_call hk_92 (as := [.ref 4, .int (nI ky), .int (nI (l_u (y >>> (13 &&& 31)) 1000))]) (rest := []) rfl rfl hk_58 rfl (Nat.le_of_ble_eq_true rfl) rfl g1 ?_
      show e_r 92 118 [.ref 4, .int x, .int y, .int (nI ky), .int (k_p Z n), .int (Z 5 7), .int (t_sm (Z 17) 0 n 0), .int (nI q), .int 0, .int (nI of), .int (nI wt), s_no, s_no] [.int (nI wt)] (hp Z2 P2 L) _ _
      refine e_go hk_92 4 (c := (if s_cnd .ne (nI wt) ((-4)) = true then 155 else 127, [.ref 4, .int x, .int y, .int (nI ky), .int (k_p Z n), .int (Z 5 7), .int (t_sm (Z 17) 0 n 0), .int (nI q), .int 0, .int (nI of), .int (nI wt), .int (nI wt), s_no], [], hp Z2 P2 L)) rfl ?_
      refine e_ne (a := 155) (b := 127) (x := nI wt) (y := (-4)) (fun hc124 => ?_) (fun hc124 => absurd hc124 (hn4))
      refine e_go hk_92 1 (c := (156, [.ref 4, .int x, .int y, .int (nI ky), .int (k_p Z n), .int (Z 5 7), .int (t_sm (Z 17) 0 n 0), .int (nI q), .int 0, .int (nI of), .int (nI wt), .int (nI wt), s_no], [.ref 4], hp Z2 P2 L)) rfl ?_
      refine e_call hk_92 (as := [.ref 4]) (rest := []) rfl rfl hk_91 rfl (Nat.le_of_ble_eq_true rfl) rfl hp2 ?_
      show e_r 92 159 [.ref 4, .int x, .int y, .int (nI ky), .int (k_p Z n), .int (Z 5 7), .int (t_sm (Z 17) 0 n 0), .int (nI q), .int 0, .int (nI of), .int (nI wt), .int (nI wt), s_no] [.int (k_p Z n + nI (c * q))] (hp Z2 P2 L) _ _
      refine e_go hk_92 2 (c := (162, [.ref 4, .int x, .int y, .int (nI ky), .int (k_p Z n), .int (Z 5 7), .int (t_sm (Z 17) 0 n 0), .int (nI q), .int 0, .int (nI of), .int (nI wt), .int (nI wt), s_no], [.int ((k_p Z n + nI (c * q)) - (k_p Z n))], hp Z2 P2 L)) rfl ?_
      rw [y_sub]
      refine e_go hk_92 4 (c := (if s_cnd .ne (nI wt) (nI wt) = true then 281 else 171, [.ref 4, .int x, .int y, .int (nI ky), .int (k_p Z n), .int (Z 5 7), .int (t_sm (Z 17) 0 n 0), .int (nI q), .int 0, .int (nI of), .int (nI wt), .int (nI wt), .int (nI (c * q))], [], hp Z2 P2 L)) rfl ?_
      refine e_ne (a := 281) (b := 171) (x := nI wt) (y := nI wt) (fun hc168 => absurd (rfl) hc168) (fun hc168 => ?_)
      refine e_go hk_92 2 (c := (173, [.ref 4, .int x, .int y, .int (nI ky), .int (k_p Z n), .int (Z 5 7), .int (t_sm (Z 17) 0 n 0), .int (nI q), .int 0, .int (nI of), .int (nI wt), .int (nI wt), .int (nI (c * q))], [.int 4, .ref 4], hp Z2 P2 L)) rfl ?_
      refine e_call hk_92 (as := [.ref 4, .int 4]) (rest := []) rfl rfl hk_63 rfl (Nat.le_of_ble_eq_true rfl) rfl hc4 ?_
      show e_r 92 176 [.ref 4, .int x, .int y, .int (nI ky), .int (k_p Z n), .int (Z 5 7), .int (t_sm (Z 17) 0 n 0), .int (nI q), .int 0, .int (nI of), .int (nI wt), .int (nI wt), .int (nI (c * q))] [.int (Z 5 7 + nI wt)] (hp Z2 P2 L) _ _
      refine e_go hk_92 4 (c := (if s_cnd .ne (Z 5 7 + nI wt) ((Z 5 7) + (nI wt)) = true then 281 else 184, [.ref 4, .int x, .int y, .int (nI ky), .int (k_p Z n), .int (Z 5 7), .int (t_sm (Z 17) 0 n 0), .int (nI q), .int 0, .int (nI of), .int (nI wt), .int (nI wt), .int (nI (c * q))], [], hp Z2 P2 L)) rfl ?_
      refine e_ne (a := 281) (b := 184) (x := Z 5 7 + nI wt) (y := (Z 5 7) + (nI wt)) (fun hc181 => absurd (rfl) hc181) (fun hc181 => ?_)
      refine e_go hk_92 2 (c := (186, [.ref 4, .int x, .int y, .int (nI ky), .int (k_p Z n), .int (Z 5 7), .int (t_sm (Z 17) 0 n 0), .int (nI q), .int 0, .int (nI of), .int (nI wt), .int (nI wt), .int (nI (c * q))], [.int (nI ky), .ref 4], hp Z2 P2 L)) rfl ?_
      refine e_call hk_92 (as := [.ref 4, .int (nI ky)]) (rest := []) rfl rfl hk_61 rfl (Nat.le_of_ble_eq_true rfl) rfl hvl ?_
      show e_r 92 189 [.ref 4, .int x, .int y, .int (nI ky), .int (k_p Z n), .int (Z 5 7), .int (t_sm (Z 17) 0 n 0), .int (nI q), .int 0, .int (nI of), .int (nI wt), .int (nI wt), .int (nI (c * q))] [.int (nI (l_u (y >>> (13 &&& 31)) 1000))] (hp Z2 P2 L) _ _
      refine e_go hk_92 4 (c := (196, [.ref 4, .int x, .int y, .int (nI ky), .int (k_p Z n), .int (Z 5 7), .int (t_sm (Z 17) 0 n 0), .int (nI q), .int 0, .int (nI of), .int (nI wt), .int (nI wt), .int (nI (c * q))], [.int 1000, .int (y >>> (13 &&& 31)), .int (nI (l_u (y >>> (13 &&& 31)) 1000))], hp Z2 P2 L)) rfl ?_
      refine e_call hk_92 (as := [.int (y >>> (13 &&& 31)), .int 1000]) (rest := [.int (nI (l_u (y >>> (13 &&& 31)) 1000))]) rfl rfl hk_90 rfl (Nat.le_of_ble_eq_true rfl) rfl (show m_r 90 [.int (y >>> (13 &&& 31)), .int 1000] (hp Z2 P2 L) (some (.int (nI (l_u (y >>> (13 &&& 31)) 1000)))) (hp Z2 P2 L) from x_up (m := 1000) (by decide) (by decide)) ?_
      show e_r 92 199 [.ref 4, .int x, .int y, .int (nI ky), .int (k_p Z n), .int (Z 5 7), .int (t_sm (Z 17) 0 n 0), .int (nI q), .int 0, .int (nI of), .int (nI wt), .int (nI wt), .int (nI (c * q))] [.int (nI (l_u (y >>> (13 &&& 31)) 1000)), .int (nI (l_u (y >>> (13 &&& 31)) 1000))] (hp Z2 P2 L) _ _
      refine e_go hk_92 1 (c := (if s_cnd .ne (nI (l_u (y >>> (13 &&& 31)) 1000)) (nI (l_u (y >>> (13 &&& 31)) 1000)) = true then 281 else 202, [.ref 4, .int x, .int y, .int (nI ky), .int (k_p Z n), .int (Z 5 7), .int (t_sm (Z 17) 0 n 0), .int (nI q), .int 0, .int (nI of), .int (nI wt), .int (nI wt), .int (nI (c * q))], [], hp Z2 P2 L)) rfl ?_
      refine e_ne (a := 281) (b := 202) (x := nI (l_u (y >>> (13 &&& 31)) 1000)) (y := nI (l_u (y >>> (13 &&& 31)) 1000)) (fun hc199 => absurd (rfl) hc199) (fun hc199 => ?_)
      refine e_go hk_92 2 (c := (204, [.ref 4, .int x, .int y, .int (nI ky), .int (k_p Z n), .int (Z 5 7), .int (t_sm (Z 17) 0 n 0), .int (nI q), .int 0, .int (nI of), .int (nI wt), .int (nI wt), .int (nI (c * q))], [.int 1, .ref 4], hp Z2 P2 L)) rfl ?_
      refine e_call hk_92 (as := [.ref 4, .int 1]) (rest := []) rfl rfl hk_63 rfl (Nat.le_of_ble_eq_true rfl) rfl hc1 ?_
      show e_r 92 207 [.ref 4, .int x, .int y, .int (nI ky), .int (k_p Z n), .int (Z 5 7), .int (t_sm (Z 17) 0 n 0), .int (nI q), .int 0, .int (nI of), .int (nI wt), .int (nI wt), .int (nI (c * q))] [.int (t_sm (Z 17) 0 n 0 + 1)] (hp Z2 P2 L) _ _
      refine e_go hk_92 3 (c := (if s_cnd .eq 0 0 = true then 218 else 214, [.ref 4, .int x, .int y, .int (nI ky), .int (k_p Z n), .int (Z 5 7), .int (t_sm (Z 17) 0 n 0), .int (nI q), .int 0, .int (nI of), .int (nI wt), .int (nI wt), .int (nI (c * q))], [.int (t_sm (Z 17) 0 n 0), .int (t_sm (Z 17) 0 n 0 + 1)], hp Z2 P2 L)) rfl ?_
      refine e_eq (a := 218) (b := 214) (x := 0) (y := 0) (fun hc211 => ?_) (fun hc211 => absurd (rfl) hc211)
      refine e_go hk_92 3 (c := (if s_cnd .ne (t_sm (Z 17) 0 n 0 + 1) ((t_sm (Z 17) 0 n 0) + 1) = true then 281 else 223, [.ref 4, .int x, .int y, .int (nI ky), .int (k_p Z n), .int (Z 5 7), .int (t_sm (Z 17) 0 n 0), .int (nI q), .int 0, .int (nI of), .int (nI wt), .int (nI wt), .int (nI (c * q))], [], hp Z2 P2 L)) rfl ?_
      refine e_ne (a := 281) (b := 223) (x := t_sm (Z 17) 0 n 0 + 1) (y := (t_sm (Z 17) 0 n 0) + 1) (fun hc220 => absurd (rfl) hc220) (fun hc220 => ?_)
      refine e_go hk_92 2 (c := (if s_cnd .ne (nI q) 0 = true then 236 else 228, [.ref 4, .int x, .int y, .int (nI ky), .int (k_p Z n), .int (Z 5 7), .int (t_sm (Z 17) 0 n 0), .int (nI q), .int 0, .int (nI of), .int (nI wt), .int (nI wt), .int (nI (c * q))], [], hp Z2 P2 L)) rfl ?_
      refine e_ne (a := 236) (b := 228) (x := nI q) (y := 0) (fun hc225 => ?_) (fun hc225 => ?_)
      · skip
        refine e_go hk_92 2 (c := (240, [.ref 4, .int x, .int y, .int (nI ky), .int (k_p Z n), .int (Z 5 7), .int (t_sm (Z 17) 0 n 0), .int (nI q), .int 0, .int (nI of), .int (nI wt), .int (nI wt), .int (nI (c * q))], [.int (nI q), .int (nI (c * q))], hp Z2 P2 L)) rfl ?_
        refine e_irem hk_92 (x := nI (c * q)) (y := nI q) rfl rfl hc225 ?_
        rw [(p2 hc225).1]
        show e_r 92 241 [.ref 4, .int x, .int y, .int (nI ky), .int (k_p Z n), .int (Z 5 7), .int (t_sm (Z 17) 0 n 0), .int (nI q), .int 0, .int (nI of), .int (nI wt), .int (nI wt), .int (nI (c * q))] [.int 0] (hp Z2 P2 L) _ _
        refine e_go hk_92 1 (c := (if s_cnd .ne 0 0 = true then 281 else 244, [.ref 4, .int x, .int y, .int (nI ky), .int (k_p Z n), .int (Z 5 7), .int (t_sm (Z 17) 0 n 0), .int (nI q), .int 0, .int (nI of), .int (nI wt), .int (nI wt), .int (nI (c * q))], [], hp Z2 P2 L)) rfl ?_
        refine e_ne (a := 281) (b := 244) (x := 0) (y := 0) (fun hc241 => absurd (rfl) hc241) (fun hc241 => ?_)
        refine e_go hk_92 3 (c := (if s_cnd .lt (nI (c * q)) (nI q) = true then 281 else 251, [.ref 4, .int x, .int y, .int (nI ky), .int (k_p Z n), .int (Z 5 7), .int (t_sm (Z 17) 0 n 0), .int (nI q), .int 0, .int (nI of), .int (nI wt), .int (nI wt), .int (nI (c * q))], [], hp Z2 P2 L)) rfl ?_
        refine e_lt (a := 281) (b := 251) (x := nI (c * q)) (y := nI q) (fun hc248 => absurd hc248 ((p2 hc225).2.1)) (fun hc248 => ?_)
        refine e_go hk_92 5 (c := (if s_cnd .gt (nI (c * q)) ((60 : Int32) * (nI q)) = true then 281 else 261, [.ref 4, .int x, .int y, .int (nI ky), .int (k_p Z n), .int (Z 5 7), .int (t_sm (Z 17) 0 n 0), .int (nI q), .int 0, .int (nI of), .int (nI wt), .int (nI wt), .int (nI (c * q))], [], hp Z2 P2 L)) rfl ?_
        refine e_gt (a := 281) (b := 261) (x := nI (c * q)) (y := (60 : Int32) * (nI q)) (fun hc258 => absurd hc258 ((p2 hc225).2.2)) (fun hc258 => ?_)
        refine e_go hk_92 2 (c := (if s_cnd .eq (nI wt) 0 = true then 277 else 266, [.ref 4, .int x, .int y, .int (nI ky), .int (k_p Z n), .int (Z 5 7), .int (t_sm (Z 17) 0 n 0), .int (nI q), .int 0, .int (nI of), .int (nI wt), .int (nI wt), .int (nI (c * q))], [], hp Z2 P2 L)) rfl ?_
        refine e_eq (a := 277) (b := 266) (x := nI wt) (y := 0) (fun hc263 => ?_) (fun hc263 => ?_)
        · skip
          refine e_go hk_92 2 (c := (282, [.ref 4, .int x, .int y, .int (nI ky), .int (k_p Z n), .int (Z 5 7), .int (t_sm (Z 17) 0 n 0), .int (nI q), .int 0, .int (nI of), .int (nI wt), .int (nI wt), .int (nI (c * q))], [.int 1], hp Z2 P2 L)) rfl ?_
          exact e_ret hk_92 rfl rfl rfl rfl rfl
        · skip
          refine e_go hk_92 2 (c := (269, [.ref 4, .int x, .int y, .int (nI ky), .int (k_p Z n), .int (Z 5 7), .int (t_sm (Z 17) 0 n 0), .int (nI q), .int 0, .int (nI of), .int (nI wt), .int (nI wt), .int (nI (c * q))], [.int 8, .ref 4], hp Z2 P2 L)) rfl ?_
          refine e_call hk_92 (as := [.ref 4, .int 8]) (rest := []) rfl rfl hk_63 rfl (Nat.le_of_ble_eq_true rfl) rfl (a_c8 hQ2.1) ?_
          show e_r 92 272 [.ref 4, .int x, .int y, .int (nI ky), .int (k_p Z n), .int (Z 5 7), .int (t_sm (Z 17) 0 n 0), .int (nI q), .int 0, .int (nI of), .int (nI wt), .int (nI wt), .int (nI (c * q))] [.int (Z2 5 10)] (hp Z2 P2 L) _ _
          refine e_go hk_92 2 (c := (if s_cnd .lt (Z2 5 10) (nI wt) = true then 281 else 277, [.ref 4, .int x, .int y, .int (nI ky), .int (k_p Z n), .int (Z 5 7), .int (t_sm (Z 17) 0 n 0), .int (nI q), .int 0, .int (nI of), .int (nI wt), .int (nI wt), .int (nI (c * q))], [], hp Z2 P2 L)) rfl ?_
          refine e_lt (a := 281) (b := 277) (x := Z2 5 10) (y := nI wt) (fun hc274 => absurd hc274 (h10 hc263)) (fun hc274 => ?_)
          refine e_go hk_92 2 (c := (282, [.ref 4, .int x, .int y, .int (nI ky), .int (k_p Z n), .int (Z 5 7), .int (t_sm (Z 17) 0 n 0), .int (nI q), .int 0, .int (nI of), .int (nI wt), .int (nI wt), .int (nI (c * q))], [.int 1], hp Z2 P2 L)) rfl ?_
          exact e_ret hk_92 rfl rfl rfl rfl rfl
      · skip
        refine e_go hk_92 2 (c := (if s_cnd .ne (nI (c * q)) 0 = true then 281 else 233, [.ref 4, .int x, .int y, .int (nI ky), .int (k_p Z n), .int (Z 5 7), .int (t_sm (Z 17) 0 n 0), .int (nI q), .int 0, .int (nI of), .int (nI wt), .int (nI wt), .int (nI (c * q))], [], hp Z2 P2 L)) rfl ?_
        refine e_ne (a := 281) (b := 233) (x := nI (c * q)) (y := 0) (fun hc230 => absurd (p1 hc225) hc230) (fun hc230 => ?_)
        refine e_go hk_92 3 (c := (if s_cnd .eq (nI wt) 0 = true then 277 else 266, [.ref 4, .int x, .int y, .int (nI ky), .int (k_p Z n), .int (Z 5 7), .int (t_sm (Z 17) 0 n 0), .int (nI q), .int 0, .int (nI of), .int (nI wt), .int (nI wt), .int (nI (c * q))], [], hp Z2 P2 L)) rfl ?_
        refine e_eq (a := 277) (b := 266) (x := nI wt) (y := 0) (fun hc263 => ?_) (fun hc263 => ?_)
        · skip
          refine e_go hk_92 2 (c := (282, [.ref 4, .int x, .int y, .int (nI ky), .int (k_p Z n), .int (Z 5 7), .int (t_sm (Z 17) 0 n 0), .int (nI q), .int 0, .int (nI of), .int (nI wt), .int (nI wt), .int (nI (c * q))], [.int 1], hp Z2 P2 L)) rfl ?_
          exact e_ret hk_92 rfl rfl rfl rfl rfl
        · skip
          refine e_go hk_92 2 (c := (269, [.ref 4, .int x, .int y, .int (nI ky), .int (k_p Z n), .int (Z 5 7), .int (t_sm (Z 17) 0 n 0), .int (nI q), .int 0, .int (nI of), .int (nI wt), .int (nI wt), .int (nI (c * q))], [.int 8, .ref 4], hp Z2 P2 L)) rfl ?_
          refine e_call hk_92 (as := [.ref 4, .int 8]) (rest := []) rfl rfl hk_63 rfl (Nat.le_of_ble_eq_true rfl) rfl (a_c8 hQ2.1) ?_
          show e_r 92 272 [.ref 4, .int x, .int y, .int (nI ky), .int (k_p Z n), .int (Z 5 7), .int (t_sm (Z 17) 0 n 0), .int (nI q), .int 0, .int (nI of), .int (nI wt), .int (nI wt), .int (nI (c * q))] [.int (Z2 5 10)] (hp Z2 P2 L) _ _
          refine e_go hk_92 2 (c := (if s_cnd .lt (Z2 5 10) (nI wt) = true then 281 else 277, [.ref 4, .int x, .int y, .int (nI ky), .int (k_p Z n), .int (Z 5 7), .int (t_sm (Z 17) 0 n 0), .int (nI q), .int 0, .int (nI of), .int (nI wt), .int (nI wt), .int (nI (c * q))], [], hp Z2 P2 L)) rfl ?_
          refine e_lt (a := 281) (b := 277) (x := Z2 5 10) (y := nI wt) (fun hc274 => absurd hc274 (h10 hc263)) (fun hc274 => ?_)
          refine e_go hk_92 2 (c := (282, [.ref 4, .int x, .int y, .int (nI ky), .int (k_p Z n), .int (Z 5 7), .int (t_sm (Z 17) 0 n 0), .int (nI q), .int 0, .int (nI of), .int (nI wt), .int (nI wt), .int (nI (c * q))], [.int 1], hp Z2 P2 L)) rfl ?_
          exact e_ret hk_92 rfl rfl rfl rfl rfl
    · subst w2
      have hc1 : m_r 63 [.ref 4, .int 1] (hp Z2 P2 L) (some (.int (t_sm (Z 17) 0 n 0 + 0))) (hp Z2 P2 L) := by
        have z := a_c1 (P := P2) (L := L) hQ2.1
        rw [g8, if_neg w1] at z
        exact z
      refine e_go hk_92 3 (c := (if s_cnd .ge (nI of) 8 = true then 283 else 96, [.ref 4, .int x, .int y, .int (nI ky), .int (k_p Z n), .int (Z 5 7), .int (t_sm (Z 17) 0 n 0), .int (nI q), .int 1, .int (nI of), s_no, s_no, s_no], [], hp Z P L)) rfl ?_
      refine e_ge (a := 283) (b := 96) (x := nI of) (y := 8) (fun hc93 => absurd hc93 (h8)) (fun hc93 => ?_)
      refine e_go hk_92 2 (c := (98, [.ref 4, .int x, .int y, .int (nI ky), .int (k_p Z n), .int (Z 5 7), .int (t_sm (Z 17) 0 n 0), .int (nI q), .int 1, .int (nI of), s_no, s_no, s_no], [.int (nI ky), .ref 4], hp Z P L)) rfl ?_
      refine e_call hk_92 (as := [.ref 4, .int (nI ky)]) (rest := []) rfl rfl hk_70 rfl (Nat.le_of_ble_eq_true rfl) rfl g3 ?_
      show e_r 92 101 [.ref 4, .int x, .int y, .int (nI ky), .int (k_p Z n), .int (Z 5 7), .int (t_sm (Z 17) 0 n 0), .int (nI q), .int 1, .int (nI of), s_no, s_no, s_no] [.int (nI wt)] (hp Z P L) _ _
      refine e_go hk_92 7 (c := (112, [.ref 4, .int x, .int y, .int (nI ky), .int (k_p Z n), .int (Z 5 7), .int (t_sm (Z 17) 0 n 0), .int (nI q), .int 1, .int (nI of), .int (nI wt), s_no, s_no], [.int 1000, .int (y >>> (13 &&& 31)), .int (nI ky), .ref 4], hp Z P L)) rfl ?_
      refine e_call hk_92 (as := [.int (y >>> (13 &&& 31)), .int 1000]) (rest := [.int (nI ky), .ref 4]) rfl rfl hk_90 rfl (Nat.le_of_ble_eq_true rfl) rfl (show m_r 90 [.int (y >>> (13 &&& 31)), .int 1000] (hp Z P L) (some (.int (nI (l_u (y >>> (13 &&& 31)) 1000)))) (hp Z P L) from x_up (m := 1000) (by decide) (by decide)) ?_
      show e_r 92 115 [.ref 4, .int x, .int y, .int (nI ky), .int (k_p Z n), .int (Z 5 7), .int (t_sm (Z 17) 0 n 0), .int (nI q), .int 1, .int (nI of), .int (nI wt), s_no, s_no] [.int (nI (l_u (y >>> (13 &&& 31)) 1000)), .int (nI ky), .ref 4] (hp Z P L) _ _
      refine e_call hk_92 (as := [.ref 4, .int (nI ky), .int (nI (l_u (y >>> (13 &&& 31)) 1000))]) (rest := []) rfl rfl hk_58 rfl (Nat.le_of_ble_eq_true rfl) rfl g1 ?_
      show e_r 92 118 [.ref 4, .int x, .int y, .int (nI ky), .int (k_p Z n), .int (Z 5 7), .int (t_sm (Z 17) 0 n 0), .int (nI q), .int 1, .int (nI of), .int (nI wt), s_no, s_no] [.int (nI wt)] (hp Z2 P2 L) _ _
      refine e_go hk_92 4 (c := (if s_cnd .ne (nI wt) ((-4)) = true then 155 else 127, [.ref 4, .int x, .int y, .int (nI ky), .int (k_p Z n), .int (Z 5 7), .int (t_sm (Z 17) 0 n 0), .int (nI q), .int 1, .int (nI of), .int (nI wt), .int (nI wt), s_no], [], hp Z2 P2 L)) rfl ?_
      refine e_ne (a := 155) (b := 127) (x := nI wt) (y := (-4)) (fun hc124 => ?_) (fun hc124 => absurd hc124 (hn4))
      refine e_go hk_92 1 (c := (156, [.ref 4, .int x, .int y, .int (nI ky), .int (k_p Z n), .int (Z 5 7), .int (t_sm (Z 17) 0 n 0), .int (nI q), .int 1, .int (nI of), .int (nI wt), .int (nI wt), s_no], [.ref 4], hp Z2 P2 L)) rfl ?_
      refine e_call hk_92 (as := [.ref 4]) (rest := []) rfl rfl hk_91 rfl (Nat.le_of_ble_eq_true rfl) rfl hp2 ?_
      show e_r 92 159 [.ref 4, .int x, .int y, .int (nI ky), .int (k_p Z n), .int (Z 5 7), .int (t_sm (Z 17) 0 n 0), .int (nI q), .int 1, .int (nI of), .int (nI wt), .int (nI wt), s_no] [.int (k_p Z n + nI (c * q))] (hp Z2 P2 L) _ _
      refine e_go hk_92 2 (c := (162, [.ref 4, .int x, .int y, .int (nI ky), .int (k_p Z n), .int (Z 5 7), .int (t_sm (Z 17) 0 n 0), .int (nI q), .int 1, .int (nI of), .int (nI wt), .int (nI wt), s_no], [.int ((k_p Z n + nI (c * q)) - (k_p Z n))], hp Z2 P2 L)) rfl ?_
      rw [y_sub]
      refine e_go hk_92 4 (c := (if s_cnd .ne (nI wt) (nI wt) = true then 281 else 171, [.ref 4, .int x, .int y, .int (nI ky), .int (k_p Z n), .int (Z 5 7), .int (t_sm (Z 17) 0 n 0), .int (nI q), .int 1, .int (nI of), .int (nI wt), .int (nI wt), .int (nI (c * q))], [], hp Z2 P2 L)) rfl ?_
      refine e_ne (a := 281) (b := 171) (x := nI wt) (y := nI wt) (fun hc168 => absurd (rfl) hc168) (fun hc168 => ?_)
      refine e_go hk_92 2 (c := (173, [.ref 4, .int x, .int y, .int (nI ky), .int (k_p Z n), .int (Z 5 7), .int (t_sm (Z 17) 0 n 0), .int (nI q), .int 1, .int (nI of), .int (nI wt), .int (nI wt), .int (nI (c * q))], [.int 4, .ref 4], hp Z2 P2 L)) rfl ?_
      refine e_call hk_92 (as := [.ref 4, .int 4]) (rest := []) rfl rfl hk_63 rfl (Nat.le_of_ble_eq_true rfl) rfl hc4 ?_
      show e_r 92 176 [.ref 4, .int x, .int y, .int (nI ky), .int (k_p Z n), .int (Z 5 7), .int (t_sm (Z 17) 0 n 0), .int (nI q), .int 1, .int (nI of), .int (nI wt), .int (nI wt), .int (nI (c * q))] [.int (Z 5 7 + nI wt)] (hp Z2 P2 L) _ _
      refine e_go hk_92 4 (c := (if s_cnd .ne (Z 5 7 + nI wt) ((Z 5 7) + (nI wt)) = true then 281 else 184, [.ref 4, .int x, .int y, .int (nI ky), .int (k_p Z n), .int (Z 5 7), .int (t_sm (Z 17) 0 n 0), .int (nI q), .int 1, .int (nI of), .int (nI wt), .int (nI wt), .int (nI (c * q))], [], hp Z2 P2 L)) rfl ?_
      refine e_ne (a := 281) (b := 184) (x := Z 5 7 + nI wt) (y := (Z 5 7) + (nI wt)) (fun hc181 => absurd (rfl) hc181) (fun hc181 => ?_)
      refine e_go hk_92 2 (c := (186, [.ref 4, .int x, .int y, .int (nI ky), .int (k_p Z n), .int (Z 5 7), .int (t_sm (Z 17) 0 n 0), .int (nI q), .int 1, .int (nI of), .int (nI wt), .int (nI wt), .int (nI (c * q))], [.int (nI ky), .ref 4], hp Z2 P2 L)) rfl ?_
      refine e_call hk_92 (as := [.ref 4, .int (nI ky)]) (rest := []) rfl rfl hk_61 rfl (Nat.le_of_ble_eq_true rfl) rfl hvl ?_
      show e_r 92 189 [.ref 4, .int x, .int y, .int (nI ky), .int (k_p Z n), .int (Z 5 7), .int (t_sm (Z 17) 0 n 0), .int (nI q), .int 1, .int (nI of), .int (nI wt), .int (nI wt), .int (nI (c * q))] [.int (nI (l_u (y >>> (13 &&& 31)) 1000))] (hp Z2 P2 L) _ _
      refine e_go hk_92 4 (c := (196, [.ref 4, .int x, .int y, .int (nI ky), .int (k_p Z n), .int (Z 5 7), .int (t_sm (Z 17) 0 n 0), .int (nI q), .int 1, .int (nI of), .int (nI wt), .int (nI wt), .int (nI (c * q))], [.int 1000, .int (y >>> (13 &&& 31)), .int (nI (l_u (y >>> (13 &&& 31)) 1000))], hp Z2 P2 L)) rfl ?_
      refine e_call hk_92 (as := [.int (y >>> (13 &&& 31)), .int 1000]) (rest := [.int (nI (l_u (y >>> (13 &&& 31)) 1000))]) rfl rfl hk_90 rfl (Nat.le_of_ble_eq_true rfl) rfl (show m_r 90 [.int (y >>> (13 &&& 31)), .int 1000] (hp Z2 P2 L) (some (.int (nI (l_u (y >>> (13 &&& 31)) 1000)))) (hp Z2 P2 L) from x_up (m := 1000) (by decide) (by decide)) ?_
      show e_r 92 199 [.ref 4, .int x, .int y, .int (nI ky), .int (k_p Z n), .int (Z 5 7), .int (t_sm (Z 17) 0 n 0), .int (nI q), .int 1, .int (nI of), .int (nI wt), .int (nI wt), .int (nI (c * q))] [.int (nI (l_u (y >>> (13 &&& 31)) 1000)), .int (nI (l_u (y >>> (13 &&& 31)) 1000))] (hp Z2 P2 L) _ _
      refine e_go hk_92 1 (c := (if s_cnd .ne (nI (l_u (y >>> (13 &&& 31)) 1000)) (nI (l_u (y >>> (13 &&& 31)) 1000)) = true then 281 else 202, [.ref 4, .int x, .int y, .int (nI ky), .int (k_p Z n), .int (Z 5 7), .int (t_sm (Z 17) 0 n 0), .int (nI q), .int 1, .int (nI of), .int (nI wt), .int (nI wt), .int (nI (c * q))], [], hp Z2 P2 L)) rfl ?_
      refine e_ne (a := 281) (b := 202) (x := nI (l_u (y >>> (13 &&& 31)) 1000)) (y := nI (l_u (y >>> (13 &&& 31)) 1000)) (fun hc199 => absurd (rfl) hc199) (fun hc199 => ?_)
      refine e_go hk_92 2 (c := (204, [.ref 4, .int x, .int y, .int (nI ky), .int (k_p Z n), .int (Z 5 7), .int (t_sm (Z 17) 0 n 0), .int (nI q), .int 1, .int (nI of), .int (nI wt), .int (nI wt), .int (nI (c * q))], [.int 1, .ref 4], hp Z2 P2 L)) rfl ?_
      refine e_call hk_92 (as := [.ref 4, .int 1]) (rest := []) rfl rfl hk_63 rfl (Nat.le_of_ble_eq_true rfl) rfl hc1 ?_
      show e_r 92 207 [.ref 4, .int x, .int y, .int (nI ky), .int (k_p Z n), .int (Z 5 7), .int (t_sm (Z 17) 0 n 0), .int (nI q), .int 1, .int (nI of), .int (nI wt), .int (nI wt), .int (nI (c * q))] [.int (t_sm (Z 17) 0 n 0 + 0)] (hp Z2 P2 L) _ _
      refine e_go hk_92 3 (c := (if s_cnd .eq 1 0 = true then 218 else 214, [.ref 4, .int x, .int y, .int (nI ky), .int (k_p Z n), .int (Z 5 7), .int (t_sm (Z 17) 0 n 0), .int (nI q), .int 1, .int (nI of), .int (nI wt), .int (nI wt), .int (nI (c * q))], [.int (t_sm (Z 17) 0 n 0), .int (t_sm (Z 17) 0 n 0 + 0)], hp Z2 P2 L)) rfl ?_
      refine e_eq (a := 218) (b := 214) (x := 1) (y := 0) (fun hc211 => absurd hc211 (by decide)) (fun hc211 => ?_)
      refine e_go hk_92 4 (c := (if s_cnd .ne (t_sm (Z 17) 0 n 0 + 0) ((t_sm (Z 17) 0 n 0) + 0) = true then 281 else 223, [.ref 4, .int x, .int y, .int (nI ky), .int (k_p Z n), .int (Z 5 7), .int (t_sm (Z 17) 0 n 0), .int (nI q), .int 1, .int (nI of), .int (nI wt), .int (nI wt), .int (nI (c * q))], [], hp Z2 P2 L)) rfl ?_
      refine e_ne (a := 281) (b := 223) (x := t_sm (Z 17) 0 n 0 + 0) (y := (t_sm (Z 17) 0 n 0) + 0) (fun hc220 => absurd (rfl) hc220) (fun hc220 => ?_)
      refine e_go hk_92 2 (c := (if s_cnd .ne (nI q) 0 = true then 236 else 228, [.ref 4, .int x, .int y, .int (nI ky), .int (k_p Z n), .int (Z 5 7), .int (t_sm (Z 17) 0 n 0), .int (nI q), .int 1, .int (nI of), .int (nI wt), .int (nI wt), .int (nI (c * q))], [], hp Z2 P2 L)) rfl ?_
      refine e_ne (a := 236) (b := 228) (x := nI q) (y := 0) (fun hc225 => ?_) (fun hc225 => ?_)
      · skip
        refine e_go hk_92 2 (c := (240, [.ref 4, .int x, .int y, .int (nI ky), .int (k_p Z n), .int (Z 5 7), .int (t_sm (Z 17) 0 n 0), .int (nI q), .int 1, .int (nI of), .int (nI wt), .int (nI wt), .int (nI (c * q))], [.int (nI q), .int (nI (c * q))], hp Z2 P2 L)) rfl ?_
        refine e_irem hk_92 (x := nI (c * q)) (y := nI q) rfl rfl hc225 ?_
        rw [(p2 hc225).1]
        show e_r 92 241 [.ref 4, .int x, .int y, .int (nI ky), .int (k_p Z n), .int (Z 5 7), .int (t_sm (Z 17) 0 n 0), .int (nI q), .int 1, .int (nI of), .int (nI wt), .int (nI wt), .int (nI (c * q))] [.int 0] (hp Z2 P2 L) _ _
        refine e_go hk_92 1 (c := (if s_cnd .ne 0 0 = true then 281 else 244, [.ref 4, .int x, .int y, .int (nI ky), .int (k_p Z n), .int (Z 5 7), .int (t_sm (Z 17) 0 n 0), .int (nI q), .int 1, .int (nI of), .int (nI wt), .int (nI wt), .int (nI (c * q))], [], hp Z2 P2 L)) rfl ?_
        refine e_ne (a := 281) (b := 244) (x := 0) (y := 0) (fun hc241 => absurd (rfl) hc241) (fun hc241 => ?_)
        refine e_go hk_92 3 (c := (if s_cnd .lt (nI (c * q)) (nI q) = true then 281 else 251, [.ref 4, .int x, .int y, .int (nI ky), .int (k_p Z n), .int (Z 5 7), .int (t_sm (Z 17) 0 n 0), .int (nI q), .int 1, .int (nI of), .int (nI wt), .int (nI wt), .int (nI (c * q))], [], hp Z2 P2 L)) rfl ?_
        refine e_lt (a := 281) (b := 251) (x := nI (c * q)) (y := nI q) (fun hc248 => absurd hc248 ((p2 hc225).2.1)) (fun hc248 => ?_)
        refine e_go hk_92 5 (c := (if s_cnd .gt (nI (c * q)) ((60 : Int32) * (nI q)) = true then 281 else 261, [.ref 4, .int x, .int y, .int (nI ky), .int (k_p Z n), .int (Z 5 7), .int (t_sm (Z 17) 0 n 0), .int (nI q), .int 1, .int (nI of), .int (nI wt), .int (nI wt), .int (nI (c * q))], [], hp Z2 P2 L)) rfl ?_
        refine e_gt (a := 281) (b := 261) (x := nI (c * q)) (y := (60 : Int32) * (nI q)) (fun hc258 => absurd hc258 ((p2 hc225).2.2)) (fun hc258 => ?_)
        refine e_go hk_92 2 (c := (if s_cnd .eq (nI wt) 0 = true then 277 else 266, [.ref 4, .int x, .int y, .int (nI ky), .int (k_p Z n), .int (Z 5 7), .int (t_sm (Z 17) 0 n 0), .int (nI q), .int 1, .int (nI of), .int (nI wt), .int (nI wt), .int (nI (c * q))], [], hp Z2 P2 L)) rfl ?_
        refine e_eq (a := 277) (b := 266) (x := nI wt) (y := 0) (fun hc263 => ?_) (fun hc263 => ?_)
        · skip
          refine e_go hk_92 2 (c := (282, [.ref 4, .int x, .int y, .int (nI ky), .int (k_p Z n), .int (Z 5 7), .int (t_sm (Z 17) 0 n 0), .int (nI q), .int 1, .int (nI of), .int (nI wt), .int (nI wt), .int (nI (c * q))], [.int 1], hp Z2 P2 L)) rfl ?_
          exact e_ret hk_92 rfl rfl rfl rfl rfl
        · skip
          refine e_go hk_92 2 (c := (269, [.ref 4, .int x, .int y, .int (nI ky), .int (k_p Z n), .int (Z 5 7), .int (t_sm (Z 17) 0 n 0), .int (nI q), .int 1, .int (nI of), .int (nI wt), .int (nI wt), .int (nI (c * q))], [.int 8, .ref 4], hp Z2 P2 L)) rfl ?_
          refine e_call hk_92 (as := [.ref 4, .int 8]) (rest := []) rfl rfl hk_63 rfl (Nat.le_of_ble_eq_true rfl) rfl (a_c8 hQ2.1) ?_
          show e_r 92 272 [.ref 4, .int x, .int y, .int (nI ky), .int (k_p Z n), .int (Z 5 7), .int (t_sm (Z 17) 0 n 0), .int (nI q), .int 1, .int (nI of), .int (nI wt), .int (nI wt), .int (nI (c * q))] [.int (Z2 5 10)] (hp Z2 P2 L) _ _
          refine e_go hk_92 2 (c := (if s_cnd .lt (Z2 5 10) (nI wt) = true then 281 else 277, [.ref 4, .int x, .int y, .int (nI ky), .int (k_p Z n), .int (Z 5 7), .int (t_sm (Z 17) 0 n 0), .int (nI q), .int 1, .int (nI of), .int (nI wt), .int (nI wt), .int (nI (c * q))], [], hp Z2 P2 L)) rfl ?_
          refine e_lt (a := 281) (b := 277) (x := Z2 5 10) (y := nI wt) (fun hc274 => absurd hc274 (h10 hc263)) (fun hc274 => ?_)
          refine e_go hk_92 2 (c := (282, [.ref 4, .int x, .int y, .int (nI ky), .int (k_p Z n), .int (Z 5 7), .int (t_sm (Z 17) 0 n 0), .int (nI q), .int 1, .int (nI of), .int (nI wt), .int (nI wt), .int (nI (c * q))], [.int 1], hp Z2 P2 L)) rfl ?_
          exact e_ret hk_92 rfl rfl rfl rfl rfl
      · skip
        refine e_go hk_92 2 (c := (if s_cnd .ne (nI (c * q)) 0 = true then 281 else 233, [.ref 4, .int x, .int y, .int (nI ky), .int (k_p Z n), .int (Z 5 7), .int (t_sm (Z 17) 0 n 0), .int (nI q), .int 1, .int (nI of), .int (nI wt), .int (nI wt), .int (nI (c * q))], [], hp Z2 P2 L)) rfl ?_
        refine e_ne (a := 281) (b := 233) (x := nI (c * q)) (y := 0) (fun hc230 => absurd (p1 hc225) hc230) (fun hc230 => ?_)
        refine e_go hk_92 3 (c := (if s_cnd .eq (nI wt) 0 = true then 277 else 266, [.ref 4, .int x, .int y, .int (nI ky), .int (k_p Z n), .int (Z 5 7), .int (t_sm (Z 17) 0 n 0), .int (nI q), .int 1, .int (nI of), .int (nI wt), .int (nI wt), .int (nI (c * q))], [], hp Z2 P2 L)) rfl ?_
        refine e_eq (a := 277) (b := 266) (x := nI wt) (y := 0) (fun hc263 => ?_) (fun hc263 => ?_)
        · skip
          refine e_go hk_92 2 (c := (282, [.ref 4, .int x, .int y, .int (nI ky), .int (k_p Z n), .int (Z 5 7), .int (t_sm (Z 17) 0 n 0), .int (nI q), .int 1, .int (nI of), .int (nI wt), .int (nI wt), .int (nI (c * q))], [.int 1], hp Z2 P2 L)) rfl ?_
          exact e_ret hk_92 rfl rfl rfl rfl rfl
        · skip
          refine e_go hk_92 2 (c := (269, [.ref 4, .int x, .int y, .int (nI ky), .int (k_p Z n), .int (Z 5 7), .int (t_sm (Z 17) 0 n 0), .int (nI q), .int 1, .int (nI of), .int (nI wt), .int (nI wt), .int (nI (c * q))], [.int 8, .ref 4], hp Z2 P2 L)) rfl ?_
          refine e_call hk_92 (as := [.ref 4, .int 8]) (rest := []) rfl rfl hk_63 rfl (Nat.le_of_ble_eq_true rfl) rfl (a_c8 hQ2.1) ?_
          show e_r 92 272 [.ref 4, .int x, .int y, .int (nI ky), .int (k_p Z n), .int (Z 5 7), .int (t_sm (Z 17) 0 n 0), .int (nI q), .int 1, .int (nI of), .int (nI wt), .int (nI wt), .int (nI (c * q))] [.int (Z2 5 10)] (hp Z2 P2 L) _ _
          refine e_go hk_92 2 (c := (if s_cnd .lt (Z2 5 10) (nI wt) = true then 281 else 277, [.ref 4, .int x, .int y, .int (nI ky), .int (k_p Z n), .int (Z 5 7), .int (t_sm (Z 17) 0 n 0), .int (nI q), .int 1, .int (nI of), .int (nI wt), .int (nI wt), .int (nI (c * q))], [], hp Z2 P2 L)) rfl ?_
          refine e_lt (a := 281) (b := 277) (x := Z2 5 10) (y := nI wt) (fun hc274 => absurd hc274 (h10 hc263)) (fun hc274 => ?_)
          refine e_go hk_92 2 (c := (282, [.ref 4, .int x, .int y, .int (nI ky), .int (k_p Z n), .int (Z 5 7), .int (t_sm (Z 17) 0 n 0), .int (nI q), .int 1, .int (nI of), .int (nI wt), .int (nI wt), .int (nI (c * q))], [.int 1], hp Z2 P2 L)) rfl ?_
          exact e_ret hk_92 rfl rfl rfl rfl rfl
set_option maxRecDepth 20000 in
theorem st_rem {Z : Nat → Nat → Int32} {P : Nat → Nat} {L n m q : Nat} (hQ : K_Q Z P n m q) {x y w : Int32} {ky of : Nat} (hk : ky ≤ 999) (hw : l_is Z n (nI ky) w) (h8 : 8 ≤ nI of) (h11 : ¬ 11 ≤ nI of) : ∃ (Z2 : Nat → Nat → Int32) (P2 : Nat → Nat), K_G Z2 P2 ∧ e_r 92 89 [.ref 4, .int x, .int y, .int (nI ky), .int (k_p Z n), .int (Z 5 7), .int (t_sm (Z 17) 0 n 0), .int (nI q), .int w, .int (nI of), s_no, s_no, s_no] [] (hp Z P L) (some (.int 1)) (hp Z2 P2 L) := by
  rcases q_rem (L := L) hQ hk with ⟨g1, g2⟩ | ⟨g0, Z2, P2, n2, m2, wt, c, hQ2, g1, g2, g4, g5, g6, g7, g8, g9⟩
  · have hw0 : w = 0 := hw.elim (fun z => z.2) (fun z => absurd g1 z.1)
    subst hw0
    refine ⟨Z, P, ⟨n, m, q, hQ⟩, ?_⟩
    refine e_go hk_92 3 (c := (if s_cnd .ge (nI of) 8 = true then 283 else 96, [.ref 4, .int x, .int y, .int (nI ky), .int (k_p Z n), .int (Z 5 7), .int (t_sm (Z 17) 0 n 0), .int (nI q), .int 0, .int (nI of), s_no, s_no, s_no], [], hp Z P L)) rfl ?_
    refine e_ge (a := 283) (b := 96) (x := nI of) (y := 8) (fun hc93 => ?_) (fun hc93 => absurd (h8) hc93)
    refine e_go hk_92 3 (c := (if s_cnd .ge (nI of) 11 = true then 415 else 290, [.ref 4, .int x, .int y, .int (nI ky), .int (k_p Z n), .int (Z 5 7), .int (t_sm (Z 17) 0 n 0), .int (nI q), .int 0, .int (nI of), s_no, s_no, s_no], [], hp Z P L)) rfl ?_
    refine e_ge (a := 415) (b := 290) (x := nI of) (y := 11) (fun hc287 => absurd hc287 (h11)) (fun hc287 => ?_)
    refine e_go hk_92 2 (c := (292, [.ref 4, .int x, .int y, .int (nI ky), .int (k_p Z n), .int (Z 5 7), .int (t_sm (Z 17) 0 n 0), .int (nI q), .int 0, .int (nI of), s_no, s_no, s_no], [.int (nI ky), .ref 4], hp Z P L)) rfl ?_
    refine e_call hk_92 (as := [.ref 4, .int (nI ky)]) (rest := []) rfl rfl hk_59 rfl (Nat.le_of_ble_eq_true rfl) rfl g2 ?_
    show e_r 92 295 [.ref 4, .int x, .int y, .int (nI ky), .int (k_p Z n), .int (Z 5 7), .int (t_sm (Z 17) 0 n 0), .int (nI q), .int 0, .int (nI of), s_no, s_no, s_no] [.int ((-1))] (hp Z P L) _ _
    refine e_go hk_92 4 (c := (if s_cnd .ne ((-1)) ((-1)) = true then 314 else 303, [.ref 4, .int x, .int y, .int (nI ky), .int (k_p Z n), .int (Z 5 7), .int (t_sm (Z 17) 0 n 0), .int (nI q), .int 0, .int (nI of), .int ((-1)), s_no, s_no], [], hp Z P L)) rfl ?_
    refine e_ne (a := 314) (b := 303) (x := (-1)) (y := (-1)) (fun hc300 => absurd (rfl) hc300) (fun hc300 => ?_)
    refine e_go hk_92 2 (c := (if s_cnd .ne 0 0 = true then 312 else 308, [.ref 4, .int x, .int y, .int (nI ky), .int (k_p Z n), .int (Z 5 7), .int (t_sm (Z 17) 0 n 0), .int (nI q), .int 0, .int (nI of), .int ((-1)), s_no, s_no], [], hp Z P L)) rfl ?_
    refine e_ne (a := 312) (b := 308) (x := 0) (y := 0) (fun hc305 => absurd (rfl) hc305) (fun hc305 => ?_)
    refine e_go hk_92 2 (c := (313, [.ref 4, .int x, .int y, .int (nI ky), .int (k_p Z n), .int (Z 5 7), .int (t_sm (Z 17) 0 n 0), .int (nI q), .int 0, .int (nI of), .int ((-1)), s_no, s_no], [.int 1], hp Z P L)) rfl ?_
    exact e_ret hk_92 rfl rfl rfl rfl rfl
  · have hw1 : w = 1 := hw.elim (fun z => absurd z.1 g0) (fun z => z.2)
    subst hw1
    have hp2 : m_r 91 [.ref 4] (hp Z2 P2 L) (some (.int (k_p Z n + nI (c * q)))) (hp Z2 P2 L) := by rw [← g5]; exact x_paid hQ2.1
    have hc4 : m_r 63 [.ref 4, .int 4] (hp Z2 P2 L) (some (.int (Z 5 7 + nI wt))) (hp Z2 P2 L) := by rw [← g4]; exact a_c4 hQ2.1
    have hvl : m_r 61 [.ref 4, .int (nI ky)] (hp Z2 P2 L) (some (.int (-6))) (hp Z2 P2 L) := by rw [← g7]; exact a_val hQ2.1
    have hc1 : m_r 63 [.ref 4, .int 1] (hp Z2 P2 L) (some (.int (t_sm (Z 17) 0 n 0 - 1))) (hp Z2 P2 L) := by rw [← g8]; exact a_c1 hQ2.1
    obtain ⟨p1, p2⟩ := w_pay g6 hQ.2.1.2.2.2
    have hn4 := w_ne (Or.inl rfl) wt g2
    have h10 : ¬ nI wt = 0 → nI n2 = t_sm (Z2 17) 0 n2 0 := fun z => g9.resolve_left (fun y => z (by rw [y]; rfl))
    refine ⟨Z2, P2, ⟨n2, m2, q, hQ2⟩, ?_⟩
    refine e_go hk_92 3 (c := (if s_cnd .ge (nI of) 8 = true then 283 else 96, [.ref 4, .int x, .int y, .int (nI ky), .int (k_p Z n), .int (Z 5 7), .int (t_sm (Z 17) 0 n 0), .int (nI q), .int 1, .int (nI of), s_no, s_no, s_no], [], hp Z P L)) rfl ?_
    refine e_ge (a := 283) (b := 96) (x := nI of) (y := 8) (fun hc93 => ?_) (fun hc93 => absurd (h8) hc93)
    refine e_go hk_92 3 (c := (if s_cnd .ge (nI of) 11 = true then 415 else 290, [.ref 4, .int x, .int y, .int (nI ky), .int (k_p Z n), .int (Z 5 7), .int (t_sm (Z 17) 0 n 0), .int (nI q), .int 1, .int (nI of), s_no, s_no, s_no], [], hp Z P L)) rfl ?_
    refine e_ge (a := 415) (b := 290) (x := nI of) (y := 11) (fun hc287 => absurd hc287 (h11)) (fun hc287 => ?_)
    refine e_go hk_92 2 (c := (292, [.ref 4, .int x, .int y, .int (nI ky), .int (k_p Z n), .int (Z 5 7), .int (t_sm (Z 17) 0 n 0), .int (nI q), .int 1, .int (nI of), s_no, s_no, s_no], [.int (nI ky), .ref 4], hp Z P L)) rfl ?_
    refine e_call hk_92 (as := [.ref 4, .int (nI ky)]) (rest := []) rfl rfl hk_59 rfl (Nat.le_of_ble_eq_true rfl) rfl g1 ?_
    show e_r 92 295 [.ref 4, .int x, .int y, .int (nI ky), .int (k_p Z n), .int (Z 5 7), .int (t_sm (Z 17) 0 n 0), .int (nI q), .int 1, .int (nI of), s_no, s_no, s_no] [.int (nI wt)] (hp Z2 P2 L) _ _
    refine e_go hk_92 4 (c := (if s_cnd .ne (nI wt) ((-1)) = true then 314 else 303, [.ref 4, .int x, .int y, .int (nI ky), .int (k_p Z n), .int (Z 5 7), .int (t_sm (Z 17) 0 n 0), .int (nI q), .int 1, .int (nI of), .int (nI wt), s_no, s_no], [], hp Z2 P2 L)) rfl ?_
    refine e_ne (a := 314) (b := 303) (x := nI wt) (y := (-1)) (fun hc300 => ?_) (fun hc300 => absurd hc300 (hn4))
    refine e_go hk_92 1 (c := (315, [.ref 4, .int x, .int y, .int (nI ky), .int (k_p Z n), .int (Z 5 7), .int (t_sm (Z 17) 0 n 0), .int (nI q), .int 1, .int (nI of), .int (nI wt), s_no, s_no], [.ref 4], hp Z2 P2 L)) rfl ?_
    refine e_call hk_92 (as := [.ref 4]) (rest := []) rfl rfl hk_91 rfl (Nat.le_of_ble_eq_true rfl) rfl hp2 ?_
    show e_r 92 318 [.ref 4, .int x, .int y, .int (nI ky), .int (k_p Z n), .int (Z 5 7), .int (t_sm (Z 17) 0 n 0), .int (nI q), .int 1, .int (nI of), .int (nI wt), s_no, s_no] [.int (k_p Z n + nI (c * q))] (hp Z2 P2 L) _ _
    refine e_go hk_92 2 (c := (321, [.ref 4, .int x, .int y, .int (nI ky), .int (k_p Z n), .int (Z 5 7), .int (t_sm (Z 17) 0 n 0), .int (nI q), .int 1, .int (nI of), .int (nI wt), s_no, s_no], [.int ((k_p Z n + nI (c * q)) - (k_p Z n))], hp Z2 P2 L)) rfl ?_
    rw [y_sub]
    refine e_go hk_92 3 (c := (if s_cnd .eq 1 0 = true then 413 else 328, [.ref 4, .int x, .int y, .int (nI ky), .int (k_p Z n), .int (Z 5 7), .int (t_sm (Z 17) 0 n 0), .int (nI q), .int 1, .int (nI of), .int (nI wt), .int (nI (c * q)), s_no], [], hp Z2 P2 L)) rfl ?_
    refine e_eq (a := 413) (b := 328) (x := 1) (y := 0) (fun hc325 => absurd hc325 (by decide)) (fun hc325 => ?_)
    refine e_go hk_92 2 (c := (330, [.ref 4, .int x, .int y, .int (nI ky), .int (k_p Z n), .int (Z 5 7), .int (t_sm (Z 17) 0 n 0), .int (nI q), .int 1, .int (nI of), .int (nI wt), .int (nI (c * q)), s_no], [.int (nI ky), .ref 4], hp Z2 P2 L)) rfl ?_
    refine e_call hk_92 (as := [.ref 4, .int (nI ky)]) (rest := []) rfl rfl hk_61 rfl (Nat.le_of_ble_eq_true rfl) rfl hvl ?_
    show e_r 92 333 [.ref 4, .int x, .int y, .int (nI ky), .int (k_p Z n), .int (Z 5 7), .int (t_sm (Z 17) 0 n 0), .int (nI q), .int 1, .int (nI of), .int (nI wt), .int (nI (c * q)), s_no] [.int ((-6))] (hp Z2 P2 L) _ _
    refine e_go hk_92 2 (c := (if s_cnd .ne ((-6)) ((-6)) = true then 413 else 338, [.ref 4, .int x, .int y, .int (nI ky), .int (k_p Z n), .int (Z 5 7), .int (t_sm (Z 17) 0 n 0), .int (nI q), .int 1, .int (nI of), .int (nI wt), .int (nI (c * q)), s_no], [], hp Z2 P2 L)) rfl ?_
    refine e_ne (a := 413) (b := 338) (x := (-6)) (y := (-6)) (fun hc335 => absurd (rfl) hc335) (fun hc335 => ?_)
    refine e_go hk_92 2 (c := (340, [.ref 4, .int x, .int y, .int (nI ky), .int (k_p Z n), .int (Z 5 7), .int (t_sm (Z 17) 0 n 0), .int (nI q), .int 1, .int (nI of), .int (nI wt), .int (nI (c * q)), s_no], [.int 1, .ref 4], hp Z2 P2 L)) rfl ?_
    refine e_call hk_92 (as := [.ref 4, .int 1]) (rest := []) rfl rfl hk_63 rfl (Nat.le_of_ble_eq_true rfl) rfl hc1 ?_
    show e_r 92 343 [.ref 4, .int x, .int y, .int (nI ky), .int (k_p Z n), .int (Z 5 7), .int (t_sm (Z 17) 0 n 0), .int (nI q), .int 1, .int (nI of), .int (nI wt), .int (nI (c * q)), s_no] [.int (t_sm (Z 17) 0 n 0 - 1)] (hp Z2 P2 L) _ _
    refine e_go hk_92 4 (c := (if s_cnd .ne (t_sm (Z 17) 0 n 0 - 1) ((t_sm (Z 17) 0 n 0) - 1) = true then 413 else 350, [.ref 4, .int x, .int y, .int (nI ky), .int (k_p Z n), .int (Z 5 7), .int (t_sm (Z 17) 0 n 0), .int (nI q), .int 1, .int (nI of), .int (nI wt), .int (nI (c * q)), s_no], [], hp Z2 P2 L)) rfl ?_
    refine e_ne (a := 413) (b := 350) (x := t_sm (Z 17) 0 n 0 - 1) (y := (t_sm (Z 17) 0 n 0) - 1) (fun hc347 => absurd (rfl) hc347) (fun hc347 => ?_)
    refine e_go hk_92 2 (c := (352, [.ref 4, .int x, .int y, .int (nI ky), .int (k_p Z n), .int (Z 5 7), .int (t_sm (Z 17) 0 n 0), .int (nI q), .int 1, .int (nI of), .int (nI wt), .int (nI (c * q)), s_no], [.int 4, .ref 4], hp Z2 P2 L)) rfl ?_
    refine e_call hk_92 (as := [.ref 4, .int 4]) (rest := []) rfl rfl hk_63 rfl (Nat.le_of_ble_eq_true rfl) rfl hc4 ?_
    show e_r 92 355 [.ref 4, .int x, .int y, .int (nI ky), .int (k_p Z n), .int (Z 5 7), .int (t_sm (Z 17) 0 n 0), .int (nI q), .int 1, .int (nI of), .int (nI wt), .int (nI (c * q)), s_no] [.int (Z 5 7 + nI wt)] (hp Z2 P2 L) _ _
    refine e_go hk_92 4 (c := (if s_cnd .ne (Z 5 7 + nI wt) ((Z 5 7) + (nI wt)) = true then 413 else 363, [.ref 4, .int x, .int y, .int (nI ky), .int (k_p Z n), .int (Z 5 7), .int (t_sm (Z 17) 0 n 0), .int (nI q), .int 1, .int (nI of), .int (nI wt), .int (nI (c * q)), s_no], [], hp Z2 P2 L)) rfl ?_
    refine e_ne (a := 413) (b := 363) (x := Z 5 7 + nI wt) (y := (Z 5 7) + (nI wt)) (fun hc360 => absurd (rfl) hc360) (fun hc360 => ?_)
    refine e_go hk_92 2 (c := (if s_cnd .ne (nI q) 0 = true then 376 else 368, [.ref 4, .int x, .int y, .int (nI ky), .int (k_p Z n), .int (Z 5 7), .int (t_sm (Z 17) 0 n 0), .int (nI q), .int 1, .int (nI of), .int (nI wt), .int (nI (c * q)), s_no], [], hp Z2 P2 L)) rfl ?_
    refine e_ne (a := 376) (b := 368) (x := nI q) (y := 0) (fun hc365 => ?_) (fun hc365 => ?_)
    · skip
      refine e_go hk_92 2 (c := (380, [.ref 4, .int x, .int y, .int (nI ky), .int (k_p Z n), .int (Z 5 7), .int (t_sm (Z 17) 0 n 0), .int (nI q), .int 1, .int (nI of), .int (nI wt), .int (nI (c * q)), s_no], [.int (nI q), .int (nI (c * q))], hp Z2 P2 L)) rfl ?_
      refine e_irem hk_92 (x := nI (c * q)) (y := nI q) rfl rfl hc365 ?_
      rw [(p2 hc365).1]
      show e_r 92 381 [.ref 4, .int x, .int y, .int (nI ky), .int (k_p Z n), .int (Z 5 7), .int (t_sm (Z 17) 0 n 0), .int (nI q), .int 1, .int (nI of), .int (nI wt), .int (nI (c * q)), s_no] [.int 0] (hp Z2 P2 L) _ _
      refine e_go hk_92 1 (c := (if s_cnd .ne 0 0 = true then 413 else 384, [.ref 4, .int x, .int y, .int (nI ky), .int (k_p Z n), .int (Z 5 7), .int (t_sm (Z 17) 0 n 0), .int (nI q), .int 1, .int (nI of), .int (nI wt), .int (nI (c * q)), s_no], [], hp Z2 P2 L)) rfl ?_
      refine e_ne (a := 413) (b := 384) (x := 0) (y := 0) (fun hc381 => absurd (rfl) hc381) (fun hc381 => ?_)
      refine e_go hk_92 3 (c := (if s_cnd .lt (nI (c * q)) (nI q) = true then 413 else 391, [.ref 4, .int x, .int y, .int (nI ky), .int (k_p Z n), .int (Z 5 7), .int (t_sm (Z 17) 0 n 0), .int (nI q), .int 1, .int (nI of), .int (nI wt), .int (nI (c * q)), s_no], [], hp Z2 P2 L)) rfl ?_
      refine e_lt (a := 413) (b := 391) (x := nI (c * q)) (y := nI q) (fun hc388 => absurd hc388 ((p2 hc365).2.1)) (fun hc388 => ?_)
      refine e_go hk_92 2 (c := (if s_cnd .eq (nI wt) 0 = true then 409 else 396, [.ref 4, .int x, .int y, .int (nI ky), .int (k_p Z n), .int (Z 5 7), .int (t_sm (Z 17) 0 n 0), .int (nI q), .int 1, .int (nI of), .int (nI wt), .int (nI (c * q)), s_no], [], hp Z2 P2 L)) rfl ?_
      refine e_eq (a := 409) (b := 396) (x := nI wt) (y := 0) (fun hc393 => ?_) (fun hc393 => ?_)
      · skip
        refine e_go hk_92 2 (c := (414, [.ref 4, .int x, .int y, .int (nI ky), .int (k_p Z n), .int (Z 5 7), .int (t_sm (Z 17) 0 n 0), .int (nI q), .int 1, .int (nI of), .int (nI wt), .int (nI (c * q)), s_no], [.int 1], hp Z2 P2 L)) rfl ?_
        exact e_ret hk_92 rfl rfl rfl rfl rfl
      · skip
        refine e_go hk_92 2 (c := (398, [.ref 4, .int x, .int y, .int (nI ky), .int (k_p Z n), .int (Z 5 7), .int (t_sm (Z 17) 0 n 0), .int (nI q), .int 1, .int (nI of), .int (nI wt), .int (nI (c * q)), s_no], [.int 0, .ref 4], hp Z2 P2 L)) rfl ?_
        refine e_call hk_92 (as := [.ref 4, .int 0]) (rest := []) rfl rfl hk_63 rfl (Nat.le_of_ble_eq_true rfl) rfl (a_c0 hQ2.1) ?_
        show e_r 92 401 [.ref 4, .int x, .int y, .int (nI ky), .int (k_p Z n), .int (Z 5 7), .int (t_sm (Z 17) 0 n 0), .int (nI q), .int 1, .int (nI of), .int (nI wt), .int (nI (c * q)), s_no] [.int (nI n2)] (hp Z2 P2 L) _ _
        refine e_go hk_92 2 (c := (403, [.ref 4, .int x, .int y, .int (nI ky), .int (k_p Z n), .int (Z 5 7), .int (t_sm (Z 17) 0 n 0), .int (nI q), .int 1, .int (nI of), .int (nI wt), .int (nI (c * q)), s_no], [.int 1, .ref 4, .int (nI n2)], hp Z2 P2 L)) rfl ?_
        refine e_call hk_92 (as := [.ref 4, .int 1]) (rest := [.int (nI n2)]) rfl rfl hk_63 rfl (Nat.le_of_ble_eq_true rfl) rfl (a_c1 hQ2.1) ?_
        show e_r 92 406 [.ref 4, .int x, .int y, .int (nI ky), .int (k_p Z n), .int (Z 5 7), .int (t_sm (Z 17) 0 n 0), .int (nI q), .int 1, .int (nI of), .int (nI wt), .int (nI (c * q)), s_no] [.int (t_sm (Z2 17) 0 n2 0), .int (nI n2)] (hp Z2 P2 L) _ _
        refine e_go hk_92 1 (c := (if s_cnd .ne (nI n2) (t_sm (Z2 17) 0 n2 0) = true then 413 else 409, [.ref 4, .int x, .int y, .int (nI ky), .int (k_p Z n), .int (Z 5 7), .int (t_sm (Z 17) 0 n 0), .int (nI q), .int 1, .int (nI of), .int (nI wt), .int (nI (c * q)), s_no], [], hp Z2 P2 L)) rfl ?_
        refine e_ne (a := 413) (b := 409) (x := nI n2) (y := t_sm (Z2 17) 0 n2 0) (fun hc406 => absurd (h10 hc393) hc406) (fun hc406 => ?_)
        refine e_go hk_92 2 (c := (414, [.ref 4, .int x, .int y, .int (nI ky), .int (k_p Z n), .int (Z 5 7), .int (t_sm (Z 17) 0 n 0), .int (nI q), .int 1, .int (nI of), .int (nI wt), .int (nI (c * q)), s_no], [.int 1], hp Z2 P2 L)) rfl ?_
        exact e_ret hk_92 rfl rfl rfl rfl rfl
    · skip
      refine e_go hk_92 2 (c := (if s_cnd .ne (nI (c * q)) 0 = true then 413 else 373, [.ref 4, .int x, .int y, .int (nI ky), .int (k_p Z n), .int (Z 5 7), .int (t_sm (Z 17) 0 n 0), .int (nI q), .int 1, .int (nI of), .int (nI wt), .int (nI (c * q)), s_no], [], hp Z2 P2 L)) rfl ?_
      refine e_ne (a := 413) (b := 373) (x := nI (c * q)) (y := 0) (fun hc370 => absurd (p1 hc365) hc370) (fun hc370 => ?_)
      refine e_go hk_92 3 (c := (if s_cnd .eq (nI wt) 0 = true then 409 else 396, [.ref 4, .int x, .int y, .int (nI ky), .int (k_p Z n), .int (Z 5 7), .int (t_sm (Z 17) 0 n 0), .int (nI q), .int 1, .int (nI of), .int (nI wt), .int (nI (c * q)), s_no], [], hp Z2 P2 L)) rfl ?_
      refine e_eq (a := 409) (b := 396) (x := nI wt) (y := 0) (fun hc393 => ?_) (fun hc393 => ?_)
      · skip
        refine e_go hk_92 2 (c := (414, [.ref 4, .int x, .int y, .int (nI ky), .int (k_p Z n), .int (Z 5 7), .int (t_sm (Z 17) 0 n 0), .int (nI q), .int 1, .int (nI of), .int (nI wt), .int (nI (c * q)), s_no], [.int 1], hp Z2 P2 L)) rfl ?_
        exact e_ret hk_92 rfl rfl rfl rfl rfl
      · skip
        refine e_go hk_92 2 (c := (398, [.ref 4, .int x, .int y, .int (nI ky), .int (k_p Z n), .int (Z 5 7), .int (t_sm (Z 17) 0 n 0), .int (nI q), .int 1, .int (nI of), .int (nI wt), .int (nI (c * q)), s_no], [.int 0, .ref 4], hp Z2 P2 L)) rfl ?_
        refine e_call hk_92 (as := [.ref 4, .int 0]) (rest := []) rfl rfl hk_63 rfl (Nat.le_of_ble_eq_true rfl) rfl (a_c0 hQ2.1) ?_
        show e_r 92 401 [.ref 4, .int x, .int y, .int (nI ky), .int (k_p Z n), .int (Z 5 7), .int (t_sm (Z 17) 0 n 0), .int (nI q), .int 1, .int (nI of), .int (nI wt), .int (nI (c * q)), s_no] [.int (nI n2)] (hp Z2 P2 L) _ _
        refine e_go hk_92 2 (c := (403, [.ref 4, .int x, .int y, .int (nI ky), .int (k_p Z n), .int (Z 5 7), .int (t_sm (Z 17) 0 n 0), .int (nI q), .int 1, .int (nI of), .int (nI wt), .int (nI (c * q)), s_no], [.int 1, .ref 4, .int (nI n2)], hp Z2 P2 L)) rfl ?_
        refine e_call hk_92 (as := [.ref 4, .int 1]) (rest := [.int (nI n2)]) rfl rfl hk_63 rfl (Nat.le_of_ble_eq_true rfl) rfl (a_c1 hQ2.1) ?_
        show e_r 92 406 [.ref 4, .int x, .int y, .int (nI ky), .int (k_p Z n), .int (Z 5 7), .int (t_sm (Z 17) 0 n 0), .int (nI q), .int 1, .int (nI of), .int (nI wt), .int (nI (c * q)), s_no] [.int (t_sm (Z2 17) 0 n2 0), .int (nI n2)] (hp Z2 P2 L) _ _
        refine e_go hk_92 1 (c := (if s_cnd .ne (nI n2) (t_sm (Z2 17) 0 n2 0) = true then 413 else 409, [.ref 4, .int x, .int y, .int (nI ky), .int (k_p Z n), .int (Z 5 7), .int (t_sm (Z 17) 0 n 0), .int (nI q), .int 1, .int (nI of), .int (nI wt), .int (nI (c * q)), s_no], [], hp Z2 P2 L)) rfl ?_
        refine e_ne (a := 413) (b := 409) (x := nI n2) (y := t_sm (Z2 17) 0 n2 0) (fun hc406 => absurd (h10 hc393) hc406) (fun hc406 => ?_)
        refine e_go hk_92 2 (c := (414, [.ref 4, .int x, .int y, .int (nI ky), .int (k_p Z n), .int (Z 5 7), .int (t_sm (Z 17) 0 n 0), .int (nI q), .int 1, .int (nI of), .int (nI wt), .int (nI (c * q)), s_no], [.int 1], hp Z2 P2 L)) rfl ?_
        exact e_ret hk_92 rfl rfl rfl rfl rfl
set_option maxRecDepth 20000 in
theorem st_reb {Z : Nat → Nat → Int32} {P : Nat → Nat} {L n m q : Nat} (hQ : K_Q Z P n m q) {x y w : Int32} {ky of : Nat} (hk : ky ≤ 999) (hw : l_is Z n (nI ky) w) (h8 : 8 ≤ nI of) (h11 : 11 ≤ nI of) (h12 : ¬ 12 ≤ nI of) : ∃ (Z2 : Nat → Nat → Int32) (P2 : Nat → Nat), K_G Z2 P2 ∧ e_r 92 89 [.ref 4, .int x, .int y, .int (nI ky), .int (k_p Z n), .int (Z 5 7), .int (t_sm (Z 17) 0 n 0), .int (nI q), .int w, .int (nI of), s_no, s_no, s_no] [] (hp Z P L) (some (.int 1)) (hp Z2 P2 L) := by
  rcases q_reb (L := L) hQ hk with ⟨g1, g2⟩ | ⟨Z2, P2, n2, m2, wt, hQ2, g1, g2, g4, g5, g8⟩
  · have hw0 : w = 0 := hw.elim (fun z => z.2) (fun z => absurd g1 z.1)
    subst hw0
    refine ⟨Z, P, ⟨n, m, q, hQ⟩, ?_⟩
    refine e_go hk_92 3 (c := (if s_cnd .ge (nI of) 8 = true then 283 else 96, [.ref 4, .int x, .int y, .int (nI ky), .int (k_p Z n), .int (Z 5 7), .int (t_sm (Z 17) 0 n 0), .int (nI q), .int 0, .int (nI of), s_no, s_no, s_no], [], hp Z P L)) rfl ?_
    refine e_ge (a := 283) (b := 96) (x := nI of) (y := 8) (fun hc93 => ?_) (fun hc93 => absurd (h8) hc93)
    refine e_go hk_92 3 (c := (if s_cnd .ge (nI of) 11 = true then 415 else 290, [.ref 4, .int x, .int y, .int (nI ky), .int (k_p Z n), .int (Z 5 7), .int (t_sm (Z 17) 0 n 0), .int (nI q), .int 0, .int (nI of), s_no, s_no, s_no], [], hp Z P L)) rfl ?_
    refine e_ge (a := 415) (b := 290) (x := nI of) (y := 11) (fun hc287 => ?_) (fun hc287 => absurd (h11) hc287)
    refine e_go hk_92 3 (c := (if s_cnd .ge (nI of) 12 = true then 486 else 422, [.ref 4, .int x, .int y, .int (nI ky), .int (k_p Z n), .int (Z 5 7), .int (t_sm (Z 17) 0 n 0), .int (nI q), .int 0, .int (nI of), s_no, s_no, s_no], [], hp Z P L)) rfl ?_
    refine e_ge (a := 486) (b := 422) (x := nI of) (y := 12) (fun hc419 => absurd hc419 (h12)) (fun hc419 => ?_)
    refine e_go hk_92 2 (c := (424, [.ref 4, .int x, .int y, .int (nI ky), .int (k_p Z n), .int (Z 5 7), .int (t_sm (Z 17) 0 n 0), .int (nI q), .int 0, .int (nI of), s_no, s_no, s_no], [.int (nI ky), .ref 4], hp Z P L)) rfl ?_
    refine e_call hk_92 (as := [.ref 4, .int (nI ky)]) (rest := []) rfl rfl hk_60 rfl (Nat.le_of_ble_eq_true rfl) rfl g2 ?_
    show e_r 92 427 [.ref 4, .int x, .int y, .int (nI ky), .int (k_p Z n), .int (Z 5 7), .int (t_sm (Z 17) 0 n 0), .int (nI q), .int 0, .int (nI of), s_no, s_no, s_no] [.int ((-1))] (hp Z P L) _ _
    refine e_go hk_92 4 (c := (if s_cnd .ne ((-1)) ((-1)) = true then 448 else 435, [.ref 4, .int x, .int y, .int (nI ky), .int (k_p Z n), .int (Z 5 7), .int (t_sm (Z 17) 0 n 0), .int (nI q), .int 0, .int (nI of), .int ((-1)), s_no, s_no], [], hp Z P L)) rfl ?_
    refine e_ne (a := 448) (b := 435) (x := (-1)) (y := (-1)) (fun hc432 => absurd (rfl) hc432) (fun hc432 => ?_)
    refine e_go hk_92 2 (c := (if s_cnd .ne 0 0 = true then 444 else 440, [.ref 4, .int x, .int y, .int (nI ky), .int (k_p Z n), .int (Z 5 7), .int (t_sm (Z 17) 0 n 0), .int (nI q), .int 0, .int (nI of), .int ((-1)), s_no, s_no], [], hp Z P L)) rfl ?_
    refine e_ne (a := 444) (b := 440) (x := 0) (y := 0) (fun hc437 => absurd (rfl) hc437) (fun hc437 => ?_)
    refine e_go hk_92 2 (c := (485, [.ref 4, .int x, .int y, .int (nI ky), .int (k_p Z n), .int (Z 5 7), .int (t_sm (Z 17) 0 n 0), .int (nI q), .int 0, .int (nI of), .int ((-1)), s_no, s_no], [.int 1], hp Z P L)) rfl ?_
    exact e_ret hk_92 rfl rfl rfl rfl rfl
  · have hp2 : m_r 91 [.ref 4] (hp Z2 P2 L) (some (.int (k_p Z n))) (hp Z2 P2 L) := by rw [← g5]; exact x_paid hQ2.1
    have hc4 : m_r 63 [.ref 4, .int 4] (hp Z2 P2 L) (some (.int (Z 5 7 + nI wt))) (hp Z2 P2 L) := by rw [← g4]; exact a_c4 hQ2.1
    have hc1 : m_r 63 [.ref 4, .int 1] (hp Z2 P2 L) (some (.int (t_sm (Z 17) 0 n 0))) (hp Z2 P2 L) := by rw [← g8]; exact a_c1 hQ2.1
    have hn4 := w_ne (Or.inl rfl) wt g2
    refine ⟨Z2, P2, ⟨n2, m2, q, hQ2⟩, ?_⟩
    refine e_go hk_92 3 (c := (if s_cnd .ge (nI of) 8 = true then 283 else 96, [.ref 4, .int x, .int y, .int (nI ky), .int (k_p Z n), .int (Z 5 7), .int (t_sm (Z 17) 0 n 0), .int (nI q), .int w, .int (nI of), s_no, s_no, s_no], [], hp Z P L)) rfl ?_
    refine e_ge (a := 283) (b := 96) (x := nI of) (y := 8) (fun hc93 => ?_) (fun hc93 => absurd (h8) hc93)
    refine e_go hk_92 3 (c := (if s_cnd .ge (nI of) 11 = true then 415 else 290, [.ref 4, .int x, .int y, .int (nI ky), .int (k_p Z n), .int (Z 5 7), .int (t_sm (Z 17) 0 n 0), .int (nI q), .int w, .int (nI of), s_no, s_no, s_no], [], hp Z P L)) rfl ?_
    refine e_ge (a := 415) (b := 290) (x := nI of) (y := 11) (fun hc287 => ?_) (fun hc287 => absurd (h11) hc287)
    refine e_go hk_92 3 (c := (if s_cnd .ge (nI of) 12 = true then 486 else 422, [.ref 4, .int x, .int y, .int (nI ky), .int (k_p Z n), .int (Z 5 7), .int (t_sm (Z 17) 0 n 0), .int (nI q), .int w, .int (nI of), s_no, s_no, s_no], [], hp Z P L)) rfl ?_
    refine e_ge (a := 486) (b := 422) (x := nI of) (y := 12) (fun hc419 => absurd hc419 (h12)) (fun hc419 => ?_)
    refine e_go hk_92 2 (c := (424, [.ref 4, .int x, .int y, .int (nI ky), .int (k_p Z n), .int (Z 5 7), .int (t_sm (Z 17) 0 n 0), .int (nI q), .int w, .int (nI of), s_no, s_no, s_no], [.int (nI ky), .ref 4], hp Z P L)) rfl ?_
    refine e_call hk_92 (as := [.ref 4, .int (nI ky)]) (rest := []) rfl rfl hk_60 rfl (Nat.le_of_ble_eq_true rfl) rfl g1 ?_
    show e_r 92 427 [.ref 4, .int x, .int y, .int (nI ky), .int (k_p Z n), .int (Z 5 7), .int (t_sm (Z 17) 0 n 0), .int (nI q), .int w, .int (nI of), s_no, s_no, s_no] [.int (nI wt)] (hp Z2 P2 L) _ _
    refine e_go hk_92 4 (c := (if s_cnd .ne (nI wt) ((-1)) = true then 448 else 435, [.ref 4, .int x, .int y, .int (nI ky), .int (k_p Z n), .int (Z 5 7), .int (t_sm (Z 17) 0 n 0), .int (nI q), .int w, .int (nI of), .int (nI wt), s_no, s_no], [], hp Z2 P2 L)) rfl ?_
    refine e_ne (a := 448) (b := 435) (x := nI wt) (y := (-1)) (fun hc432 => ?_) (fun hc432 => absurd hc432 (hn4))
    refine e_go hk_92 1 (c := (449, [.ref 4, .int x, .int y, .int (nI ky), .int (k_p Z n), .int (Z 5 7), .int (t_sm (Z 17) 0 n 0), .int (nI q), .int w, .int (nI of), .int (nI wt), s_no, s_no], [.ref 4], hp Z2 P2 L)) rfl ?_
    refine e_call hk_92 (as := [.ref 4]) (rest := []) rfl rfl hk_91 rfl (Nat.le_of_ble_eq_true rfl) rfl hp2 ?_
    show e_r 92 452 [.ref 4, .int x, .int y, .int (nI ky), .int (k_p Z n), .int (Z 5 7), .int (t_sm (Z 17) 0 n 0), .int (nI q), .int w, .int (nI of), .int (nI wt), s_no, s_no] [.int (k_p Z n)] (hp Z2 P2 L) _ _
    refine e_go hk_92 2 (c := (if s_cnd .ne (k_p Z n) (k_p Z n) = true then 484 else 457, [.ref 4, .int x, .int y, .int (nI ky), .int (k_p Z n), .int (Z 5 7), .int (t_sm (Z 17) 0 n 0), .int (nI q), .int w, .int (nI of), .int (nI wt), s_no, s_no], [], hp Z2 P2 L)) rfl ?_
    refine e_ne (a := 484) (b := 457) (x := k_p Z n) (y := k_p Z n) (fun hc454 => absurd (rfl) hc454) (fun hc454 => ?_)
    refine e_go hk_92 2 (c := (459, [.ref 4, .int x, .int y, .int (nI ky), .int (k_p Z n), .int (Z 5 7), .int (t_sm (Z 17) 0 n 0), .int (nI q), .int w, .int (nI of), .int (nI wt), s_no, s_no], [.int 4, .ref 4], hp Z2 P2 L)) rfl ?_
    refine e_call hk_92 (as := [.ref 4, .int 4]) (rest := []) rfl rfl hk_63 rfl (Nat.le_of_ble_eq_true rfl) rfl hc4 ?_
    show e_r 92 462 [.ref 4, .int x, .int y, .int (nI ky), .int (k_p Z n), .int (Z 5 7), .int (t_sm (Z 17) 0 n 0), .int (nI q), .int w, .int (nI of), .int (nI wt), s_no, s_no] [.int (Z 5 7 + nI wt)] (hp Z2 P2 L) _ _
    refine e_go hk_92 4 (c := (if s_cnd .ne (Z 5 7 + nI wt) ((Z 5 7) + (nI wt)) = true then 484 else 470, [.ref 4, .int x, .int y, .int (nI ky), .int (k_p Z n), .int (Z 5 7), .int (t_sm (Z 17) 0 n 0), .int (nI q), .int w, .int (nI of), .int (nI wt), s_no, s_no], [], hp Z2 P2 L)) rfl ?_
    refine e_ne (a := 484) (b := 470) (x := Z 5 7 + nI wt) (y := (Z 5 7) + (nI wt)) (fun hc467 => absurd (rfl) hc467) (fun hc467 => ?_)
    refine e_go hk_92 2 (c := (472, [.ref 4, .int x, .int y, .int (nI ky), .int (k_p Z n), .int (Z 5 7), .int (t_sm (Z 17) 0 n 0), .int (nI q), .int w, .int (nI of), .int (nI wt), s_no, s_no], [.int 1, .ref 4], hp Z2 P2 L)) rfl ?_
    refine e_call hk_92 (as := [.ref 4, .int 1]) (rest := []) rfl rfl hk_63 rfl (Nat.le_of_ble_eq_true rfl) rfl hc1 ?_
    show e_r 92 475 [.ref 4, .int x, .int y, .int (nI ky), .int (k_p Z n), .int (Z 5 7), .int (t_sm (Z 17) 0 n 0), .int (nI q), .int w, .int (nI of), .int (nI wt), s_no, s_no] [.int (t_sm (Z 17) 0 n 0)] (hp Z2 P2 L) _ _
    refine e_go hk_92 2 (c := (if s_cnd .ne (t_sm (Z 17) 0 n 0) (t_sm (Z 17) 0 n 0) = true then 484 else 480, [.ref 4, .int x, .int y, .int (nI ky), .int (k_p Z n), .int (Z 5 7), .int (t_sm (Z 17) 0 n 0), .int (nI q), .int w, .int (nI of), .int (nI wt), s_no, s_no], [], hp Z2 P2 L)) rfl ?_
    refine e_ne (a := 484) (b := 480) (x := t_sm (Z 17) 0 n 0) (y := t_sm (Z 17) 0 n 0) (fun hc477 => absurd (rfl) hc477) (fun hc477 => ?_)
    refine e_go hk_92 2 (c := (485, [.ref 4, .int x, .int y, .int (nI ky), .int (k_p Z n), .int (Z 5 7), .int (t_sm (Z 17) 0 n 0), .int (nI q), .int w, .int (nI of), .int (nI wt), s_no, s_no], [.int 1], hp Z2 P2 L)) rfl ?_
    exact e_ret hk_92 rfl rfl rfl rfl rfl
set_option maxRecDepth 20000 in
theorem st_set {Z : Nat → Nat → Int32} {P : Nat → Nat} {L n m q : Nat} (hQ : K_Q Z P n m q) {x y w : Int32} {ky of : Nat} (hk : ky ≤ 999) (hw : l_is Z n (nI ky) w) (h8 : 8 ≤ nI of) (h11 : 11 ≤ nI of) (h12 : 12 ≤ nI of) : ∃ (Z2 : Nat → Nat → Int32) (P2 : Nat → Nat), K_G Z2 P2 ∧ e_r 92 89 [.ref 4, .int x, .int y, .int (nI ky), .int (k_p Z n), .int (Z 5 7), .int (t_sm (Z 17) 0 n 0), .int (nI q), .int w, .int (nI of), s_no, s_no, s_no] [] (hp Z P L) (some (.int 1)) (hp Z2 P2 L) := by
  have hr := l_u_lt (v := y) (m := 3) (by decide)
  have hu : m_r 90 [.int y, .int 3] (hp Z P L) (some (.int (nI (l_u y 3)))) (hp Z P L) := x_up (m := 3) (by decide) (by decide)
  rcases (by omega : l_u y 3 = 0 ∨ l_u y 3 = 1 ∨ l_u y 3 = 2) with hr | hr | hr
  · rw [hr] at hu
    have hb := l_u_lt (v := y >>> (2 &&& 31)) (m := 41) (by decide)
    obtain ⟨Z2, P2, m2, q2, hQ2, g1, g2, g3⟩ := q_set (L := L) hQ (j := 0) (v := 55 + l_u (y >>> (2 &&& 31)) 41) (by decide) (by show 55 ≤ _; omega) (by show _ ≤ 95; omega)
    have hp2 : m_r 91 [.ref 4] (hp Z2 P2 L) (some (.int (k_p Z n))) (hp Z2 P2 L) := by rw [← g3]; exact x_paid hQ2.1
    refine ⟨Z2, P2, ⟨n, m2, q2, hQ2⟩, ?_⟩
    refine e_go hk_92 3 (c := (if s_cnd .ge (nI of) 8 = true then 283 else 96, [.ref 4, .int x, .int y, .int (nI ky), .int (k_p Z n), .int (Z 5 7), .int (t_sm (Z 17) 0 n 0), .int (nI q), .int w, .int (nI of), s_no, s_no, s_no], [], hp Z P L)) rfl ?_
    refine e_ge (a := 283) (b := 96) (x := nI of) (y := 8) (fun hc93 => ?_) (fun hc93 => absurd (h8) hc93)
    refine e_go hk_92 3 (c := (if s_cnd .ge (nI of) 11 = true then 415 else 290, [.ref 4, .int x, .int y, .int (nI ky), .int (k_p Z n), .int (Z 5 7), .int (t_sm (Z 17) 0 n 0), .int (nI q), .int w, .int (nI of), s_no, s_no, s_no], [], hp Z P L)) rfl ?_
    refine e_ge (a := 415) (b := 290) (x := nI of) (y := 11) (fun hc287 => ?_) (fun hc287 => absurd (h11) hc287)
    refine e_go hk_92 3 (c := (if s_cnd .ge (nI of) 12 = true then 486 else 422, [.ref 4, .int x, .int y, .int (nI ky), .int (k_p Z n), .int (Z 5 7), .int (t_sm (Z 17) 0 n 0), .int (nI q), .int w, .int (nI of), s_no, s_no, s_no], [], hp Z P L)) rfl ?_
    refine e_ge (a := 486) (b := 422) (x := nI of) (y := 12) (fun hc419 => ?_) (fun hc419 => absurd (h12) hc419)
    refine e_go hk_92 2 (c := (488, [.ref 4, .int x, .int y, .int (nI ky), .int (k_p Z n), .int (Z 5 7), .int (t_sm (Z 17) 0 n 0), .int (nI q), .int w, .int (nI of), s_no, s_no, s_no], [.int 3, .int y], hp Z P L)) rfl ?_
    refine e_call hk_92 (as := [.int y, .int 3]) (rest := []) rfl rfl hk_90 rfl (Nat.le_of_ble_eq_true rfl) rfl hu ?_
    show e_r 92 491 [.ref 4, .int x, .int y, .int (nI ky), .int (k_p Z n), .int (Z 5 7), .int (t_sm (Z 17) 0 n 0), .int (nI q), .int w, .int (nI of), s_no, s_no, s_no] [.int (nI 0)] (hp Z P L) _ _
    refine e_go hk_92 3 (c := (if s_cnd .ne (nI 0) 0 = true then 512 else 498, [.ref 4, .int x, .int y, .int (nI ky), .int (k_p Z n), .int (Z 5 7), .int (t_sm (Z 17) 0 n 0), .int (nI q), .int w, .int (nI of), .int (nI 0), s_no, s_no], [], hp Z P L)) rfl ?_
    refine e_ne (a := 512) (b := 498) (x := nI 0) (y := 0) (fun hc495 => absurd (rfl) hc495) (fun hc495 => ?_)
    refine e_go hk_92 5 (c := (505, [.ref 4, .int x, .int y, .int (nI ky), .int (k_p Z n), .int (Z 5 7), .int (t_sm (Z 17) 0 n 0), .int (nI q), .int w, .int (nI of), .int (nI 0), s_no, s_no], [.int 41, .int (y >>> (2 &&& 31)), .int 55], hp Z P L)) rfl ?_
    refine e_call hk_92 (as := [.int (y >>> (2 &&& 31)), .int 41]) (rest := [.int 55]) rfl rfl hk_90 rfl (Nat.le_of_ble_eq_true rfl) rfl (show m_r 90 [.int (y >>> (2 &&& 31)), .int 41] (hp Z P L) (some (.int (nI (l_u (y >>> (2 &&& 31)) 41)))) (hp Z P L) from x_up (m := 41) (by decide) (by decide)) ?_
    show e_r 92 508 [.ref 4, .int x, .int y, .int (nI ky), .int (k_p Z n), .int (Z 5 7), .int (t_sm (Z 17) 0 n 0), .int (nI q), .int w, .int (nI of), .int (nI 0), s_no, s_no] [.int (nI (l_u (y >>> (2 &&& 31)) 41)), .int 55] (hp Z P L) _ _
    refine e_go hk_92 2 (c := (540, [.ref 4, .int x, .int y, .int (nI ky), .int (k_p Z n), .int (Z 5 7), .int (t_sm (Z 17) 0 n 0), .int (nI q), .int w, .int (nI of), .int (nI 0), s_no, s_no], [.int ((55 : Int32) + (nI (l_u (y >>> (2 &&& 31)) 41)))], hp Z P L)) rfl ?_
    rw [show (55 : Int32) + nI (l_u (y >>> (2 &&& 31)) 41) = nI (55 + l_u (y >>> (2 &&& 31)) 41) from nI_add 55 _]
    refine e_go hk_92 4 (c := (547, [.ref 4, .int x, .int y, .int (nI ky), .int (k_p Z n), .int (Z 5 7), .int (t_sm (Z 17) 0 n 0), .int (nI q), .int w, .int (nI of), .int (nI 0), .int (nI (55 + l_u (y >>> (2 &&& 31)) 41)), s_no], [.int (nI (55 + l_u (y >>> (2 &&& 31)) 41)), .int (nI 0), .ref 4], hp Z P L)) rfl ?_
    refine e_call hk_92 (as := [.ref 4, .int (nI 0), .int (nI (55 + l_u (y >>> (2 &&& 31)) 41))]) (rest := []) rfl rfl hk_57 rfl (Nat.le_of_ble_eq_true rfl) rfl g1 ?_
    show e_r 92 550 [.ref 4, .int x, .int y, .int (nI ky), .int (k_p Z n), .int (Z 5 7), .int (t_sm (Z 17) 0 n 0), .int (nI q), .int w, .int (nI of), .int (nI 0), .int (nI (55 + l_u (y >>> (2 &&& 31)) 41)), s_no] [.int (Z 7 0)] (hp Z2 P2 L) _ _
    refine e_go hk_92 1 (c := (if s_cnd .lt (Z 7 0) 0 = true then 566 else 553, [.ref 4, .int x, .int y, .int (nI ky), .int (k_p Z n), .int (Z 5 7), .int (t_sm (Z 17) 0 n 0), .int (nI q), .int w, .int (nI of), .int (nI 0), .int (nI (55 + l_u (y >>> (2 &&& 31)) 41)), s_no], [], hp Z2 P2 L)) rfl ?_
    refine e_lt (a := 566) (b := 553) (x := Z 7 0) (y := 0) (fun hc550 => absurd hc550 (g2)) (fun hc550 => ?_)
    refine e_go hk_92 1 (c := (554, [.ref 4, .int x, .int y, .int (nI ky), .int (k_p Z n), .int (Z 5 7), .int (t_sm (Z 17) 0 n 0), .int (nI q), .int w, .int (nI of), .int (nI 0), .int (nI (55 + l_u (y >>> (2 &&& 31)) 41)), s_no], [.ref 4], hp Z2 P2 L)) rfl ?_
    refine e_call hk_92 (as := [.ref 4]) (rest := []) rfl rfl hk_91 rfl (Nat.le_of_ble_eq_true rfl) rfl hp2 ?_
    show e_r 92 557 [.ref 4, .int x, .int y, .int (nI ky), .int (k_p Z n), .int (Z 5 7), .int (t_sm (Z 17) 0 n 0), .int (nI q), .int w, .int (nI of), .int (nI 0), .int (nI (55 + l_u (y >>> (2 &&& 31)) 41)), s_no] [.int (k_p Z n)] (hp Z2 P2 L) _ _
    refine e_go hk_92 2 (c := (if s_cnd .ne (k_p Z n) (k_p Z n) = true then 566 else 562, [.ref 4, .int x, .int y, .int (nI ky), .int (k_p Z n), .int (Z 5 7), .int (t_sm (Z 17) 0 n 0), .int (nI q), .int w, .int (nI of), .int (nI 0), .int (nI (55 + l_u (y >>> (2 &&& 31)) 41)), s_no], [], hp Z2 P2 L)) rfl ?_
    refine e_ne (a := 566) (b := 562) (x := k_p Z n) (y := k_p Z n) (fun hc559 => absurd (rfl) hc559) (fun hc559 => ?_)
    refine e_go hk_92 2 (c := (567, [.ref 4, .int x, .int y, .int (nI ky), .int (k_p Z n), .int (Z 5 7), .int (t_sm (Z 17) 0 n 0), .int (nI q), .int w, .int (nI of), .int (nI 0), .int (nI (55 + l_u (y >>> (2 &&& 31)) 41)), s_no], [.int 1], hp Z2 P2 L)) rfl ?_
    exact e_ret hk_92 rfl rfl rfl rfl rfl
  · rw [hr] at hu
    have hb := l_u_lt (v := y >>> (2 &&& 31)) (m := 81) (by decide)
    obtain ⟨Z2, P2, m2, q2, hQ2, g1, g2, g3⟩ := q_set (L := L) hQ (j := 1) (v := 10 + l_u (y >>> (2 &&& 31)) 81) (by decide) (by show 10 ≤ _; omega) (by show _ ≤ 90; omega)
    have hp2 : m_r 91 [.ref 4] (hp Z2 P2 L) (some (.int (k_p Z n))) (hp Z2 P2 L) := by rw [← g3]; exact x_paid hQ2.1
    refine ⟨Z2, P2, ⟨n, m2, q2, hQ2⟩, ?_⟩
    refine e_go hk_92 3 (c := (if s_cnd .ge (nI of) 8 = true then 283 else 96, [.ref 4, .int x, .int y, .int (nI ky), .int (k_p Z n), .int (Z 5 7), .int (t_sm (Z 17) 0 n 0), .int (nI q), .int w, .int (nI of), s_no, s_no, s_no], [], hp Z P L)) rfl ?_
    refine e_ge (a := 283) (b := 96) (x := nI of) (y := 8) (fun hc93 => ?_) (fun hc93 => absurd (h8) hc93)
    refine e_go hk_92 3 (c := (if s_cnd .ge (nI of) 11 = true then 415 else 290, [.ref 4, .int x, .int y, .int (nI ky), .int (k_p Z n), .int (Z 5 7), .int (t_sm (Z 17) 0 n 0), .int (nI q), .int w, .int (nI of), s_no, s_no, s_no], [], hp Z P L)) rfl ?_
    refine e_ge (a := 415) (b := 290) (x := nI of) (y := 11) (fun hc287 => ?_) (fun hc287 => absurd (h11) hc287)
    refine e_go hk_92 3 (c := (if s_cnd .ge (nI of) 12 = true then 486 else 422, [.ref 4, .int x, .int y, .int (nI ky), .int (k_p Z n), .int (Z 5 7), .int (t_sm (Z 17) 0 n 0), .int (nI q), .int w, .int (nI of), s_no, s_no, s_no], [], hp Z P L)) rfl ?_
    refine e_ge (a := 486) (b := 422) (x := nI of) (y := 12) (fun hc419 => ?_) (fun hc419 => absurd (h12) hc419)
    refine e_go hk_92 2 (c := (488, [.ref 4, .int x, .int y, .int (nI ky), .int (k_p Z n), .int (Z 5 7), .int (t_sm (Z 17) 0 n 0), .int (nI q), .int w, .int (nI of), s_no, s_no, s_no], [.int 3, .int y], hp Z P L)) rfl ?_
    refine e_call hk_92 (as := [.int y, .int 3]) (rest := []) rfl rfl hk_90 rfl (Nat.le_of_ble_eq_true rfl) rfl hu ?_
    show e_r 92 491 [.ref 4, .int x, .int y, .int (nI ky), .int (k_p Z n), .int (Z 5 7), .int (t_sm (Z 17) 0 n 0), .int (nI q), .int w, .int (nI of), s_no, s_no, s_no] [.int (nI 1)] (hp Z P L) _ _
    refine e_go hk_92 3 (c := (if s_cnd .ne (nI 1) 0 = true then 512 else 498, [.ref 4, .int x, .int y, .int (nI ky), .int (k_p Z n), .int (Z 5 7), .int (t_sm (Z 17) 0 n 0), .int (nI q), .int w, .int (nI of), .int (nI 1), s_no, s_no], [], hp Z P L)) rfl ?_
    refine e_ne (a := 512) (b := 498) (x := nI 1) (y := 0) (fun hc495 => ?_) (fun hc495 => absurd hc495 (by decide))
    refine e_go hk_92 3 (c := (if s_cnd .ne (nI 1) 1 = true then 532 else 518, [.ref 4, .int x, .int y, .int (nI ky), .int (k_p Z n), .int (Z 5 7), .int (t_sm (Z 17) 0 n 0), .int (nI q), .int w, .int (nI of), .int (nI 1), s_no, s_no], [], hp Z P L)) rfl ?_
    refine e_ne (a := 532) (b := 518) (x := nI 1) (y := 1) (fun hc515 => absurd (rfl) hc515) (fun hc515 => ?_)
    refine e_go hk_92 5 (c := (525, [.ref 4, .int x, .int y, .int (nI ky), .int (k_p Z n), .int (Z 5 7), .int (t_sm (Z 17) 0 n 0), .int (nI q), .int w, .int (nI of), .int (nI 1), s_no, s_no], [.int 81, .int (y >>> (2 &&& 31)), .int 10], hp Z P L)) rfl ?_
    refine e_call hk_92 (as := [.int (y >>> (2 &&& 31)), .int 81]) (rest := [.int 10]) rfl rfl hk_90 rfl (Nat.le_of_ble_eq_true rfl) rfl (show m_r 90 [.int (y >>> (2 &&& 31)), .int 81] (hp Z P L) (some (.int (nI (l_u (y >>> (2 &&& 31)) 81)))) (hp Z P L) from x_up (m := 81) (by decide) (by decide)) ?_
    show e_r 92 528 [.ref 4, .int x, .int y, .int (nI ky), .int (k_p Z n), .int (Z 5 7), .int (t_sm (Z 17) 0 n 0), .int (nI q), .int w, .int (nI of), .int (nI 1), s_no, s_no] [.int (nI (l_u (y >>> (2 &&& 31)) 81)), .int 10] (hp Z P L) _ _
    refine e_go hk_92 2 (c := (540, [.ref 4, .int x, .int y, .int (nI ky), .int (k_p Z n), .int (Z 5 7), .int (t_sm (Z 17) 0 n 0), .int (nI q), .int w, .int (nI of), .int (nI 1), s_no, s_no], [.int ((10 : Int32) + (nI (l_u (y >>> (2 &&& 31)) 81)))], hp Z P L)) rfl ?_
    rw [show (10 : Int32) + nI (l_u (y >>> (2 &&& 31)) 81) = nI (10 + l_u (y >>> (2 &&& 31)) 81) from nI_add 10 _]
    refine e_go hk_92 4 (c := (547, [.ref 4, .int x, .int y, .int (nI ky), .int (k_p Z n), .int (Z 5 7), .int (t_sm (Z 17) 0 n 0), .int (nI q), .int w, .int (nI of), .int (nI 1), .int (nI (10 + l_u (y >>> (2 &&& 31)) 81)), s_no], [.int (nI (10 + l_u (y >>> (2 &&& 31)) 81)), .int (nI 1), .ref 4], hp Z P L)) rfl ?_
    refine e_call hk_92 (as := [.ref 4, .int (nI 1), .int (nI (10 + l_u (y >>> (2 &&& 31)) 81))]) (rest := []) rfl rfl hk_57 rfl (Nat.le_of_ble_eq_true rfl) rfl g1 ?_
    show e_r 92 550 [.ref 4, .int x, .int y, .int (nI ky), .int (k_p Z n), .int (Z 5 7), .int (t_sm (Z 17) 0 n 0), .int (nI q), .int w, .int (nI of), .int (nI 1), .int (nI (10 + l_u (y >>> (2 &&& 31)) 81)), s_no] [.int (Z 7 1)] (hp Z2 P2 L) _ _
    refine e_go hk_92 1 (c := (if s_cnd .lt (Z 7 1) 0 = true then 566 else 553, [.ref 4, .int x, .int y, .int (nI ky), .int (k_p Z n), .int (Z 5 7), .int (t_sm (Z 17) 0 n 0), .int (nI q), .int w, .int (nI of), .int (nI 1), .int (nI (10 + l_u (y >>> (2 &&& 31)) 81)), s_no], [], hp Z2 P2 L)) rfl ?_
    refine e_lt (a := 566) (b := 553) (x := Z 7 1) (y := 0) (fun hc550 => absurd hc550 (g2)) (fun hc550 => ?_)
    refine e_go hk_92 1 (c := (554, [.ref 4, .int x, .int y, .int (nI ky), .int (k_p Z n), .int (Z 5 7), .int (t_sm (Z 17) 0 n 0), .int (nI q), .int w, .int (nI of), .int (nI 1), .int (nI (10 + l_u (y >>> (2 &&& 31)) 81)), s_no], [.ref 4], hp Z2 P2 L)) rfl ?_
    refine e_call hk_92 (as := [.ref 4]) (rest := []) rfl rfl hk_91 rfl (Nat.le_of_ble_eq_true rfl) rfl hp2 ?_
    show e_r 92 557 [.ref 4, .int x, .int y, .int (nI ky), .int (k_p Z n), .int (Z 5 7), .int (t_sm (Z 17) 0 n 0), .int (nI q), .int w, .int (nI of), .int (nI 1), .int (nI (10 + l_u (y >>> (2 &&& 31)) 81)), s_no] [.int (k_p Z n)] (hp Z2 P2 L) _ _
    refine e_go hk_92 2 (c := (if s_cnd .ne (k_p Z n) (k_p Z n) = true then 566 else 562, [.ref 4, .int x, .int y, .int (nI ky), .int (k_p Z n), .int (Z 5 7), .int (t_sm (Z 17) 0 n 0), .int (nI q), .int w, .int (nI of), .int (nI 1), .int (nI (10 + l_u (y >>> (2 &&& 31)) 81)), s_no], [], hp Z2 P2 L)) rfl ?_
    refine e_ne (a := 566) (b := 562) (x := k_p Z n) (y := k_p Z n) (fun hc559 => absurd (rfl) hc559) (fun hc559 => ?_)
    refine e_go hk_92 2 (c := (567, [.ref 4, .int x, .int y, .int (nI ky), .int (k_p Z n), .int (Z 5 7), .int (t_sm (Z 17) 0 n 0), .int (nI q), .int w, .int (nI of), .int (nI 1), .int (nI (10 + l_u (y >>> (2 &&& 31)) 81)), s_no], [.int 1], hp Z2 P2 L)) rfl ?_
    exact e_ret hk_92 rfl rfl rfl rfl rfl
  · rw [hr] at hu
    have hb := l_u_lt (v := y >>> (2 &&& 31)) (m := 10) (by decide)
    obtain ⟨Z2, P2, m2, q2, hQ2, g1, g2, g3⟩ := q_set (L := L) hQ (j := 2) (v := l_u (y >>> (2 &&& 31)) 10) (by decide) (by show 0 ≤ _; omega) (by show _ ≤ 9; omega)
    have hp2 : m_r 91 [.ref 4] (hp Z2 P2 L) (some (.int (k_p Z n))) (hp Z2 P2 L) := by rw [← g3]; exact x_paid hQ2.1
    refine ⟨Z2, P2, ⟨n, m2, q2, hQ2⟩, ?_⟩
    refine e_go hk_92 3 (c := (if s_cnd .ge (nI of) 8 = true then 283 else 96, [.ref 4, .int x, .int y, .int (nI ky), .int (k_p Z n), .int (Z 5 7), .int (t_sm (Z 17) 0 n 0), .int (nI q), .int w, .int (nI of), s_no, s_no, s_no], [], hp Z P L)) rfl ?_
    refine e_ge (a := 283) (b := 96) (x := nI of) (y := 8) (fun hc93 => ?_) (fun hc93 => absurd (h8) hc93)
    refine e_go hk_92 3 (c := (if s_cnd .ge (nI of) 11 = true then 415 else 290, [.ref 4, .int x, .int y, .int (nI ky), .int (k_p Z n), .int (Z 5 7), .int (t_sm (Z 17) 0 n 0), .int (nI q), .int w, .int (nI of), s_no, s_no, s_no], [], hp Z P L)) rfl ?_
    refine e_ge (a := 415) (b := 290) (x := nI of) (y := 11) (fun hc287 => ?_) (fun hc287 => absurd (h11) hc287)
    refine e_go hk_92 3 (c := (if s_cnd .ge (nI of) 12 = true then 486 else 422, [.ref 4, .int x, .int y, .int (nI ky), .int (k_p Z n), .int (Z 5 7), .int (t_sm (Z 17) 0 n 0), .int (nI q), .int w, .int (nI of), s_no, s_no, s_no], [], hp Z P L)) rfl ?_
    refine e_ge (a := 486) (b := 422) (x := nI of) (y := 12) (fun hc419 => ?_) (fun hc419 => absurd (h12) hc419)
    refine e_go hk_92 2 (c := (488, [.ref 4, .int x, .int y, .int (nI ky), .int (k_p Z n), .int (Z 5 7), .int (t_sm (Z 17) 0 n 0), .int (nI q), .int w, .int (nI of), s_no, s_no, s_no], [.int 3, .int y], hp Z P L)) rfl ?_
    refine e_call hk_92 (as := [.int y, .int 3]) (rest := []) rfl rfl hk_90 rfl (Nat.le_of_ble_eq_true rfl) rfl hu ?_
    show e_r 92 491 [.ref 4, .int x, .int y, .int (nI ky), .int (k_p Z n), .int (Z 5 7), .int (t_sm (Z 17) 0 n 0), .int (nI q), .int w, .int (nI of), s_no, s_no, s_no] [.int (nI 2)] (hp Z P L) _ _
    refine e_go hk_92 3 (c := (if s_cnd .ne (nI 2) 0 = true then 512 else 498, [.ref 4, .int x, .int y, .int (nI ky), .int (k_p Z n), .int (Z 5 7), .int (t_sm (Z 17) 0 n 0), .int (nI q), .int w, .int (nI of), .int (nI 2), s_no, s_no], [], hp Z P L)) rfl ?_
    refine e_ne (a := 512) (b := 498) (x := nI 2) (y := 0) (fun hc495 => ?_) (fun hc495 => absurd hc495 (by decide))
    refine e_go hk_92 3 (c := (if s_cnd .ne (nI 2) 1 = true then 532 else 518, [.ref 4, .int x, .int y, .int (nI ky), .int (k_p Z n), .int (Z 5 7), .int (t_sm (Z 17) 0 n 0), .int (nI q), .int w, .int (nI of), .int (nI 2), s_no, s_no], [], hp Z P L)) rfl ?_
    refine e_ne (a := 532) (b := 518) (x := nI 2) (y := 1) (fun hc515 => ?_) (fun hc515 => absurd hc515 (by decide))
    refine e_go hk_92 4 (c := (537, [.ref 4, .int x, .int y, .int (nI ky), .int (k_p Z n), .int (Z 5 7), .int (t_sm (Z 17) 0 n 0), .int (nI q), .int w, .int (nI of), .int (nI 2), s_no, s_no], [.int 10, .int (y >>> (2 &&& 31))], hp Z P L)) rfl ?_
    refine e_call hk_92 (as := [.int (y >>> (2 &&& 31)), .int 10]) (rest := []) rfl rfl hk_90 rfl (Nat.le_of_ble_eq_true rfl) rfl (show m_r 90 [.int (y >>> (2 &&& 31)), .int 10] (hp Z P L) (some (.int (nI (l_u (y >>> (2 &&& 31)) 10)))) (hp Z P L) from x_up (m := 10) (by decide) (by decide)) ?_
    show e_r 92 540 [.ref 4, .int x, .int y, .int (nI ky), .int (k_p Z n), .int (Z 5 7), .int (t_sm (Z 17) 0 n 0), .int (nI q), .int w, .int (nI of), .int (nI 2), s_no, s_no] [.int (nI (l_u (y >>> (2 &&& 31)) 10))] (hp Z P L) _ _
    refine e_go hk_92 4 (c := (547, [.ref 4, .int x, .int y, .int (nI ky), .int (k_p Z n), .int (Z 5 7), .int (t_sm (Z 17) 0 n 0), .int (nI q), .int w, .int (nI of), .int (nI 2), .int (nI (l_u (y >>> (2 &&& 31)) 10)), s_no], [.int (nI (l_u (y >>> (2 &&& 31)) 10)), .int (nI 2), .ref 4], hp Z P L)) rfl ?_
    refine e_call hk_92 (as := [.ref 4, .int (nI 2), .int (nI (l_u (y >>> (2 &&& 31)) 10))]) (rest := []) rfl rfl hk_57 rfl (Nat.le_of_ble_eq_true rfl) rfl g1 ?_
    show e_r 92 550 [.ref 4, .int x, .int y, .int (nI ky), .int (k_p Z n), .int (Z 5 7), .int (t_sm (Z 17) 0 n 0), .int (nI q), .int w, .int (nI of), .int (nI 2), .int (nI (l_u (y >>> (2 &&& 31)) 10)), s_no] [.int (Z 7 2)] (hp Z2 P2 L) _ _
    refine e_go hk_92 1 (c := (if s_cnd .lt (Z 7 2) 0 = true then 566 else 553, [.ref 4, .int x, .int y, .int (nI ky), .int (k_p Z n), .int (Z 5 7), .int (t_sm (Z 17) 0 n 0), .int (nI q), .int w, .int (nI of), .int (nI 2), .int (nI (l_u (y >>> (2 &&& 31)) 10)), s_no], [], hp Z2 P2 L)) rfl ?_
    refine e_lt (a := 566) (b := 553) (x := Z 7 2) (y := 0) (fun hc550 => absurd hc550 (g2)) (fun hc550 => ?_)
    refine e_go hk_92 1 (c := (554, [.ref 4, .int x, .int y, .int (nI ky), .int (k_p Z n), .int (Z 5 7), .int (t_sm (Z 17) 0 n 0), .int (nI q), .int w, .int (nI of), .int (nI 2), .int (nI (l_u (y >>> (2 &&& 31)) 10)), s_no], [.ref 4], hp Z2 P2 L)) rfl ?_
    refine e_call hk_92 (as := [.ref 4]) (rest := []) rfl rfl hk_91 rfl (Nat.le_of_ble_eq_true rfl) rfl hp2 ?_
    show e_r 92 557 [.ref 4, .int x, .int y, .int (nI ky), .int (k_p Z n), .int (Z 5 7), .int (t_sm (Z 17) 0 n 0), .int (nI q), .int w, .int (nI of), .int (nI 2), .int (nI (l_u (y >>> (2 &&& 31)) 10)), s_no] [.int (k_p Z n)] (hp Z2 P2 L) _ _
    refine e_go hk_92 2 (c := (if s_cnd .ne (k_p Z n) (k_p Z n) = true then 566 else 562, [.ref 4, .int x, .int y, .int (nI ky), .int (k_p Z n), .int (Z 5 7), .int (t_sm (Z 17) 0 n 0), .int (nI q), .int w, .int (nI of), .int (nI 2), .int (nI (l_u (y >>> (2 &&& 31)) 10)), s_no], [], hp Z2 P2 L)) rfl ?_
    refine e_ne (a := 566) (b := 562) (x := k_p Z n) (y := k_p Z n) (fun hc559 => absurd (rfl) hc559) (fun hc559 => ?_)
    refine e_go hk_92 2 (c := (567, [.ref 4, .int x, .int y, .int (nI ky), .int (k_p Z n), .int (Z 5 7), .int (t_sm (Z 17) 0 n 0), .int (nI q), .int w, .int (nI of), .int (nI 2), .int (nI (l_u (y >>> (2 &&& 31)) 10)), s_no], [.int 1], hp Z2 P2 L)) rfl ?_
    exact e_ret hk_92 rfl rfl rfl rfl rfl
/-! one step of the law: it holds, and the tree is one again -/
set_option maxRecDepth 20000 in
theorem st_all {Z : Nat → Nat → Int32} {P : Nat → Nat} {L : Nat} {x : Int32} (hG : K_G Z P) : ∃ (Z2 : Nat → Nat → Int32) (P2 : Nat → Nat), K_G Z2 P2 ∧ m_r 92 [.ref 4, .int x] (hp Z P L) (some (.int 1)) (hp Z2 P2 L) := by
  obtain ⟨n, m, q, hQ⟩ := hG
  obtain ⟨ky, hk, H⟩ := st_head (Z := Z) (P := P) (L := L) (x := x)
  obtain ⟨w, hw⟩ : ∃ w, l_is Z n (nI ky) w := by
    by_cases h : t_fn (Z 9) (Z 17) n (nI ky) = none
    · exact ⟨0, Or.inl ⟨h, rfl⟩⟩
    · exact ⟨1, Or.inr ⟨h, rfl⟩⟩
  obtain ⟨Z2, P2, h1, h2⟩ : ∃ (Z2 : Nat → Nat → Int32) (P2 : Nat → Nat), K_G Z2 P2 ∧ e_r 92 89 [.ref 4, .int x, .int (l_y x), .int (nI ky), .int (k_p Z n), .int (Z 5 7), .int (t_sm (Z 17) 0 n 0), .int (nI q), .int w, .int (nI (l_u x 14)), s_no, s_no, s_no] [] (hp Z P L) (some (.int 1)) (hp Z2 P2 L) := by
    by_cases h8 : 8 ≤ nI (l_u x 14)
    · by_cases h11 : 11 ≤ nI (l_u x 14)
      · by_cases h12 : 12 ≤ nI (l_u x 14)
        · exact st_set hQ hk hw h8 h11 h12
        · exact st_reb hQ hk hw h8 h11 h12
      · exact st_rem hQ hk hw h8 h11
    · exact st_put hQ hk hw h8
  exact ⟨Z2, P2, h1, H _ _ (st_2 hQ hk hw h2)⟩
