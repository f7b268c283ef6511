/-! The law's areKeys; printed by wip/p25/gen/keys.py -/
set_option maxRecDepth 20000 in
theorem x_kend {Z : Nat → Nat → Int32} {P : Nat → Nat} {L n : Nat} (hJ : K_J Z n) {y5 : Value} : e_r 94 35 [.ref 4, .int (nI (k_c Z n)), .int (k_s Z n (k_c Z n)), .int 1, .int (nI (k_c Z n)), y5] [] (hp Z P L) (some (.int 1)) (hp Z P L) := by
  have hc := k_c_le (Z := Z) (n := n)
  have hn := hJ.2.1
  refine e_go hk_94 3 (c := (if s_cnd .ge (nI (k_c Z n)) (nI (k_c Z n)) = true then 184 else 41, [.ref 4, .int (nI (k_c Z n)), .int (k_s Z n (k_c Z n)), .int 1, .int (nI (k_c Z n)), y5], [], hp Z P L)) rfl ?_
  refine e_ge (a := 184) (b := 41) (x := nI (k_c Z n)) (y := nI (k_c Z n)) (fun hc38 => ?_) (fun hc38 => absurd (nI_le (Nat.le_refl _) (by omega)) hc38)
  refine e_go hk_94 2 (c := (if s_cnd .eq 1 0 = true then 204 else 188, [.ref 4, .int (nI (k_c Z n)), .int (k_s Z n (k_c Z n)), .int 1, .int (nI (k_c Z n)), y5], [], hp Z P L)) rfl ?_
  refine e_eq (a := 204) (b := 188) (x := 1) (y := 0) (fun hc185 => absurd hc185 (by decide)) (fun hc185 => ?_)
  refine e_go hk_94 3 (c := (193, [.ref 4, .int (nI (k_c Z n)), .int (k_s Z n (k_c Z n)), .int 1, .int (nI (k_c Z n)), y5], [.int 999, .int 0, .ref 4], hp Z P L)) rfl ?_
  refine e_call hk_94 (as := [.ref 4, .int 0, .int 999]) (rest := []) rfl rfl hk_69 rfl (Nat.le_of_ble_eq_true rfl) rfl (show m_r 69 [.ref 4, .int 0, .int 999] (hp Z P L) (some (.int (k_s Z n (k_c Z n)))) (hp Z P L) from by rw [← k_sum_all hJ]; exact a_sum hJ) ?_
  show e_r 94 196 [.ref 4, .int (nI (k_c Z n)), .int (k_s Z n (k_c Z n)), .int 1, .int (nI (k_c Z n)), y5] [.int (k_s Z n (k_c Z n))] (hp Z P L) _ _
  refine e_go hk_94 2 (c := (if s_cnd .ne (k_s Z n (k_c Z n)) (k_s Z n (k_c Z n)) = true then 204 else 200, [.ref 4, .int (nI (k_c Z n)), .int (k_s Z n (k_c Z n)), .int 1, .int (nI (k_c Z n)), y5], [], hp Z P L)) rfl ?_
  refine e_ne (a := 204) (b := 200) (x := k_s Z n (k_c Z n)) (y := k_s Z n (k_c Z n)) (fun hc197 => absurd (rfl) hc197) (fun hc197 => ?_)
  refine e_go hk_94 2 (c := (205, [.ref 4, .int (nI (k_c Z n)), .int (k_s Z n (k_c Z n)), .int 1, .int (nI (k_c Z n)), y5], [.int 1], hp Z P L)) rfl ?_
  exact e_ret hk_94 rfl rfl rfl rfl rfl
set_option maxRecDepth 20000 in
theorem x_kone {Z : Nat → Nat → Int32} {P : Nat → Nat} {L n : Nat} (hJ : K_J Z n) {k : Nat} (hk : k < k_c Z n) {y5 : Value} (kk : ∀ y5 : Value, e_r 94 35 [.ref 4, .int (nI (k_c Z n)), .int (k_s Z n (k + 1)), .int 1, .int (nI (k + 1)), y5] [] (hp Z P L) (some (.int 1)) (hp Z P L)) : e_r 94 35 [.ref 4, .int (nI (k_c Z n)), .int (k_s Z n k), .int 1, .int (nI k), y5] [] (hp Z P L) (some (.int 1)) (hp Z P L) := by
  have hc := k_c_le (Z := Z) (n := n)
  have hn := hJ.2.1
  obtain ⟨key, v, ⟨g1, g0⟩, g2, g3, g4, g5, g6, g7, g8, g9⟩ := key_J hJ hk
  have m1 : m_r 67 [.ref 4, .int (nI k)] (hp Z P L) (some (.int (key))) (hp Z P L) := by rw [← g1]; exact a_kth hJ
  have m2 : m_r 61 [.ref 4, .int key] (hp Z P L) (some (.int (v))) (hp Z P L) := by rw [← g2]; exact a_val hJ
  have m3 : m_r 66 [.ref 4, .int key] (hp Z P L) (some (.int (nI k))) (hp Z P L) := by rw [← g3]; exact a_rank hJ
  have m7 : m_r 69 [.ref 4, .int 0, .int key] (hp Z P L) (some (.int (k_s Z n k + v))) (hp Z P L) := by rw [← g7]; exact a_sum hJ
  have m8 : m_r 69 [.ref 4, .int key, .int key] (hp Z P L) (some (.int (v))) (hp Z P L) := by
    have z := a_sum (P := P) (L := L) hJ (lo := key) (hi := key)
    rw [g8] at z
    exact z
  rw [g9] at kk
  have kx := kk (.int key)
  have k144 : e_r 94 144 [.ref 4, .int (nI (k_c Z n)), .int (k_s Z n k + v), .int 1, .int (nI k), .int key] [] (hp Z P L) (some (.int 1)) (hp Z P L) := by
    refine e_go hk_94 3 (c := (148, [.ref 4, .int (nI (k_c Z n)), .int (k_s Z n k + v), .int 1, .int (nI k), .int key], [.int key, .int 0, .ref 4], hp Z P L)) rfl ?_
    refine e_call hk_94 (as := [.ref 4, .int 0, .int key]) (rest := []) rfl rfl hk_69 rfl (Nat.le_of_ble_eq_true rfl) rfl m7 ?_
    show e_r 94 151 [.ref 4, .int (nI (k_c Z n)), .int (k_s Z n k + v), .int 1, .int (nI k), .int key] [.int (k_s Z n k + v)] (hp Z P L) _ _
    refine e_go hk_94 2 (c := (if s_cnd .ne (k_s Z n k + v) (k_s Z n k + v) = true then 176 else 155, [.ref 4, .int (nI (k_c Z n)), .int (k_s Z n k + v), .int 1, .int (nI k), .int key], [], hp Z P L)) rfl ?_
    refine e_ne (a := 176) (b := 155) (x := k_s Z n k + v) (y := k_s Z n k + v) (fun hc152 => absurd (rfl) hc152) (fun hc152 => ?_)
    refine e_go hk_94 3 (c := (160, [.ref 4, .int (nI (k_c Z n)), .int (k_s Z n k + v), .int 1, .int (nI k), .int key], [.int key, .int key, .ref 4], hp Z P L)) rfl ?_
    refine e_call hk_94 (as := [.ref 4, .int key, .int key]) (rest := []) rfl rfl hk_69 rfl (Nat.le_of_ble_eq_true rfl) rfl m8 ?_
    show e_r 94 163 [.ref 4, .int (nI (k_c Z n)), .int (k_s Z n k + v), .int 1, .int (nI k), .int key] [.int v] (hp Z P L) _ _
    refine e_go hk_94 2 (c := (166, [.ref 4, .int (nI (k_c Z n)), .int (k_s Z n k + v), .int 1, .int (nI k), .int key], [.int key, .ref 4, .int v], hp Z P L)) rfl ?_
    refine e_call hk_94 (as := [.ref 4, .int key]) (rest := [.int v]) rfl rfl hk_61 rfl (Nat.le_of_ble_eq_true rfl) rfl m2 ?_
    show e_r 94 169 [.ref 4, .int (nI (k_c Z n)), .int (k_s Z n k + v), .int 1, .int (nI k), .int key] [.int v, .int v] (hp Z P L) _ _
    refine e_go hk_94 1 (c := (if s_cnd .ne v v = true then 176 else 172, [.ref 4, .int (nI (k_c Z n)), .int (k_s Z n k + v), .int 1, .int (nI k), .int key], [], hp Z P L)) rfl ?_
    refine e_ne (a := 176) (b := 172) (x := v) (y := v) (fun hc169 => absurd (rfl) hc169) (fun hc169 => ?_)
    refine e_go hk_94 5 (c := (35, [.ref 4, .int (nI (k_c Z n)), .int (k_s Z n k + v), .int 1, .int ((nI k) + 1), .int key], [], hp Z P L)) rfl ?_
    rw [show nI k + 1 = nI (k + 1) from nI_1 k]
    exact kx
  have k124 : e_r 94 124 [.ref 4, .int (nI (k_c Z n)), .int (k_s Z n k + v), .int 1, .int (nI k), .int key] [] (hp Z P L) (some (.int 1)) (hp Z P L) := by
    refine e_go hk_94 5 (c := (if s_cnd .lt ((nI k) + 1) (nI (k_c Z n)) = true then 144 else 132, [.ref 4, .int (nI (k_c Z n)), .int (k_s Z n k + v), .int 1, .int (nI k), .int key], [], hp Z P L)) rfl ?_
    refine e_lt (a := 144) (b := 132) (x := (nI k) + 1) (y := nI (k_c Z n)) (fun hc129 => ?_) (fun hc129 => ?_)
    · skip
      exact k144
    · skip
      refine e_go hk_94 3 (c := (136, [.ref 4, .int (nI (k_c Z n)), .int (k_s Z n k + v), .int 1, .int (nI k), .int key], [.int 1, .int key, .ref 4], hp Z P L)) rfl ?_
      refine e_call hk_94 (as := [.ref 4, .int key, .int 1]) (rest := []) rfl rfl hk_68 rfl (Nat.le_of_ble_eq_true rfl) rfl (show m_r 68 [.ref 4, .int key, .int 1] (hp Z P L) (some (.int (-6))) (hp Z P L) from by rw [← g6 (fun z => hc129 (by rw [nI_1]; exact nI_lt z (by omega)))]; exact a_nb hJ) ?_
      show e_r 94 139 [.ref 4, .int (nI (k_c Z n)), .int (k_s Z n k + v), .int 1, .int (nI k), .int key] [.int ((-6))] (hp Z P L) _ _
      refine e_go hk_94 2 (c := (if s_cnd .ne ((-6)) ((-6)) = true then 176 else 144, [.ref 4, .int (nI (k_c Z n)), .int (k_s Z n k + v), .int 1, .int (nI k), .int key], [], hp Z P L)) rfl ?_
      refine e_ne (a := 176) (b := 144) (x := (-6)) (y := (-6)) (fun hc141 => absurd (rfl) hc141) (fun hc141 => ?_)
      exact k144
  refine e_go hk_94 3 (c := (if s_cnd .ge (nI k) (nI (k_c Z n)) = true then 184 else 41, [.ref 4, .int (nI (k_c Z n)), .int (k_s Z n k), .int 1, .int (nI k), y5], [], hp Z P L)) rfl ?_
  refine e_ge (a := 184) (b := 41) (x := nI k) (y := nI (k_c Z n)) (fun hc38 => absurd hc38 (nI_ge hk (by omega))) (fun hc38 => ?_)
  refine e_go hk_94 2 (c := (if s_cnd .eq 1 0 = true then 184 else 45, [.ref 4, .int (nI (k_c Z n)), .int (k_s Z n k), .int 1, .int (nI k), y5], [], hp Z P L)) rfl ?_
  refine e_eq (a := 184) (b := 45) (x := 1) (y := 0) (fun hc42 => absurd hc42 (by decide)) (fun hc42 => ?_)
  refine e_go hk_94 2 (c := (48, [.ref 4, .int (nI (k_c Z n)), .int (k_s Z n k), .int 1, .int (nI k), y5], [.int (nI k), .ref 4], hp Z P L)) rfl ?_
  refine e_call hk_94 (as := [.ref 4, .int (nI k)]) (rest := []) rfl rfl hk_67 rfl (Nat.le_of_ble_eq_true rfl) rfl m1 ?_
  show e_r 94 51 [.ref 4, .int (nI (k_c Z n)), .int (k_s Z n k), .int 1, .int (nI k), y5] [.int key] (hp Z P L) _ _
  refine e_go hk_94 4 (c := (57, [.ref 4, .int (nI (k_c Z n)), .int (k_s Z n k), .int 1, .int (nI k), .int key], [.int key, .ref 4, .int (k_s Z n k)], hp Z P L)) rfl ?_
  refine e_call hk_94 (as := [.ref 4, .int key]) (rest := [.int (k_s Z n k)]) rfl rfl hk_61 rfl (Nat.le_of_ble_eq_true rfl) rfl m2 ?_
  show e_r 94 60 [.ref 4, .int (nI (k_c Z n)), .int (k_s Z n k), .int 1, .int (nI k), .int key] [.int v, .int (k_s Z n k)] (hp Z P L) _ _
  refine e_go hk_94 4 (c := (65, [.ref 4, .int (nI (k_c Z n)), .int ((k_s Z n k) + v), .int 1, .int (nI k), .int key], [.int key, .ref 4], hp Z P L)) rfl ?_
  refine e_call hk_94 (as := [.ref 4, .int key]) (rest := []) rfl rfl hk_66 rfl (Nat.le_of_ble_eq_true rfl) rfl m3 ?_
  show e_r 94 68 [.ref 4, .int (nI (k_c Z n)), .int ((k_s Z n k) + v), .int 1, .int (nI k), .int key] [.int (nI k)] (hp Z P L) _ _
  refine e_go hk_94 2 (c := (if s_cnd .ne (nI k) (nI k) = true then 176 else 73, [.ref 4, .int (nI (k_c Z n)), .int ((k_s Z n k) + v), .int 1, .int (nI k), .int key], [], hp Z P L)) rfl ?_
  refine e_ne (a := 176) (b := 73) (x := nI k) (y := nI k) (fun hc70 => absurd (rfl) hc70) (fun hc70 => ?_)
  refine e_go hk_94 2 (c := (if s_cnd .ne (nI k) 0 = true then 93 else 78, [.ref 4, .int (nI (k_c Z n)), .int ((k_s Z n k) + v), .int 1, .int (nI k), .int key], [], hp Z P L)) rfl ?_
  refine e_ne (a := 93) (b := 78) (x := nI k) (y := 0) (fun hc75 => ?_) (fun hc75 => ?_)
  · skip
    have hk0 : 0 < k := Nat.pos_of_ne_zero (fun z => hc75 (by rw [z]; rfl))
    obtain ⟨key2, e1, e2, e3⟩ := g5 hk0
    have m9 : m_r 67 [.ref 4, .int (nI (k - 1))] (hp Z P L) (some (.int (key2))) (hp Z P L) := by rw [← e2]; exact a_kth hJ
    have hkm : nI k - 1 = nI (k - 1) := by rw [show k = k - 1 + 1 by omega, nI_pred, Nat.add_sub_cancel]
    refine e_go hk_94 3 (c := (97, [.ref 4, .int (nI (k_c Z n)), .int ((k_s Z n k) + v), .int 1, .int (nI k), .int key], [.int 0, .int key, .ref 4], hp Z P L)) rfl ?_
    refine e_call hk_94 (as := [.ref 4, .int key, .int 0]) (rest := []) rfl rfl hk_68 rfl (Nat.le_of_ble_eq_true rfl) rfl (show m_r 68 [.ref 4, .int key, .int 0] (hp Z P L) (some (.int (key2))) (hp Z P L) from by rw [← e1]; exact a_nb hJ) ?_
    show e_r 94 100 [.ref 4, .int (nI (k_c Z n)), .int ((k_s Z n k) + v), .int 1, .int (nI k), .int key] [.int key2] (hp Z P L) _ _
    refine e_go hk_94 4 (c := (105, [.ref 4, .int (nI (k_c Z n)), .int ((k_s Z n k) + v), .int 1, .int (nI k), .int key], [.int ((nI k) - 1), .ref 4, .int key2], hp Z P L)) rfl ?_
    rw [hkm]
    refine e_call hk_94 (as := [.ref 4, .int (nI (k - 1))]) (rest := [.int key2]) rfl rfl hk_67 rfl (Nat.le_of_ble_eq_true rfl) rfl m9 ?_
    show e_r 94 108 [.ref 4, .int (nI (k_c Z n)), .int ((k_s Z n k) + v), .int 1, .int (nI k), .int key] [.int key2, .int key2] (hp Z P L) _ _
    refine e_go hk_94 1 (c := (if s_cnd .ne key2 key2 = true then 176 else 111, [.ref 4, .int (nI (k_c Z n)), .int ((k_s Z n k) + v), .int 1, .int (nI k), .int key], [], hp Z P L)) rfl ?_
    refine e_ne (a := 176) (b := 111) (x := key2) (y := key2) (fun hc108 => absurd (rfl) hc108) (fun hc108 => ?_)
    refine e_go hk_94 4 (c := (116, [.ref 4, .int (nI (k_c Z n)), .int ((k_s Z n k) + v), .int 1, .int (nI k), .int key], [.int ((nI k) - 1), .ref 4], hp Z P L)) rfl ?_
    rw [hkm]
    refine e_call hk_94 (as := [.ref 4, .int (nI (k - 1))]) (rest := []) rfl rfl hk_67 rfl (Nat.le_of_ble_eq_true rfl) rfl m9 ?_
    show e_r 94 119 [.ref 4, .int (nI (k_c Z n)), .int ((k_s Z n k) + v), .int 1, .int (nI k), .int key] [.int key2] (hp Z P L) _ _
    refine e_go hk_94 2 (c := (if s_cnd .ge key2 key = true then 176 else 124, [.ref 4, .int (nI (k_c Z n)), .int ((k_s Z n k) + v), .int 1, .int (nI k), .int key], [], hp Z P L)) rfl ?_
    refine e_ge (a := 176) (b := 124) (x := key2) (y := key) (fun hc121 => absurd hc121 (Int32.not_le.mpr e3)) (fun hc121 => ?_)
    exact k124
  · skip
    have hk0 : k = 0 := (nI_eq (a := k) (b := 0) (by omega) (by omega)).mp hc75
    refine e_go hk_94 3 (c := (82, [.ref 4, .int (nI (k_c Z n)), .int ((k_s Z n k) + v), .int 1, .int (nI k), .int key], [.int 0, .int key, .ref 4], hp Z P L)) rfl ?_
    refine e_call hk_94 (as := [.ref 4, .int key, .int 0]) (rest := []) rfl rfl hk_68 rfl (Nat.le_of_ble_eq_true rfl) rfl (show m_r 68 [.ref 4, .int key, .int 0] (hp Z P L) (some (.int (-6))) (hp Z P L) from by rw [← g4 hk0]; exact a_nb hJ) ?_
    show e_r 94 85 [.ref 4, .int (nI (k_c Z n)), .int ((k_s Z n k) + v), .int 1, .int (nI k), .int key] [.int ((-6))] (hp Z P L) _ _
    refine e_go hk_94 2 (c := (if s_cnd .ne ((-6)) ((-6)) = true then 176 else 90, [.ref 4, .int (nI (k_c Z n)), .int ((k_s Z n k) + v), .int 1, .int (nI k), .int key], [], hp Z P L)) rfl ?_
    refine e_ne (a := 176) (b := 90) (x := (-6)) (y := (-6)) (fun hc87 => absurd (rfl) hc87) (fun hc87 => ?_)
    refine e_go hk_94 1 (c := (124, [.ref 4, .int (nI (k_c Z n)), .int ((k_s Z n k) + v), .int 1, .int (nI k), .int key], [], hp Z P L)) rfl ?_
    exact k124
set_option maxRecDepth 20000 in
theorem x_kloop {Z : Nat → Nat → Int32} {P : Nat → Nat} {L n : Nat} (hJ : K_J Z n) : ∀ (j k : Nat) (y5 : Value), k + j = k_c Z n → e_r 94 35 [.ref 4, .int (nI (k_c Z n)), .int (k_s Z n k), .int 1, .int (nI k), y5] [] (hp Z P L) (some (.int 1)) (hp Z P L)
  | 0, k, y5, h => by
    obtain rfl : k = k_c Z n := by omega
    exact x_kend hJ
  | j + 1, k, y5, h => x_kone hJ (by omega) (fun y5 => x_kloop hJ j (k + 1) y5 (by omega))
set_option maxRecDepth 20000 in
theorem x_keys {Z : Nat → Nat → Int32} {P : Nat → Nat} {L n : Nat} (hJ : K_J Z n) : m_r 94 [.ref 4] (hp Z P L) (some (.int 1)) (hp Z P L) := by
  have c1 : m_r 63 [.ref 4, .int 1] (hp Z P L) (some (.int (nI (k_c Z n)))) (hp Z P L) := by rw [← k_c_sum hJ]; exact a_c1 hJ
  have m1 : m_r 67 [.ref 4, .int (nI (k_c Z n))] (hp Z P L) (some (.int (-1))) (hp Z P L) := by rw [← k_kth_end hJ]; exact a_kth hJ
  have m2 : m_r 67 [.ref 4, .int (-1)] (hp Z P L) (some (.int (-1))) (hp Z P L) := by
    have z := a_kth (P := P) (L := L) hJ (k := -1)
    rw [k_kth_m1 hJ] at z
    exact z
  refine m_of (ls := [.ref 4, s_no, s_no, s_no, s_no, s_no]) hk_94 rfl rfl rfl ?_
  refine e_go hk_94 2 (c := (2, [.ref 4, s_no, s_no, s_no, s_no, s_no], [.int 1, .ref 4], hp Z P L)) rfl ?_
  refine e_call hk_94 (as := [.ref 4, .int 1]) (rest := []) rfl rfl hk_63 rfl (Nat.le_of_ble_eq_true rfl) rfl c1 ?_
  show e_r 94 5 [.ref 4, s_no, s_no, s_no, s_no, s_no] [.int (nI (k_c Z n))] (hp Z P L) _ _
  refine e_go hk_94 5 (c := (10, [.ref 4, .int (nI (k_c Z n)), .int 0, s_no, s_no, s_no], [.int (nI (k_c Z n)), .ref 4], hp Z P L)) rfl ?_
  refine e_call hk_94 (as := [.ref 4, .int (nI (k_c Z n))]) (rest := []) rfl rfl hk_67 rfl (Nat.le_of_ble_eq_true rfl) rfl m1 ?_
  show e_r 94 13 [.ref 4, .int (nI (k_c Z n)), .int 0, s_no, s_no, s_no] [.int ((-1))] (hp Z P L) _ _
  refine e_go hk_94 2 (c := (if s_cnd .ne ((-1)) ((-1)) = true then 30 else 17, [.ref 4, .int (nI (k_c Z n)), .int 0, s_no, s_no, s_no], [], hp Z P L)) rfl ?_
  refine e_ne (a := 30) (b := 17) (x := (-1)) (y := (-1)) (fun hc14 => absurd (rfl) hc14) (fun hc14 => ?_)
  refine e_go hk_94 2 (c := (19, [.ref 4, .int (nI (k_c Z n)), .int 0, s_no, s_no, s_no], [.int ((-1)), .ref 4], hp Z P L)) rfl ?_
  refine e_call hk_94 (as := [.ref 4, .int ((-1))]) (rest := []) rfl rfl hk_67 rfl (Nat.le_of_ble_eq_true rfl) rfl m2 ?_
  show e_r 94 22 [.ref 4, .int (nI (k_c Z n)), .int 0, s_no, s_no, s_no] [.int ((-1))] (hp Z P L) _ _
  refine e_go hk_94 2 (c := (if s_cnd .ne ((-1)) ((-1)) = true then 30 else 26, [.ref 4, .int (nI (k_c Z n)), .int 0, s_no, s_no, s_no], [], hp Z P L)) rfl ?_
  refine e_ne (a := 30) (b := 26) (x := (-1)) (y := (-1)) (fun hc23 => absurd (rfl) hc23) (fun hc23 => ?_)
  refine e_go hk_94 5 (c := (35, [.ref 4, .int (nI (k_c Z n)), .int 0, .int 1, .int 0, s_no], [], hp Z P L)) rfl ?_
  exact x_kloop hJ (k_c Z n) 0 s_no (by omega)
