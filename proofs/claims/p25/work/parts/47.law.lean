/-! The law; printed by wip/p25/gen/law.py -/
theorem K_G_o {Z Z2 : Nat → Nat → Int32} {P : Nat → Nat} {n m q : Nat} (h : ∀ c, c < 131 → Z2 c = Z c) (hQ : K_Q Z P n m q) : K_Q Z2 P n m q := by
  obtain ⟨h1, h2, h3, h4, h5⟩ := hQ
  refine ⟨K_J_congr h1 (by rw [h 5 (by decide)]) (h 9 (by decide)) (h 11 (by decide)) (h 15 (by decide)) (h 17 (by decide)), ?_, ?_, by rw [h 1 (by decide)]; exact h4, by rw [h 2 (by decide)]; exact h5⟩
  · rw [h 7 (by decide)]; exact h2
  · rw [h 18 (by decide)]; exact h3
/-- the law's end, from a point on, on a heap that is not too large -/
def l_E (L0 pc : Nat) (ls : List Value) (h : sHp) : Prop := ∃ (Z2 : Nat → Nat → Int32) (P2 : Nat → Nat) (L2 : Nat), L2 ≤ L0 ∧ e_r 95 pc ls [] h (some (.int 1)) (hp Z2 P2 L2)
theorem s_sz_ap2 {S : s_SG} : ∀ (a b : List (Nat × Nat)), s_sz S (a ++ b) = s_sz S a + s_sz S b
  | [], b => by
    rw [List.nil_append, s_sz, Nat.zero_add]
  | (0, c) :: a, b => by
    rw [List.cons_append, s_sz, s_sz, s_sz_ap2 a b, Nat.add_assoc]
  | (t + 1, c) :: a, b => by
    rw [List.cons_append, s_sz, s_sz, s_sz_ap2 a b, Nat.add_assoc]
theorem s_sz_rep {S : s_SG} : ∀ k : Nat, s_sz S (List.replicate k (1, 62)) = k * 62
  | 0 => by
    rw [List.replicate_zero, s_sz, Nat.zero_mul]
  | k + 1 => by
    rw [List.replicate_succ, s_sz, s_sz_rep k]
    omega
set_option maxRecDepth 20000 in
theorem x_lowb {Z : Nat → Nat → Int32} {P : Nat → Nat} {L : Nat} {c : Nat} (hc : c < 61) {v : Option Value} {h2 : sHp} (kk : e_r 95 106 [.ref 3, .ref 4, .int 1, .int (nI c), .int (nI (k_b c))] [] (hp Z P L) v h2) : ∀ (j i : Nat), i + j = k_b c → e_r 95 92 [.ref 3, .ref 4, .int 1, .int (nI c), .int (nI i)] [] (hp Z P L) v h2
  | 0, i, hi => by
    obtain rfl : i = k_b c := by omega
    have hi := Nat.lt_succ_of_le (k_b_le c hc)
    refine e_go hk_95 5 (c := (if s_cnd .gt (1 <<< ((nI (k_b c)) &&& 31)) (nI c) = true then 106 else 100, [.ref 3, .ref 4, .int 1, .int (nI c), .int (nI (k_b c))], [], hp Z P L)) rfl ?_
    refine e_gt (a := 106) (b := 100) (x := 1 <<< ((nI (k_b c)) &&& 31)) (y := nI c) (fun hc97 => ?_) (fun hc97 => absurd ((k_b_sh c hc _ hi).mpr (Nat.le_refl _)) hc97)
    exact kk
  | j + 1, i, hi => by
    have h7 := k_b_le c hc
    refine e_go hk_95 5 (c := (if s_cnd .gt (1 <<< ((nI i) &&& 31)) (nI c) = true then 106 else 100, [.ref 3, .ref 4, .int 1, .int (nI c), .int (nI i)], [], hp Z P L)) rfl ?_
    refine e_gt (a := 106) (b := 100) (x := 1 <<< ((nI i) &&& 31)) (y := nI c) (fun hc97 => absurd hc97 (fun z => by have := (k_b_sh c hc i (by omega)).mp z; omega)) (fun hc97 => ?_)
    refine e_go hk_95 2 (c := (92, [.ref 3, .ref 4, .int 1, .int (nI c), .int ((nI i) + 1)], [], hp Z P L)) rfl ?_
    rw [show nI i + 1 = nI (i + 1) from nI_1 i]
    exact x_lowb hc kk j (i + 1) (by omega)
set_option maxRecDepth 20000 in
theorem x_end {Z : Nat → Nat → Int32} {P : Nat → Nat} {L : Nat} {n m q : Nat} (hQ : K_Q Z P n m q) : l_E L 106 [.ref 3, .ref 4, .int 1, .int (nI (k_c Z n)), .int (nI (k_b (k_c Z n)))] (hp Z P L) := by
  have hJ := hQ.1
  have hn := hJ.2.1
  have hc := k_c_le (Z := Z) (n := n)
  rcases Nat.eq_zero_or_pos n with h0 | h0
  · refine ⟨Z, P, L, Nat.le_refl _, ?_⟩
    refine e_go hk_95 2 (c := (108, [.ref 3, .ref 4, .int 1, .int (nI (k_c Z n)), .int (nI (k_b (k_c Z n)))], [.int 0, .ref 4], hp Z P L)) rfl ?_
    refine e_call hk_95 (as := [.ref 4, .int 0]) (rest := []) rfl rfl hk_63 rfl (Nat.le_of_ble_eq_true rfl) rfl (a_c0 hJ) ?_
    show e_r 95 111 [.ref 3, .ref 4, .int 1, .int (nI (k_c Z n)), .int (nI (k_b (k_c Z n)))] [.int (nI n)] (hp Z P L) _ _
    refine e_go hk_95 1 (c := (if s_cnd .le (nI n) 0 = true then 192 else 114, [.ref 3, .ref 4, .int 1, .int (nI (k_c Z n)), .int (nI (k_b (k_c Z n)))], [], hp Z P L)) rfl ?_
    refine e_le (a := 192) (b := 114) (x := nI n) (y := 0) (fun hc111 => ?_) (fun hc111 => absurd (by rw [h0]; decide) hc111)
    refine e_go hk_95 1 (c := (193, [.ref 3, .ref 4, .int 1, .int (nI (k_c Z n)), .int (nI (k_b (k_c Z n)))], [.int 1], hp Z P L)) rfl ?_
    exact e_ret hk_95 rfl rfl rfl rfl rfl
  · obtain ⟨t, Z2, P2, Z3, k, g1, g2, g3, g4, g5, g6, g7, g8⟩ := q_root (L := L) hQ h0
    have c2 : m_r 63 [.ref 4, .int 2] (hp Z P L) (some (.int (Z 9 t))) (hp Z P L) := by rw [← g1]; exact a_c2 hJ
    have c3 : m_r 63 [.ref 4, .int 3] (hp Z2 P2 L) (some (.int (if k_c Z n = 0 then -6 else nI (k_b (k_c Z n)) - 1))) (hp Z2 P2 L) := by rw [← g5]; exact a_c3 g3
    have c6 : m_r 63 [.ref 4, .int 6] (hp Z2 P2 L) (some (.int 0)) (hp Z2 P2 L) := by rw [← g4]; exact a_c6 g3
    have hq : nI (k_c Z n) = 0 → k_c Z n = 0 := fun z => (nI_eq (a := k_c Z n) (b := 0) (by omega) (by omega)).mp z
    refine ⟨Z3, P2, L, Nat.le_refl _, ?_⟩
    refine e_go hk_95 2 (c := (108, [.ref 3, .ref 4, .int 1, .int (nI (k_c Z n)), .int (nI (k_b (k_c Z n)))], [.int 0, .ref 4], hp Z P L)) rfl ?_
    refine e_call hk_95 (as := [.ref 4, .int 0]) (rest := []) rfl rfl hk_63 rfl (Nat.le_of_ble_eq_true rfl) rfl (a_c0 hJ) ?_
    show e_r 95 111 [.ref 3, .ref 4, .int 1, .int (nI (k_c Z n)), .int (nI (k_b (k_c Z n)))] [.int (nI n)] (hp Z P L) _ _
    refine e_go hk_95 1 (c := (if s_cnd .le (nI n) 0 = true then 192 else 114, [.ref 3, .ref 4, .int 1, .int (nI (k_c Z n)), .int (nI (k_b (k_c Z n)))], [], hp Z P L)) rfl ?_
    refine e_le (a := 192) (b := 114) (x := nI n) (y := 0) (fun hc111 => absurd hc111 (nI_nle h0 (by omega))) (fun hc111 => ?_)
    refine e_go hk_95 2 (c := (if s_cnd .eq 1 0 = true then 190 else 118, [.ref 3, .ref 4, .int 1, .int (nI (k_c Z n)), .int (nI (k_b (k_c Z n)))], [], hp Z P L)) rfl ?_
    refine e_eq (a := 190) (b := 118) (x := 1) (y := 0) (fun hc115 => absurd hc115 (by decide)) (fun hc115 => ?_)
    refine e_go hk_95 3 (c := (121, [.ref 3, .ref 4, .int 1, .int (nI (k_c Z n)), .int (nI (k_b (k_c Z n)))], [.int 2, .ref 4, .ref 4], hp Z P L)) rfl ?_
    refine e_call hk_95 (as := [.ref 4, .int 2]) (rest := [.ref 4]) rfl rfl hk_63 rfl (Nat.le_of_ble_eq_true rfl) rfl c2 ?_
    show e_r 95 124 [.ref 3, .ref 4, .int 1, .int (nI (k_c Z n)), .int (nI (k_b (k_c Z n)))] [.int (Z 9 t), .ref 4] (hp Z P L) _ _
    refine e_call hk_95 (as := [.ref 4, .int (Z 9 t)]) (rest := []) rfl rfl hk_60 rfl (Nat.le_of_ble_eq_true rfl) rfl g2 ?_
    show e_r 95 127 [.ref 3, .ref 4, .int 1, .int (nI (k_c Z n)), .int (nI (k_b (k_c Z n)))] [.int (nI n)] (hp Z2 P2 L) _ _
    refine e_go hk_95 2 (c := (if s_cnd .lt (nI n) (nI (k_c Z n)) = true then 190 else 131, [.ref 3, .ref 4, .int 1, .int (nI (k_c Z n)), .int (nI (k_b (k_c Z n)))], [], hp Z2 P2 L)) rfl ?_
    refine e_lt (a := 190) (b := 131) (x := nI n) (y := nI (k_c Z n)) (fun hc128 => absurd hc128 (nI_nlt hc (by omega))) (fun hc128 => ?_)
    refine e_go hk_95 2 (c := (133, [.ref 3, .ref 4, .int 1, .int (nI (k_c Z n)), .int (nI (k_b (k_c Z n)))], [.int 0, .ref 4], hp Z2 P2 L)) rfl ?_
    refine e_call hk_95 (as := [.ref 4, .int 0]) (rest := []) rfl rfl hk_63 rfl (Nat.le_of_ble_eq_true rfl) rfl (a_c0 g3) ?_
    show e_r 95 136 [.ref 3, .ref 4, .int 1, .int (nI (k_c Z n)), .int (nI (k_b (k_c Z n)))] [.int (nI (k_c Z n))] (hp Z2 P2 L) _ _
    refine e_go hk_95 2 (c := (if s_cnd .ne (nI (k_c Z n)) (nI (k_c Z n)) = true then 190 else 140, [.ref 3, .ref 4, .int 1, .int (nI (k_c Z n)), .int (nI (k_b (k_c Z n)))], [], hp Z2 P2 L)) rfl ?_
    refine e_ne (a := 190) (b := 140) (x := nI (k_c Z n)) (y := nI (k_c Z n)) (fun hc137 => absurd (rfl) hc137) (fun hc137 => ?_)
    refine e_go hk_95 2 (c := (142, [.ref 3, .ref 4, .int 1, .int (nI (k_c Z n)), .int (nI (k_b (k_c Z n)))], [.int 3, .ref 4], hp Z2 P2 L)) rfl ?_
    refine e_call hk_95 (as := [.ref 4, .int 3]) (rest := []) rfl rfl hk_63 rfl (Nat.le_of_ble_eq_true rfl) rfl c3 ?_
    show e_r 95 145 [.ref 3, .ref 4, .int 1, .int (nI (k_c Z n)), .int (nI (k_b (k_c Z n)))] [.int (if k_c Z n = 0 then -6 else nI (k_b (k_c Z n)) - 1)] (hp Z2 P2 L) _ _
    refine e_go hk_95 2 (c := (if s_cnd .ne (nI (k_c Z n)) 0 = true then 154 else 149, [.ref 3, .ref 4, .int 1, .int (nI (k_c Z n)), .int (nI (k_b (k_c Z n)))], [.int (if k_c Z n = 0 then -6 else nI (k_b (k_c Z n)) - 1)], hp Z2 P2 L)) rfl ?_
    refine e_ne (a := 154) (b := 149) (x := nI (k_c Z n)) (y := 0) (fun hc146 => ?_) (fun hc146 => ?_)
    · skip
      refine e_go hk_95 4 (c := (if s_cnd .ne (if k_c Z n = 0 then -6 else nI (k_b (k_c Z n)) - 1) ((nI (k_b (k_c Z n))) - 1) = true then 190 else 161, [.ref 3, .ref 4, .int 1, .int (nI (k_c Z n)), .int (nI (k_b (k_c Z n)))], [], hp Z2 P2 L)) rfl ?_
      refine e_ne (a := 190) (b := 161) (x := if k_c Z n = 0 then -6 else nI (k_b (k_c Z n)) - 1) (y := (nI (k_b (k_c Z n))) - 1) (fun hc158 => absurd (if_neg (fun z => hc146 (by rw [z]; rfl))) hc158) (fun hc158 => ?_)
      refine e_go hk_95 2 (c := (164, [.ref 3, .ref 4, .int 1, .int (nI (k_c Z n)), .int (nI (k_b (k_c Z n)))], [.int 6, .ref 4], hp Z2 P2 L)) rfl ?_
      refine e_call hk_95 (as := [.ref 4, .int 6]) (rest := []) rfl rfl hk_63 rfl (Nat.le_of_ble_eq_true rfl) rfl c6 ?_
      show e_r 95 167 [.ref 3, .ref 4, .int 1, .int (nI (k_c Z n)), .int (nI (k_b (k_c Z n)))] [.int 0] (hp Z2 P2 L) _ _
      refine e_go hk_95 1 (c := (if s_cnd .ne 0 0 = true then 190 else 170, [.ref 3, .ref 4, .int 1, .int (nI (k_c Z n)), .int (nI (k_b (k_c Z n)))], [], hp Z2 P2 L)) rfl ?_
      refine e_ne (a := 190) (b := 170) (x := 0) (y := 0) (fun hc167 => absurd (rfl) hc167) (fun hc167 => ?_)
      refine e_go hk_95 1 (c := (171, [.ref 3, .ref 4, .int 1, .int (nI (k_c Z n)), .int (nI (k_b (k_c Z n)))], [.ref 4], hp Z2 P2 L)) rfl ?_
      refine e_call hk_95 (as := [.ref 4]) (rest := []) rfl rfl hk_76 rfl (Nat.le_of_ble_eq_true rfl) rfl g6 ?_
      show e_r 95 174 [.ref 3, .ref 4, .int 1, .int (nI (k_c Z n)), .int (nI (k_b (k_c Z n)))] [.int (nI k)] (hp Z3 P2 L) _ _
      refine e_go hk_95 1 (c := (if s_cnd .lt (nI k) 0 = true then 190 else 177, [.ref 3, .ref 4, .int 1, .int (nI (k_c Z n)), .int (nI (k_b (k_c Z n)))], [], hp Z3 P2 L)) rfl ?_
      refine e_lt (a := 190) (b := 177) (x := nI k) (y := 0) (fun hc174 => absurd hc174 (nI_pos (by omega))) (fun hc174 => ?_)
      refine e_go hk_95 2 (c := (179, [.ref 3, .ref 4, .int 1, .int (nI (k_c Z n)), .int (nI (k_b (k_c Z n)))], [.int 1, .ref 4], hp Z3 P2 L)) rfl ?_
      refine e_call hk_95 (as := [.ref 4, .int 1]) (rest := []) rfl rfl hk_63 rfl (Nat.le_of_ble_eq_true rfl) rfl g8 ?_
      show e_r 95 182 [.ref 3, .ref 4, .int 1, .int (nI (k_c Z n)), .int (nI (k_b (k_c Z n)))] [.int (nI (k_c Z n))] (hp Z3 P2 L) _ _
      refine e_go hk_95 2 (c := (if s_cnd .ne (nI (k_c Z n)) (nI (k_c Z n)) = true then 190 else 186, [.ref 3, .ref 4, .int 1, .int (nI (k_c Z n)), .int (nI (k_b (k_c Z n)))], [], hp Z3 P2 L)) rfl ?_
      refine e_ne (a := 190) (b := 186) (x := nI (k_c Z n)) (y := nI (k_c Z n)) (fun hc183 => absurd (rfl) hc183) (fun hc183 => ?_)
      refine e_go hk_95 4 (c := (193, [.ref 3, .ref 4, .int 1, .int (nI (k_c Z n)), .int (nI (k_b (k_c Z n)))], [.int 1], hp Z3 P2 L)) rfl ?_
      exact e_ret hk_95 rfl rfl rfl rfl rfl
    · skip
      refine e_go hk_95 3 (c := (if s_cnd .ne (if k_c Z n = 0 then -6 else nI (k_b (k_c Z n)) - 1) ((-6)) = true then 190 else 161, [.ref 3, .ref 4, .int 1, .int (nI (k_c Z n)), .int (nI (k_b (k_c Z n)))], [], hp Z2 P2 L)) rfl ?_
      refine e_ne (a := 190) (b := 161) (x := if k_c Z n = 0 then -6 else nI (k_b (k_c Z n)) - 1) (y := (-6)) (fun hc158 => absurd (if_pos (hq hc146)) hc158) (fun hc158 => ?_)
      refine e_go hk_95 2 (c := (164, [.ref 3, .ref 4, .int 1, .int (nI (k_c Z n)), .int (nI (k_b (k_c Z n)))], [.int 6, .ref 4], hp Z2 P2 L)) rfl ?_
      refine e_call hk_95 (as := [.ref 4, .int 6]) (rest := []) rfl rfl hk_63 rfl (Nat.le_of_ble_eq_true rfl) rfl c6 ?_
      show e_r 95 167 [.ref 3, .ref 4, .int 1, .int (nI (k_c Z n)), .int (nI (k_b (k_c Z n)))] [.int 0] (hp Z2 P2 L) _ _
      refine e_go hk_95 1 (c := (if s_cnd .ne 0 0 = true then 190 else 170, [.ref 3, .ref 4, .int 1, .int (nI (k_c Z n)), .int (nI (k_b (k_c Z n)))], [], hp Z2 P2 L)) rfl ?_
      refine e_ne (a := 190) (b := 170) (x := 0) (y := 0) (fun hc167 => absurd (rfl) hc167) (fun hc167 => ?_)
      refine e_go hk_95 1 (c := (171, [.ref 3, .ref 4, .int 1, .int (nI (k_c Z n)), .int (nI (k_b (k_c Z n)))], [.ref 4], hp Z2 P2 L)) rfl ?_
      refine e_call hk_95 (as := [.ref 4]) (rest := []) rfl rfl hk_76 rfl (Nat.le_of_ble_eq_true rfl) rfl g6 ?_
      show e_r 95 174 [.ref 3, .ref 4, .int 1, .int (nI (k_c Z n)), .int (nI (k_b (k_c Z n)))] [.int (nI k)] (hp Z3 P2 L) _ _
      refine e_go hk_95 1 (c := (if s_cnd .lt (nI k) 0 = true then 190 else 177, [.ref 3, .ref 4, .int 1, .int (nI (k_c Z n)), .int (nI (k_b (k_c Z n)))], [], hp Z3 P2 L)) rfl ?_
      refine e_lt (a := 190) (b := 177) (x := nI k) (y := 0) (fun hc174 => absurd hc174 (nI_pos (by omega))) (fun hc174 => ?_)
      refine e_go hk_95 2 (c := (179, [.ref 3, .ref 4, .int 1, .int (nI (k_c Z n)), .int (nI (k_b (k_c Z n)))], [.int 1, .ref 4], hp Z3 P2 L)) rfl ?_
      refine e_call hk_95 (as := [.ref 4, .int 1]) (rest := []) rfl rfl hk_63 rfl (Nat.le_of_ble_eq_true rfl) rfl g8 ?_
      show e_r 95 182 [.ref 3, .ref 4, .int 1, .int (nI (k_c Z n)), .int (nI (k_b (k_c Z n)))] [.int (nI (k_c Z n))] (hp Z3 P2 L) _ _
      refine e_go hk_95 2 (c := (if s_cnd .ne (nI (k_c Z n)) (nI (k_c Z n)) = true then 190 else 186, [.ref 3, .ref 4, .int 1, .int (nI (k_c Z n)), .int (nI (k_b (k_c Z n)))], [], hp Z3 P2 L)) rfl ?_
      refine e_ne (a := 190) (b := 186) (x := nI (k_c Z n)) (y := nI (k_c Z n)) (fun hc183 => absurd (rfl) hc183) (fun hc183 => ?_)
      refine e_go hk_95 4 (c := (193, [.ref 3, .ref 4, .int 1, .int (nI (k_c Z n)), .int (nI (k_b (k_c Z n)))], [.int 1], hp Z3 P2 L)) rfl ?_
      exact e_ret hk_95 rfl rfl rfl rfl rfl
set_option maxRecDepth 20000 in
theorem x_59 {Z : Nat → Nat → Int32} {P : Nat → Nat} {L : Nat} {n m q : Nat} (hQ : K_Q Z P n m q) {y3 y4 : Value} : l_E (L + 512) 59 [.ref 3, .ref 4, .int 1, y3, y4] (hp Z P L) := by
  obtain ⟨Z1, hz, h1⟩ := x_tree (P := P) (L := L) hQ.1
  have hQ1 := K_G_o hz hQ
  have hJ := hQ1.1
  have hc := k_c_le (Z := Z1) (n := n)
  have hn := hJ.2.1
  obtain ⟨Z2, P2, L2, hL, h2⟩ := x_end (L := L + 512) hQ1
  have c1 : m_r 63 [.ref 4, .int 1] (hp Z1 P (L + 512)) (some (.int (nI (k_c Z1 n)))) (hp Z1 P (L + 512)) := by rw [← k_c_sum hJ]; exact a_c1 hJ
  refine ⟨Z2, P2, L2, hL, ?_⟩
  refine e_go hk_95 2 (c := (if s_cnd .eq 1 0 = true then 81 else 63, [.ref 3, .ref 4, .int 1, y3, y4], [], hp Z P L)) rfl ?_
  refine e_eq (a := 81) (b := 63) (x := 1) (y := 0) (fun hc60 => absurd hc60 (by decide)) (fun hc60 => ?_)
  refine e_go hk_95 1 (c := (64, [.ref 3, .ref 4, .int 1, y3, y4], [.ref 4], hp Z P L)) rfl ?_
  refine e_call hk_95 (as := [.ref 4]) (rest := []) rfl rfl hk_93 rfl (Nat.le_of_ble_eq_true rfl) rfl h1 ?_
  show e_r 95 67 [.ref 3, .ref 4, .int 1, y3, y4] [.int 1] (hp Z1 P (L + 512)) _ _
  refine e_go hk_95 1 (c := (if s_cnd .eq 1 0 = true then 81 else 70, [.ref 3, .ref 4, .int 1, y3, y4], [], hp Z1 P (L + 512))) rfl ?_
  refine e_eq (a := 81) (b := 70) (x := 1) (y := 0) (fun hc67 => absurd hc67 (by decide)) (fun hc67 => ?_)
  refine e_go hk_95 1 (c := (71, [.ref 3, .ref 4, .int 1, y3, y4], [.ref 4], hp Z1 P (L + 512))) rfl ?_
  refine e_call hk_95 (as := [.ref 4]) (rest := []) rfl rfl hk_94 rfl (Nat.le_of_ble_eq_true rfl) rfl (x_keys hJ) ?_
  show e_r 95 74 [.ref 3, .ref 4, .int 1, y3, y4] [.int 1] (hp Z1 P (L + 512)) _ _
  refine e_go hk_95 1 (c := (if s_cnd .eq 1 0 = true then 81 else 77, [.ref 3, .ref 4, .int 1, y3, y4], [], hp Z1 P (L + 512))) rfl ?_
  refine e_eq (a := 81) (b := 77) (x := 1) (y := 0) (fun hc74 => absurd hc74 (by decide)) (fun hc74 => ?_)
  refine e_go hk_95 5 (c := (85, [.ref 3, .ref 4, .int 1, y3, y4], [.int 1, .ref 4], hp Z1 P (L + 512))) rfl ?_
  refine e_call hk_95 (as := [.ref 4, .int 1]) (rest := []) rfl rfl hk_63 rfl (Nat.le_of_ble_eq_true rfl) rfl c1 ?_
  show e_r 95 88 [.ref 3, .ref 4, .int 1, y3, y4] [.int (nI (k_c Z1 n))] (hp Z1 P (L + 512)) _ _
  refine e_go hk_95 3 (c := (92, [.ref 3, .ref 4, .int 1, .int (nI (k_c Z1 n)), .int 0], [], hp Z1 P (L + 512))) rfl ?_
  exact x_lowb (by omega) h2 (k_b (k_c Z1 n)) 0 (by omega)
set_option maxRecDepth 20000 in
theorem x_run : ∀ (j k L : Nat) (Z : Nat → Nat → Int32) (P : Nat → Nat) (y4 : Value), k + j = 60 → K_G Z P → l_E (L + 512 * (j + 1)) 12 [.ref 3, .ref 4, .int 1, .int (nI k), y4] (hp Z P L)
  | 0, k, L, Z, P, y4, hk, hG => by
    obtain ⟨n, m, q, hQ⟩ := hG
    obtain ⟨Z2, P2, L2, hL, h2⟩ := x_59 (L := L) (y3 := .int (nI k)) (y4 := y4) hQ
    refine ⟨Z2, P2, L2, by omega, ?_⟩
    refine e_go hk_95 3 (c := (if s_cnd .ge (nI k) 60 = true then 59 else 18, [.ref 3, .ref 4, .int 1, .int (nI k), y4], [], hp Z P L)) rfl ?_
    refine e_ge (a := 59) (b := 18) (x := nI k) (y := 60) (fun hc15 => ?_) (fun hc15 => absurd (by rw [show k = 60 by omega]; decide) hc15)
    exact h2
  | j + 1, k, L, Z, P, y4, hk, hG => by
    obtain ⟨x, hx⟩ := x_cell (Z := Z) (P := P) (L := L) (k := k) (by omega)
    obtain ⟨Z1, P1, hG1, h1⟩ := st_all (L := L) (x := x) hG
    by_cases hc : 0 < nI k - nI k / 4 * 4
    · obtain ⟨Z2, P2, L2, hL, h2⟩ := x_run j (k + 1) L Z1 P1 y4 (by omega) hG1
      refine ⟨Z2, P2, L2, by omega, ?_⟩
      refine e_go hk_95 3 (c := (if s_cnd .ge (nI k) 60 = true then 59 else 18, [.ref 3, .ref 4, .int 1, .int (nI k), y4], [], hp Z P L)) rfl ?_
      refine e_ge (a := 59) (b := 18) (x := nI k) (y := 60) (fun hc15 => absurd hc15 (nI_ge (b := 60) (by omega) (by decide))) (fun hc15 => ?_)
      refine e_go hk_95 2 (c := (if s_cnd .eq 1 0 = true then 59 else 22, [.ref 3, .ref 4, .int 1, .int (nI k), y4], [], hp Z P L)) rfl ?_
      refine e_eq (a := 59) (b := 22) (x := 1) (y := 0) (fun hc19 => absurd hc19 (by decide)) (fun hc19 => ?_)
      refine e_go hk_95 3 (c := (25, [.ref 3, .ref 4, .int 1, .int (nI k), y4], [.int (nI k), .ref 3, .ref 4], hp Z P L)) rfl ?_
      refine e_call hk_95 (as := [.ref 3, .int (nI k)]) (rest := [.ref 4]) rfl rfl hk_89 rfl (Nat.le_of_ble_eq_true rfl) rfl hx ?_
      show e_r 95 28 [.ref 3, .ref 4, .int 1, .int (nI k), y4] [.int x, .ref 4] (hp Z P L) _ _
      refine e_call hk_95 (as := [.ref 4, .int x]) (rest := []) rfl rfl hk_92 rfl (Nat.le_of_ble_eq_true rfl) rfl h1 ?_
      show e_r 95 31 [.ref 3, .ref 4, .int 1, .int (nI k), y4] [.int 1] (hp Z1 P1 L) _ _
      refine e_go hk_95 1 (c := (if s_cnd .eq 1 0 = true then 51 else 34, [.ref 3, .ref 4, .int 1, .int (nI k), y4], [], hp Z1 P1 L)) rfl ?_
      refine e_eq (a := 51) (b := 34) (x := 1) (y := 0) (fun hc31 => absurd hc31 (by decide)) (fun hc31 => ?_)
      refine e_go hk_95 2 (c := (36, [.ref 3, .ref 4, .int 1, .int (nI k), y4], [.int 4, .int (nI k)], hp Z1 P1 L)) rfl ?_
      refine e_irem hk_95 (x := nI k) (y := 4) rfl rfl (by decide) ?_
      show e_r 95 37 [.ref 3, .ref 4, .int 1, .int (nI k), y4] [.int ((nI k) - (nI k) / 4 * 4)] (hp Z1 P1 L) _ _
      refine e_go hk_95 1 (c := (if s_cnd .gt ((nI k) - (nI k) / 4 * 4) 0 = true then 47 else 40, [.ref 3, .ref 4, .int 1, .int (nI k), y4], [], hp Z1 P1 L)) rfl ?_
      refine e_gt (a := 47) (b := 40) (x := (nI k) - (nI k) / 4 * 4) (y := 0) (fun hc37 => ?_) (fun hc37 => absurd (hc) hc37)
      refine e_go hk_95 5 (c := (12, [.ref 3, .ref 4, .int 1, .int ((nI k) + 1), y4], [], hp Z1 P1 L)) rfl ?_
      rw [show nI k + 1 = nI (k + 1) from nI_1 k]
      exact h2
    · obtain ⟨n, m, q, hQ1⟩ := hG1
      obtain ⟨Z2, hz, ht⟩ := x_tree (P := P1) (L := L) hQ1.1
      obtain ⟨Z3, P3, L3, hL, h2⟩ := x_run j (k + 1) (L + 512) Z2 P1 y4 (by omega) ⟨n, m, q, K_G_o hz hQ1⟩
      refine ⟨Z3, P3, L3, by omega, ?_⟩
      refine e_go hk_95 3 (c := (if s_cnd .ge (nI k) 60 = true then 59 else 18, [.ref 3, .ref 4, .int 1, .int (nI k), y4], [], hp Z P L)) rfl ?_
      refine e_ge (a := 59) (b := 18) (x := nI k) (y := 60) (fun hc15 => absurd hc15 (nI_ge (b := 60) (by omega) (by decide))) (fun hc15 => ?_)
      refine e_go hk_95 2 (c := (if s_cnd .eq 1 0 = true then 59 else 22, [.ref 3, .ref 4, .int 1, .int (nI k), y4], [], hp Z P L)) rfl ?_
      refine e_eq (a := 59) (b := 22) (x := 1) (y := 0) (fun hc19 => absurd hc19 (by decide)) (fun hc19 => ?_)
      refine e_go hk_95 3 (c := (25, [.ref 3, .ref 4, .int 1, .int (nI k), y4], [.int (nI k), .ref 3, .ref 4], hp Z P L)) rfl ?_
      refine e_call hk_95 (as := [.ref 3, .int (nI k)]) (rest := [.ref 4]) rfl rfl hk_89 rfl (Nat.le_of_ble_eq_true rfl) rfl hx ?_
      show e_r 95 28 [.ref 3, .ref 4, .int 1, .int (nI k), y4] [.int x, .ref 4] (hp Z P L) _ _
      refine e_call hk_95 (as := [.ref 4, .int x]) (rest := []) rfl rfl hk_92 rfl (Nat.le_of_ble_eq_true rfl) rfl h1 ?_
      show e_r 95 31 [.ref 3, .ref 4, .int 1, .int (nI k), y4] [.int 1] (hp Z1 P1 L) _ _
      refine e_go hk_95 1 (c := (if s_cnd .eq 1 0 = true then 51 else 34, [.ref 3, .ref 4, .int 1, .int (nI k), y4], [], hp Z1 P1 L)) rfl ?_
      refine e_eq (a := 51) (b := 34) (x := 1) (y := 0) (fun hc31 => absurd hc31 (by decide)) (fun hc31 => ?_)
      refine e_go hk_95 2 (c := (36, [.ref 3, .ref 4, .int 1, .int (nI k), y4], [.int 4, .int (nI k)], hp Z1 P1 L)) rfl ?_
      refine e_irem hk_95 (x := nI k) (y := 4) rfl rfl (by decide) ?_
      show e_r 95 37 [.ref 3, .ref 4, .int 1, .int (nI k), y4] [.int ((nI k) - (nI k) / 4 * 4)] (hp Z1 P1 L) _ _
      refine e_go hk_95 1 (c := (if s_cnd .gt ((nI k) - (nI k) / 4 * 4) 0 = true then 47 else 40, [.ref 3, .ref 4, .int 1, .int (nI k), y4], [], hp Z1 P1 L)) rfl ?_
      refine e_gt (a := 47) (b := 40) (x := (nI k) - (nI k) / 4 * 4) (y := 0) (fun hc37 => absurd hc37 (hc)) (fun hc37 => ?_)
      refine e_go hk_95 1 (c := (41, [.ref 3, .ref 4, .int 1, .int (nI k), y4], [.ref 4], hp Z1 P1 L)) rfl ?_
      refine e_call hk_95 (as := [.ref 4]) (rest := []) rfl rfl hk_93 rfl (Nat.le_of_ble_eq_true rfl) rfl ht ?_
      show e_r 95 44 [.ref 3, .ref 4, .int 1, .int (nI k), y4] [.int 1] (hp Z2 P1 (L + 512)) _ _
      refine e_go hk_95 1 (c := (if s_cnd .eq 1 0 = true then 51 else 47, [.ref 3, .ref 4, .int 1, .int (nI k), y4], [], hp Z2 P1 (L + 512))) rfl ?_
      refine e_eq (a := 51) (b := 47) (x := 1) (y := 0) (fun hc44 => absurd hc44 (by decide)) (fun hc44 => ?_)
      refine e_go hk_95 5 (c := (12, [.ref 3, .ref 4, .int 1, .int ((nI k) + 1), y4], [], hp Z2 P1 (L + 512))) rfl ?_
      rw [show nI k + 1 = nI (k + 1) from nI_1 k]
      exact h2
/-! the goal -/
set_option maxRecDepth 20000 in
theorem K_G0 {xs : Nat → Int32} : K_G (z_0 xs) p_0 := by
  refine ⟨0, 0, 2, ⟨rfl, by decide, fun i hi => absurd hi (Nat.not_lt_zero i), fun i j _ hj => absurd hj (Nat.not_lt_zero j), fun i hi => absurd hi (Nat.not_lt_zero i), fun i hi => absurd hi (Nat.not_lt_zero i), DT_nil⟩, ⟨?_, ?_, rfl, by decide⟩, ⟨by decide, rfl, fun j hj => ?_⟩, rfl, rfl⟩
  · show (0 : Int32) ≤ 70
    decide
  · show (0 : Int32) ≤ 40
    decide
  · unfold t_hs p_0
    omega
set_option maxRecDepth 20000 in
theorem w_start {L : Nat} {xs : Nat → Int32} {v : Option Value} {h2 : sHp} (hL : L < 512) (h : e_r 95 12 [.ref 3, .ref 4, .int 1, .int 0, s_no] [] (hp (z_0 xs) p_0 L) v h2) : e_r 95 0 [.ref 3, s_no, s_no, s_no, s_no] [] (c_h xs L 0 0 4) v h2 := by
  refine e_newo hk_95 rfl rfl rfl (rU_fresh (by decide +kernel)) rfl rfl ?_
  show e_r 95 3 [.ref 3, s_no, s_no, s_no, s_no] [.ref 4] (c_h xs L 0 0 5) _ _
  refine e_go hk_95 1 (c := (4, [.ref 3, s_no, s_no, s_no, s_no], [.ref 4, .ref 4], c_h xs L 0 0 5)) rfl ?_
  refine e_call hk_95 (as := [.ref 4]) (rest := [.ref 4]) rfl rfl hk_56 rfl (Nat.le_of_ble_eq_true rfl) rfl k_56_4 ?_
  show e_r 95 7 [.ref 3, s_no, s_no, s_no, s_no] [.ref 4] (c_h xs L 27 126 131) _ _
  refine e_go hk_95 5 (c := (12, [.ref 3, .ref 4, .int 1, .int 0, s_no], [], c_h xs L 27 126 131)) rfl ?_
  have e : c_h xs L 27 126 131 = hp (z_0 xs) p_0 L := by
    show (zW xs 27, rU 126, (s_SH L).take 131) = (z_0 xs, s_RR p_0, s_SH L)
    have e3 : (s_SH L).take 131 = s_SH L := by
      rw [List.take_of_length_le]
      rw [s_SHl]
      omega
    rw [rU_fin, e3]
  rw [e]
  exact h
set_option maxRecDepth 20000 in
theorem s_goal : s_Goal := by
  intro L xs hL
  obtain ⟨Z2, P2, L2, hl, h⟩ := x_run 60 0 L (z_0 xs) p_0 s_no (by omega) K_G0
  obtain ⟨f, hf⟩ := w_start (L := L) (by omega) (show e_r 95 12 [.ref 3, .ref 4, .int 1, .int 0, s_no] [] (hp (z_0 xs) p_0 L) (some (.int 1)) (hp Z2 P2 L2) from h)
  have e0 : s_h0 L xs = c_h xs L 0 0 4 := by
    show (s_Z0 xs, (fun _ _ => none : Nat → Nat → Option Nat), [(1, 3), (1, 3), (1, 3), (1, L)]) = (s_Z0 xs, rU 0, [(1, 3), (1, 3), (1, 3), (1, L % 512)])
    rw [Nat.mod_eq_of_lt (by omega)]
    rfl
  rw [e0]
  refine ⟨f, hp Z2 P2 L2, hf, ?_, ?_⟩
  · show (s_SH L2).length ≤ 600000
    rw [s_SHl]
    omega
  · show s_sz s_S (s_SH L2) ≤ 7302250
    rw [s_SHb, s_sz_ap2]
    have h1 : s_sz s_S (s_lit (L2 % 512)) ≤ 7000000 + L2 % 512 := by
      show 3 + (3 + (3 + (L2 % 512 + s_sz s_S ((s_lit 0).drop 4)))) ≤ _
      have h4 : s_sz s_S ((s_lit 0).drop 4) ≤ 6000000 := by decide +kernel
      omega
    have h2 : s_sz s_S (s_SX L2) = L2 / 512 * 62 := by
      unfold s_SX
      exact s_sz_rep _
    rw [h2]
    omega
