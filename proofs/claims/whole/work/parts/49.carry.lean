/-! carryOut in both; printed by wip/whole/gen/calls_car.py -/
def q_do (Y : Nat → Nat → Int32) (n r : Nat) : Int32 × (Nat → Nat → Int32) := if Y 131 12 = 43 then q_pt Y n (Y 131 13) (Y 131 14) else if Y 131 12 = 45 then q_rm Y n r (Y 131 13) else q_rd Y n (Y 131 13)
theorem q_doo {Y : Nat → Nat → Int32} {P : Nat → Nat} {L n r : Nat} (hN : Y 132 3 = nI n) (hn : n ≤ 60) (hr : 0 < n → q_rt (q_c Y 248) 0 n none = some r) : m_r 147 [.ref 131] (hp Y P L) (some (.int (q_do Y n r).1)) (hp (q_do Y n r).2 P L) := by
  refine m_of (ls := [.ref 131]) hk_147 rfl rfl rfl ?_
  refine e_go hk_147 4 (c := (if s_cnd .ne (Y 131 12) 43 = true then 24 else 9, [.ref 131], [], hp Y P L)) rfl ?_
  refine e_ne (a := 24) (b := 9) (x := Y 131 12) (y := 43) (fun hc6 => ?_) (fun hc6 => ?_)
  · skip
    refine e_go hk_147 4 (c := (if s_cnd .ne (Y 131 12) 45 = true then 44 else 33, [.ref 131], [], hp Y P L)) rfl ?_
    refine e_ne (a := 44) (b := 33) (x := Y 131 12) (y := 45) (fun hc30 => ?_) (fun hc30 => ?_)
    · skip
      refine e_go hk_147 3 (c := (49, [.ref 131], [.int (Y 131 13), .ref 131], hp Y P L)) rfl ?_
      refine e_call hk_147 (as := [.ref 131, .int (Y 131 13)]) (rest := []) rfl rfl hk_117 rfl (Nat.le_of_ble_eq_true rfl) rfl (q_rbd hN hn) ?_
      show e_r 147 52 [.ref 131] [.int ((q_rd Y n (Y 131 13)).1)] (hp ((q_rd Y n (Y 131 13)).2) P L) _ _
      exact e_ret hk_147 rfl rfl rfl (by rw [q_do, if_neg hc6, if_neg hc30]) (by rw [q_do, if_neg hc6, if_neg hc30])
    · skip
      refine e_go hk_147 3 (c := (38, [.ref 131], [.int (Y 131 13), .ref 131], hp Y P L)) rfl ?_
      refine e_call hk_147 (as := [.ref 131, .int (Y 131 13)]) (rest := []) rfl rfl hk_116 rfl (Nat.le_of_ble_eq_true rfl) rfl (q_rem hN hn hr) ?_
      show e_r 147 41 [.ref 131] [.int ((q_rm Y n r (Y 131 13)).1)] (hp ((q_rm Y n r (Y 131 13)).2) P L) _ _
      refine e_go hk_147 1 (c := (52, [.ref 131], [.int ((q_rm Y n r (Y 131 13)).1)], hp ((q_rm Y n r (Y 131 13)).2) P L)) rfl ?_
      exact e_ret hk_147 rfl rfl rfl (by rw [q_do, if_neg hc6, if_pos hc30]) (by rw [q_do, if_neg hc6, if_pos hc30])
  · skip
    refine e_go hk_147 5 (c := (18, [.ref 131], [.int (Y 131 14), .int (Y 131 13), .ref 131], hp Y P L)) rfl ?_
    refine e_call hk_147 (as := [.ref 131, .int (Y 131 13), .int (Y 131 14)]) (rest := []) rfl rfl hk_113 rfl (Nat.le_of_ble_eq_true rfl) rfl (q_put hN hn) ?_
    show e_r 147 21 [.ref 131] [.int ((q_pt Y n (Y 131 13) (Y 131 14)).1)] (hp ((q_pt Y n (Y 131 13) (Y 131 14)).2) P L) _ _
    refine e_go hk_147 1 (c := (52, [.ref 131], [.int ((q_pt Y n (Y 131 13) (Y 131 14)).1)], hp ((q_pt Y n (Y 131 13) (Y 131 14)).2) P L)) rfl ?_
    exact e_ret hk_147 rfl rfl rfl (by rw [q_do, if_pos hc6]) (by rw [q_do, if_pos hc6])
theorem r_nm {x : Int32} (h : r_ok x) : y_nm x = true := decide_eq_true h
theorem t_ans_x {B : Nat → Nat → Int32} {c : Nat} (h1 : ¬ t_cl c) (h5 : c ≠ 5) : (t_ans B).2 c = B c := by
  unfold t_ans
  split
  · exact t_en_x h1 h5
  · split
    · exact t_hl_x h1 h5
    · exact t_lk_x h1 h5
theorem order_eq {B Y : Nat → Nat → Int32} {n r : Nat} (hT : K_T B 5 (Y 132) n) (hI : K_I (Y 132) n) (hs : B 102 0 = Y 131 12) (hk : t_ak B = Y 131 13) (hv : B 102 3 = Y 131 14) (ok1 : r_ok (Y 131 13)) (ok2 : r_ok (Y 131 14)) (hr : 0 < n → q_rt (q_c Y 248) 0 n none = some r) (hrn : 0 < n → r < n) : (t_ans B).1 = (q_do Y n r).1 ∧ q_fr Y (q_do Y n r).2 ∧ ∃ n2, K_T (t_ans B).2 5 ((q_do Y n r).2 132) n2 ∧ K_I ((q_do Y n r).2 132) n2 := by
  have hn := hI.1
  have hyn : y_n B = n := by
    unfold y_n
    rw [hT.1.1, nI_clamp (by omega)]
  unfold t_ans q_do
  rw [hs, hk, hv, hyn]
  by_cases h1 : Y 131 12 = 43
  · rw [if_pos h1, if_pos h1]
    refine ⟨?_, q_fr_pt hn, ?_⟩
    · rcases put_eq hT hI (r_nm ok1) (r_nm ok2) with ⟨e1, e2⟩ | ⟨e1, e2, e3, e4, e5⟩
      · rw [e2, t_en, if_pos e1]
      · exact e2
    · rcases put_eq hT hI (r_nm ok1) (r_nm ok2) with ⟨e1, e2⟩ | ⟨e1, e2, e3, e4, e5⟩
      · rw [e2, t_en, if_pos e1]
        exact ⟨n, hT, hI⟩
      · exact e5
  · rw [if_neg h1, if_neg h1]
    by_cases h2 : Y 131 12 = 45
    · rw [if_pos h2, if_pos h2]
      refine ⟨?_, q_fr_rm hn hrn, ?_⟩
      · rcases rem_eq hT hI (r_nm ok1) hr with ⟨e1, e2⟩ | ⟨e1, e2, e4, e5⟩
        · rw [e2, t_hl, e1]
        · exact e2
      · rcases rem_eq hT hI (r_nm ok1) hr with ⟨e1, e2⟩ | ⟨e1, e2, e4, e5⟩
        · rw [e2, t_hl, e1]
          exact ⟨n, hT, hI⟩
        · exact e5
    · rw [if_neg h2, if_neg h2]
      refine ⟨?_, q_fr_rd hn, ?_⟩
      · rcases rbd_eq hT hI (r_nm ok1) with ⟨e1, e2⟩ | ⟨e1, e2, e4, e5⟩
        · rw [e2, t_lk, e1]
        · exact e2
      · rcases rbd_eq hT hI (r_nm ok1) with ⟨e1, e2⟩ | ⟨e1, e2, e4, e5⟩
        · rw [e2, t_lk, e1]
          exact ⟨n, hT, hI⟩
        · exact e5
theorem q_rord2 {Y : Nat → Nat → Int32} {P : Nat → Nat} {L g s : Nat} (hG : Y 131 10 = nI g) (hg : g ≤ 80) (hs : s ≤ 80) (h11 : Y 131 11 = nI s) : m_r 145 [.ref 131] (hp Y P L) (some (.int (y_b (q_ro (Y 140) g s (Y 131 13) (Y 131 14) (Y 131 15)).1))) (hp (q_tx5 Y (q_ro (Y 140) g s (Y 131 13) (Y 131 14) (Y 131 15)).2) P L) := by
  have := q_rord (Z := Y) (P := P) (L := L) hG hg (od := Y 131 12) (rk := Y 131 13) (rv := Y 131 14) (nm := Y 131 15) hs
  rw [← q_tx_id h11] at this
  exact this
theorem q_takes2 {Y : Nat → Nat → Int32} {P : Nat → Nat} {L g s : Nat} {c : Int32} (hG : Y 131 10 = nI g) (hg : g ≤ 80) (hs : s ≤ 80) (h11 : Y 131 11 = nI s) : m_r 143 [.ref 131, .int c] (hp Y P L) (some (.int (y_b (q_hr (Y 140) g s c c)))) (hp (q_tx Y (nI (if q_hr (Y 140) g s c c = true then s + 1 else s)) (Y 131 12) (Y 131 13) (Y 131 14) (Y 131 15)) P L) := by
  have := q_takesc (Z := Y) (P := P) (L := L) hG hg (od := Y 131 12) (rk := Y 131 13) (rv := Y 131 14) (nm := Y 131 15) hs (c := c)
  rw [← q_tx_id h11] at this
  exact this
theorem car_e {Y : Nat → Nat → Int32} {P : Nat → Nat} {L : Nat} {a : Int32} {v : Option Value} {h2 : sHp} (kk : e_r 148 83 [.ref 131, .int a, .int 0] [] (hp Y P L) v h2) : e_r 148 25 [.ref 131, .int a, .int 0] [] (hp Y P L) v h2 := by
  refine e_go hk_148 2 (c := (if s_cnd .eq 0 0 = true then 83 else 29, [.ref 131, .int a, .int 0], [], hp Y P L)) rfl ?_
  refine e_eq (a := 83) (b := 29) (x := 0) (y := 0) (fun hc26 => ?_) (fun hc26 => absurd (rfl) hc26)
  exact kk
theorem car_1 {Y E1 E2 : Nat → Nat → Int32} {P : Nat → Nat} {L g s s2 : Nat} {a x : Int32} {v : Option Value} {h2 : sHp} (hG : Y 131 10 = nI g) (hg : g ≤ 80) (hs : s ≤ 80) (h11 : Y 131 11 = nI s) (hok : (q_ro (Y 140) g s (Y 131 13) (Y 131 14) (Y 131 15)).1 = true) (hE1 : (q_tx5 Y (q_ro (Y 140) g s (Y 131 13) (Y 131 14) (Y 131 15)).2) = E1) (hdo : m_r 147 [.ref 131] (hp E1 P L) (some (.int x)) (hp E2 P L)) (hG2 : E2 131 10 = nI g) (hs2 : s2 ≤ 80) (h112 : E2 131 11 = nI s2)
    (k1 : x < 0 → e_r 148 83 [.ref 131, .int a, .int 0] [] (hp E2 P L) v h2)
    (k2 : ¬ x < 0 → q_hr (E2 140) g s2 59 59 = true → e_r 148 25 [.ref 131, .int (a + 1), .int 1] [] (hp (q_tx E2 (nI (if q_hr (E2 140) g s2 59 59 = true then s2 + 1 else s2)) (E2 131 12) (E2 131 13) (E2 131 14) (E2 131 15)) P L) v h2)
    (k3 : ¬ x < 0 → q_hr (E2 140) g s2 59 59 = false → e_r 148 83 [.ref 131, .int (a + 1), .int 0] [] (hp (q_tx E2 (nI (if q_hr (E2 140) g s2 59 59 = true then s2 + 1 else s2)) (E2 131 12) (E2 131 13) (E2 131 14) (E2 131 15)) P L) v h2) : e_r 148 25 [.ref 131, .int a, .int 1] [] (hp Y P L) v h2 := by
  refine e_go hk_148 2 (c := (if s_cnd .eq 1 0 = true then 83 else 29, [.ref 131, .int a, .int 1], [], hp Y P L)) rfl ?_
  refine e_eq (a := 83) (b := 29) (x := 1) (y := 0) (fun hc26 => absurd hc26 (by decide)) (fun hc26 => ?_)
  refine e_go hk_148 1 (c := (30, [.ref 131, .int a, .int 1], [.ref 131], hp Y P L)) rfl ?_
  refine e_call hk_148 (as := [.ref 131]) (rest := []) rfl rfl hk_145 rfl (Nat.le_of_ble_eq_true rfl) rfl (by have := q_rord2 (P := P) (L := L) hG hg (by omega) h11; rw [hok, hE1] at this; exact this) ?_
  show e_r 148 33 [.ref 131, .int a, .int 1] [.int (y_b true)] (hp E1 P L) _ _
  refine e_go hk_148 1 (c := (if s_cnd .eq (y_b true) 0 = true then 83 else 36, [.ref 131, .int a, .int 1], [], hp E1 P L)) rfl ?_
  refine e_eq (a := 83) (b := 36) (x := y_b true) (y := 0) (fun hc33 => absurd hc33 (by decide)) (fun hc33 => ?_)
  refine e_go hk_148 1 (c := (37, [.ref 131, .int a, .int 1], [.ref 131], hp E1 P L)) rfl ?_
  refine e_call hk_148 (as := [.ref 131]) (rest := []) rfl rfl hk_147 rfl (Nat.le_of_ble_eq_true rfl) rfl hdo ?_
  show e_r 148 40 [.ref 131, .int a, .int 1] [.int x] (hp E2 P L) _ _
  refine e_go hk_148 1 (c := (if s_cnd .lt x 0 = true then 47 else 43, [.ref 131, .int a, .int 1], [], hp E2 P L)) rfl ?_
  refine e_lt (a := 47) (b := 43) (x := x) (y := 0) (fun hc40 => ?_) (fun hc40 => ?_)
  · skip
    refine e_go hk_148 5 (c := (if s_cnd .eq 0 0 = true then 58 else 54, [.ref 131, .int a, .int 0], [.int a], hp E2 P L)) rfl ?_
    refine e_eq (a := 58) (b := 54) (x := 0) (y := 0) (fun hc51 => ?_) (fun hc51 => absurd (rfl) hc51)
    refine e_go hk_148 5 (c := (if s_cnd .eq 0 0 = true then 78 else 65, [.ref 131, .int (a + 0), .int 0], [], hp E2 P L)) rfl ?_
    refine e_eq (a := 78) (b := 65) (x := 0) (y := 0) (fun hc62 => ?_) (fun hc62 => absurd (rfl) hc62)
    refine e_go hk_148 3 (c := (25, [.ref 131, .int (a + 0), .int 0], [], hp E2 P L)) rfl ?_
    rw [Int32.add_zero]
    exact car_e (k1 hc40)
  · skip
    refine e_go hk_148 6 (c := (if s_cnd .eq 1 0 = true then 58 else 54, [.ref 131, .int a, .int 1], [.int a], hp E2 P L)) rfl ?_
    refine e_eq (a := 58) (b := 54) (x := 1) (y := 0) (fun hc51 => absurd hc51 (by decide)) (fun hc51 => ?_)
    refine e_go hk_148 6 (c := (if s_cnd .eq 1 0 = true then 78 else 65, [.ref 131, .int (a + 1), .int 1], [], hp E2 P L)) rfl ?_
    refine e_eq (a := 78) (b := 65) (x := 1) (y := 0) (fun hc62 => absurd hc62 (by decide)) (fun hc62 => ?_)
    refine e_go hk_148 2 (c := (68, [.ref 131, .int (a + 1), .int 1], [.int 59, .ref 131], hp E2 P L)) rfl ?_
    refine e_call hk_148 (as := [.ref 131, .int 59]) (rest := []) rfl rfl hk_143 rfl (Nat.le_of_ble_eq_true rfl) rfl (q_takes2 (g := g) (s := s2) hG2 hg hs2 h112) ?_
    show e_r 148 71 [.ref 131, .int (a + 1), .int 1] [.int (y_b (q_hr (E2 140) g s2 59 59))] (hp ((q_tx E2 (nI (if q_hr (E2 140) g s2 59 59 = true then s2 + 1 else s2)) (E2 131 12) (E2 131 13) (E2 131 14) (E2 131 15))) P L) _ _
    refine e_go hk_148 1 (c := (if s_cnd .eq (y_b (q_hr (E2 140) g s2 59 59)) 0 = true then 78 else 74, [.ref 131, .int (a + 1), .int 1], [], hp ((q_tx E2 (nI (if q_hr (E2 140) g s2 59 59 = true then s2 + 1 else s2)) (E2 131 12) (E2 131 13) (E2 131 14) (E2 131 15))) P L)) rfl ?_
    refine e_eq (a := 78) (b := 74) (x := y_b (q_hr (E2 140) g s2 59 59)) (y := 0) (fun hc71 => ?_) (fun hc71 => ?_)
    · skip
      rw [y_b0] at hc71
      refine e_go hk_148 3 (c := (25, [.ref 131, .int (a + 1), .int 0], [], hp ((q_tx E2 (nI (if q_hr (E2 140) g s2 59 59 = true then s2 + 1 else s2)) (E2 131 12) (E2 131 13) (E2 131 14) (E2 131 15))) P L)) rfl ?_
      exact car_e (k3 hc40 hc71)
    · skip
      rw [y_b1] at hc71
      refine e_go hk_148 4 (c := (25, [.ref 131, .int (a + 1), .int 1], [], hp ((q_tx E2 (nI (if q_hr (E2 140) g s2 59 59 = true then s2 + 1 else s2)) (E2 131 12) (E2 131 13) (E2 131 14) (E2 131 15))) P L)) rfl ?_
      exact k2 hc40 hc71
/-- both loops side by side -/
theorem car_l {P : Nat → Nat} {L g m : Nat} (hg : g ≤ 80) : ∀ (K s ka n : Nat) (Z Y : Nat → Nat → Int32), Z 102 1 = 0 → (∀ i, i < g → Z 101 i = Y 140 i) → K_T Z 5 (Y 132) n → K_I (Y 132) n → Y 131 11 = nI s → Y 131 10 = nI g → s ≤ g → g - s < K → (q_rf (Y 140) g K s (Y 131 12) (Y 131 13) (Y 131 14) (Y 131 15)).1 = -6 →
    ∃ (ka2 n2 : Nat) (E : Nat → Nat → Int32) (C : Nat → Nat → Int32), t_co g (g + 1 - s) s Z (nI ka) = (nI ka2, C) ∧ ka2 ≤ ka + K ∧ K_T C 5 (E 132) n2 ∧ K_I (E 132) n2 ∧ (∀ c, c ≠ 131 → c ≠ 132 → c ≠ 137 → c ≠ 138 → c ≠ 139 → E c = Y c) ∧ (∀ j, j < 11 → E 131 j = Y 131 j) ∧ (∀ x, 308 ≤ x → E 132 x = Y 132 x) ∧ (∀ c, (c < 5 ∨ 18 ≤ c) → c ≠ 99 → c ≠ 102 → C c = Z c) ∧ C 99 1 = 0 ∧ (C 102 1 = 0 ∨ C 102 1 = 1 ∨ C 102 1 = 2) ∧
    (∀ (v : Option Value) (h2 : sHp), e_r 148 83 [.ref 131, .int (nI ka2), .int 0] [] (hp E P L) v h2 → e_r 148 25 [.ref 131, .int (nI ka), .int 1] [] (hp Y P L) v h2)
  | 0, s, ka, n, Z, Y, hz, hp, hT, hI, h11, hG, hs, hK, hf => by omega
  | K + 1, s, ka, n, Z, Y, hz, hp, hT, hI, h11, hG, hs, hK, hf => by
    have hn := hI.1
    obtain ⟨o1, o2⟩ := ord_rr (p := Y 140) (g := g) (s := s) (rk := Y 131 13) (rv := Y 131 14) (nm := Y 131 15) (Z := Z) hs hz
    have hle := q_ro_le (p := Y 140) (g := g) (s := s) (rk := Y 131 13) (rv := Y 131 14) (nm := Y 131 15) hs
    have hok : (q_ro (Y 140) g s (Y 131 13) (Y 131 14) (Y 131 15)).1 = true := by
      cases hR : (q_ro (Y 140) g s (Y 131 13) (Y 131 14) (Y 131 15)).1 with
      | true => rfl
      | false =>
        rw [q_rf, if_pos hR] at hf
        exact absurd hf (q_ne6 (by omega))
    rw [q_rf, if_neg (by rw [hok]; decide)] at hf
    obtain ⟨B, b1, b2, b3, b4, b5, b6, b7, b8, b9⟩ := o1 hok
    have hsR := hle.2.2 hok
    have hcar := @car_1 Y
    generalize hRO : q_ro (Y 140) g s (Y 131 13) (Y 131 14) (Y 131 15) = R at *
    -- the order in the Model's heap
    have t11 : q_tx5 Y R.2 131 11 = nI R.2.1 := rfl
    have t12 : q_tx5 Y R.2 131 12 = R.2.2.1 := rfl
    have t13 : q_tx5 Y R.2 131 13 = R.2.2.2.1 := rfl
    have t14 : q_tx5 Y R.2 131 14 = R.2.2.2.2.1 := rfl
    have t15 : q_tx5 Y R.2 131 15 = R.2.2.2.2.2 := rfl
    have tlo : ∀ j, j < 11 → q_tx5 Y R.2 131 j = Y 131 j := fun j hj => q_tx5_l hj
    have to : ∀ c, c ≠ 131 → q_tx5 Y R.2 c = Y c := fun c hc => q_tx5_o hc
    generalize hE1 : q_tx5 Y R.2 = E1 at *
    have hB : ∀ c, c ≠ 102 → B c = Z c := fun c hc => rr_o hc _ s Z B b1
    have hTB : K_T B 5 (E1 132) n := by
      rw [to 132 (by decide)]
      exact K_T_Z hT (fun c _ c2 => hB c (by omega))
    have hIB : K_I (E1 132) n := by rw [to 132 (by decide)]; exact hI
    have hroot := root_eq (K_DT hIB) hn
    obtain ⟨x1, x2, n2, x3, x4⟩ := order_eq (r := t_tp (q_c E1 248) 0 0 (n - 1 - 0)) hTB hIB (b3.trans t12.symm) (b5.trans t13.symm) (b6.trans t14.symm) (by rw [t13]; exact b7) (by rw [t14]; exact b8) (fun h0 => (hroot h0).1) (fun h0 => (hroot h0).2.1)
    have hdo := q_doo (P := P) (L := L) (Y := E1) (n := n) (r := t_tp (q_c E1 248) 0 0 (n - 1 - 0)) hTB.1.2 hn (fun h0 => (hroot h0).1)
    have hans : ∀ c, (c < 5 ∨ 18 ≤ c) → (t_ans B).2 c = B c := fun c hc => t_ans_x (cl_out hc).1 (cl_out hc).2
    rw [← x1] at hdo
    generalize hE2 : (q_do E1 n (t_tp (q_c E1 248) 0 0 (n - 1 - 0))).2 = E2 at *
    generalize hA2 : (t_ans B).2 = A2 at *
    have e131 : E2 131 = E1 131 := x2.1 131 (by decide) (by decide) (by decide) (by decide)
    have eo : ∀ c, c ≠ 131 → c ≠ 132 → c ≠ 137 → c ≠ 138 → c ≠ 139 → E2 c = Y c := fun c a b d e f => by rw [x2.1 c b d e f, to c a]
    have elo : ∀ j, j < 11 → E2 131 j = Y 131 j := fun j hj => by rw [e131, tlo j hj]
    have eh : ∀ x, 308 ≤ x → E2 132 x = Y 132 x := fun x hx => by rw [x2.2 x hx, to 132 (by decide)]
    have hp140 : E2 140 = Y 140 := eo 140 (by decide) (by decide) (by decide) (by decide) (by decide)
    have hco := rr_co (g := g) (k := g + 1 - R.2.1) (a := nI ka) (R.2.1 - s) s Z B b1 (by omega) hp
    rw [show R.2.1 - s + (g + 1 - R.2.1) = g + 1 - s by omega, show s + (R.2.1 - s) = R.2.1 by omega] at hco
    -- the sign behind the order
    have hcd : t_cd B g R.2.1 = 59 ∧ (R.2.1 < g → q_hr (Y 140) g R.2.1 59 59 = true) := by
      unfold t_cd
      rcases Nat.lt_or_ge R.2.1 g with h | h
      · by_cases hh : q_hr (Y 140) g R.2.1 59 59 = true
        · rw [if_pos h, hB 101 (by decide), hp _ h]
          refine ⟨?_, fun _ => hh⟩
          unfold q_hr at hh
          rw [Bool.and_eq_true, decide_eq_true_eq, decide_eq_true_eq] at hh
          exact Int32.le_antisymm hh.2.2 hh.2.1
        · rw [if_neg hh] at hf
          have hf : (if R.2.1 = g then (-6 : Int32) else nI R.2.1) = -6 := hf
          rw [if_neg (by omega)] at hf
          exact absurd hf (q_ne6 (by omega))
      · rw [if_neg (by omega)]
        exact ⟨rfl, fun z => by omega⟩
    have hco2 : t_co g (g + 1 - R.2.1) R.2.1 B (nI ka) = if (t_ans B).1 < 0 then (nI ka, s_upd A2 99 1 0) else t_co g (g - R.2.1) (R.2.1 + 1) (s_upd A2 102 1 0) (nI (ka + 1)) := by
      rw [show g + 1 - R.2.1 = (g - R.2.1) + 1 by omega, t_co, hcd.1, if_pos rfl, hA2]
      by_cases hx : (t_ans B).1 < 0
      · rw [if_pos hx, if_pos hx]
      · rw [if_neg hx, if_neg hx, r59 (by rw [hans 102 (by omega)]; exact b2), nI_1]
    have hcar := fun (v : Option Value) (h2 : sHp) => hcar (E1 := E1) (E2 := E2) (P := P) (L := L) (g := g) (s := s) (s2 := R.2.1) (a := nI ka) (x := (t_ans B).1) (v := v) (h2 := h2) hG hg (by omega) h11 (by rw [hRO]; exact hok) (by rw [hRO]; exact hE1) hdo (by rw [elo 10 (by decide)]; exact hG) (by omega) (by rw [e131]; exact t11)
    simp only [hp140] at hcar
    by_cases hx : (t_ans B).1 < 0
    · refine ⟨ka, n2, E2, s_upd A2 99 1 0, by rw [hco, hco2, if_pos hx], by omega, K_T_Z x3 (fun c _ c2 => s_upd_o (by omega)), x4, eo, elo, eh, fun c h5 h99 h102 => by rw [s_upd_o h99, hans c h5, hB c h102], by rw [s_upd_c, if_pos ⟨rfl, rfl⟩], ?_, fun v h2 kk => hcar v h2 (fun _ => kk) (fun h => absurd hx h) (fun h => absurd hx h)⟩
      rw [s_upd_o (by decide), hans 102 (by omega)]
      exact Or.inr (Or.inr b2)
    · cases hh : q_hr (Y 140) g R.2.1 59 59 with
      | true =>
        have hRg := q_hr_lt hh
        simp only [hh, if_true] at hcar
        rw [if_pos hh] at hf
        have u12 : E2 131 12 = R.2.2.1 := by rw [e131]; exact t12
        have u13 : E2 131 13 = R.2.2.2.1 := by rw [e131]; exact t13
        have u14 : E2 131 14 = R.2.2.2.2.1 := by rw [e131]; exact t14
        have u15 : E2 131 15 = R.2.2.2.2.2 := by rw [e131]; exact t15
        have wo : ∀ c, c ≠ 131 → q_tx E2 (nI (R.2.1 + 1)) (E2 131 12) (E2 131 13) (E2 131 14) (E2 131 15) c = E2 c := fun c hc => q_tx_o hc
        have wl : ∀ j, j < 11 → q_tx E2 (nI (R.2.1 + 1)) (E2 131 12) (E2 131 13) (E2 131 14) (E2 131 15) 131 j = E2 131 j := fun j hj => q_tx_1 hj
        have w11 : q_tx E2 (nI (R.2.1 + 1)) (E2 131 12) (E2 131 13) (E2 131 14) (E2 131 15) 131 11 = nI (R.2.1 + 1) := rfl
        have w12 : q_tx E2 (nI (R.2.1 + 1)) (E2 131 12) (E2 131 13) (E2 131 14) (E2 131 15) 131 12 = E2 131 12 := rfl
        have w13 : q_tx E2 (nI (R.2.1 + 1)) (E2 131 12) (E2 131 13) (E2 131 14) (E2 131 15) 131 13 = E2 131 13 := rfl
        have w14 : q_tx E2 (nI (R.2.1 + 1)) (E2 131 12) (E2 131 13) (E2 131 14) (E2 131 15) 131 14 = E2 131 14 := rfl
        have w15 : q_tx E2 (nI (R.2.1 + 1)) (E2 131 12) (E2 131 13) (E2 131 14) (E2 131 15) 131 15 = E2 131 15 := rfl
        generalize q_tx E2 (nI (R.2.1 + 1)) (E2 131 12) (E2 131 13) (E2 131 14) (E2 131 15) = W at *
        obtain ⟨ka2, n3, E, C, r1, r2, r3, r4, r5, r6, r7, r8, r9, r10, r11⟩ := car_l (P := P) (L := L) (g := g) (m := m) hg K (R.2.1 + 1) (ka + 1) n2 (s_upd A2 102 1 0) W (by rw [s_upd_c, if_pos ⟨rfl, rfl⟩]) (fun i hi => by rw [s_upd_o (by decide), hans 101 (by omega), hB 101 (by decide), wo 140 (by decide), hp140]; exact hp i hi) (by rw [wo 132 (by decide)]; exact K_T_Z x3 (fun c _ c2 => s_upd_o (by omega))) (by rw [wo 132 (by decide)]; exact x4) w11 (by rw [wl 10 (by decide), elo 10 (by decide)]; exact hG) (by omega) (by omega) (by rw [wo 140 (by decide), hp140, w12, w13, w14, w15, u12, u13, u14, u15]; exact hf)
        refine ⟨ka2, n3, E, C, by rw [hco, hco2, if_neg hx, ← r1, show g + 1 - (R.2.1 + 1) = g - R.2.1 by omega], by omega, r3, r4, fun c a b d e f => by rw [r5 c a b d e f, wo c a, eo c a b d e f], fun j hj => by rw [r6 j hj, wl j hj, elo j hj], fun x hx => by rw [r7 x hx, wo 132 (by decide), eh x hx], fun c h5 h99 h102 => by rw [r8 c h5 h99 h102, s_upd_o h102, hans c h5, hB c h102], r9, r10, fun v h2 kk => hcar v h2 (fun h => absurd h hx) (fun _ _ => ?_) (fun _ h => by cases h)⟩
        rw [nI_1]
        exact r11 _ _ kk
      | false =>
        have hRg : R.2.1 = g := by
          rcases Nat.lt_or_ge R.2.1 g with h | h
          · rw [hcd.2 h] at hh; cases hh
          · omega
        simp only [hh, Bool.false_eq_true, if_false] at hcar
        have u11 : E2 131 11 = nI R.2.1 := by rw [e131]; exact t11
        have hid := q_tx_id u11
        simp only [← hid] at hcar
        refine ⟨ka + 1, n2, E2, s_upd (s_upd A2 102 1 0) 99 1 0, by rw [hco, hco2, if_neg hx, show g - R.2.1 = 0 by omega]; rfl, by omega, K_T_Z x3 (fun c _ c2 => by rw [s_upd_o (by omega), s_upd_o (by omega)]), x4, eo, elo, eh, fun c h5 h99 h102 => by rw [s_upd_o h99, s_upd_o h102, hans c h5, hB c h102], by rw [s_upd_c, if_pos ⟨rfl, rfl⟩], ?_, fun v h2 kk => hcar v h2 (fun h => absurd h hx) (fun _ h => by cases h) (fun _ _ => ?_)⟩
        · rw [s_upd_o (by decide), s_upd_c, if_pos ⟨rfl, rfl⟩]
          exact Or.inl rfl
        · rw [nI_1]
          exact kk
/-- a change that moves the pad, too -/
theorem change_G {Z C Q : Nat → Nat → Int32} {P : Nat → Nat} {n m g n2 g2 : Nat} (hR : K_R2 Z P Z n m g) (hC : ∀ c, (c < 5 ∨ 18 ≤ c) → c ≠ 99 → c ≠ 102 → C c = t_kZ Z P m c) (h133 : ∀ i, i < 308 → Q 133 i = Z 132 i) (q3 : Q 131 3 = Z 131 3) (q134 : Q 134 = Z 134) (q135 : Q 135 = Z 135) (q136 : Q 136 = Z 136) (hp : K_P C (q_ch Q m) g2) (h102 : C 102 1 = 0 ∨ C 102 1 = 1 ∨ C 102 1 = 2) (hT : K_T C 5 (Q 132) n2) (hI : K_I (Q 132) n2) : ∃ m2, K_R2 C (t_kP P m) (q_ch Q m) n2 m2 g2 := by
  obtain ⟨h1, h2, h3, ⟨h4, h5⟩, h6, h7, h8⟩ := hR
  have hP := h3.2.2.2.1
  have hk : ∀ c, c < 5 ∨ 98 ≤ c → c ≠ 99 → c ≠ 102 → C c = Z c := fun c hc a b => by rw [hC c (by omega) a b, t_kZ_o hP (by omega)]
  have hH : K_H2 Z P Q m := K_H2_c h3 (fun c _ _ => rfl) q3 q134
  obtain ⟨m2, hpp⟩ := hist_push hH h1 h2 h133
  refine ⟨m2, by rw [q_ch_o (by decide) (by decide)]; exact hT, by rw [q_ch_o (by decide) (by decide)]; exact hI, K_H2_c hpp (fun c c1 c2 => hC c (by omega) (by omega) (by omega)) rfl rfl, ⟨K_S1_c (by decide) h4 (fun c c1 c2 => hk c (by omega) (by omega) (by omega)) ?_ ?_, K_S1_c (by decide) h5 (fun c c1 c2 => hk c (by omega) (by omega) (by omega)) ?_ ?_⟩, hp, h102, by rw [hk 1 (by omega) (by omega) (by omega), hk 2 (by omega) (by omega) (by omega)]; exact h8⟩
  · rw [q_ch_o (by decide) (by decide), q135]
  · rw [q_ch_o (by decide) (by decide), q136]
  · rw [q_ch_o (by decide) (by decide), q135]
  · rw [q_ch_o (by decide) (by decide), q136]
theorem car_bad {Z : Nat → Nat → Int32} {P : Nat → Nat} {L : Nat} {F : Nat → Nat → Int32} {x : Int32} (hf : m_r 146 [.ref 131] (hp Z P L) (some (.int x)) (hp F P L)) (hx : ¬ x = -6) : m_r 148 [.ref 131] (hp Z P L) (some (.int (-3))) (hp F P L) := by
  refine m_of (ls := [.ref 131, s_no, s_no]) hk_148 rfl rfl rfl ?_
  refine e_go hk_148 1 (c := (1, [.ref 131, s_no, s_no], [.ref 131], hp Z P L)) rfl ?_
  refine e_call hk_148 (as := [.ref 131]) (rest := []) rfl rfl hk_146 rfl (Nat.le_of_ble_eq_true rfl) rfl hf ?_
  show e_r 148 4 [.ref 131, s_no, s_no] [.int x] (hp F P L) _ _
  refine e_go hk_148 2 (c := (if s_cnd .eq x ((-6)) = true then 12 else 9, [.ref 131, s_no, s_no], [], hp F P L)) rfl ?_
  refine e_eq (a := 12) (b := 9) (x := x) (y := (-6)) (fun hc6 => absurd hc6 (hx)) (fun hc6 => ?_)
  refine e_go hk_148 1 (c := (11, [.ref 131, s_no, s_no], [.int ((-3))], hp F P L)) rfl ?_
  exact e_ret hk_148 rfl rfl rfl rfl rfl
theorem car_ok {Z : Nat → Nat → Int32} {P : Nat → Nat} {L : Nat} {F W : Nat → Nat → Int32} {v : Option Value} {h2 : sHp} (hf : m_r 146 [.ref 131] (hp Z P L) (some (.int (-6))) (hp F P L)) (hk : m_r 91 [.ref 131] (hp F P L) none (hp W P L)) (kk : e_r 148 25 [.ref 131, .int 0, .int 1] [] (hp (s_upd W 131 11 0) P L) v h2) : m_r 148 [.ref 131] (hp Z P L) v h2 := by
  refine m_of (ls := [.ref 131, s_no, s_no]) hk_148 rfl rfl rfl ?_
  refine e_go hk_148 1 (c := (1, [.ref 131, s_no, s_no], [.ref 131], hp Z P L)) rfl ?_
  refine e_call hk_148 (as := [.ref 131]) (rest := []) rfl rfl hk_146 rfl (Nat.le_of_ble_eq_true rfl) rfl hf ?_
  show e_r 148 4 [.ref 131, s_no, s_no] [.int ((-6))] (hp F P L) _ _
  refine e_go hk_148 2 (c := (if s_cnd .eq ((-6)) ((-6)) = true then 12 else 9, [.ref 131, s_no, s_no], [], hp F P L)) rfl ?_
  refine e_eq (a := 12) (b := 9) (x := (-6)) (y := (-6)) (fun hc6 => ?_) (fun hc6 => absurd (rfl) hc6)
  refine e_go hk_148 1 (c := (13, [.ref 131, s_no, s_no], [.ref 131], hp F P L)) rfl ?_
  refine e_call hk_148 (as := [.ref 131]) (rest := []) rfl rfl hk_91 rfl (Nat.le_of_ble_eq_true rfl) rfl hk ?_
  show e_r 148 16 [.ref 131, s_no, s_no] [] (hp W P L) _ _
  refine e_go hk_148 7 (c := (25, [.ref 131, .int 0, .int 1], [], hp (s_upd W 131 11 0) P L)) rfl ?_
  exact kk
theorem car_end {Y W : Nat → Nat → Int32} {P : Nat → Nat} {L : Nat} {a : Int32} (hd : m_r 93 [.ref 131, .int a] (hp (s_upd Y 131 10 0) P L) (some (.int a)) (hp W P L)) : e_r 148 83 [.ref 131, .int a, .int 0] [] (hp Y P L) (some (.int a)) (hp W P L) := by
  refine e_go hk_148 5 (c := (90, [.ref 131, .int a, .int 0], [.int a, .ref 131], hp (s_upd Y 131 10 0) P L)) rfl ?_
  refine e_call hk_148 (as := [.ref 131, .int a]) (rest := []) rfl rfl hk_93 rfl (Nat.le_of_ble_eq_true rfl) rfl hd ?_
  show e_r 148 93 [.ref 131, .int a, .int 0] [.int a] (hp W P L) _ _
  exact e_ret hk_148 rfl rfl rfl rfl rfl
theorem car_lx {P : Nat → Nat} {L g m : Nat} (hg : g ≤ 80) (K s ka n : Nat) (Z Y : Nat → Nat → Int32) (h1 : Z 102 1 = 0) (h2 : ∀ i, i < g → Z 101 i = Y 140 i) (h3 : K_T Z 5 (Y 132) n) (h4 : K_I (Y 132) n) (h5 : Y 131 11 = nI s) (h6 : Y 131 10 = nI g) (h7 : s ≤ g) (h8 : g - s < K) (h9 : (q_rf (Y 140) g K s (Y 131 12) (Y 131 13) (Y 131 14) (Y 131 15)).1 = -6) :
    ∃ (ka2 n2 : Nat) (E : Nat → Nat → Int32) (C : Nat → Nat → Int32), t_co g (g + 1 - s) s Z (nI ka) = (nI ka2, C) ∧ ka2 ≤ ka + K ∧ K_T C 5 (E 132) n2 ∧ K_I (E 132) n2 ∧ (∀ c, c ≠ 131 → c ≠ 132 → c ≠ 137 → c ≠ 138 → c ≠ 139 → E c = Y c) ∧ (∀ j, j < 11 → E 131 j = Y 131 j) ∧ (∀ x, 308 ≤ x → E 132 x = Y 132 x) ∧ (∀ c, (c < 5 ∨ 18 ≤ c) → c ≠ 99 → c ≠ 102 → C c = Z c) ∧ C 99 1 = 0 ∧ (C 102 1 = 0 ∨ C 102 1 = 1 ∨ C 102 1 = 2) ∧
    (∀ (v : Option Value) (h2 : sHp), e_r 148 83 [.ref 131, .int (nI ka2), .int 0] [] (hp E P L) v h2 → e_r 148 25 [.ref 131, .int (nI ka), .int 1] [] (hp Y P L) v h2)   := car_l (m := m) hg K s ka n Z Y h1 h2 h3 h4 h5 h6 h7 h8 h9
theorem t_rdr_x {Z : Nat → Nat → Int32} {c : Int32} {q : Nat} (h : q ≠ 102) : (t_rdr Z c).2 q = Z q := t_r_o h
theorem t_co_x {g c : Nat} (h5 : c < 5 ∨ 18 ≤ c) (h99 : c ≠ 99) (h102 : c ≠ 102) : ∀ (k i : Nat) (Z : Nat → Nat → Int32) (a : Int32), (t_co g k i Z a).2 c = Z c
  | 0, i, Z, a => s_upd_o h99
  | k + 1, i, Z, a => by
    rw [t_co]
    have ha : (t_ans Z).2 c = Z c := t_ans_x (cl_out h5).1 (cl_out h5).2
    split
    · split
      · show s_upd (t_ans Z).2 99 1 0 c = Z c
        rw [s_upd_o h99, ha]
      · rw [t_co_x h5 h99 h102 k, t_r_o h102, ha]
    · rw [t_co_x h5 h99 h102 k, t_r_o h102]
theorem t_kZ_f {Z Z2 : Nat → Nat → Int32} {P : Nat → Nat} {m : Nat} (h : ∀ c, c ≠ 102 → Z2 c = Z c) {c : Nat} (hc : c ≠ 102) : t_kZ Z2 P m c = t_kZ Z P m c := by
  have up : ∀ (A B : Nat → Nat → Int32) (a k : Nat) (x y : Int32), (∀ c, c ≠ 102 → A c = B c) → x = y → ∀ c, c ≠ 102 → s_upd A a k x c = s_upd B a k y c := fun A B a k x y hAB hxy c hc => by
    funext i
    rw [s_upd_c, s_upd_c, hAB c hc, hxy]
  have cp : ∀ (A B : Nat → Nat → Int32) (a b n : Nat), a ≠ 102 → (∀ c, c ≠ 102 → A c = B c) → ∀ c, c ≠ 102 → t_cp A a b n c = t_cp B a b n c := fun A B a b n ha hAB c hc => by
    unfold t_cp
    by_cases hb : c = b
    · rw [if_pos hb, if_pos hb, hAB a ha, hAB b (by rw [← hb]; exact hc)]
    · rw [if_neg hb, if_neg hb, hAB c hc]
  have bc5 : ∀ (A B : Nat → Nat → Int32) (x s : Nat), (∀ c, c ≠ 102 → A c = B c) → ∀ c, c ≠ 102 → t_bc5 A x 5 s c = t_bc5 B x 5 s c := fun A B x s hAB => up A B x s _ _ hAB (by rw [hAB 5 (by decide)])
  have bc : ∀ (A B : Nat → Nat → Int32) (x : Nat), (∀ c, c ≠ 102 → A c = B c) → ∀ c, c ≠ 102 → t_bc A x 5 c = t_bc B x 5 c := fun A B x hAB => bc5 _ _ _ _ (bc5 _ _ _ _ (bc5 _ _ _ _ (bc5 _ _ _ _ (bc5 _ _ _ _ (cp _ _ _ _ _ (by decide) (cp _ _ _ _ _ (by decide) (cp _ _ _ _ _ (by decide) (cp _ _ _ _ _ (by decide) (cp _ _ _ _ _ (by decide) (cp _ _ _ _ _ (by decide) hAB))))))))))
  have k1 : ∀ (A B : Nat → Nat → Int32) (x : Nat), (∀ c, c ≠ 102 → A c = B c) → ∀ c, c ≠ 102 → t_k1 A x c = t_k1 B x c := fun A B x hAB => up _ _ 18 1 _ _ (bc A B x hAB) (by rw [bc A B x hAB 18 (by decide)])
  unfold t_kZ
  split
  · exact k1 _ _ _ h c hc
  · exact k1 _ _ _ (up _ _ 18 1 _ _ h rfl) c hc
theorem call_carry {Z : Nat → Nat → Int32} {P : Nat → Nat} {L : Nat} (hR : K_R Z P) : K_C Z P L 75 148 [] := by
  obtain ⟨n, m, g, h, f1, f2, f3, f4⟩ := fault_R (L := L) hR
  obtain ⟨hT, hI, hH, hs, hpad, h7, h8⟩ := id h
  have hP := hH.2.2.2.1
  have hn := hI.1
  have hg := hpad.1
  have hyT : y_T Z := ⟨n, hn, hT.1.1, K_F hT hI⟩
  have x1 := x_carry (L := L) hyT hP hH.2.1 hH.1 hpad.2.1 hg
  unfold c_carry at x1
  have hzf : ∀ c, c ≠ 102 → (t_zf Z g).2 c = Z c := fun c hc => t_zf_o hc
  by_cases hx : (t_zf Z g).1 = -6
  · rw [if_pos hx] at x1
    dsimp only at x1
    -- the class's state at the loop
    have hkz : ∀ c, c ≠ 102 → s_upd (t_kZ (t_zf Z g).2 P m) 102 1 0 c = t_kZ (t_zf Z g).2 P m c := fun c hc => s_upd_o hc
    have hk0 : ∀ c, c < 18 ∨ 98 ≤ c → c ≠ 102 → s_upd (t_kZ (t_zf Z g).2 P m) 102 1 0 c = Z c := fun c h1 h2 => by rw [hkz c h2, t_kZ_o hP (by omega), hzf c h2]
    have hkk : ∀ c, c ≠ 102 → t_kZ (t_zf Z g).2 P m c = t_kZ Z P m c := fun c hc => t_kZ_f hzf hc
    have hz102 : s_upd (t_kZ (t_zf Z g).2 P m) 102 1 0 102 1 = 0 := by rw [s_upd_c, if_pos ⟨rfl, rfl⟩]
    generalize hZ0 : s_upd (t_kZ (t_zf Z g).2 P m) 102 1 0 = Z0 at *
    obtain ⟨C0, hC0⟩ : ∃ C0, C0 = (t_co g (g + 1) 0 Z0 0).2 := ⟨_, rfl⟩
    have hC5 : ∀ c, (c < 5 ∨ 18 ≤ c) → c ≠ 99 → c ≠ 102 → C0 c = Z0 c := fun c a b d => by rw [hC0]; exact t_co_x a b d _ _ _ _
    -- the Model's, over the class's heap
    have hPz : K_P Z C0 g := by
      unfold K_P
      rw [hC5 131 (by omega) (by omega) (by omega), hk0 131 (by omega) (by omega), hC5 140 (by omega) (by omega) (by omega), hk0 140 (by omega) (by omega)]
      exact hpad
    have e1 := fault_eq hPz
    have y1 := q_fault (Z := C0) (P := t_kP P m) (L := L) hPz.2.2.1 hg
    rw [← e1, hx] at y1
    have hF : ∀ c, c ≠ 131 → q_tx5 C0 (q_flt C0 g).2 c = C0 c := fun c hc => q_tx5_o hc
    have hFl : ∀ j, j < 11 → q_tx5 C0 (q_flt C0 g).2 131 j = C0 131 j := fun j hj => q_tx5_l hj
    generalize q_tx5 C0 (q_flt C0 g).2 = F at *
    have hY0 : ∀ c, c ≠ 131 → c ≠ 133 → s_upd (q_kp F) 131 11 0 c = C0 c := fun c a b => by rw [s_upd_o a, q_kp_o b, hF c a]
    have hY0z : ∀ c, c < 5 ∨ 103 ≤ c → c ≠ 131 → c ≠ 133 → s_upd (q_kp F) 131 11 0 c = Z c := fun c a b d => by rw [hY0 c b d, hC5 c (by omega) (by omega) (by omega), hk0 c (by omega) (by omega)]
    have hY0l : ∀ j, j < 11 → s_upd (q_kp F) 131 11 0 131 j = Z 131 j := fun j hj => by rw [s_upd_ne (by omega), q_kp_o (by decide), hFl j hj, hC5 131 (by omega) (by omega) (by omega), hk0 131 (by omega) (by omega)]
    have hY11 : s_upd (q_kp F) 131 11 0 131 11 = nI 0 := by rw [s_upd_c, if_pos ⟨rfl, rfl⟩]; rfl
    have hY133 : ∀ i, i < 308 → s_upd (q_kp F) 131 11 0 133 i = Z 132 i := fun i hi => by rw [s_upd_o (by decide), q_kp_x hi, hF 132 (by decide), hC5 132 (by omega) (by omega) (by omega), hk0 132 (by omega) (by omega)]
    have hcar0 := @car_ok C0 (t_kP P m) L F (q_kp F)
    have hkeep := q_keep (Z := F) (P := t_kP P m) (L := L)
    generalize s_upd (q_kp F) 131 11 0 = Y0 at *
    have hnf : (q_rf (Y0 140) g 81 0 (Y0 131 12) (Y0 131 13) (Y0 131 14) (Y0 131 15)).1 = -6 := by
      rw [← hx]
      unfold t_zf
      rw [hY0z 140 (by omega) (by omega) (by omega)]
      exact (fa_rf (p := Z 140) (g := g) 81 0 _ _ _ _ (s_upd Z 102 1 0) (by rw [s_upd_c, if_pos ⟨rfl, rfl⟩]) (by omega) (by omega) (by rw [s_upd_o (by decide)]; exact hpad.2.1) (fun i hi => by rw [s_upd_o (by decide)]; exact hpad.2.2.2 i hi)).symm
    obtain ⟨ka2, n2, E, C, r1, r2, r3, r4, r5, r6, r7, r8, r9, r10, r11⟩ := car_lx (P := t_kP P m) (L := L) (g := g) (m := m) hg 81 0 0 n Z0 Y0 hz102 (fun i hi => by rw [hk0 101 (by omega) (by omega), hY0z 140 (by omega) (by omega) (by omega)]; exact hpad.2.2.2 i hi) (by rw [hY0z 132 (by omega) (by omega) (by omega)]; exact K_T_Z hT (fun c _ c2 => hk0 c (by omega) (by omega))) (by rw [hY0z 132 (by omega) (by omega) (by omega)]; exact hI) hY11 (by rw [hY0l 10 (by decide)]; exact hpad.2.2.1) (by omega) (by omega) hnf
    have r1 : t_co g (g + 1) 0 Z0 0 = (nI ka2, C) := r1
    have hCC : C0 = C := by rw [hC0, r1]
    rw [r1] at x1
    dsimp only at x1
    subst hCC
    have hka : ¬ nI ka2 < 0 := nI_pos (by omega)
    have hE : ∀ c, c < 5 ∨ 103 ≤ c → c ≠ 131 → c ≠ 132 → c ≠ 133 → (c < 137 ∨ 139 < c) → E c = Z c := fun c a b d e f => by rw [r5 c b d (by omega) (by omega) (by omega), hY0z c a b e]
    have hQ3 : s_upd E 131 10 0 131 3 = Z 131 3 := by rw [s_upd_ne (by omega), r6 3 (by decide), hY0l 3 (by decide)]
    have hQo : ∀ c, c ≠ 131 → s_upd E 131 10 0 c = E c := fun c hc => s_upd_o hc
    have hpad2 : K_P C0 (q_ch (s_upd E 131 10 0) m) 0 := ⟨by decide, r9, by rw [q_ch_131 (by decide), s_upd_c, if_pos ⟨rfl, rfl⟩]; rfl, fun i hi => by omega⟩
    have hC2 : ∀ c, (c < 5 ∨ 18 ≤ c) → c ≠ 99 → c ≠ 102 → C0 c = t_kZ Z P m c := fun c a b d => by rw [hC5 c a b d, hkz c d, hkk c d]
    obtain ⟨m2, hfin⟩ := change_G (Q := s_upd E 131 10 0) h hC2 (fun i hi => by rw [hQo 133 (by decide), r5 133 (by decide) (by decide) (by decide) (by decide) (by decide)]; exact hY133 i hi) hQ3 (by rw [hQo 134 (by decide)]; exact hE 134 (by omega) (by decide) (by decide) (by decide) (by omega)) (by rw [hQo 135 (by decide)]; exact hE 135 (by omega) (by decide) (by decide) (by decide) (by omega)) (by rw [hQo 136 (by decide)]; exact hE 136 (by omega) (by decide) (by decide) (by decide) (by omega)) hpad2 r10 (by rw [hQo 132 (by decide)]; exact r3) (by rw [hQo 132 (by decide)]; exact r4)
    have hd := q_chgd (Z := s_upd E 131 10 0) (P := t_kP P m) (L := L) (m := m) (r := nI ka2) (by rw [hQ3]; exact hH.2.2.1) hH.1
    rw [q_chg, if_neg hka] at hd
    have y2 := hcar0 y1 hkeep (r11 _ _ (car_end hd))
    have hlow : ∀ c, c < 131 → q_ch (s_upd E 131 10 0) m c = C0 c := fun c hc => by
      rw [q_ch_o (by omega) (by omega), hQo c (by omega), r5 c (by omega) (by omega) (by omega) (by omega) (by omega), hY0 c (by omega) (by omega)]
    have hC3 : C0 3 = Z 3 := by rw [hC5 3 (by omega) (by omega) (by omega), hk0 3 (by omega) (by omega)]
    exact ⟨nI ka2, C0, t_kP P m, _, x1, y2, K_R_of hfin hlow, hC3, by rw [hlow 3 (by decide)]; exact hC3⟩
  · rw [if_neg hx] at x1
    dsimp only at x1
    exact ⟨-3, _, P, _, x1, car_bad f2 hx, f3, hzf 3 (by decide), by rw [q_tx5_o (by decide)]; exact hzf 3 (by decide)⟩
