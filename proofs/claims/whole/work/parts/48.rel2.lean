/-! Both objects in one heap: the other calls (by hand; node and count printed by wip/whole/gen/calls_rel.py) -/
theorem t_st_no {s : Int32} (h0 : ¬ s = 0) (h1 : ¬ s = 1) (h2 : ¬ s = 2) : t_st s = none := by
  unfold t_st
  rw [if_neg]
  rintro ⟨a, b⟩
  obtain ⟨j, j1, j2⟩ := nI_of2 (x := s) (M := 2) (n := 2) (by decide) (Int32.not_lt.mpr a) (Int32.not_lt.mp (fun z => by
    have h3 := Int32.lt_iff_toInt_lt.mp b
    have h4 := Int32.lt_iff_toInt_lt.mp z
    have h5 : (3 : Int32).toInt = 3 := by decide
    have h6 : (2 : Int32).toInt = 2 := by decide
    omega))
  rcases (show j = 0 ∨ j = 1 ∨ j = 2 by omega) with h | h | h
  · rw [h] at j2; exact h0 j2
  · rw [h] at j2; exact h1 j2
  · rw [h] at j2; exact h2 j2
section CALLS2
variable {Z : Nat → Nat → Int32} {P : Nat → Nat} {L : Nat}
theorem set_T {C Y : Nat → Nat → Int32} {n j : Nat} {v : Int32} (hT : K_T C 5 (Y 132) n) (hI : K_I (Y 132) n) (hj : j < 3) (hv : 0 ≤ v) : K_T (s_upd C 7 j v) 5 (s_upd Y 132 j v 132) n ∧ K_I (s_upd Y 132 j v 132) n := by
  have hx : ∀ x, 3 ≤ x → s_upd Y 132 j v 132 x = Y 132 x := fun x hx => s_upd_ne (by omega)
  have hs : ∀ x, x < 3 → s_upd Y 132 j v 132 x = if x = j then v else Y 132 x := fun x _ => by
    by_cases h : x = j
    · rw [if_pos h, h, s_upd_c, if_pos ⟨rfl, rfl⟩]
    · rw [if_neg h, s_upd_ne (fun z => h z.2)]
  have hc : ∀ x, s_upd C 7 j v 7 x = if x = j then v else C 7 x := fun x => by
    by_cases h : x = j
    · rw [if_pos h, h, s_upd_c, if_pos ⟨rfl, rfl⟩]
    · rw [if_neg h, s_upd_ne (fun z => h z.2)]
  have hz : ∀ c, c ≠ 7 → s_upd C 7 j v c = C c := fun c h => s_upd_o h
  obtain ⟨⟨a1, a2⟩, ⟨a3, a4, a5, a6⟩, ⟨a7, a8, a9⟩, a10⟩ := hT
  refine ⟨⟨⟨by rw [hz 5 (by decide)]; exact a1, by rw [hx 3 (by omega)]; exact a2⟩, ⟨by rw [hx 4 (by omega), hz 5 (by decide)]; exact a3, by rw [hx 5 (by omega), hz 5 (by decide)]; exact a4, by rw [hx 6 (by omega), hz 5 (by decide)]; exact a5, by rw [hx 7 (by omega), hz 5 (by decide)]; exact a6⟩, ⟨?_, ?_, ?_⟩, fun i hi => ?_⟩, ?_⟩
  · rw [hs 0 (by omega), show s_upd C 7 j v (5 + 2) 0 = _ from hc 0, show C 7 0 = Y 132 0 from a7.symm]
  · rw [hs 1 (by omega), show s_upd C 7 j v (5 + 2) 1 = _ from hc 1, show C 7 1 = Y 132 1 from a8.symm]
  · rw [hs 2 (by omega), show s_upd C 7 j v (5 + 2) 2 = _ from hc 2, show C 7 2 = Y 132 2 from a9.symm]
  · rw [hx _ (by omega), hx _ (by omega), hx _ (by omega), hx _ (by omega), hx _ (by omega), hz (5 + 4) (by decide), hz (5 + 6) (by decide), hz (5 + 8) (by decide), hz (5 + 12) (by decide), hz (5 + 10) (by decide)]
    exact a10 i hi
  · obtain ⟨b1, b2, b3, b4, ⟨c0, c1, c2⟩, b6⟩ := hI
    have hp : ∀ x, x < 3 → 0 ≤ Y 132 x → 0 ≤ s_upd Y 132 j v 132 x := fun x hx3 h0 => by
      rw [hs x hx3]
      split
      · exact hv
      · exact h0
    exact ⟨b1, fun i hi => by rw [hx _ (by omega)]; exact b2 i hi, fun i j h1 h2 => by rw [hx _ (by omega), hx _ (by omega)]; exact b3 i j h1 h2, fun i hi => by rw [hx _ (by omega)]; exact b4 i hi, ⟨hp 0 (by omega) c0, hp 1 (by omega) c1, hp 2 (by omega) c2⟩, DT_congr b6 (fun i _ _ => hx _ (by omega))⟩
theorem call_set_j (hR : K_R Z P) {s v lo hi : Int32} {j : Nat} (hj : j < 3) (hst : t_st s = some j) (hds : ∀ Y : Nat → Nat → Int32, q_ds Y s v = q_sv Y j lo hi v) (h1 : s_3 55 10 0 j = lo) (h2 : s_3 95 90 9 j = hi) (h0 : 0 ≤ lo) : K_C Z P L 57 119 [.int s, .int v] := by
  obtain ⟨n, m, g, h⟩ := id hR
  obtain ⟨hT, hI, hH, -, -, -, hs1, hs2⟩ := id h
  have hn := hI.1
  have hP := hH.2.2.2.1
  have x1 := x_set (L := L) (s := s) (v := v) hT.1.1 hn (K_F hT hI) hP hH.2.1 hH.1
  unfold c_set at x1
  rw [hst] at x1
  dsimp only at x1
  rw [hs1, hs2, h1, h2] at x1
  by_cases hc : lo ≤ v ∧ v ≤ hi
  · rw [if_pos hc] at x1
    dsimp only at x1
    have hC : ∀ c, c < 5 ∨ 18 ≤ c → s_upd (t_kZ Z P m) 7 j v c = t_kZ Z P m c := fun c hc => s_upd_o (by omega)
    have hc132 : s_upd (t_kZ Z P m) 7 j v 132 = Z 132 := by rw [hC 132 (by omega), t_kZ_o hP (by omega)]
    have hc131 : s_upd (t_kZ Z P m) 7 j v 131 = Z 131 := by rw [hC 131 (by omega), t_kZ_o hP (by omega)]
    have hq132 : q_kp (s_upd (t_kZ Z P m) 7 j v) 132 = Z 132 := by rw [q_kp_o (by decide), hc132]
    have hset := set_T (C := t_kZ Z P m) (Y := q_kp (s_upd (t_kZ Z P m) 7 j v)) (n := n) (j := j) (v := v) (by rw [hq132]; exact kZ_T h) (by rw [hq132]; exact hI) hj (Int32.le_trans h0 hc.1)
    have x2 := q_dset (Z := q_kp (s_upd (t_kZ Z P m) 7 j v)) (P := t_kP P m) (L := L) (s := s) (v := v)
    rw [hds, q_sv, if_pos hc] at x2
    dsimp only at x2
    generalize s_upd (t_kZ Z P m) 7 j v = C at *
    have hr : Z 7 j = q_kp C 132 j := by
      rw [hq132]
      rcases (show j = 0 ∨ j = 1 ∨ j = 2 by omega) with h | h | h
      · rw [h]; exact hT.2.2.1.1.symm
      · rw [h]; exact hT.2.2.1.2.1.symm
      · rw [h]; exact hT.2.2.1.2.2.symm
    have hr0 : ¬ q_kp C 132 j < 0 := by
      rw [hq132]
      have := hI.2.2.2.2.1
      rcases (show j = 0 ∨ j = 1 ∨ j = 2 by omega) with h | h | h
      · rw [h]; exact Int32.not_lt.mpr this.1
      · rw [h]; exact Int32.not_lt.mpr this.2.1
      · rw [h]; exact Int32.not_lt.mpr this.2.2
    rw [hr] at x1
    exact K_C_do h hC (q_fr_u q_fr_r (by omega)) hset.1 hset.2 hr0 x1 (q_c_set x2 (by rw [s_upd_o (by decide), q_kp_o (by decide), hc131]; exact hH.2.2.1) hH.1)
  · rw [if_neg hc] at x1
    refine K_C_no (m := m) (r := -2) hR (by decide) x1 ?_
    have x2 := q_dset (Z := q_kp Z) (P := P) (L := L) (s := s) (v := v)
    rw [hds, q_sv, if_neg hc] at x2
    dsimp only at x2
    exact q_c_set (Z2 := q_kp Z) x2 (by rw [q_kp_o (by decide)]; exact hH.2.2.1) hH.1
theorem call_set (hR : K_R Z P) {s v : Int32} : K_C Z P L 57 119 [.int s, .int v] := by
  by_cases h0 : s = 0
  · subst h0
    exact call_set_j hR (j := 0) (lo := 55) (hi := 95) (by decide) (by decide) (fun Y => if_pos rfl) rfl rfl (by decide)
  by_cases h1 : s = 1
  · subst h1
    exact call_set_j hR (j := 1) (lo := 10) (hi := 90) (by decide) (by decide) (fun Y => by rw [q_ds, if_neg (by decide), if_pos rfl]) rfl rfl (by decide)
  by_cases h2 : s = 2
  · subst h2
    exact call_set_j hR (j := 2) (lo := 0) (hi := 9) (by decide) (by decide) (fun Y => by rw [q_ds, if_neg (by decide), if_neg (by decide), if_pos rfl]) rfl rfl (by decide)
  obtain ⟨n, m, g, h⟩ := id hR
  obtain ⟨hT, hI, hH, -⟩ := id h
  have x1 := x_set (L := L) (s := s) (v := v) hT.1.1 hI.1 (K_F hT hI) hH.2.2.2.1 hH.2.1 hH.1
  unfold c_set at x1
  rw [t_st_no h0 h1 h2] at x1
  dsimp only at x1
  refine K_C_no (m := m) (r := -2) hR (by decide) x1 ?_
  have x2 := q_dset (Z := q_kp Z) (P := P) (L := L) (s := s) (v := v)
  rw [q_ds, if_neg h0, if_neg h1, if_neg h2] at x2
  dsimp only at x2
  exact q_c_set (Z2 := q_kp Z) x2 (by rw [q_kp_o (by decide)]; exact hH.2.2.1) hH.1
theorem call_value (hR : K_R Z P) {a : Int32} : K_C Z P L 61 123 [.int a] := by
  obtain ⟨n, m, g, hT, hI, -⟩ := id hR
  have x1 := x_val (P := P) (L := L) (key := a) hT.1.1 hI.1 (K_F hT hI)
  rw [val_eq hT hI] at x1
  exact K_C_ask hR x1 (q_cval hT.1.2 hI.1)
theorem call_leaning (hR : K_R Z P) {a : Int32} : K_C Z P L 65 131 [.int a] := by
  obtain ⟨n, m, g, hT, hI, -⟩ := id hR
  have x1 := x_lean (P := P) (L := L) (key := a) hT.1.1 hI.1 (fun j hj => by
    rw [K_key hT hI] at hj
    exact (lean_ok hT hI (by have := q_fd_lt hj; omega)).1)
  rw [lean_eq hT hI] at x1
  exact K_C_ask hR x1 (q_clean hT.1.2 hI.1 (fun j hj => by
    have h := lean_ok hT hI (j := j) (by have := q_fd_lt hj; omega)
    exact ⟨h.2.1, h.2.2.1⟩))
theorem call_rank (hR : K_R Z P) {a : Int32} : K_C Z P L 66 133 [.int a] := by
  obtain ⟨n, m, g, hT, hI, -⟩ := id hR
  have x1 := x_rank (P := P) (L := L) (key := a) hT.1.1 hI.1 (K_F hT hI)
  rw [rank_eq hT hI] at x1
  exact K_C_ask hR x1 (q_crank hT.1.2 hI.1)
theorem call_kth (hR : K_R Z P) {a : Int32} : K_C Z P L 67 135 [.int a] := by
  obtain ⟨n, m, g, hT, hI, -⟩ := id hR
  have x1 := x_ckth (P := P) (L := L) (k := a) hT.1.1 hI.1 (K_F hT hI)
  rw [kth_eq hT hI] at x1
  exact K_C_ask hR x1 (q_ckth hT.1.2 hI.1)
theorem y_01 {b : Int32} (h : 0 ≤ b ∧ b ≤ 1) : b = 0 ∨ b = 1 := by
  obtain ⟨j, j1, j2⟩ := nI_of2 (x := b) (M := 1) (n := 1) (by decide) (Int32.not_lt.mpr h.1) h.2
  rcases (show j = 0 ∨ j = 1 by omega) with z | z
  · rw [z] at j2; exact Or.inl j2
  · rw [z] at j2; exact Or.inr j2
theorem y_n01 {b : Int32} (h : ¬ (b = 0 ∨ b = 1)) : ¬ (0 ≤ b ∧ b ≤ 1) := fun z => h (y_01 z)
theorem call_nb (hR : K_R Z P) {a b : Int32} : K_C Z P L 68 136 [.int a, .int b] := by
  obtain ⟨n, m, g, hT, hI, -⟩ := id hR
  have x1 := x_nb (P := P) (L := L) (key := a) (what := b) hT.1.1 hI.1 (K_F hT hI)
  by_cases hk : y_nm a = true
  · by_cases h0 : b = 0
    · subst h0
      rw [nb0_eq hT hI hk] at x1
      exact K_C_ask hR x1 (q_cnb0 hT.1.2 hI.1 hk)
    · by_cases h1 : b = 1
      · subst h1
        rw [nb1_eq hT hI hk] at x1
        exact K_C_ask hR x1 (q_cnb1 hT.1.2 hI.1 hk)
      · have hne : ¬ (b = 0 ∨ b = 1) := fun z => z.elim h0 h1
        rw [c_nb, if_neg (fun z => hne z.2)] at x1
        exact K_C_ask hR x1 (q_cnb_w (y_n01 hne))
  · rw [c_nb, if_neg (fun z => hk z.1)] at x1
    exact K_C_ask hR x1 (q_cnb_k (by cases h : y_nm a with | false => rfl | true => exact absurd h hk))
theorem call_sum (hR : K_R Z P) {a b : Int32} : K_C Z P L 69 137 [.int a, .int b] := by
  obtain ⟨n, m, g, hT, hI, -⟩ := id hR
  have x1 := x_sum (P := P) (L := L) (lo := a) (hi := b) hT.1.1 hI.1 (K_F hT hI)
  rw [sum_eq hT hI] at x1
  exact K_C_ask hR x1 (q_csum hT.1.2 hI.1)
theorem call_wc (hR : K_R Z P) {a : Int32} : K_C Z P L 70 138 [.int a] := by
  obtain ⟨n, m, g, hT, hI, -⟩ := id hR
  have x1 := x_wc (P := P) (L := L) (key := a) hT.1.1 hI.1 (K_F hT hI)
  rw [wc_eq hT hI, ← q_apt (Z := q_kp Z) (Y := Z) q_kpA] at x1
  have ho := fun (c : Nat) hc => q_wz_o (Z := Z) (n := n) (c := c) (key := a) hI.1 hc
  exact ⟨_, Z, P, _, x1, q_wcost hT.1.2 hI.1, K_R_same hR (fun c hc => ho c (by omega)) ⟨q_wz_A hI.1, ho 134 (by omega), ho 135 (by omega), ho 136 (by omega), ho 140 (by omega), by rw [ho 131 (by omega)], by rw [ho 131 (by omega)]⟩, rfl, ho 3 (by omega)⟩
theorem call_worst (hR : K_R Z P) {a : Int32} : K_C Z P L 71 139 [.int a] := by
  obtain ⟨n, m, g, hT, hI, -⟩ := id hR
  have x1 := x_worst (P := P) (L := L) (what := a) hT.1.1 hI.1
  by_cases hw : a = 0 ∨ a = 1
  · have hw2 : 0 ≤ a ∧ a ≤ 1 := by
      rcases hw with h | h
      · rw [h]; decide
      · rw [h]; decide
    by_cases hn : n < 60
    · rw [worst_eq hT hI hn hw] at x1
      have ho := fun (c : Nat) hc => q_wzs_o (n := n) (c := c) hI.1 hc 1000 0 Z
      exact ⟨_, Z, P, _, x1, q_cworst hT.1.2 hI.1 hw2 hn, K_R_same hR (fun c hc => ho c (by omega)) ⟨ho 132 (by omega), ho 134 (by omega), ho 135 (by omega), ho 136 (by omega), ho 140 (by omega), by rw [ho 131 (by omega)], by rw [ho 131 (by omega)]⟩, rfl, ho 3 (by omega)⟩
    · rw [c_worst, if_pos hw, if_neg hn] at x1
      exact K_C_ask hR x1 (q_cworst_f hT.1.2 hI.1 hw2 (by have := hI.1; omega))
  · rw [c_worst, if_neg hw] at x1
    exact K_C_ask hR x1 (q_cworst_w (y_n01 hw))
/-! texts -/
theorem t_ap_o {w : Int64} {c : Nat} (h1 : c ≠ 99) (h2 : c ≠ 101) : ∀ (k m : Nat) (Z : Nat → Nat → Int32), t_ap w k m Z c = Z c
  | 0, m, Z => rfl
  | k + 1, m, Z => by rw [t_ap, t_ap_o h1 h2 k, s_upd_o h1, s_upd_o h2]
theorem c_text_o {g c : Nat} {w : Int64} (h1 : c ≠ 99) (h2 : c ≠ 101) : (c_text Z g w).2 c = Z c := by
  unfold c_text
  split
  · rfl
  · split
    · rfl
    · exact t_ap_o h1 h2 _ _ _
theorem q_ap_o {w : Int64} {c : Nat} (h1 : c ≠ 131) (h2 : c ≠ 140) : ∀ (k m : Nat) (Z : Nat → Nat → Int32), q_ap w k m Z c = Z c
  | 0, m, Z => rfl
  | k + 1, m, Z => by rw [q_ap, q_ap_o h1 h2 k, s_upd_o h1, s_upd_o h2]
theorem q_ap_3 {w : Int64} : ∀ (k m : Nat) (Z : Nat → Nat → Int32), q_ap w k m Z 131 3 = Z 131 3
  | 0, m, Z => rfl
  | k + 1, m, Z => by rw [q_ap, q_ap_3 k, s_upd_ne (by omega), s_upd_ne (by omega)]
theorem q_text_o {g c : Nat} {w : Int64} (h1 : c ≠ 131) (h2 : c ≠ 140) : (q_text Z g w).2 c = Z c := by
  unfold q_text
  split
  · rfl
  · split
    · rfl
    · exact q_ap_o h1 h2 _ _ _
theorem q_text_3 {g : Nat} {w : Int64} : (q_text Z g w).2 131 3 = Z 131 3 := by
  unfold q_text
  split
  · rfl
  · split
    · rfl
    · exact q_ap_3 _ _ _
/-- a call that changes the pads alone -/
theorem pad_R {C W : Nat → Nat → Int32} {n m g g2 : Nat} (h : K_R2 Z P Z n m g) (hC : ∀ c, c ≠ 99 → c ≠ 101 → c ≠ 102 → C c = Z c) (h102 : C 102 1 = 0 ∨ C 102 1 = 1 ∨ C 102 1 = 2) (hW : ∀ c, c ≠ 131 → c ≠ 140 → W c = C c) (h3 : W 131 3 = C 131 3) (hp : K_P C W g2) : K_R W P := by
  obtain ⟨h1, h2, hH, ⟨h4, h5⟩, h6, h7, h8⟩ := h
  have hz : ∀ c, c ≠ 99 → c ≠ 101 → c ≠ 102 → c ≠ 131 → c ≠ 140 → W c = Z c := fun c a b d e f => by rw [hW c e f, hC c a b d]
  have hR2 : K_R2 C P W n m g2 := by
    refine ⟨?_, ?_, ?_, ⟨?_, ?_⟩, hp, h102, ?_⟩
    · rw [hz 132 (by decide) (by decide) (by decide) (by decide) (by decide)]
      exact K_T_Z h1 (fun c c1 c2 => hC c (by omega) (by omega) (by omega))
    · rw [hz 132 (by decide) (by decide) (by decide) (by decide) (by decide)]; exact h2
    · exact K_H2_c hH (fun c c1 c2 => hC c (by omega) (by omega) (by omega)) (by rw [h3, hC 131 (by decide) (by decide) (by decide)]) (hz 134 (by decide) (by decide) (by decide) (by decide) (by decide))
    · exact K_S1_c (by decide) h4 (fun c c1 c2 => hC c (by omega) (by omega) (by omega)) (hz 135 (by decide) (by decide) (by decide) (by decide) (by decide)) (hz 136 (by decide) (by decide) (by decide) (by decide) (by decide))
    · exact K_S1_c (by decide) h5 (fun c c1 c2 => hC c (by omega) (by omega) (by omega)) (hz 135 (by decide) (by decide) (by decide) (by decide) (by decide)) (hz 136 (by decide) (by decide) (by decide) (by decide) (by decide))
    · rw [hC 1 (by decide) (by decide) (by decide), hC 2 (by decide) (by decide) (by decide)]; exact h8
  exact K_R_of hR2 (fun c hc => hW c (by omega) (by omega))
theorem call_put (hR : K_R Z P) {w : Int64} : K_C Z P L 72 140 [.long w] := by
  obtain ⟨n, m, g, h⟩ := id hR
  have hpad := h.2.2.2.2.1
  have h102 := h.2.2.2.2.2.1
  have x1 := x_text (P := P) (L := L) (w := w) hpad.2.1 hpad.1
  have hC : ∀ c, c ≠ 99 → c ≠ 101 → c ≠ 102 → (c_text Z g w).2 c = Z c := fun c a b _ => c_text_o a b
  have hC102 : (c_text Z g w).2 102 = Z 102 := c_text_o (by decide) (by decide)
  have hPz : K_P Z (c_text Z g w).2 g := by
    unfold K_P
    rw [hC 131 (by decide) (by decide) (by decide), hC 140 (by decide) (by decide) (by decide)]
    exact hpad
  obtain ⟨e1, g2, e2⟩ := text_eq hPz (w := w)
  generalize (c_text Z g w).2 = C at *
  rw [e1] at x1
  exact ⟨_, C, P, _, x1, q_ctext (g := g) (by rw [hC 131 (by decide) (by decide) (by decide)]; exact hpad.2.2.1) hpad.1, pad_R h hC (by rw [hC102]; exact h102) (fun c a b => q_text_o a b) q_text_3 e2, hC 3 (by decide) (by decide) (by decide), by rw [q_text_o (by decide) (by decide)]; exact hC 3 (by decide) (by decide) (by decide)⟩
theorem call_wipe (hR : K_R Z P) : K_C Z P L 73 141 [] := by
  obtain ⟨n, m, g, h⟩ := id hR
  have hpad := h.2.2.2.2.1
  have x1 := x_wipe (Z := Z) (P := P) (L := L)
  have x2 := q_wipe (Z := s_upd Z 99 1 0) (P := P) (L := L)
  rw [s_upd_o (by decide), hpad.2.2.1] at x2
  rw [hpad.2.1] at x1
  refine ⟨_, _, P, _, x1, x2, pad_R (C := s_upd Z 99 1 0) (W := s_upd (s_upd Z 99 1 0) 131 10 0) (g2 := 0) h (fun c a _ _ => s_upd_o a) (by rw [s_upd_o (by decide)]; exact h.2.2.2.2.2.1) (fun c a _ => s_upd_o a) (s_upd_ne (by omega)) ⟨by decide, by rw [s_upd_c, if_pos ⟨rfl, rfl⟩]; rfl, by rw [s_upd_c, if_pos ⟨rfl, rfl⟩]; rfl, fun i hi => by omega⟩, s_upd_o (by decide), by rw [s_upd_o (by decide), s_upd_o (by decide)]⟩
theorem t_fa_s : ∀ (k i : Nat) (Z : Nat → Nat → Int32), (Z 102 1 = 0 ∨ Z 102 1 = 1 ∨ Z 102 1 = 2) → (t_fa i k Z).2 102 1 = 0 ∨ (t_fa i k Z).2 102 1 = 1 ∨ (t_fa i k Z).2 102 1 = 2
  | 0, i, Z, h => h
  | k + 1, i, Z, h => by
    rw [t_fa]
    split
    · exact t_fa_s k (i + 1) _ (t_r_s h)
    · exact t_r_s h
theorem q_tx5_o {q : Nat × Int32 × Int32 × Int32 × Int32} {c : Nat} (h : c ≠ 131) : q_tx5 Z q c = Z c := q_tx_o h
theorem q_tx5_l {q : Nat × Int32 × Int32 × Int32 × Int32} {j : Nat} (h : j < 11) : q_tx5 Z q 131 j = Z 131 j := q_tx_1 h
/-- the faults of both, and what they leave -/
theorem fault_R (hR : K_R Z P) : ∃ n m g, K_R2 Z P Z n m g ∧ m_r 74 [.ref 4] (hp Z P L) (some (.int (t_zf Z g).1)) (hp (t_zf Z g).2 P L) ∧ m_r 146 [.ref 131] (hp (t_zf Z g).2 P L) (some (.int (t_zf Z g).1)) (hp (q_tx5 (t_zf Z g).2 (q_flt (t_zf Z g).2 g).2) P L) ∧ K_R (q_tx5 (t_zf Z g).2 (q_flt (t_zf Z g).2 g).2) P ∧ (t_zf Z g).1 = (q_flt (t_zf Z g).2 g).1 := by
  obtain ⟨n, m, g, h⟩ := id hR
  have hpad := h.2.2.2.2.1
  have x1 := x_fault (P := P) (L := L) hpad.2.1 hpad.1
  have hC : ∀ c, c ≠ 102 → (t_zf Z g).2 c = Z c := fun c hc => t_zf_o hc
  have hPz : K_P Z (t_zf Z g).2 g := by
    unfold K_P
    rw [hC 131 (by decide), hC 140 (by decide)]
    exact hpad
  have e1 := fault_eq hPz
  have hs : (t_zf Z g).2 102 1 = 0 ∨ (t_zf Z g).2 102 1 = 1 ∨ (t_zf Z g).2 102 1 = 2 := t_fa_s g 0 _ (Or.inl (by rw [s_upd_c, if_pos ⟨rfl, rfl⟩]))
  have x2 := q_fault (Z := (t_zf Z g).2) (P := P) (L := L) (g := g) (by rw [hC 131 (by decide)]; exact hpad.2.2.1) hpad.1
  rw [← e1] at x2
  refine ⟨n, m, g, h, x1, x2, pad_R (g2 := g) h (fun c _ _ hc => hC c hc) hs (fun c hc _ => q_tx5_o hc) (q_tx5_l (by decide)) ?_, e1⟩
  unfold K_P
  rw [q_tx5_l (by decide), q_tx5_o (by decide), hC 99 (by decide), hC 101 (by decide), hC 131 (by decide), hC 140 (by decide)]
  exact hpad
theorem call_fault (hR : K_R Z P) : K_C Z P L 74 146 [] := by
  obtain ⟨n, m, g, h, x1, x2, x3, -⟩ := fault_R (L := L) hR
  exact ⟨_, _, P, _, x1, x2, x3, t_zf_o (by decide), by rw [q_tx5_o (by decide)]; exact t_zf_o (by decide)⟩
/-! undo, slots -/
theorem call_undo (hR : K_R Z P) : K_C Z P L 76 149 [] := by
  obtain ⟨n, m, g, h⟩ := id hR
  obtain ⟨hT, hI, hH, ⟨hs0, hs1⟩, hpad, h7, h8⟩ := id h
  have hP := hH.2.2.2.1
  cases m with
  | zero => exact K_C_ask hR (x_undo_0 hP hH.2.1) (q_undo_0 hH.2.2.1)
  | succ m =>
    have hm : m < 6 := by have := hH.1; omega
    have x1 := x_undo_s (L := L) hP hH.2.1 hm
    have hPm := hP m hm
    have hx20 : 20 ≤ P m ∧ P m ≤ 85 := by unfold t_hs at hPm; omega
    have hC : ∀ c, (c < 5 ∨ 17 < c) → c ≠ 18 → (t_tk Z P (m + 1)).2 c = Z c := fun c hc h18 => by
      show s_upd (t_bc Z 5 (P m)) 18 1 (t_bc Z 5 (P m) 18 1 - 1) c = Z c
      rw [s_upd_o h18, t_bc_o (by omega)]
    have hv : (t_tk Z P (m + 1)).2 18 1 = nI m := by
      show s_upd (t_bc Z 5 (P m)) 18 1 (t_bc Z 5 (P m) 18 1 - 1) 18 1 = nI m
      rw [s_upd_c, if_pos ⟨rfl, rfl⟩, t_bc_o (by omega), hH.2.1, nI_pred]
    have hH2 : K_H2 Z P (t_tk Z P (m + 1)).2 (m + 1) := K_H2_c hH (fun c _ _ => rfl) (by rw [hC 131 (by omega) (by omega)]) (hC 134 (by omega) (by omega))
    obtain ⟨hp1, n2, hp2, hp3⟩ := hist_pop hH2
    rw [hv] at x1
    generalize (t_tk Z P (m + 1)).2 = C at *
    have x2 := q_undo_s (Z := C) (P := P) (L := L) (m := m) (by rw [hC 131 (by omega) (by omega)]; exact hH.2.2.1) hm
    have hW : ∀ c, c ≠ 132 → c ≠ 131 → q_un C m c = C c := fun c h1 h2 => by rw [q_un, q_cl_o h1, s_upd_o h2]
    have hW10 : q_un C m 131 10 = C 131 10 := by rw [q_un, q_cl_o (by decide), s_upd_ne (by omega)]
    refine ⟨_, C, P, _, x1, x2, K_R_of (C := C) (n := n2) (m := m) (g := g) ⟨hp2, hp3, hp1, ⟨?_, ?_⟩, ?_, by rw [hC 102 (by omega) (by omega)]; exact h7, by rw [hC 1 (by omega) (by omega), hC 2 (by omega) (by omega)]; exact h8⟩ (fun c hc => hW c (by omega) (by omega)), hC 3 (by omega) (by omega), by rw [hW 3 (by decide) (by decide)]; exact hC 3 (by omega) (by omega)⟩
    · exact K_S1_c (by decide) hs0 (fun c c1 c2 => hC c (by omega) (by omega)) (by rw [hW 135 (by decide) (by decide), hC 135 (by omega) (by omega)]) (by rw [hW 136 (by decide) (by decide), hC 136 (by omega) (by omega)])
    · exact K_S1_c (by decide) hs1 (fun c c1 c2 => hC c (by omega) (by omega)) (by rw [hW 135 (by decide) (by decide), hC 135 (by omega) (by omega)]) (by rw [hW 136 (by decide) (by decide), hC 136 (by omega) (by omega)])
    · unfold K_P at hpad ⊢
      rw [hW10, hW 140 (by decide) (by decide), hC 99 (by omega) (by omega), hC 101 (by omega) (by omega), hC 131 (by omega) (by omega), hC 140 (by omega) (by omega)]
      exact hpad
theorem save_t (hR : K_R Z P) {t : Nat} (ht : t < 2) {a : Int32} (x1 : ∀ n, Z 5 6 = nI n → n ≤ 60 → m_r 77 [.ref 4, .int a] (hp Z P L) (some (.int (t_sm (Z 17) 0 n 0))) (hp (c_save Z (103 + 14 * t)) P L)) (x2 : ∀ (C : Nat → Nat → Int32) n, C 132 3 = nI n → n ≤ 60 → m_r 150 [.ref 131, .int a] (hp C P L) (some (.int (t_sm (q_c C 188) 0 n 0))) (hp (q_sa C t) P L)) : K_C Z P L 77 150 [.int a] := by
  obtain ⟨n, m, g, h⟩ := id hR
  obtain ⟨hT, hI, hH, ⟨hs0, hs1⟩, hpad, h7, h8⟩ := id h
  have y1 := x1 n hT.1.1 hI.1
  rw [t_sm_congr (f := Z 17) (g := q_c Z 188) n 0 0 (fun i _ b => (hT.2.2.2 i (by omega)).2.2.2.1.symm)] at y1
  have hC : ∀ c, c < 103 ∨ 130 < c → c_save Z (103 + 14 * t) c = Z c := fun c hc => by
    unfold c_save
    rw [s_upd_o (by omega), t_bc_o (by omega)]
  have hsv := slot_save (Z := Z) (Y := c_save Z (103 + 14 * t)) ht (K_S1_c (by decide) hs0 (fun c _ _ => rfl) (hC 135 (by omega)) (hC 136 (by omega))) (K_S1_c (by decide) hs1 (fun c _ _ => rfl) (hC 135 (by omega)) (hC 136 (by omega))) (by rw [hC 132 (by omega)]; exact hT) (by rw [hC 132 (by omega)]; exact hI)
  generalize c_save Z (103 + 14 * t) = C at *
  have y2 := x2 C n (by rw [hC 132 (by omega)]; exact hT.1.2) hI.1
  rw [q_aC (Z := C) (Y := Z) (hC 132 (by omega))] at y2
  have hW : ∀ c, c ≠ 135 → c ≠ 136 → q_sa C t c = C c := fun c h1 h2 => by rw [q_sa, s_upd_o h2, q_cl_o h1]
  refine ⟨_, C, P, _, y1, y2, K_R_of (C := C) (n := n) (m := m) (g := g) ⟨?_, ?_, ?_, hsv, ?_, by rw [hC 102 (by omega)]; exact h7, by rw [hC 1 (by omega), hC 2 (by omega)]; exact h8⟩ (fun c hc => hW c (by omega) (by omega)), hC 3 (by omega), by rw [hW 3 (by decide) (by decide)]; exact hC 3 (by omega)⟩
  · rw [hW 132 (by decide) (by decide), hC 132 (by omega)]
    exact K_T_Z hT (fun c _ c2 => hC c (by omega))
  · rw [hW 132 (by decide) (by decide), hC 132 (by omega)]
    exact hI
  · exact K_H2_c hH (fun c _ c2 => hC c (by omega)) (by rw [hW 131 (by decide) (by decide), hC 131 (by omega)]) (by rw [hW 134 (by decide) (by decide), hC 134 (by omega)])
  · unfold K_P at hpad ⊢
    rw [hW 131 (by decide) (by decide), hW 140 (by decide) (by decide), hC 99 (by omega), hC 101 (by omega), hC 131 (by omega), hC 140 (by omega)]
    exact hpad
theorem y_slot {a : Int32} (h0 : ¬ a = 0) (h1 : ¬ a = 1) : (a < 0 ∨ 2 ≤ a) ∧ ¬ (0 ≤ a ∧ a ≤ 1) := by
  have h2 := y_n01 (b := a) (fun z => z.elim h0 h1)
  refine ⟨?_, h2⟩
  rw [Int32.lt_iff_toInt_lt, Int32.le_iff_toInt_le]
  rw [Int32.le_iff_toInt_le, Int32.le_iff_toInt_le] at h2
  have e0 : (0 : Int32).toInt = 0 := by decide
  have e1 : (1 : Int32).toInt = 1 := by decide
  have e2 : (2 : Int32).toInt = 2 := by decide
  omega
theorem call_save (hR : K_R Z P) {a : Int32} : K_C Z P L 77 150 [.int a] := by
  by_cases h0 : a = 0
  · subst h0
    exact save_t hR (t := 0) (by decide) (fun n a b => x_save0 a b) (fun C n a b => q_save0 a b)
  by_cases h1 : a = 1
  · subst h1
    exact save_t hR (t := 1) (by decide) (fun n a b => x_save1 a b) (fun C n a b => q_save1 a b)
  exact K_C_ask hR (x_save_no (y_slot h0 h1).1) (q_save_no (y_slot h0 h1).2)
theorem rest_t (hR : K_R Z P) {t : Nat} (ht : t < 2) {a : Int32} (x0 : Z (103 + 14 * t) 1 = 0 → m_r 78 [.ref 4, .int a] (hp Z P L) (some (.int (-5))) (hp Z P L)) (z0 : Z 136 t = 0 → m_r 151 [.ref 131, .int a] (hp Z P L) (some (.int (-5))) (hp Z P L))
    (x1 : ∀ n m n2, Z 5 6 = nI n → n ≤ 60 → (∀ i, i < n → Z 17 i = 0 ∨ Z 17 i = 1) → (∀ j, j < 6 → t_hs (P j)) → Z 18 1 = nI m → m ≤ 6 → n2 ≤ 60 → ¬ Z (103 + 14 * t) 1 = 0 → Z (104 + 14 * t) 6 = nI n2 → m_r 78 [.ref 4, .int a] (hp Z P L) (some (.int (t_sm (c_rest Z P m (103 + 14 * t) 17) 0 n2 0))) (hp (c_rest Z P m (103 + 14 * t)) (t_kP P m) L))
    (x2 : ∀ (C : Nat → Nat → Int32) (P : Nat → Nat) m n2, C 131 3 = nI m → m ≤ 6 → n2 ≤ 60 → ¬ C 136 t = 0 → C 135 (308 * t + 3) = nI n2 → m_r 151 [.ref 131, .int a] (hp C P L) (some (.int (t_sm (q_c (q_rs C t) 188) 0 n2 0))) (hp (q_chg (q_rs C t) m (t_sm (q_c (q_rs C t) 188) 0 n2 0)) P L)) : K_C Z P L 78 151 [.int a] := by
  obtain ⟨n, m, g, h⟩ := id hR
  obtain ⟨hT, hI, hH, hs, hpad, h7, h8⟩ := id h
  have hP := hH.2.2.2.1
  have hst : K_S1 Z Z t := by
    rcases (show t = 0 ∨ t = 1 by omega) with h | h
    · rw [h]; exact hs.1
    · rw [h]; exact hs.2
  rcases hst with ⟨e1, e2⟩ | ⟨e1, e2, n2, e3, e4⟩
  · exact K_C_ask hR (x0 e1) (z0 e2)
  · have hn2 := e4.1
    have y1 := x1 n m n2 hT.1.1 hI.1 (K_F hT hI) hP hH.2.1 hH.1 hn2 e1 e3.1.1
    have hC : ∀ c, c < 5 ∨ 18 ≤ c → c_rest Z P m (103 + 14 * t) c = t_kZ Z P m c := fun c hc => by
      unfold c_rest
      exact t_bc_o (by omega)
    have hCz : ∀ c, c < 5 ∨ 98 ≤ c → c_rest Z P m (103 + 14 * t) c = Z c := fun c hc => by rw [hC c (by omega), t_kZ_o hP (by omega)]
    have hTC : K_T (c_rest Z P m (103 + 14 * t)) 5 (fun i => Z 135 (308 * t + i)) n2 := by
      unfold c_rest
      exact bc_T (y := 103 + 14 * t + 1) (by rw [show 103 + 14 * t + 1 = 104 + 14 * t by omega]; exact K_T_Z e3 (fun c c1 c2 => t_kZ_o hP (by omega))) hn2 (by omega)
    generalize c_rest Z P m (103 + 14 * t) = C at *
    have y2 := x2 C (t_kP P m) m n2 (by rw [hCz 131 (by omega)]; exact hH.2.2.1) hH.1 hn2 (by rw [hCz 136 (by omega)]; exact e2) (by rw [hCz 135 (by omega)]; exact e3.1.2)
    have hq : ∀ i, i < 308 → q_rs C t 132 i = Z 135 (308 * t + i) := fun i hi => by rw [q_rs_x hi, hCz 135 (by omega)]
    have hfr : q_fr (q_kp C) (q_rs C t) := ⟨fun c c1 _ _ _ => by
      by_cases h133 : c = 133
      · rw [h133, q_rs_k]
      · rw [q_rs_o c1 h133, q_kp_o h133], fun x hx => by
      rw [q_rs]
      exact q_cl_nu 308 0 (q_kp C) x (fun y _ hy z => by have z : y = x := z; omega)⟩
    have hT2 := K_T_A hTC hn2 hq
    have hI2 := K_I_A e4 hq
    have hsm : t_sm (C 17) 0 n2 0 = t_sm (q_c (q_rs C t) 188) 0 n2 0 := t_sm_congr n2 0 0 (fun i _ b => (hT2.2.2.2 i (by omega)).2.2.2.1.symm)
    rw [hsm] at y1
    have hr : ¬ t_sm (q_c (q_rs C t) 188) 0 n2 0 < 0 := by
      rw [K_fulls hI2]
      have := d_n_le (M := fun x => decide (q_c (q_rs C t) 188 x = 1)) n2 0
      exact nI_pos (by omega)
    exact K_C_do h hC hfr hT2 hI2 hr y1 y2
theorem call_restore (hR : K_R Z P) {a : Int32} : K_C Z P L 78 151 [.int a] := by
  by_cases h0 : a = 0
  · subst h0
    exact rest_t hR (t := 0) (by decide) (fun h => x_rest0_e h) (fun h => q_rest0_e h) (fun n m n2 a b c d e f g h i => x_rest0 a b c d e f g h i) (fun C P m n2 a b c d e => q_rest0 a b c d e)
  by_cases h1 : a = 1
  · subst h1
    exact rest_t hR (t := 1) (by decide) (fun h => x_rest1_e h) (fun h => q_rest1_e h) (fun n m n2 a b c d e f g h i => x_rest1 a b c d e f g h i) (fun C P m n2 a b c d e => q_rest1 a b c d e)
  exact K_C_ask hR (x_rest_no (y_slot h0 h1).1) (q_rest_no (y_slot h0 h1).2)
theorem call_node_k (hR : K_R Z P) {a : Int32} : ∀ k, k ≤ 8 → K_C Z P L 62 127 [.int a, .int (nI k)]
  | 0, _ => by
    obtain ⟨n, m, g, hT, hI, -⟩ := id hR
    have x1 := x_cnode0 (P := P) (L := L) (key := a) hT.1.1 hI.1
    rw [node_eq hT hI (by decide)] at x1
    exact K_C_ask hR x1 (q_cnode0 hT.1.2 hI.1)
  | 1, _ => by
    obtain ⟨n, m, g, hT, hI, -⟩ := id hR
    have x1 := x_cnode1 (P := P) (L := L) (key := a) hT.1.1 hI.1
    rw [node_eq hT hI (by decide)] at x1
    exact K_C_ask hR x1 (q_cnode1 hT.1.2 hI.1)
  | 2, _ => by
    obtain ⟨n, m, g, hT, hI, -⟩ := id hR
    have x1 := x_cnode2 (P := P) (L := L) (key := a) hT.1.1 hI.1
    rw [node_eq hT hI (by decide)] at x1
    exact K_C_ask hR x1 (q_cnode2 hT.1.2 hI.1)
  | 3, _ => by
    obtain ⟨n, m, g, hT, hI, -⟩ := id hR
    have x1 := x_cnode3 (P := P) (L := L) (key := a) hT.1.1 hI.1
    rw [node_eq hT hI (by decide)] at x1
    exact K_C_ask hR x1 (q_cnode3 hT.1.2 hI.1)
  | 4, _ => by
    obtain ⟨n, m, g, hT, hI, -⟩ := id hR
    have x1 := x_cnode4 (P := P) (L := L) (key := a) hT.1.1 hI.1
    rw [node_eq hT hI (by decide)] at x1
    exact K_C_ask hR x1 (q_cnode4 hT.1.2 hI.1)
  | 5, _ => by
    obtain ⟨n, m, g, hT, hI, -⟩ := id hR
    have x1 := x_cnode5 (P := P) (L := L) (key := a) hT.1.1 hI.1
    rw [node_eq hT hI (by decide)] at x1
    exact K_C_ask hR x1 (q_cnode5 hT.1.2 hI.1)
  | 6, _ => by
    obtain ⟨n, m, g, hT, hI, -⟩ := id hR
    have x1 := x_cnode6 (P := P) (L := L) (key := a) hT.1.1 hI.1
    rw [node_eq hT hI (by decide)] at x1
    exact K_C_ask hR x1 (q_cnode6 hT.1.2 hI.1)
  | 7, _ => by
    obtain ⟨n, m, g, hT, hI, -⟩ := id hR
    have x1 := x_cnode7 (P := P) (L := L) (key := a) hT.1.1 hI.1
    rw [node_eq hT hI (by decide)] at x1
    exact K_C_ask hR x1 (q_cnode7 hT.1.2 hI.1)
  | 8, _ => by
    obtain ⟨n, m, g, hT, hI, -⟩ := id hR
    have x1 := x_cnode8 (P := P) (L := L) (key := a) hT.1.1 hI.1
    rw [node_eq hT hI (by decide)] at x1
    exact K_C_ask hR x1 (q_cnode8 hT.1.2 hI.1)
  | k + 9, h => by omega
theorem y_out {b : Int32} {M : Nat} (hM : M < 2 ^ 31) (h : ¬ (b < 0 ∨ nI M < b)) : ∃ k, k ≤ M ∧ b = nI k := by
  have h1 : ¬ b < 0 := fun z => h (Or.inl z)
  have h2 : b ≤ nI M := Int32.not_lt.mp (fun z => h (Or.inr z))
  exact nI_of2 (M := nI M) (n := M) (nI_toInt hM) h1 h2
theorem call_node (hR : K_R Z P) {a b : Int32} : K_C Z P L 62 127 [.int a, .int b] := by
  by_cases h : b < 0 ∨ nI 8 < b
  · exact K_C_ask hR (x_cnode_no h) (q_cnode_no h)
  · obtain ⟨k, hk, rfl⟩ := y_out (by decide) h
    exact call_node_k hR k hk
theorem call_count_k (hR : K_R Z P) : ∀ k, k ≤ 14 → K_C Z P L 63 129 [.int (nI k)]
  | 0, _ => by
    obtain ⟨n, m, g, hT, hI, hH, -, hpad, -⟩ := id hR
    have x1 := x_count0 (P := P) (L := L) hT.1.1 hI.1
    rw [count_eq hT hI 0 (by decide)] at x1
    exact K_C_ask hR x1 (q_count0 hT.1.2 hI.1)
  | 1, _ => by
    obtain ⟨n, m, g, hT, hI, hH, -, hpad, -⟩ := id hR
    have x1 := x_count1 (P := P) (L := L) hT.1.1 hI.1
    rw [count_eq hT hI 1 (by decide)] at x1
    exact K_C_ask hR x1 (q_count1 hT.1.2 hI.1)
  | 2, _ => by
    obtain ⟨n, m, g, hT, hI, hH, -, hpad, -⟩ := id hR
    have x1 := x_count2 (P := P) (L := L) hT.1.1 hI.1
    rw [count_eq hT hI 2 (by decide)] at x1
    exact K_C_ask hR x1 (q_count2 hT.1.2 hI.1)
  | 3, _ => by
    obtain ⟨n, m, g, hT, hI, hH, -, hpad, -⟩ := id hR
    have x1 := x_count3 (P := P) (L := L) hT.1.1 hI.1
    rw [count_eq hT hI 3 (by decide)] at x1
    exact K_C_ask hR x1 (q_count3 hT.1.2 hI.1)
  | 4, _ => by
    obtain ⟨n, m, g, hT, hI, hH, -, hpad, -⟩ := id hR
    have x1 := x_count4 (P := P) (L := L) hT.1.1 hI.1
    rw [count_eq hT hI 4 (by decide)] at x1
    exact K_C_ask hR x1 (q_count4 hT.1.2 hI.1)
  | 5, _ => by
    obtain ⟨n, m, g, hT, hI, hH, -, hpad, -⟩ := id hR
    have x1 := x_count5 (P := P) (L := L) hT.1.1 hI.1
    rw [count_eq hT hI 5 (by decide)] at x1
    exact K_C_ask hR x1 (q_count5 hT.1.2 hI.1)
  | 6, _ => by
    obtain ⟨n, m, g, hT, hI, hH, -, hpad, -⟩ := id hR
    have x1 := x_count6 (P := P) (L := L) hT.1.1 hI.1
    rw [count_eq hT hI 6 (by decide)] at x1
    exact K_C_ask hR x1 (q_count6 hT.1.2 hI.1)
  | 7, _ => by
    obtain ⟨n, m, g, hT, hI, hH, -, hpad, -⟩ := id hR
    have x1 := x_count7 (P := P) (L := L) hT.1.1 hI.1
    rw [count_eq hT hI 7 (by decide)] at x1
    exact K_C_ask hR x1 (q_count7 hT.1.2 hI.1)
  | 8, _ => by
    obtain ⟨n, m, g, hT, hI, hH, -, hpad, -⟩ := id hR
    have x1 := x_count8 (P := P) (L := L) hT.1.1 hI.1
    rw [count_eq hT hI 8 (by decide)] at x1
    exact K_C_ask hR x1 (q_count8 hT.1.2 hI.1)
  | 9, _ => by
    obtain ⟨n, m, g, hT, hI, hH, -, hpad, -⟩ := id hR
    have x1 := x_count9 (P := P) (L := L) hT.1.1 hI.1
    rw [count_eq hT hI 9 (by decide)] at x1
    exact K_C_ask hR x1 (q_count9 hT.1.2 hI.1)
  | 10, _ => by
    obtain ⟨n, m, g, hT, hI, hH, -, hpad, -⟩ := id hR
    have x1 := x_count10 (P := P) (L := L) hT.1.1 hI.1
    rw [count_eq hT hI 10 (by decide)] at x1
    exact K_C_ask hR x1 (q_count10 hT.1.2 hI.1)
  | 11, _ => by
    obtain ⟨n, m, g, hT, hI, hH, -, hpad, -⟩ := id hR
    have x1 := x_count11 (P := P) (L := L) hT.1.1 hI.1
    rw [count_eq hT hI 11 (by decide)] at x1
    exact K_C_ask hR x1 (q_count11 hT.1.2 hI.1)
  | 12, _ => by
    obtain ⟨n, m, g, hT, hI, hH, -, hpad, -⟩ := id hR
    have x1 := x_count12 (P := P) (L := L) hT.1.1 hI.1
    rw [count_eq hT hI 12 (by decide)] at x1
    exact K_C_ask hR x1 (q_count12 hT.1.2 hI.1)
  | 13, _ => by
    obtain ⟨n, m, g, hT, hI, hH, -, hpad, -⟩ := id hR
    have x1 := x_count13 (P := P) (L := L) hT.1.1 hI.1
    rw [show c_count Z n 13 = q_count Z n 13 from hpad.2.1.trans hpad.2.2.1.symm] at x1
    exact K_C_ask hR x1 (q_count13 hT.1.2 hI.1)
  | 14, _ => by
    obtain ⟨n, m, g, hT, hI, hH, -, hpad, -⟩ := id hR
    have x1 := x_count14 (P := P) (L := L) hT.1.1 hI.1
    rw [show c_count Z n 14 = q_count Z n 14 from hH.2.1.trans hH.2.2.1.symm] at x1
    exact K_C_ask hR x1 (q_count14 hT.1.2 hI.1)
  | k + 15, h => by omega
theorem call_count (hR : K_R Z P) {b : Int32} : K_C Z P L 63 129 [.int b] := by
  by_cases h : b < 0 ∨ nI 14 < b
  · exact K_C_ask hR (x_count_no h) (q_count_no h)
  · obtain ⟨k, hk, rfl⟩ := y_out (by decide) h
    exact call_count_k hR k hk
end CALLS2
