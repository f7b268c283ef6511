/-! Both objects in one heap: the relation, and calls that change (by hand) -/
def K_R2 (Z : Nat → Nat → Int32) (P : Nat → Nat) (Y : Nat → Nat → Int32) (n m g : Nat) : Prop :=
  K_T Z 5 (Y 132) n ∧ K_I (Y 132) n ∧ K_H2 Z P Y m ∧ (K_S1 Z Y 0 ∧ K_S1 Z Y 1) ∧ K_P Z Y g ∧ (Z 102 1 = 0 ∨ Z 102 1 = 1 ∨ Z 102 1 = 2) ∧ (Z 1 = s_3 55 10 0 ∧ Z 2 = s_3 95 90 9)
def K_R (Z : Nat → Nat → Int32) (P : Nat → Nat) : Prop := ∃ n m g, K_R2 Z P Z n m g
theorem K_R2_Z {Z Z2 Y : Nat → Nat → Int32} {P : Nat → Nat} {n m g : Nat} (h : K_R2 Z P Y n m g) (hz : ∀ c, c < 131 → Z2 c = Z c) : K_R2 Z2 P Y n m g := by
  obtain ⟨h1, h2, h3, ⟨h4, h5⟩, h6, h7, h8⟩ := h
  refine ⟨K_T_Z h1 (fun c _ c2 => hz c (by omega)), h2, K_H2_c h3 (fun c _ c2 => hz c (by omega)) rfl rfl, ⟨K_S1_c (by decide) h4 (fun c _ c2 => hz c (by omega)) rfl rfl, K_S1_c (by decide) h5 (fun c _ c2 => hz c (by omega)) rfl rfl⟩, ?_, by rw [hz 102 (by decide)]; exact h7, by rw [hz 1 (by decide), hz 2 (by decide)]; exact h8⟩
  unfold K_P at h6 ⊢
  rw [hz 99 (by decide), hz 101 (by decide)]
  exact h6
def q_same (Y W : Nat → Nat → Int32) : Prop := W 132 = Y 132 ∧ W 134 = Y 134 ∧ W 135 = Y 135 ∧ W 136 = Y 136 ∧ W 140 = Y 140 ∧ W 131 3 = Y 131 3 ∧ W 131 10 = Y 131 10
theorem K_R2_Y {Z Y W : Nat → Nat → Int32} {P : Nat → Nat} {n m g : Nat} (h : K_R2 Z P Y n m g) (hy : q_same Y W) : K_R2 Z P W n m g := by
  obtain ⟨h1, h2, h3, ⟨h4, h5⟩, h6, h7, h8⟩ := h
  obtain ⟨y1, y2, y3, y4, y5, y6, y7⟩ := hy
  refine ⟨by rw [y1]; exact h1, by rw [y1]; exact h2, K_H2_c h3 (fun c _ _ => rfl) y6 y2, ⟨K_S1_c (by decide) h4 (fun c _ _ => rfl) y3 y4, K_S1_c (by decide) h5 (fun c _ _ => rfl) y3 y4⟩, ?_, h7, h8⟩
  unfold K_P at h6 ⊢
  rw [y7, y5]
  exact h6
/-- one heap again -/
theorem K_R_of {C W : Nat → Nat → Int32} {P : Nat → Nat} {n m g : Nat} (h : K_R2 C P W n m g) (hc : ∀ c, c < 131 → W c = C c) : K_R W P := ⟨n, m, g, K_R2_Z h hc⟩
theorem K_R_same {Z W : Nat → Nat → Int32} {P : Nat → Nat} (h : K_R Z P) (hc : ∀ c, c < 131 → W c = Z c) (hy : q_same Z W) : K_R W P := by
  obtain ⟨n, m, g, h⟩ := h
  exact ⟨n, m, g, K_R2_Z (K_R2_Y h hy) hc⟩
theorem q_same_kp {Z : Nat → Nat → Int32} : q_same Z (q_kp Z) := ⟨q_kp_o (by decide), q_kp_o (by decide), q_kp_o (by decide), q_kp_o (by decide), q_kp_o (by decide), by rw [q_kp_o (by decide)], by rw [q_kp_o (by decide)]⟩
/-- a change -/
theorem change_R {Z C Q : Nat → Nat → Int32} {P : Nat → Nat} {n m g n2 : Nat} (hR : K_R2 Z P Z n m g) (hC : ∀ c, c < 5 ∨ 18 ≤ c → C c = t_kZ Z P m c) (hQ : q_fr (q_kp C) Q) (hT : K_T C 5 (Q 132) n2) (hI : K_I (Q 132) n2) : ∃ m2, K_R2 C (t_kP P m) (q_ch Q m) n2 m2 g := by
  obtain ⟨h1, h2, h3, ⟨h4, h5⟩, h6, h7, h8⟩ := hR
  have hP := h3.2.2.2.1
  have hk : ∀ c, c < 5 ∨ 98 ≤ c → C c = Z c := fun c hc => by rw [hC c (by omega), t_kZ_o hP (by omega)]
  have hq : ∀ c, c ≠ 132 → c ≠ 133 → (c < 137 ∨ 139 < c) → Q c = C c := fun c a b d => by rw [hQ.1 c a (by omega) (by omega) (by omega), q_kp_o b]
  have hqz : ∀ c, 98 ≤ c → c ≠ 132 → c ≠ 133 → (c < 137 ∨ 139 < c) → Q c = Z c := fun c a b d e => by rw [hq c b d e, hk c (Or.inr a)]
  have h133 : ∀ i, i < 308 → Q 133 i = Z 132 i := fun i hi => by rw [hQ.1 133 (by decide) (by decide) (by decide) (by decide), q_kp_x hi, hk 132 (by omega)]
  have hH : K_H2 Z P Q m := K_H2_c h3 (fun c _ _ => rfl) (by rw [hqz 131 (by decide) (by decide) (by decide) (by decide)]) (hqz 134 (by decide) (by decide) (by decide) (by decide))
  obtain ⟨m2, hp⟩ := hist_push hH h1 h2 h133
  refine ⟨m2, by rw [q_ch_o (by decide) (by decide)]; exact hT, by rw [q_ch_o (by decide) (by decide)]; exact hI, K_H2_c hp (fun c c1 c2 => hC c (by omega)) rfl rfl, ⟨K_S1_c (by decide) h4 (fun c c1 c2 => hk c (by omega)) ?_ ?_, K_S1_c (by decide) h5 (fun c c1 c2 => hk c (by omega)) ?_ ?_⟩, ?_, by rw [hk 102 (by omega)]; exact h7, by rw [hk 1 (by omega), hk 2 (by omega)]; exact h8⟩
  · rw [q_ch_o (by decide) (by decide), hqz 135 (by decide) (by decide) (by decide) (by decide)]
  · rw [q_ch_o (by decide) (by decide), hqz 136 (by decide) (by decide) (by decide) (by decide)]
  · rw [q_ch_o (by decide) (by decide), hqz 135 (by decide) (by decide) (by decide) (by decide)]
  · rw [q_ch_o (by decide) (by decide), hqz 136 (by decide) (by decide) (by decide) (by decide)]
  · unfold K_P at h6 ⊢
    rw [hk 99 (by omega), hk 101 (by omega), q_ch_131 (by decide), hqz 131 (by decide) (by decide) (by decide) (by decide), q_ch_o (by decide) (by decide), hqz 140 (by decide) (by decide) (by decide) (by decide)]
    exact h6
theorem change_low {C Q : Nat → Nat → Int32} {m : Nat} (hQ : q_fr (q_kp C) Q) : ∀ c, c < 131 → q_ch Q m c = C c := fun c hc => by
  rw [q_ch_o (by omega) (by omega), hQ.1 c (by omega) (by omega) (by omega) (by omega), q_kp_o (by omega)]
/-- what a call of both is: the same answer, the relation behind it, the script as it was -/
def K_C (Z : Nat → Nat → Int32) (P : Nat → Nat) (L k k2 : Nat) (as : List Value) : Prop := ∃ (v : Int32) (Z1 : Nat → Nat → Int32) (P1 : Nat → Nat) (Z2 : Nat → Nat → Int32), m_r k (.ref 4 :: as) (hp Z P L) (some (.int v)) (hp Z1 P1 L) ∧ m_r k2 (.ref 131 :: as) (hp Z1 P1 L) (some (.int v)) (hp Z2 P1 L) ∧ K_R Z2 P1 ∧ Z1 3 = Z 3 ∧ Z2 3 = Z 3
/-- a call that changes nothing of either -/
theorem K_C_ask {Z : Nat → Nat → Int32} {P : Nat → Nat} {L k k2 : Nat} {as : List Value} {v : Int32} (hR : K_R Z P) (h1 : m_r k (.ref 4 :: as) (hp Z P L) (some (.int v)) (hp Z P L)) (h2 : m_r k2 (.ref 131 :: as) (hp Z P L) (some (.int v)) (hp Z P L)) : K_C Z P L k k2 as := ⟨v, Z, P, Z, h1, h2, hR, rfl, rfl⟩
theorem t_la_x {Z : Nat → Nat → Int32} {n j c : Nat} (h1 : ¬ t_cl c) (h5 : c ≠ 5) : t_la Z n j c = Z c := by
  have h := h1
  unfold t_cl at h
  unfold t_la
  rw [t_ly_o (by omega) (by omega), t_dh_o h1 h5, t_sp_o h5]
theorem t_en_x {Z : Nat → Nat → Int32} {n c : Nat} {key value : Int32} (h1 : ¬ t_cl c) (h5 : c ≠ 5) : (t_en Z n key value).2 c = Z c := by
  have h := h1
  unfold t_cl at h
  unfold t_en
  split
  · rfl
  · split
    · show t_py _ 60 0 0 n (s_upd (s_upd Z 11 _ value) 17 _ 1) c = Z c
      rw [t_py_o (by omega), s_upd_o (by omega), s_upd_o (by omega)]
    · split
      · show t_py _ 60 0 0 (n + 1) (t_mk Z n _ key value) c = Z c
        rw [t_py_o (by omega), t_mk_o h1 h5]
      · show t_la _ (n + 1) _ c = Z c
        rw [t_la_x h1 h5, t_py_o (by omega), t_mk_o h1 h5]
theorem t_hl_x {Z : Nat → Nat → Int32} {n c : Nat} {key : Int32} (h1 : ¬ t_cl c) (h5 : c ≠ 5) : (t_hl Z n key).2 c = Z c := by
  have h := h1
  unfold t_cl at h
  unfold t_hl t_h2
  split
  · rfl
  · split
    · show t_la _ n _ c = Z c
      rw [t_la_x h1 h5, t_py_o (by omega), s_upd_o (by omega)]
    · show t_py _ 60 0 0 n (s_upd Z 17 _ 0) c = Z c
      rw [t_py_o (by omega), s_upd_o (by omega)]
theorem t_lk_x {Z : Nat → Nat → Int32} {n c : Nat} {key : Int32} (h1 : ¬ t_cl c) (h5 : c ≠ 5) : (t_lk Z n key).2 c = Z c := by
  unfold t_lk
  split
  · rfl
  · exact t_la_x h1 h5
theorem cl_out {c : Nat} (h : c < 5 ∨ 18 ≤ c) : ¬ t_cl c ∧ c ≠ 5 := by
  unfold t_cl
  omega
section CALLS
variable {Z : Nat → Nat → Int32} {P : Nat → Nat} {L n m g : Nat}
theorem K_F (hT : K_T Z 5 (Z 132) n) (hI : K_I (Z 132) n) : ∀ i, i < n → Z 17 i = 0 ∨ Z 17 i = 1 := fun i hi => by
  have := hI.2.2.2.1 i hi
  rw [(hT.2.2.2 i hi).2.2.2.1] at this
  exact this
theorem kZ_T (hR : K_R2 Z P Z n m g) : K_T (t_kZ Z P m) 5 (Z 132) n := K_T_Z hR.1 (fun c _ c2 => t_kZ_o hR.2.2.1.2.2.2.1 (by omega))
/-- a change that goes through -/
theorem K_C_do {k k2 : Nat} {as : List Value} {r : Int32} {C Q : Nat → Nat → Int32} {n2 : Nat} (hR : K_R2 Z P Z n m g) (hC : ∀ c, c < 5 ∨ 18 ≤ c → C c = t_kZ Z P m c) (hQ : q_fr (q_kp C) Q) (hT : K_T C 5 (Q 132) n2) (hI : K_I (Q 132) n2) (hr : ¬ r < 0) (h1 : m_r k (.ref 4 :: as) (hp Z P L) (some (.int r)) (hp C (t_kP P m) L)) (h2 : m_r k2 (.ref 131 :: as) (hp C (t_kP P m) L) (some (.int r)) (hp (q_chg Q m r) (t_kP P m) L)) : K_C Z P L k k2 as := by
  obtain ⟨m2, h⟩ := change_R hR hC hQ hT hI
  have hlow := change_low (m := m) hQ
  have hP := hR.2.2.1.2.2.2.1
  have hC3 : C 3 = Z 3 := by rw [hC 3 (by omega), t_kZ_o hP (by omega)]
  rw [q_chg, if_neg hr] at h2
  exact ⟨r, C, t_kP P m, q_ch Q m, h1, h2, K_R_of h hlow, hC3, by rw [hlow 3 (by decide)]; exact hC3⟩
/-- a change that is refused -/
theorem K_C_no {k k2 : Nat} {as : List Value} {r : Int32} (hR : K_R Z P) (hr : r < 0) (h1 : m_r k (.ref 4 :: as) (hp Z P L) (some (.int r)) (hp Z P L)) (h2 : m_r k2 (.ref 131 :: as) (hp Z P L) (some (.int r)) (hp (q_chg (q_kp Z) m r) P L)) : K_C Z P L k k2 as := by
  rw [q_chg, if_pos hr] at h2
  exact ⟨r, Z, P, q_kp Z, h1, h2, K_R_same hR (fun c hc => q_kp_o (by omega)) q_same_kp, rfl, q_kp_o (by decide)⟩
theorem call_putIn (hR : K_R Z P) {a b : Int32} : K_C Z P L 58 120 [.int a, .int b] := by
  obtain ⟨n, m, g, h⟩ := id hR
  obtain ⟨hT, hI, hH, -⟩ := id h
  have hn := hI.1
  have hF := K_F hT hI
  have hP := hH.2.2.2.1
  have x1 := x_putin (L := L) (key := a) (value := b) hT.1.1 hn hF hP hH.2.1 hH.1
  have hkT := kZ_T h
  have hM1 : ∀ C : Nat → Nat → Int32, (∀ c, c < 5 ∨ 18 ≤ c → C c = t_kZ Z P m c) → C 132 = Z 132 ∧ C 131 = Z 131 := fun C hC => ⟨by rw [hC 132 (by omega), t_kZ_o hP (by omega)], by rw [hC 131 (by omega), t_kZ_o hP (by omega)]⟩
  unfold c_put at x1
  by_cases hk : y_nm a = true ∧ y_nm b = true
  · rw [if_pos hk] at x1
    rcases put_eq hkT hI hk.1 hk.2 with ⟨e1, e2⟩ | ⟨e1, e2, e3, e4, n2, e5, e6⟩
    · have hrm : t_rm Z n a = false := by
        unfold t_rm at e1 ⊢
        rw [t_kZ_o hP (by omega)] at e1
        exact e1
      rw [hrm, if_neg (by decide)] at x1
      refine K_C_no (m := m) (r := -4) hR (by decide) x1 ?_
      have := q_put (Z := q_kp Z) (P := P) (L := L) (n := n) (key := a) (value := b) (by rw [q_kp_o (by decide)]; exact hT.1.2) hn
      have e7 : q_pt (q_kp Z) n a b = (-4, q_kp Z) := by
        have := put_eq (Z := t_kZ Z P m) (Y := q_kp Z) (n := n) (key := a) (value := b) (by rw [q_kp_o (by decide)]; exact hkT) (by rw [q_kp_o (by decide)]; exact hI) hk.1 hk.2
        rcases this with z | z
        · exact z.2
        · rw [e1] at z; exact absurd z.1 (by decide)
      rw [e7] at this
      dsimp only at this
      exact q_c_putin (Z2 := q_kp Z) this (by rw [q_kp_o (by decide)]; exact hH.2.2.1) hH.1
    · have hrm : t_rm Z n a = true := by
        unfold t_rm at e1 ⊢
        rw [t_kZ_o hP (by omega)] at e1
        exact e1
      rw [hrm, if_pos rfl] at x1
      have hC : ∀ c, c < 5 ∨ 18 ≤ c → (t_en (t_kZ Z P m) n a b).2 c = t_kZ Z P m c := fun c hc => t_en_x (cl_out hc).1 (cl_out hc).2
      obtain ⟨hc132, hc131⟩ := hM1 _ hC
      generalize hCg : (t_en (t_kZ Z P m) n a b).2 = C at *
      have hq132 : q_kp C 132 = Z 132 := by rw [q_kp_o (by decide), hc132]
      have hput := put_eq (Z := t_kZ Z P m) (Y := q_kp C) (n := n) (key := a) (value := b) (by rw [hq132]; exact hkT) (by rw [hq132]; exact hI) hk.1 hk.2
      rcases hput with z | ⟨f1, f2, f3, f4, n3, f5, f6⟩
      · rw [e1] at z; exact absurd z.1 (by decide)
      rw [hCg] at f5
      have x2 := q_put (Z := q_kp C) (P := t_kP P m) (L := L) (n := n) (key := a) (value := b) (by rw [hq132]; exact hT.1.2) hn
      have hfr := q_fr_pt (Z := q_kp C) (n := n) (key := a) (value := b) hn
      rw [f2] at x1
      exact K_C_do h hC hfr f5 f6 f4 x1 (q_c_putin x2 (by rw [hfr.1 131 (by decide) (by decide) (by decide) (by decide), q_kp_o (by decide), hc131]; exact hH.2.2.1) hH.1)
  · rw [if_neg hk] at x1
    refine K_C_no (m := m) (r := -2) hR (by decide) x1 ?_
    have := q_put (Z := q_kp Z) (P := P) (L := L) (n := n) (key := a) (value := b) (by rw [q_kp_o (by decide)]; exact hT.1.2) hn
    rw [q_pt, if_neg hk] at this
    dsimp only at this
    exact q_c_putin (Z2 := q_kp Z) this (by rw [q_kp_o (by decide)]; exact hH.2.2.1) hH.1
theorem call_remove (hR : K_R Z P) {a : Int32} : K_C Z P L 59 121 [.int a] := by
  obtain ⟨n, m, g, h⟩ := id hR
  obtain ⟨hT, hI, hH, -⟩ := id h
  have hn := hI.1
  have hF := K_F hT hI
  have hP := hH.2.2.2.1
  have x1 := x_rem (L := L) (key := a) hT.1.1 hn hF hP hH.2.1 hH.1
  have hkT := kZ_T h
  have hr : ∀ Y : Nat → Nat → Int32, Y 132 = Z 132 → (0 < n → q_rt (q_c Y 248) 0 n none = some (t_tp (q_c Z 248) 0 0 (n - 1 - 0))) := fun Y hY h0 => by
    rw [q_aC (Z := Y) (Y := Z) hY]
    exact (root_eq (K_DT hI) hn h0).1
  unfold c_rem at x1
  by_cases hk : y_nm a = true
  · rw [if_pos hk] at x1
    have hfn : t_fn (t_kZ Z P m 9) (t_kZ Z P m 17) n a = t_fn (Z 9) (Z 17) n a := by rw [t_kZ_o hP (by omega), t_kZ_o hP (by omega)]
    rcases rem_eq hkT hI hk (hr Z rfl) with ⟨e1, e2⟩ | ⟨e1, e2, e3, n2, e5, e6⟩
    · rw [hfn] at e1
      rw [if_pos e1] at x1
      refine K_C_no (m := m) (r := -1) hR (by decide) x1 ?_
      have := q_rem (Z := q_kp Z) (P := P) (L := L) (n := n) (key := a) (by rw [q_kp_o (by decide)]; exact hT.1.2) hn (hr (q_kp Z) (q_kp_o (by decide)))
      have e7 : q_rm (q_kp Z) n (t_tp (q_c Z 248) 0 0 (n - 1 - 0)) a = (-1, q_kp Z) := by
        have := rem_eq (Z := t_kZ Z P m) (Y := q_kp Z) (n := n) (key := a) (by rw [q_kp_o (by decide)]; exact hkT) (by rw [q_kp_o (by decide)]; exact hI) hk (hr (q_kp Z) (q_kp_o (by decide)))
        rcases this with z | z
        · exact z.2
        · rw [hfn, e1] at z; exact absurd rfl z.1
      rw [e7] at this
      dsimp only at this
      exact q_c_remove (Z2 := q_kp Z) this (by rw [q_kp_o (by decide)]; exact hH.2.2.1) hH.1
    · rw [hfn] at e1
      rw [if_neg e1] at x1
      have hC : ∀ c, c < 5 ∨ 18 ≤ c → (t_hl (t_kZ Z P m) n a).2 c = t_kZ Z P m c := fun c hc => t_hl_x (cl_out hc).1 (cl_out hc).2
      have hc132 : (t_hl (t_kZ Z P m) n a).2 132 = Z 132 := by rw [hC 132 (by omega), t_kZ_o hP (by omega)]
      have hc131 : (t_hl (t_kZ Z P m) n a).2 131 = Z 131 := by rw [hC 131 (by omega), t_kZ_o hP (by omega)]
      generalize hCg : (t_hl (t_kZ Z P m) n a).2 = C at *
      have hq132 : q_kp C 132 = Z 132 := by rw [q_kp_o (by decide), hc132]
      have hput := rem_eq (Z := t_kZ Z P m) (Y := q_kp C) (n := n) (key := a) (by rw [hq132]; exact hkT) (by rw [hq132]; exact hI) hk (hr (q_kp C) hq132)
      rcases hput with z | ⟨f1, f2, f4, n3, f5, f6⟩
      · rw [hfn] at z; exact absurd z.1 e1
      rw [hCg] at f5
      have x2 := q_rem (Z := q_kp C) (P := t_kP P m) (L := L) (n := n) (key := a) (by rw [hq132]; exact hT.1.2) hn (hr (q_kp C) hq132)
      have hfr := q_fr_rm (Z := q_kp C) (n := n) (r := t_tp (q_c Z 248) 0 0 (n - 1 - 0)) (key := a) hn (fun h0 => (root_eq (K_DT hI) hn h0).2.1)
      rw [f2] at x1
      exact K_C_do h hC hfr f5 f6 f4 x1 (q_c_remove x2 (by rw [hfr.1 131 (by decide) (by decide) (by decide) (by decide), q_kp_o (by decide), hc131]; exact hH.2.2.1) hH.1)
  · rw [if_neg hk] at x1
    refine K_C_no (m := m) (r := -2) hR (by decide) x1 ?_
    have := q_rem (Z := q_kp Z) (P := P) (L := L) (n := n) (key := a) (by rw [q_kp_o (by decide)]; exact hT.1.2) hn (hr (q_kp Z) (q_kp_o (by decide)))
    rw [q_rm, if_neg hk] at this
    dsimp only at this
    exact q_c_remove (Z2 := q_kp Z) this (by rw [q_kp_o (by decide)]; exact hH.2.2.1) hH.1
theorem call_rebuild (hR : K_R Z P) {a : Int32} : K_C Z P L 60 122 [.int a] := by
  obtain ⟨n, m, g, h⟩ := id hR
  obtain ⟨hT, hI, hH, -⟩ := id h
  have hn := hI.1
  have hF := K_F hT hI
  have hP := hH.2.2.2.1
  have x1 := x_reb (L := L) (key := a) hT.1.1 hn hF hP hH.2.1 hH.1
  have hkT := kZ_T h
  unfold c_reb at x1
  by_cases hk : y_nm a = true
  · rw [if_pos hk] at x1
    have hfn : t_nd (t_kZ Z P m 9) n a = t_nd (Z 9) n a := by rw [t_kZ_o hP (by omega)]
    rcases rbd_eq hkT hI hk with ⟨e1, e2⟩ | ⟨e1, e2, e3, n2, e5, e6⟩
    · rw [hfn] at e1
      rw [if_pos e1] at x1
      refine K_C_no (m := m) (r := -1) hR (by decide) x1 ?_
      have := q_rbd (Z := q_kp Z) (P := P) (L := L) (n := n) (key := a) (by rw [q_kp_o (by decide)]; exact hT.1.2) hn
      have e7 : q_rd (q_kp Z) n a = (-1, q_kp Z) := by
        have := rbd_eq (Z := t_kZ Z P m) (Y := q_kp Z) (n := n) (key := a) (by rw [q_kp_o (by decide)]; exact hkT) (by rw [q_kp_o (by decide)]; exact hI) hk
        rcases this with z | z
        · exact z.2
        · rw [hfn, e1] at z; exact absurd rfl z.1
      rw [e7] at this
      dsimp only at this
      exact q_c_rebuild (Z2 := q_kp Z) this (by rw [q_kp_o (by decide)]; exact hH.2.2.1) hH.1
    · rw [hfn] at e1
      rw [if_neg e1] at x1
      have hC : ∀ c, c < 5 ∨ 18 ≤ c → (t_lk (t_kZ Z P m) n a).2 c = t_kZ Z P m c := fun c hc => t_lk_x (cl_out hc).1 (cl_out hc).2
      have hc132 : (t_lk (t_kZ Z P m) n a).2 132 = Z 132 := by rw [hC 132 (by omega), t_kZ_o hP (by omega)]
      have hc131 : (t_lk (t_kZ Z P m) n a).2 131 = Z 131 := by rw [hC 131 (by omega), t_kZ_o hP (by omega)]
      generalize hCg : (t_lk (t_kZ Z P m) n a).2 = C at *
      have hq132 : q_kp C 132 = Z 132 := by rw [q_kp_o (by decide), hc132]
      have hput := rbd_eq (Z := t_kZ Z P m) (Y := q_kp C) (n := n) (key := a) (by rw [hq132]; exact hkT) (by rw [hq132]; exact hI) hk
      rcases hput with z | ⟨f1, f2, f4, n3, f5, f6⟩
      · rw [hfn] at z; exact absurd z.1 e1
      rw [hCg] at f5
      have x2 := q_rbd (Z := q_kp C) (P := t_kP P m) (L := L) (n := n) (key := a) (by rw [hq132]; exact hT.1.2) hn
      have hfr := q_fr_rd (Z := q_kp C) (n := n) (key := a) hn
      rw [f2] at x1
      exact K_C_do h hC hfr f5 f6 f4 x1 (q_c_rebuild x2 (by rw [hfr.1 131 (by decide) (by decide) (by decide) (by decide), q_kp_o (by decide), hc131]; exact hH.2.2.1) hH.1)
  · rw [if_neg hk] at x1
    refine K_C_no (m := m) (r := -2) hR (by decide) x1 ?_
    have := q_rbd (Z := q_kp Z) (P := P) (L := L) (n := n) (key := a) (by rw [q_kp_o (by decide)]; exact hT.1.2) hn
    rw [q_rd, if_neg hk] at this
    dsimp only at this
    exact q_c_rebuild (Z2 := q_kp Z) this (by rw [q_kp_o (by decide)]; exact hH.2.2.1) hH.1
end CALLS
