/-! The calls: carryOut; printed by wip/whole/gen/calls5.py -/
theorem t_ly_o {lo c q : Nat} {dep : Int32} (hq : q ≠ 15) (hq2 : q ≠ 13) : ∀ (k i : Nat) (Z : Nat → Nat → Int32), t_ly lo c dep k i Z q = Z q
  | 0, i, Z => rfl
  | k + 1, i, Z => by rw [t_ly, t_ly_o hq hq2 k, s_upd_o hq2, s_upd_o hq]
theorem t_dh_o {hi c : Nat} (hc : ¬ t_cl c) (h5 : c ≠ 5) : ∀ (k i q : Nat) (Z : Nat → Nat → Int32), t_dh hi k i q Z c = Z c
  | 0, i, q, Z => s_upd_o h5
  | k + 1, i, q, Z => by
    rw [t_dh]
    split
    · rw [t_dh_o hc h5 k, t_mv_o hc]
    · rw [t_dh_o hc h5 k]
/-- what stands in the columns stays 0 or 1 -/
def y_F (Z : Nat → Nat → Int32) (n : Nat) : Prop := ∀ i, i < n → Z 17 i = 0 ∨ Z 17 i = 1
theorem t_dh_T {hi n : Nat} : ∀ (k i q : Nat) (Z : Nat → Nat → Int32), i + k = n → q ≤ i → y_F Z n → ∃ n2 : Nat, n2 ≤ n ∧ t_dh hi k i q Z 5 6 = nI n2 ∧ y_F (t_dh hi k i q Z) n
  | 0, i, q, Z, h, hq, hF => ⟨q, by omega, by rw [t_dh, s_upd_c, if_pos ⟨rfl, rfl⟩], by unfold y_F; rw [t_dh, s_upd_o (by decide)]; exact hF⟩
  | k + 1, i, q, Z, h, hq, hF => by
    rw [t_dh]
    split
    · refine t_dh_T k (i + 1) (q + 1) _ (by omega) (by omega) ?_
      intro x hx
      rw [t_mv_get (by unfold t_cl; omega)]
      split
      · exact hF i (by omega)
      · exact hF x hx
    · exact t_dh_T k (i + 1) q Z (by omega) (by omega) hF
def y_T (Z : Nat → Nat → Int32) : Prop := ∃ n : Nat, n ≤ 60 ∧ Z 5 6 = nI n ∧ y_F Z n
theorem t_sp_o {Z : Nat → Nat → Int32} {pd w : Int32} {c : Nat} (h : c ≠ 5) : t_sp Z pd w c = Z c := by
  unfold t_sp
  rw [s_upd_o h, s_upd_o h, s_upd_o h, s_upd_o h]
theorem t_la_T {Z : Nat → Nat → Int32} {n j : Nat} (hn : n ≤ 60) (hF : y_F Z n) (hj : j < n) : y_T (t_la Z n j) := by
  have hlo : t_L Z j ≤ j := t_lo_le (Z 15) (Z 15 j) j
  unfold t_la
  obtain ⟨n2, h1, h2, h3⟩ := t_dh_T (hi := t_H Z n j) (n := n) (n - t_L Z j) (t_L Z j) (t_L Z j) (t_sp Z (t_sm (Z 13) (t_L Z j) (t_H Z n j + 1 - t_L Z j) 0) (t_wt Z n j)) (by omega) (Nat.le_refl _) (by unfold y_F; rw [t_sp_o (by decide)]; exact hF)
  refine ⟨n2, by omega, by rw [t_ly_o (by decide) (by decide)]; exact h2, ?_⟩
  intro x hx
  rw [t_ly_o (by decide) (by decide)]
  exact h3 x (by omega)
theorem t_la_o {Z : Nat → Nat → Int32} {n j c : Nat} (hc : 18 ≤ c) : t_la Z n j c = Z c := by
  have h1 : ¬ t_cl c := by unfold t_cl; omega
  unfold t_la
  rw [t_ly_o (by omega) (by omega), t_dh_o h1 (by omega), t_sp_o (by omega)]
theorem t_en_o {Z : Nat → Nat → Int32} {n c : Nat} {key value : Int32} (hc : 18 ≤ c) : (t_en Z n key value).2 c = Z c := by
  have h1 : ¬ t_cl c := by unfold t_cl; omega
  unfold t_en
  split
  · rfl
  split
  · show t_py _ 60 0 0 n _ c = _
    rw [t_py_o (by omega), s_upd_o (by omega), s_upd_o (by omega)]
  split
  · show t_py _ 60 0 0 (n + 1) _ c = _
    rw [t_py_o (by omega), t_mk_o h1 (by omega)]
  · show t_la _ _ _ c = _
    rw [t_la_o hc, t_py_o (by omega), t_mk_o h1 (by omega)]
theorem t_hl_o {Z : Nat → Nat → Int32} {n c : Nat} {key : Int32} (hc : 18 ≤ c) : (t_hl Z n key).2 c = Z c := by
  unfold t_hl
  split
  · rfl
  · unfold t_h2
    split
    · show t_la _ _ _ c = _
      rw [t_la_o hc, t_py_o (by omega), s_upd_o (by omega)]
    · show t_py _ 60 0 0 n _ c = _
      rw [t_py_o (by omega), s_upd_o (by omega)]
theorem t_lk_o {Z : Nat → Nat → Int32} {n c : Nat} {key : Int32} (hc : 18 ≤ c) : (t_lk Z n key).2 c = Z c := by
  unfold t_lk
  split
  · rfl
  · exact t_la_o hc
theorem t_lk_T {Z : Nat → Nat → Int32} {n : Nat} {key : Int32} (hn : n ≤ 60) (hN : Z 5 6 = nI n) (hF : y_F Z n) : y_T (t_lk Z n key).2 := by
  unfold t_lk
  split
  · exact ⟨n, hn, hN, hF⟩
  next j hj => exact t_la_T hn hF (t_nd_lt hj).1
theorem t_hl_T {Z : Nat → Nat → Int32} {n : Nat} {key : Int32} (hn : n ≤ 60) (hN : Z 5 6 = nI n) (hF : y_F Z n) : y_T (t_hl Z n key).2 := by
  unfold t_hl
  split
  · exact ⟨n, hn, hN, hF⟩
  next j hj =>
    have hjn := (t_fn_lt hj).1
    have hF2 : y_F (t_py j 60 0 0 n (s_upd Z 17 j 0)) n := by
      intro i hi
      rw [t_py_o (by decide), s_upd_c]
      split
      · exact Or.inl rfl
      · exact hF i hi
    unfold t_h2
    split
    · refine t_la_T hn hF2 ?_
      have := t_tp_le ((t_py j 60 0 0 n (s_upd Z 17 j 0)) 15) 0 (n - 1 - 0) 0
      omega
    · exact ⟨n, hn, by show t_py _ 60 0 0 n _ 5 6 = _; rw [t_py_o (by decide), s_upd_o (by decide)]; exact hN, hF2⟩
theorem t_en_T {Z : Nat → Nat → Int32} {n : Nat} {key value : Int32} (hn : n ≤ 60) (hN : Z 5 6 = nI n) (hF : y_F Z n) : y_T (t_en Z n key value).2 := by
  unfold t_en
  split
  · exact ⟨n, hn, hN, hF⟩
  next hr =>
  split
  next j hj =>
    refine ⟨n, hn, by show t_py _ 60 0 0 n _ 5 6 = _; rw [t_py_o (by decide), s_upd_o (by decide), s_upd_o (by decide)]; exact hN, ?_⟩
    intro i hi
    show t_py _ 60 0 0 n _ 17 i = 0 ∨ t_py _ 60 0 0 n _ 17 i = 1
    rw [t_py_o (by decide), s_upd_c]
    split
    · exact Or.inr rfl
    · rw [s_upd_o (by decide)]; exact hF i hi
  next hq =>
    have hlt : n < 60 := by
      rcases Nat.lt_or_ge n 60 with z | z
      · exact z
      · rw [t_rm, hq, decide_eq_false (by omega)] at hr; exact absurd rfl hr
    have hpl := (t_pl_le (Z 9) key n 0).2
    have hN2 : (t_py (t_pl (Z 9) key 0 n) 60 0 0 (n + 1) (t_mk Z n (t_pl (Z 9) key 0 n) key value)) 5 6 = nI (n + 1) := by rw [t_py_o (by decide)]; exact t_mk_N hN
    have hF2 : y_F (t_py (t_pl (Z 9) key 0 n) 60 0 0 (n + 1) (t_mk Z n (t_pl (Z 9) key 0 n) key value)) (n + 1) := by
      intro i hi
      rw [t_py_o (by decide), t_mk_get (by omega) (by omega) 17 (by unfold t_cl; omega)]
      split
      · exact hF i (by omega)
      · split
        · exact Or.inr rfl
        · exact hF (i - 1) (by omega)
    split
    · exact ⟨n + 1, by omega, hN2, hF2⟩
    next j hj =>
      have hjn := t_wl_lt (Nat.le_refl n) hj
      refine t_la_T (by omega) hF2 ?_
      split <;> omega
theorem e_lsw {k pc : Nat} {r : sM} {cn : Option Nat} {ls rest : List Value} {h h2 : sHp} {v : Option Value} (hk : s_T k = some (r, cn)) {e : sE} {d : Int} {ps : Array (Int × Int)} {x : Int32} {t : Nat} (hat : s_at (s_cd r) pc = some e) (hi : e.2.1 = .lookupswitch d ps) (ho : (Op.lookupswitch.offset ps.toList d x.toInt).toNat = t) (kk : e_r k t ls rest h v h2) : e_r k pc ls (.int x :: rest) h v h2 := by
  refine e_step (c := (t, ls, rest, h)) hk hat (by rw [hi]; rfl) (by rw [hi]; rfl) ?_ kk
  rw [hi]
  dsimp only [s_x]
  rw [ho]
def t_ak (Z : Nat → Nat → Int32) : Int32 := if Z 102 4 = 0 then Z 102 3 else Z 102 2
def y_n (Z : Nat → Nat → Int32) : Nat := (Z 5 6).toNatClampNeg
/-- the order that the reader has read is carried out -/
def t_ans (Z : Nat → Nat → Int32) : Int32 × (Nat → Nat → Int32) := if Z 102 0 = 43 then t_en Z (y_n Z) (t_ak Z) (Z 102 3) else if Z 102 0 = 45 then t_hl Z (y_n Z) (t_ak Z) else t_lk Z (y_n Z) (t_ak Z)
theorem t_ans_T {Z : Nat → Nat → Int32} (h : y_T Z) : y_T (t_ans Z).2 := by
  obtain ⟨n, hn, hN, hF⟩ := h
  have hy : y_n Z = n := by unfold y_n; rw [hN, nI_clamp (by omega)]
  unfold t_ans
  rw [hy]
  split
  · exact t_en_T hn hN hF
  split
  · exact t_hl_T hn hN hF
  · exact t_lk_T hn hN hF
theorem t_ans_o {Z : Nat → Nat → Int32} {c : Nat} (hc : 18 ≤ c) : (t_ans Z).2 c = Z c := by
  unfold t_ans
  split
  · exact t_en_o hc
  split
  · exact t_hl_o hc
  · exact t_lk_o hc
theorem x_ans_p {Z : Nat → Nat → Int32} {P : Nat → Nat} {L n : Nat} (hN : Z 5 6 = nI n) (hn : n ≤ 60) (hF : ∀ i, i < n → Z 17 i = 0 ∨ Z 17 i = 1) (hs : Z 102 0 = 43) : m_r 86 [.ref 4] (hp Z P L) (some (.int (t_ans Z).1)) (hp (t_ans Z).2 P L) := by
  have hy : y_n Z = n := by unfold y_n; rw [hN, nI_clamp (by omega)]
  refine m_of (ls := [.ref 4, s_no]) hk_86 rfl rfl rfl ?_
  refine e_go hk_86 2 (c := (4, [.ref 4, s_no], [.ref 102], hp Z P L)) rfl ?_
  refine e_call hk_86 (as := [.ref 102]) (rest := []) rfl rfl hk_9 rfl (Nat.le_of_ble_eq_true rfl) rfl x_okey ?_
  show e_r 86 7 [.ref 4, s_no] [.int (t_ak Z)] (hp Z P L) _ _
  refine e_go hk_86 4 (c := (15, [.ref 4, .int (t_ak Z)], [.int (Z 102 0)], hp Z P L)) rfl ?_
  rw [hs]
  refine e_go hk_86 6 (c := (49, [.ref 4, .int (t_ak Z)], [.ref 102, .int (t_ak Z), .ref 5], hp Z P L)) rfl ?_
  refine e_call hk_86 (as := [.ref 102]) (rest := [.int (t_ak Z), .ref 5]) rfl rfl hk_10 rfl (Nat.le_of_ble_eq_true rfl) rfl x_oval ?_
  show e_r 86 52 [.ref 4, .int (t_ak Z)] [.int (Z 102 3), .int (t_ak Z), .ref 5] (hp Z P L) _ _
  refine e_call hk_86 (as := [.ref 5, .int (t_ak Z), .int (Z 102 3)]) (rest := []) rfl rfl hk_46 rfl (Nat.le_of_ble_eq_true rfl) rfl (x_enter hN hn hF) ?_
  show e_r 86 55 [.ref 4, .int (t_ak Z)] [.int ((t_en Z n (t_ak Z) (Z 102 3)).1)] (hp ((t_en Z n (t_ak Z) (Z 102 3)).2) P L) _ _
  exact e_ret hk_86 rfl rfl rfl (by rw [t_ans, if_pos hs, hy]) (by rw [t_ans, if_pos hs, hy])
theorem x_ans_m {Z : Nat → Nat → Int32} {P : Nat → Nat} {L n : Nat} (hN : Z 5 6 = nI n) (hn : n ≤ 60) (hF : ∀ i, i < n → Z 17 i = 0 ∨ Z 17 i = 1) (hs : Z 102 0 = 45) : m_r 86 [.ref 4] (hp Z P L) (some (.int (t_ans Z).1)) (hp (t_ans Z).2 P L) := by
  have hy : y_n Z = n := by unfold y_n; rw [hN, nI_clamp (by omega)]
  refine m_of (ls := [.ref 4, s_no]) hk_86 rfl rfl rfl ?_
  refine e_go hk_86 2 (c := (4, [.ref 4, s_no], [.ref 102], hp Z P L)) rfl ?_
  refine e_call hk_86 (as := [.ref 102]) (rest := []) rfl rfl hk_9 rfl (Nat.le_of_ble_eq_true rfl) rfl x_okey ?_
  show e_r 86 7 [.ref 4, s_no] [.int (t_ak Z)] (hp Z P L) _ _
  refine e_go hk_86 4 (c := (15, [.ref 4, .int (t_ak Z)], [.int (Z 102 0)], hp Z P L)) rfl ?_
  rw [hs]
  refine e_go hk_86 4 (c := (61, [.ref 4, .int (t_ak Z)], [.int (t_ak Z), .ref 5], hp Z P L)) rfl ?_
  refine e_call hk_86 (as := [.ref 5, .int (t_ak Z)]) (rest := []) rfl rfl hk_47 rfl (Nat.le_of_ble_eq_true rfl) rfl (x_hollow hN hn hF) ?_
  show e_r 86 64 [.ref 4, .int (t_ak Z)] [.int ((t_hl Z n (t_ak Z)).1)] (hp ((t_hl Z n (t_ak Z)).2) P L) _ _
  exact e_ret hk_86 rfl rfl rfl (by rw [t_ans, if_neg (by rw [hs]; decide), if_pos hs, hy]) (by rw [t_ans, if_neg (by rw [hs]; decide), if_pos hs, hy])
theorem x_ans_o2 {Z : Nat → Nat → Int32} {P : Nat → Nat} {L n : Nat} (hN : Z 5 6 = nI n) (hn : n ≤ 60) (hF : ∀ i, i < n → Z 17 i = 0 ∨ Z 17 i = 1) (h1 : ¬ Z 102 0 = 43) (h2 : ¬ Z 102 0 = 45) : e_r 86 65 [.ref 4, .int (t_ak Z)] [] (hp Z P L) (some (.int (t_ans Z).1)) (hp (t_ans Z).2 P L) := by
  have hy : y_n Z = n := by unfold y_n; rw [hN, nI_clamp (by omega)]
  refine e_go hk_86 3 (c := (70, [.ref 4, .int (t_ak Z)], [.int (t_ak Z), .ref 5], hp Z P L)) rfl ?_
  refine e_call hk_86 (as := [.ref 5, .int (t_ak Z)]) (rest := []) rfl rfl hk_48 rfl (Nat.le_of_ble_eq_true rfl) rfl (x_lk hN hn hF) ?_
  show e_r 86 73 [.ref 4, .int (t_ak Z)] [.int ((t_lk Z n (t_ak Z)).1)] (hp ((t_lk Z n (t_ak Z)).2) P L) _ _
  exact e_ret hk_86 rfl rfl rfl (by rw [t_ans, if_neg h1, if_neg h2, hy]) (by rw [t_ans, if_neg h1, if_neg h2, hy])
theorem x_ans_o {Z : Nat → Nat → Int32} {P : Nat → Nat} {L n : Nat} (hN : Z 5 6 = nI n) (hn : n ≤ 60) (hF : ∀ i, i < n → Z 17 i = 0 ∨ Z 17 i = 1) (h1 : ¬ Z 102 0 = 43) (h2 : ¬ Z 102 0 = 45) : m_r 86 [.ref 4] (hp Z P L) (some (.int (t_ans Z).1)) (hp (t_ans Z).2 P L) := by
  have hy : y_n Z = n := by unfold y_n; rw [hN, nI_clamp (by omega)]
  refine m_of (ls := [.ref 4, s_no]) hk_86 rfl rfl rfl ?_
  refine e_go hk_86 2 (c := (4, [.ref 4, s_no], [.ref 102], hp Z P L)) rfl ?_
  refine e_call hk_86 (as := [.ref 102]) (rest := []) rfl rfl hk_9 rfl (Nat.le_of_ble_eq_true rfl) rfl x_okey ?_
  show e_r 86 7 [.ref 4, s_no] [.int (t_ak Z)] (hp Z P L) _ _
  refine e_go hk_86 4 (c := (15, [.ref 4, .int (t_ak Z)], [.int (Z 102 0)], hp Z P L)) rfl ?_
  refine e_lsw hk_86 (t := 65) rfl rfl ?_ ?_
  · show (Op.lookupswitch.offset [(43, 40), (45, 56)] 65 (Z 102 0).toInt).toNat = 65
    rw [Op.lookupswitch.offset_cons, if_neg (fun z => h1 (Int32.toInt_inj.mp z.symm)), Op.lookupswitch.offset_cons, if_neg (fun z => h2 (Int32.toInt_inj.mp z.symm))]
    rfl
  exact x_ans_o2 hN hn hF h1 h2
theorem x_ans {Z : Nat → Nat → Int32} {P : Nat → Nat} {L : Nat} (h : y_T Z) : m_r 86 [.ref 4] (hp Z P L) (some (.int (t_ans Z).1)) (hp (t_ans Z).2 P L) := by
  obtain ⟨n, hn, hN, hF⟩ := h
  by_cases h1 : Z 102 0 = 43
  · exact x_ans_p hN hn hF h1
  · by_cases h2 : Z 102 0 = 45
    · exact x_ans_m hN hn hF h2
    · exact x_ans_o hN hn hF h1 h2
