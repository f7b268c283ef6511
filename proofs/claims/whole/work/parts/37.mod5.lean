/-! The Model: texts, undo, slots, floating numbers; printed by wip/whole/gen/mod5.py -/
/-- the reader's five numbers -/
def q_tx (Z : Nat → Nat → Int32) (s od rk rv nm : Int32) : Nat → Nat → Int32 := fun i j => match Nat.beq i 131 with
  | true => (match j with
    | 11 => s
    | 12 => od
    | 13 => rk
    | 14 => rv
    | 15 => nm
    | _ => Z 131 j)
  | false => Z i j
theorem q_tx_o {Z : Nat → Nat → Int32} {s od rk rv nm : Int32} {c : Nat} (h : c ≠ 131) : q_tx Z s od rk rv nm c = Z c := by
  funext j
  unfold q_tx
  rw [show Nat.beq c 131 = false from Bool.eq_false_iff.mpr (fun z => h (Nat.eq_of_beq_eq_true z))]
theorem q_tx_1 {Z : Nat → Nat → Int32} {s od rk rv nm : Int32} {j : Nat} (h : j < 11) : q_tx Z s od rk rv nm 131 j = Z 131 j := by
  unfold q_tx
  dsimp only [Nat.beq]
  split <;> first | omega | rfl
theorem q_tx_x {Z Y : Nat → Nat → Int32} {s od rk rv nm : Int32} (h1 : ∀ c, c ≠ 131 → Y c = Z c) (h2 : ∀ j, j < 11 ∨ 15 < j → Y 131 j = Z 131 j) (a : Y 131 11 = s) (b : Y 131 12 = od) (c : Y 131 13 = rk) (d : Y 131 14 = rv) (e : Y 131 15 = nm) : Y = q_tx Z s od rk rv nm := by
  funext i j
  by_cases hi : i = 131
  · subst hi
    unfold q_tx
    dsimp only [Nat.beq]
    split
    · exact a
    · exact b
    · exact c
    · exact d
    · exact e
    next h3 h4 h5 h6 h7 =>
      refine h2 j ?_
      have g3 := h3; have g4 := h4; have g5 := h5; have g6 := h6; have g7 := h7
      by_cases hj : j < 11
      · exact Or.inl hj
      · right
        by_cases k1 : j = 11
        · exact absurd k1 g3
        · by_cases k2 : j = 12
          · exact absurd k2 g4
          · by_cases k3 : j = 13
            · exact absurd k3 g5
            · by_cases k4 : j = 14
              · exact absurd k4 g6
              · by_cases k5 : j = 15
                · exact absurd k5 g7
                · omega
  · rw [q_tx_o hi, h1 i hi]
theorem q_tx_id {Z : Nat → Nat → Int32} {s : Int32} (h : Z 131 11 = s) : Z = q_tx Z s (Z 131 12) (Z 131 13) (Z 131 14) (Z 131 15) := q_tx_x (fun _ _ => rfl) (fun _ _ => rfl) h rfl rfl rfl rfl
theorem q_tx_h {Z : Nat → Nat → Int32} {s od rk rv nm : Int32} {j : Nat} (h : j < 11 ∨ 15 < j) : q_tx Z s od rk rv nm 131 j = Z 131 j := by
  unfold q_tx
  dsimp only [Nat.beq]
  split <;> first | omega | rfl
theorem q_tx_11 {Z : Nat → Nat → Int32} {s od rk rv nm x : Int32} : s_upd (q_tx Z s od rk rv nm) 131 11 x = q_tx Z x od rk rv nm := by
  refine q_tx_x (fun c hc => by rw [s_upd_o hc, q_tx_o hc]) (fun j hj => ?_) rfl rfl rfl rfl rfl
  rw [s_upd_c, if_neg (by omega)]
  exact q_tx_h hj
theorem q_tx_12 {Z : Nat → Nat → Int32} {s od rk rv nm x : Int32} : s_upd (q_tx Z s od rk rv nm) 131 12 x = q_tx Z s x rk rv nm := by
  refine q_tx_x (fun c hc => by rw [s_upd_o hc, q_tx_o hc]) (fun j hj => ?_) rfl rfl rfl rfl rfl
  rw [s_upd_c, if_neg (by omega)]
  exact q_tx_h hj
theorem q_tx_13 {Z : Nat → Nat → Int32} {s od rk rv nm x : Int32} : s_upd (q_tx Z s od rk rv nm) 131 13 x = q_tx Z s od x rv nm := by
  refine q_tx_x (fun c hc => by rw [s_upd_o hc, q_tx_o hc]) (fun j hj => ?_) rfl rfl rfl rfl rfl
  rw [s_upd_c, if_neg (by omega)]
  exact q_tx_h hj
theorem q_tx_14 {Z : Nat → Nat → Int32} {s od rk rv nm x : Int32} : s_upd (q_tx Z s od rk rv nm) 131 14 x = q_tx Z s od rk x nm := by
  refine q_tx_x (fun c hc => by rw [s_upd_o hc, q_tx_o hc]) (fun j hj => ?_) rfl rfl rfl rfl rfl
  rw [s_upd_c, if_neg (by omega)]
  exact q_tx_h hj
theorem q_tx_15 {Z : Nat → Nat → Int32} {s od rk rv nm x : Int32} : s_upd (q_tx Z s od rk rv nm) 131 15 x = q_tx Z s od rk rv x := by
  refine q_tx_x (fun c hc => by rw [s_upd_o hc, q_tx_o hc]) (fun j hj => ?_) rfl rfl rfl rfl rfl
  rw [s_upd_c, if_neg (by omega)]
  exact q_tx_h hj
def q_hr (p : Nat → Int32) (g s : Nat) (lo hi : Int32) : Bool := decide (s < g) && decide (lo ≤ p s ∧ p s ≤ hi)
theorem q_here {Z : Nat → Nat → Int32} {P : Nat → Nat} {L g : Nat} (hG : Z 131 10 = nI g) (hg : g ≤ 80) {od rk rv nm : Int32} {s : Nat} (hs : s ≤ 80) {lo hi : Int32} : m_r 142 [.ref 131, .int lo, .int hi] (hp (q_tx Z (nI s) od rk rv nm) P L) (some (.int (y_b (q_hr (Z 140) g s lo hi)))) (hp (q_tx Z (nI s) od rk rv nm) P L) := by
  refine m_of (ls := [.ref 131, .int lo, .int hi]) hk_142 rfl rfl rfl ?_
  refine e_go hk_142 5 (c := (if s_cnd .ge (nI s) (Z 131 10) = true then 35 else 11, [.ref 131, .int lo, .int hi], [], hp (q_tx Z (nI s) od rk rv nm) P L)) rfl ?_
  refine e_ge (a := 35) (b := 11) (x := nI s) (y := Z 131 10) (fun hc8 => ?_) (fun hc8 => ?_)
  · skip
    have hsg : ¬ s < g := fun z => by rw [hG, y_le (by omega) (by omega)] at hc8; omega
    refine e_go hk_142 1 (c := (36, [.ref 131, .int lo, .int hi], [.int 0], hp (q_tx Z (nI s) od rk rv nm) P L)) rfl ?_
    exact e_ret hk_142 rfl rfl rfl (by rw [q_hr, decide_eq_false hsg, Bool.false_and]; rfl) rfl
  · skip
    have hsg : s < g := by rw [hG, y_le (by omega) (by omega)] at hc8; omega
    refine e_go hk_142 4 (c := (19, [.ref 131, .int lo, .int hi], [.int (nI s), .ref 140], hp (q_tx Z (nI s) od rk rv nm) P L)) rfl ?_
    refine e_ald hk_142 (a := 140) (j := s) (n := 80) rfl rfl rfl (by omega) (by decide) ?_
    show e_r 142 20 [.ref 131, .int lo, .int hi] [.int (Z 140 s)] (hp (q_tx Z (nI s) od rk rv nm) P L) _ _
    refine e_go hk_142 5 (c := (25, [.ref 131, .int lo, .int hi], [.long hi.toInt64, .long lo.toInt64, .long ((Z 140 s).toInt64)], hp (q_tx Z (nI s) od rk rv nm) P L)) rfl ?_
    refine e_call hk_142 (as := [.long ((Z 140 s).toInt64), .long lo.toInt64, .long hi.toInt64]) (rest := []) rfl rfl hk_90 rfl (Nat.le_of_ble_eq_true rfl) rfl (q_in2 (x := Z 140 s) (lo := lo) (hi := hi) rfl rfl rfl) ?_
    show e_r 142 28 [.ref 131, .int lo, .int hi] [.int (y_b (decide (lo ≤ Z 140 s ∧ Z 140 s ≤ hi)))] (hp (q_tx Z (nI s) od rk rv nm) P L) _ _
    refine e_go hk_142 1 (c := (if s_cnd .eq (y_b (decide (lo ≤ Z 140 s ∧ Z 140 s ≤ hi))) 0 = true then 35 else 31, [.ref 131, .int lo, .int hi], [], hp (q_tx Z (nI s) od rk rv nm) P L)) rfl ?_
    refine e_eq (a := 35) (b := 31) (x := y_b (decide (lo ≤ Z 140 s ∧ Z 140 s ≤ hi))) (y := 0) (fun hc28 => ?_) (fun hc28 => ?_)
    · skip
      rw [y_d0] at hc28
      refine e_go hk_142 1 (c := (36, [.ref 131, .int lo, .int hi], [.int 0], hp (q_tx Z (nI s) od rk rv nm) P L)) rfl ?_
      exact e_ret hk_142 rfl rfl rfl (by rw [q_hr, decide_eq_false hc28, Bool.and_false]; rfl) rfl
    · skip
      rw [y_d1] at hc28
      refine e_go hk_142 2 (c := (36, [.ref 131, .int lo, .int hi], [.int 1], hp (q_tx Z (nI s) od rk rv nm) P L)) rfl ?_
      exact e_ret hk_142 rfl rfl rfl (by rw [q_hr, decide_eq_true hsg, decide_eq_true hc28]; rfl) rfl
theorem q_takesc {Z : Nat → Nat → Int32} {P : Nat → Nat} {L g : Nat} (hG : Z 131 10 = nI g) (hg : g ≤ 80) {od rk rv nm : Int32} {s : Nat} (hs : s ≤ 80) {c : Int32} : m_r 143 [.ref 131, .int c] (hp (q_tx Z (nI s) od rk rv nm) P L) (some (.int (y_b (q_hr (Z 140) g s c c)))) (hp (q_tx Z (nI (if q_hr (Z 140) g s c c = true then s + 1 else s)) od rk rv nm) P L) := by
  refine m_of (ls := [.ref 131, .int c, s_no]) hk_143 rfl rfl rfl ?_
  refine e_go hk_143 3 (c := (3, [.ref 131, .int c, s_no], [.int c, .int c, .ref 131], hp (q_tx Z (nI s) od rk rv nm) P L)) rfl ?_
  refine e_call hk_143 (as := [.ref 131, .int c, .int c]) (rest := []) rfl rfl hk_142 rfl (Nat.le_of_ble_eq_true rfl) rfl (q_here hG hg (s := s) (by omega)) ?_
  show e_r 143 6 [.ref 131, .int c, s_no] [.int (y_b (q_hr (Z 140) g s c c))] (hp (q_tx Z (nI s) od rk rv nm) P L) _ _
  refine e_go hk_143 6 (c := (if s_cnd .eq (y_b (q_hr (Z 140) g s c c)) 0 = true then 20 else 16, [.ref 131, .int c, .int (y_b (q_hr (Z 140) g s c c))], [.int (nI s), .ref 131], hp (q_tx Z (nI s) od rk rv nm) P L)) rfl ?_
  refine e_eq (a := 20) (b := 16) (x := y_b (q_hr (Z 140) g s c c)) (y := 0) (fun hc13 => ?_) (fun hc13 => ?_)
  · skip
    rw [y_b0] at hc13
    refine e_go hk_143 3 (c := (25, [.ref 131, .int c, .int (y_b (q_hr (Z 140) g s c c))], [], hp (s_upd (q_tx Z (nI s) od rk rv nm) 131 11 ((nI s) + 0)) P L)) rfl ?_
    rw [q_tx_11]
    show e_r 143 25 [.ref 131, .int c, .int (y_b (q_hr (Z 140) g s c c))] [] (hp (q_tx Z ((nI s) + 0) od rk rv nm) P L) _ _
    refine e_go hk_143 1 (c := (26, [.ref 131, .int c, .int (y_b (q_hr (Z 140) g s c c))], [.int (y_b (q_hr (Z 140) g s c c))], hp (q_tx Z ((nI s) + 0) od rk rv nm) P L)) rfl ?_
    exact e_ret hk_143 rfl rfl s_rxz rfl (by rw [if_neg (c := q_hr (Z 140) g s c c = true) (by rw [hc13]; decide)]; rw [Int32.add_zero])
  · skip
    rw [y_b1] at hc13
    refine e_go hk_143 4 (c := (25, [.ref 131, .int c, .int (y_b (q_hr (Z 140) g s c c))], [], hp (s_upd (q_tx Z (nI s) od rk rv nm) 131 11 ((nI s) + 1)) P L)) rfl ?_
    rw [q_tx_11]
    show e_r 143 25 [.ref 131, .int c, .int (y_b (q_hr (Z 140) g s c c))] [] (hp (q_tx Z ((nI s) + 1) od rk rv nm) P L) _ _
    refine e_go hk_143 1 (c := (26, [.ref 131, .int c, .int (y_b (q_hr (Z 140) g s c c))], [.int (y_b (q_hr (Z 140) g s c c))], hp (q_tx Z ((nI s) + 1) od rk rv nm) P L)) rfl ?_
    exact e_ret hk_143 rfl rfl s_rxz rfl (by rw [if_pos (c := q_hr (Z 140) g s c c = true) hc13]; rw [nI_1])
def q_nl (p : Nat → Int32) (g : Nat) : Nat → Nat → Int32 → Nat × Int32
  | 0, s, nm => (s, nm)
  | k + 1, s, nm => if 0 < nm ∧ nm < 100 ∧ q_hr p g s 48 57 = true then q_nl p g k (s + 1) (10 * nm + p s - 48) else (s, nm)
theorem q_nl_le {p : Nat → Int32} {g : Nat} : ∀ (k s : Nat) (nm : Int32), s + k = g → s ≤ (q_nl p g k s nm).1 ∧ (q_nl p g k s nm).1 ≤ g
  | 0, s, nm, h => ⟨Nat.le_refl _, by show s ≤ g; omega⟩
  | k + 1, s, nm, h => by
    rw [q_nl]
    split
    · have := q_nl_le (p := p) (g := g) k (s + 1) (10 * nm + p s - 48) (by omega)
      omega
    · exact ⟨Nat.le_refl _, by show s ≤ g; omega⟩
/-- a number: whether it is there, where it ends, what it is -/
def q_rn (p : Nat → Int32) (g s : Nat) (nm : Int32) : Bool × Nat × Int32 := if q_hr p g s 48 57 = true then (true, q_nl p g (g - (s + 1)) (s + 1) (p s - 48)) else (false, s, nm)
theorem q_hr_lt {p : Nat → Int32} {g s : Nat} {lo hi : Int32} (h : q_hr p g s lo hi = true) : s < g := by
  unfold q_hr at h
  rw [Bool.and_eq_true, decide_eq_true_eq] at h
  exact h.1
theorem q_rn_le {p : Nat → Int32} {g s : Nat} {nm : Int32} (hs : s ≤ g) : s ≤ (q_rn p g s nm).2.1 ∧ (q_rn p g s nm).2.1 ≤ g ∧ ((q_rn p g s nm).1 = true → s < (q_rn p g s nm).2.1) := by
  unfold q_rn
  split
  next h =>
    have h1 := q_hr_lt h
    have := q_nl_le (p := p) (g := g) (g - (s + 1)) (s + 1) (p s - 48) (by omega)
    exact ⟨by dsimp only; omega, this.2, fun _ => by dsimp only; omega⟩
  · exact ⟨Nat.le_refl _, hs, fun z => by cases z⟩
theorem q_num_l {Z : Nat → Nat → Int32} {P : Nat → Nat} {L g : Nat} (hG : Z 131 10 = nI g) (hg : g ≤ 80) {od rk rv : Int32}   : ∀ (k s : Nat) (nm : Int32), s + k = g → e_r 144 39 [.ref 131] [] (hp (q_tx Z (nI s) od rk rv nm) P L) (some (.int 1)) (hp (q_tx Z (nI (q_nl (Z 140) g k s nm).1) od rk rv (q_nl (Z 140) g k s nm).2) P L)
  | 0, s, nm, hk => by
    refine e_go hk_144 3 (c := (if s_cnd .le nm 0 = true then 103 else 46, [.ref 131], [], hp (q_tx Z (nI s) od rk rv nm) P L)) rfl ?_
    refine e_le (a := 103) (b := 46) (x := nm) (y := 0) (fun hc43 => ?_) (fun hc43 => ?_)
    · skip
      refine e_go hk_144 1 (c := (104, [.ref 131], [.int 1], hp (q_tx Z (nI s) od rk rv nm) P L)) rfl ?_
      exact e_ret hk_144 rfl rfl rfl rfl rfl
    · skip
      refine e_go hk_144 4 (c := (if s_cnd .ge nm 100 = true then 103 else 55, [.ref 131], [], hp (q_tx Z (nI s) od rk rv nm) P L)) rfl ?_
      refine e_ge (a := 103) (b := 55) (x := nm) (y := 100) (fun hc52 => ?_) (fun hc52 => ?_)
      · skip
        refine e_go hk_144 1 (c := (104, [.ref 131], [.int 1], hp (q_tx Z (nI s) od rk rv nm) P L)) rfl ?_
        exact e_ret hk_144 rfl rfl rfl rfl rfl
      · skip
        refine e_go hk_144 3 (c := (60, [.ref 131], [.int 57, .int 48, .ref 131], hp (q_tx Z (nI s) od rk rv nm) P L)) rfl ?_
        refine e_call hk_144 (as := [.ref 131, .int 48, .int 57]) (rest := []) rfl rfl hk_142 rfl (Nat.le_of_ble_eq_true rfl) rfl (q_here hG hg (s := s) (by omega)) ?_
        show e_r 144 63 [.ref 131] [.int (y_b (q_hr (Z 140) g s 48 57))] (hp (q_tx Z (nI s) od rk rv nm) P L) _ _
        refine e_go hk_144 1 (c := (if s_cnd .eq (y_b (q_hr (Z 140) g s 48 57)) 0 = true then 103 else 66, [.ref 131], [], hp (q_tx Z (nI s) od rk rv nm) P L)) rfl ?_
        refine e_eq (a := 103) (b := 66) (x := y_b (q_hr (Z 140) g s 48 57)) (y := 0) (fun hc63 => ?_) (fun hc63 => absurd (y_b0.mpr (by rw [q_hr, decide_eq_false (by omega), Bool.false_and])) hc63)
        refine e_go hk_144 1 (c := (104, [.ref 131], [.int 1], hp (q_tx Z (nI s) od rk rv nm) P L)) rfl ?_
        exact e_ret hk_144 rfl rfl rfl rfl rfl
  | k + 1, s, nm, hk => by
    refine e_go hk_144 3 (c := (if s_cnd .le nm 0 = true then 103 else 46, [.ref 131], [], hp (q_tx Z (nI s) od rk rv nm) P L)) rfl ?_
    refine e_le (a := 103) (b := 46) (x := nm) (y := 0) (fun hc43 => ?_) (fun hc43 => ?_)
    · skip
      refine e_go hk_144 1 (c := (104, [.ref 131], [.int 1], hp (q_tx Z (nI s) od rk rv nm) P L)) rfl ?_
      exact e_ret hk_144 rfl rfl rfl rfl (by rw [q_nl, if_neg (fun z => absurd z.1 (Int32.not_lt.mpr hc43))])
    · skip
      refine e_go hk_144 4 (c := (if s_cnd .ge nm 100 = true then 103 else 55, [.ref 131], [], hp (q_tx Z (nI s) od rk rv nm) P L)) rfl ?_
      refine e_ge (a := 103) (b := 55) (x := nm) (y := 100) (fun hc52 => ?_) (fun hc52 => ?_)
      · skip
        refine e_go hk_144 1 (c := (104, [.ref 131], [.int 1], hp (q_tx Z (nI s) od rk rv nm) P L)) rfl ?_
        exact e_ret hk_144 rfl rfl rfl rfl (by rw [q_nl, if_neg (fun z => absurd z.2.1 (Int32.not_lt.mpr hc52))])
      · skip
        refine e_go hk_144 3 (c := (60, [.ref 131], [.int 57, .int 48, .ref 131], hp (q_tx Z (nI s) od rk rv nm) P L)) rfl ?_
        refine e_call hk_144 (as := [.ref 131, .int 48, .int 57]) (rest := []) rfl rfl hk_142 rfl (Nat.le_of_ble_eq_true rfl) rfl (q_here hG hg (s := s) (by omega)) ?_
        show e_r 144 63 [.ref 131] [.int (y_b (q_hr (Z 140) g s 48 57))] (hp (q_tx Z (nI s) od rk rv nm) P L) _ _
        refine e_go hk_144 1 (c := (if s_cnd .eq (y_b (q_hr (Z 140) g s 48 57)) 0 = true then 103 else 66, [.ref 131], [], hp (q_tx Z (nI s) od rk rv nm) P L)) rfl ?_
        refine e_eq (a := 103) (b := 66) (x := y_b (q_hr (Z 140) g s 48 57)) (y := 0) (fun hc63 => ?_) (fun hc63 => ?_)
        · skip
          rw [y_b0] at hc63
          refine e_go hk_144 1 (c := (104, [.ref 131], [.int 1], hp (q_tx Z (nI s) od rk rv nm) P L)) rfl ?_
          exact e_ret hk_144 rfl rfl rfl rfl (by rw [q_nl, if_neg (fun z => by rw [hc63] at z; exact absurd z.2.2 (by decide))])
        · skip
          rw [y_b1] at hc63
          have hsg := q_hr_lt hc63
          refine e_go hk_144 9 (c := (82, [.ref 131], [.int (nI s), .ref 140, .int (10 * nm), .ref 131], hp (q_tx Z (nI s) od rk rv nm) P L)) rfl ?_
          refine e_ald hk_144 (a := 140) (j := s) (n := 80) rfl rfl rfl (by omega) (by decide) ?_
          show e_r 144 83 [.ref 131] [.int (Z 140 s), .int (10 * nm), .ref 131] (hp (q_tx Z (nI s) od rk rv nm) P L) _ _
          refine e_go hk_144 4 (c := (90, [.ref 131], [], hp (s_upd (q_tx Z (nI s) od rk rv nm) 131 15 (((10 * nm) + (Z 140 s)) - 48)) P L)) rfl ?_
          rw [q_tx_15]
          show e_r 144 90 [.ref 131] [] (hp (q_tx Z (nI s) od rk rv (((10 * nm) + (Z 140 s)) - 48)) P L) _ _
          refine e_go hk_144 6 (c := (100, [.ref 131], [], hp (s_upd (q_tx Z (nI s) od rk rv (((10 * nm) + (Z 140 s)) - 48)) 131 11 ((nI s) + 1)) P L)) rfl ?_
          rw [q_tx_11]
          show e_r 144 100 [.ref 131] [] (hp (q_tx Z ((nI s) + 1) od rk rv (((10 * nm) + (Z 140 s)) - 48)) P L) _ _
          refine e_go hk_144 1 (c := (39, [.ref 131], [], hp (q_tx Z ((nI s) + 1) od rk rv (((10 * nm) + (Z 140 s)) - 48)) P L)) rfl ?_
          rw [nI_1, q_nl, if_pos ⟨Int32.not_le.mp hc43, Int32.not_le.mp hc52, hc63⟩]
          exact q_num_l hG hg k (s + 1) _ (by omega)
theorem q_rnum {Z : Nat → Nat → Int32} {P : Nat → Nat} {L g : Nat} (hG : Z 131 10 = nI g) (hg : g ≤ 80) {od rk rv nm : Int32} {s : Nat} (hs : s ≤ 80) : m_r 144 [.ref 131] (hp (q_tx Z (nI s) od rk rv nm) P L) (some (.int (y_b (q_rn (Z 140) g s nm).1))) (hp (q_tx Z (nI (q_rn (Z 140) g s nm).2.1) od rk rv (q_rn (Z 140) g s nm).2.2) P L) := by
  refine m_of (ls := [.ref 131]) hk_144 rfl rfl rfl ?_
  refine e_go hk_144 3 (c := (5, [.ref 131], [.int 57, .int 48, .ref 131], hp (q_tx Z (nI s) od rk rv nm) P L)) rfl ?_
  refine e_call hk_144 (as := [.ref 131, .int 48, .int 57]) (rest := []) rfl rfl hk_142 rfl (Nat.le_of_ble_eq_true rfl) rfl (q_here hG hg (s := s) (by omega)) ?_
  show e_r 144 8 [.ref 131] [.int (y_b (q_hr (Z 140) g s 48 57))] (hp (q_tx Z (nI s) od rk rv nm) P L) _ _
  refine e_go hk_144 1 (c := (if s_cnd .ne (y_b (q_hr (Z 140) g s 48 57)) 0 = true then 13 else 11, [.ref 131], [], hp (q_tx Z (nI s) od rk rv nm) P L)) rfl ?_
  refine e_ne (a := 13) (b := 11) (x := y_b (q_hr (Z 140) g s 48 57)) (y := 0) (fun hc8 => ?_) (fun hc8 => ?_)
  · skip
    rw [y_b1] at hc8
    have hsg := q_hr_lt hc8
    refine e_go hk_144 5 (c := (22, [.ref 131], [.int (nI s), .ref 140, .ref 131], hp (q_tx Z (nI s) od rk rv nm) P L)) rfl ?_
    refine e_ald hk_144 (a := 140) (j := s) (n := 80) rfl rfl rfl (by omega) (by decide) ?_
    show e_r 144 23 [.ref 131] [.int (Z 140 s), .ref 131] (hp (q_tx Z (nI s) od rk rv nm) P L) _ _
    refine e_go hk_144 3 (c := (29, [.ref 131], [], hp (s_upd (q_tx Z (nI s) od rk rv nm) 131 15 ((Z 140 s) - 48)) P L)) rfl ?_
    rw [q_tx_15]
    show e_r 144 29 [.ref 131] [] (hp (q_tx Z (nI s) od rk rv ((Z 140 s) - 48)) P L) _ _
    refine e_go hk_144 6 (c := (39, [.ref 131], [], hp (s_upd (q_tx Z (nI s) od rk rv ((Z 140 s) - 48)) 131 11 ((nI s) + 1)) P L)) rfl ?_
    rw [q_tx_11]
    show e_r 144 39 [.ref 131] [] (hp (q_tx Z ((nI s) + 1) od rk rv ((Z 140 s) - 48)) P L) _ _
    rw [nI_1, q_rn, if_pos hc8]
    exact q_num_l hG hg (g - (s + 1)) (s + 1) _ (by omega)
  · skip
    rw [y_b0] at hc8
    refine e_go hk_144 1 (c := (12, [.ref 131], [.int 0], hp (q_tx Z (nI s) od rk rv nm) P L)) rfl ?_
    exact e_ret hk_144 rfl rfl rfl (by rw [q_rn, if_neg (by rw [hc8]; decide)]; rfl) (by rw [q_rn, if_neg (by rw [hc8]; decide)])
theorem y_tnf {b : Bool} (h : ¬ b = false) : b = true := by
  cases b
  · exact absurd rfl h
  · rfl
def q_od (p : Nat → Int32) (g s : Nat) : Int32 := if s < g then p s else 0
def q_is (d : Int32) : Bool := decide (d = 43 ∨ d = 45 ∨ d = 33)
/-- an order: whether it is well, then the reader's five numbers -/
def q_ro (p : Nat → Int32) (g s : Nat) (rk rv nm : Int32) : Bool × Nat × Int32 × Int32 × Int32 × Int32 :=
  if q_is (q_od p g s) = false then (false, s, q_od p g s, rk, rv, nm)
  else if (q_rn p g (s + 1) nm).1 = false then (false, (q_rn p g (s + 1) nm).2.1, q_od p g s, rk, rv, (q_rn p g (s + 1) nm).2.2)
  else if q_od p g s = 43 ∧ q_hr p g (q_rn p g (s + 1) nm).2.1 61 61 = true then ((q_rn p g ((q_rn p g (s + 1) nm).2.1 + 1) (q_rn p g (s + 1) nm).2.2).1, (q_rn p g ((q_rn p g (s + 1) nm).2.1 + 1) (q_rn p g (s + 1) nm).2.2).2.1, q_od p g s, (q_rn p g (s + 1) nm).2.2, (q_rn p g ((q_rn p g (s + 1) nm).2.1 + 1) (q_rn p g (s + 1) nm).2.2).2.2, (q_rn p g ((q_rn p g (s + 1) nm).2.1 + 1) (q_rn p g (s + 1) nm).2.2).2.2)
  else (true, (q_rn p g (s + 1) nm).2.1, q_od p g s, (q_rn p g (s + 1) nm).2.2, (q_rn p g (s + 1) nm).2.2, (q_rn p g (s + 1) nm).2.2)
theorem q_is_lt {p : Nat → Int32} {g s : Nat} (h : q_is (q_od p g s) = true) : s < g := by
  rcases Nat.lt_or_ge s g with z | z
  · exact z
  · rw [q_od, if_neg (by omega)] at h
    exact absurd h (by decide)
theorem q_ro_le {p : Nat → Int32} {g s : Nat} {rk rv nm : Int32} (hs : s ≤ g) : s ≤ (q_ro p g s rk rv nm).2.1 ∧ (q_ro p g s rk rv nm).2.1 ≤ g ∧ ((q_ro p g s rk rv nm).1 = true → s < (q_ro p g s rk rv nm).2.1) := by
  unfold q_ro
  split
  · exact ⟨Nat.le_refl _, hs, fun z => by cases z⟩
  next h =>
    have h1 := q_is_lt (y_tnf h)
    have h2 := q_rn_le (p := p) (g := g) (s := s + 1) (nm := nm) (by omega)
    split
    · exact ⟨by show s ≤ (q_rn p g (s + 1) nm).2.1; omega, h2.2.1, fun z => by cases z⟩
    · split
      next h3 =>
        have h4 := q_hr_lt h3.2
        have h5 := q_rn_le (p := p) (g := g) (s := (q_rn p g (s + 1) nm).2.1 + 1) (nm := (q_rn p g (s + 1) nm).2.2) (by omega)
        exact ⟨by dsimp only; omega, h5.2.1, fun _ => by dsimp only; omega⟩
      · exact ⟨by dsimp only; omega, h2.2.1, fun _ => by dsimp only; omega⟩
theorem q_rord {Z : Nat → Nat → Int32} {P : Nat → Nat} {L g : Nat} (hG : Z 131 10 = nI g) (hg : g ≤ 80) {od rk rv nm : Int32} {s : Nat} (hs : s ≤ 80) : m_r 145 [.ref 131] (hp (q_tx Z (nI s) od rk rv nm) P L) (some (.int (y_b (q_ro (Z 140) g s rk rv nm).1))) (hp (q_tx Z (nI (q_ro (Z 140) g s rk rv nm).2.1) (q_ro (Z 140) g s rk rv nm).2.2.1 (q_ro (Z 140) g s rk rv nm).2.2.2.1 (q_ro (Z 140) g s rk rv nm).2.2.2.2.1 (q_ro (Z 140) g s rk rv nm).2.2.2.2.2) P L) := by
  refine m_of (ls := [.ref 131, s_no]) hk_145 rfl rfl rfl ?_
  refine e_go hk_145 6 (c := (if s_cnd .ge (nI s) (Z 131 10) = true then 24 else 12, [.ref 131, s_no], [.ref 131], hp (q_tx Z (nI s) od rk rv nm) P L)) rfl ?_
  refine e_ge (a := 24) (b := 12) (x := nI s) (y := Z 131 10) (fun hc9 => ?_) (fun hc9 => ?_)
  · skip
    have hsg : ¬ s < g := fun z => by rw [hG, y_le (by omega) (by omega)] at hc9; omega
    refine e_go hk_145 2 (c := (28, [.ref 131, s_no], [], hp (s_upd (q_tx Z (nI s) od rk rv nm) 131 12 0) P L)) rfl ?_
    rw [q_tx_12]
    show e_r 145 28 [.ref 131, s_no] [] (hp (q_tx Z (nI s) 0 rk rv nm) P L) _ _
    rw [show 0 = q_od (Z 140) g s from by rw [q_od, if_neg hsg]]
    refine e_go hk_145 4 (c := (if s_cnd .eq (q_od (Z 140) g s) 43 = true then 57 else 37, [.ref 131, s_no], [], hp (q_tx Z (nI s) (q_od (Z 140) g s) rk rv nm) P L)) rfl ?_
    refine e_eq (a := 57) (b := 37) (x := q_od (Z 140) g s) (y := 43) (fun hc34 => ?_) (fun hc34 => ?_)
    · skip
      have hyes : ¬ q_is (q_od (Z 140) g s) = false := by rw [q_is, decide_eq_true (Or.inl hc34)]; decide
      have hsg2 : s < g := q_is_lt (y_tnf hyes)
      refine e_go hk_145 6 (c := (67, [.ref 131, s_no], [], hp (s_upd (q_tx Z (nI s) (q_od (Z 140) g s) rk rv nm) 131 11 ((nI s) + 1)) P L)) rfl ?_
      rw [q_tx_11]
      show e_r 145 67 [.ref 131, s_no] [] (hp (q_tx Z ((nI s) + 1) (q_od (Z 140) g s) rk rv nm) P L) _ _
      rw [nI_1]
      refine e_go hk_145 1 (c := (68, [.ref 131, s_no], [.ref 131], hp (q_tx Z (nI (s + 1)) (q_od (Z 140) g s) rk rv nm) P L)) rfl ?_
      refine e_call hk_145 (as := [.ref 131]) (rest := []) rfl rfl hk_144 rfl (Nat.le_of_ble_eq_true rfl) rfl (q_rnum hG hg (s := s + 1) (by omega)) ?_
      show e_r 145 71 [.ref 131, s_no] [.int (y_b (q_rn (Z 140) g (s + 1) nm).1)] (hp (q_tx Z (nI (q_rn (Z 140) g (s + 1) nm).2.1) (q_od (Z 140) g s) rk rv ((q_rn (Z 140) g (s + 1) nm).2.2)) P L) _ _
      refine e_go hk_145 1 (c := (if s_cnd .ne (y_b (q_rn (Z 140) g (s + 1) nm).1) 0 = true then 76 else 74, [.ref 131, s_no], [], hp (q_tx Z (nI (q_rn (Z 140) g (s + 1) nm).2.1) (q_od (Z 140) g s) rk rv ((q_rn (Z 140) g (s + 1) nm).2.2)) P L)) rfl ?_
      refine e_ne (a := 76) (b := 74) (x := y_b (q_rn (Z 140) g (s + 1) nm).1) (y := 0) (fun hc71 => ?_) (fun hc71 => ?_)
      · skip
        rw [y_b1] at hc71
        have hR := q_rn_le (p := Z 140) (g := g) (s := s + 1) (nm := nm) (by omega)
        refine e_go hk_145 4 (c := (84, [.ref 131, s_no], [], hp (s_upd (q_tx Z (nI (q_rn (Z 140) g (s + 1) nm).2.1) (q_od (Z 140) g s) rk rv ((q_rn (Z 140) g (s + 1) nm).2.2)) 131 13 ((q_rn (Z 140) g (s + 1) nm).2.2)) P L)) rfl ?_
        rw [q_tx_13]
        show e_r 145 84 [.ref 131, s_no] [] (hp (q_tx Z (nI (q_rn (Z 140) g (s + 1) nm).2.1) (q_od (Z 140) g s) ((q_rn (Z 140) g (s + 1) nm).2.2) rv ((q_rn (Z 140) g (s + 1) nm).2.2)) P L) _ _
        refine e_go hk_145 4 (c := (92, [.ref 131, s_no], [], hp (s_upd (q_tx Z (nI (q_rn (Z 140) g (s + 1) nm).2.1) (q_od (Z 140) g s) ((q_rn (Z 140) g (s + 1) nm).2.2) rv ((q_rn (Z 140) g (s + 1) nm).2.2)) 131 14 ((q_rn (Z 140) g (s + 1) nm).2.2)) P L)) rfl ?_
        rw [q_tx_14]
        show e_r 145 92 [.ref 131, s_no] [] (hp (q_tx Z (nI (q_rn (Z 140) g (s + 1) nm).2.1) (q_od (Z 140) g s) ((q_rn (Z 140) g (s + 1) nm).2.2) ((q_rn (Z 140) g (s + 1) nm).2.2) ((q_rn (Z 140) g (s + 1) nm).2.2)) P L) _ _
        refine e_go hk_145 4 (c := (if s_cnd .ne (q_od (Z 140) g s) 43 = true then 110 else 101, [.ref 131, s_no], [], hp (q_tx Z (nI (q_rn (Z 140) g (s + 1) nm).2.1) (q_od (Z 140) g s) ((q_rn (Z 140) g (s + 1) nm).2.2) ((q_rn (Z 140) g (s + 1) nm).2.2) ((q_rn (Z 140) g (s + 1) nm).2.2)) P L)) rfl ?_
        refine e_ne (a := 110) (b := 101) (x := q_od (Z 140) g s) (y := 43) (fun hc98 => ?_) (fun hc98 => ?_)
        · skip
          refine e_go hk_145 1 (c := (111, [.ref 131, s_no], [.int 1], hp (q_tx Z (nI (q_rn (Z 140) g (s + 1) nm).2.1) (q_od (Z 140) g s) ((q_rn (Z 140) g (s + 1) nm).2.2) ((q_rn (Z 140) g (s + 1) nm).2.2) ((q_rn (Z 140) g (s + 1) nm).2.2)) P L)) rfl ?_
          exact e_ret hk_145 rfl rfl rfl (by rw [q_ro, if_neg hyes, if_neg (by rw [hc71]; decide), if_neg (fun z => hc98 z.1)]; rfl) (by rw [q_ro, if_neg hyes, if_neg (by rw [hc71]; decide), if_neg (fun z => hc98 z.1)])
        · skip
          refine e_go hk_145 2 (c := (104, [.ref 131, s_no], [.int 61, .ref 131], hp (q_tx Z (nI (q_rn (Z 140) g (s + 1) nm).2.1) (q_od (Z 140) g s) ((q_rn (Z 140) g (s + 1) nm).2.2) ((q_rn (Z 140) g (s + 1) nm).2.2) ((q_rn (Z 140) g (s + 1) nm).2.2)) P L)) rfl ?_
          refine e_call hk_145 (as := [.ref 131, .int 61]) (rest := []) rfl rfl hk_143 rfl (Nat.le_of_ble_eq_true rfl) rfl (q_takesc hG hg (s := (q_rn (Z 140) g (s + 1) nm).2.1) (by omega)) ?_
          show e_r 145 107 [.ref 131, s_no] [.int (y_b (q_hr (Z 140) g (q_rn (Z 140) g (s + 1) nm).2.1 61 61))] (hp (q_tx Z (nI (if q_hr (Z 140) g (q_rn (Z 140) g (s + 1) nm).2.1 61 61 = true then (q_rn (Z 140) g (s + 1) nm).2.1 + 1 else (q_rn (Z 140) g (s + 1) nm).2.1)) (q_od (Z 140) g s) ((q_rn (Z 140) g (s + 1) nm).2.2) ((q_rn (Z 140) g (s + 1) nm).2.2) ((q_rn (Z 140) g (s + 1) nm).2.2)) P L) _ _
          refine e_go hk_145 1 (c := (if s_cnd .ne (y_b (q_hr (Z 140) g (q_rn (Z 140) g (s + 1) nm).2.1 61 61)) 0 = true then 112 else 110, [.ref 131, s_no], [], hp (q_tx Z (nI (if q_hr (Z 140) g (q_rn (Z 140) g (s + 1) nm).2.1 61 61 = true then (q_rn (Z 140) g (s + 1) nm).2.1 + 1 else (q_rn (Z 140) g (s + 1) nm).2.1)) (q_od (Z 140) g s) ((q_rn (Z 140) g (s + 1) nm).2.2) ((q_rn (Z 140) g (s + 1) nm).2.2) ((q_rn (Z 140) g (s + 1) nm).2.2)) P L)) rfl ?_
          refine e_ne (a := 112) (b := 110) (x := y_b (q_hr (Z 140) g (q_rn (Z 140) g (s + 1) nm).2.1 61 61)) (y := 0) (fun hc107 => ?_) (fun hc107 => ?_)
          · skip
            rw [y_b1] at hc107
            have hR2 := q_hr_lt hc107
            rw [if_pos hc107]
            refine e_go hk_145 1 (c := (113, [.ref 131, s_no], [.ref 131], hp (q_tx Z (nI ((q_rn (Z 140) g (s + 1) nm).2.1 + 1)) (q_od (Z 140) g s) ((q_rn (Z 140) g (s + 1) nm).2.2) ((q_rn (Z 140) g (s + 1) nm).2.2) ((q_rn (Z 140) g (s + 1) nm).2.2)) P L)) rfl ?_
            refine e_call hk_145 (as := [.ref 131]) (rest := []) rfl rfl hk_144 rfl (Nat.le_of_ble_eq_true rfl) rfl (q_rnum hG hg (s := (q_rn (Z 140) g (s + 1) nm).2.1 + 1) (by omega)) ?_
            show e_r 145 116 [.ref 131, s_no] [.int (y_b (q_rn (Z 140) g ((q_rn (Z 140) g (s + 1) nm).2.1 + 1) ((q_rn (Z 140) g (s + 1) nm).2.2)).1)] (hp (q_tx Z (nI (q_rn (Z 140) g ((q_rn (Z 140) g (s + 1) nm).2.1 + 1) ((q_rn (Z 140) g (s + 1) nm).2.2)).2.1) (q_od (Z 140) g s) ((q_rn (Z 140) g (s + 1) nm).2.2) ((q_rn (Z 140) g (s + 1) nm).2.2) ((q_rn (Z 140) g ((q_rn (Z 140) g (s + 1) nm).2.1 + 1) ((q_rn (Z 140) g (s + 1) nm).2.2)).2.2)) P L) _ _
            refine e_go hk_145 5 (c := (125, [.ref 131, .int (y_b (q_rn (Z 140) g ((q_rn (Z 140) g (s + 1) nm).2.1 + 1) ((q_rn (Z 140) g (s + 1) nm).2.2)).1)], [], hp (s_upd (q_tx Z (nI (q_rn (Z 140) g ((q_rn (Z 140) g (s + 1) nm).2.1 + 1) ((q_rn (Z 140) g (s + 1) nm).2.2)).2.1) (q_od (Z 140) g s) ((q_rn (Z 140) g (s + 1) nm).2.2) ((q_rn (Z 140) g (s + 1) nm).2.2) ((q_rn (Z 140) g ((q_rn (Z 140) g (s + 1) nm).2.1 + 1) ((q_rn (Z 140) g (s + 1) nm).2.2)).2.2)) 131 14 ((q_rn (Z 140) g ((q_rn (Z 140) g (s + 1) nm).2.1 + 1) ((q_rn (Z 140) g (s + 1) nm).2.2)).2.2)) P L)) rfl ?_
            rw [q_tx_14]
            show e_r 145 125 [.ref 131, .int (y_b (q_rn (Z 140) g ((q_rn (Z 140) g (s + 1) nm).2.1 + 1) ((q_rn (Z 140) g (s + 1) nm).2.2)).1)] [] (hp (q_tx Z (nI (q_rn (Z 140) g ((q_rn (Z 140) g (s + 1) nm).2.1 + 1) ((q_rn (Z 140) g (s + 1) nm).2.2)).2.1) (q_od (Z 140) g s) ((q_rn (Z 140) g (s + 1) nm).2.2) ((q_rn (Z 140) g ((q_rn (Z 140) g (s + 1) nm).2.1 + 1) ((q_rn (Z 140) g (s + 1) nm).2.2)).2.2) ((q_rn (Z 140) g ((q_rn (Z 140) g (s + 1) nm).2.1 + 1) ((q_rn (Z 140) g (s + 1) nm).2.2)).2.2)) P L) _ _
            refine e_go hk_145 1 (c := (126, [.ref 131, .int (y_b (q_rn (Z 140) g ((q_rn (Z 140) g (s + 1) nm).2.1 + 1) ((q_rn (Z 140) g (s + 1) nm).2.2)).1)], [.int (y_b (q_rn (Z 140) g ((q_rn (Z 140) g (s + 1) nm).2.1 + 1) ((q_rn (Z 140) g (s + 1) nm).2.2)).1)], hp (q_tx Z (nI (q_rn (Z 140) g ((q_rn (Z 140) g (s + 1) nm).2.1 + 1) ((q_rn (Z 140) g (s + 1) nm).2.2)).2.1) (q_od (Z 140) g s) ((q_rn (Z 140) g (s + 1) nm).2.2) ((q_rn (Z 140) g ((q_rn (Z 140) g (s + 1) nm).2.1 + 1) ((q_rn (Z 140) g (s + 1) nm).2.2)).2.2) ((q_rn (Z 140) g ((q_rn (Z 140) g (s + 1) nm).2.1 + 1) ((q_rn (Z 140) g (s + 1) nm).2.2)).2.2)) P L)) rfl ?_
            exact e_ret hk_145 rfl rfl s_rxz (by rw [q_ro, if_neg hyes, if_neg (by rw [hc71]; decide), if_pos ⟨hc98, hc107⟩]) (by rw [q_ro, if_neg hyes, if_neg (by rw [hc71]; decide), if_pos ⟨hc98, hc107⟩])
          · skip
            rw [y_b0] at hc107
            rw [if_neg (c := q_hr (Z 140) g (q_rn (Z 140) g (s + 1) nm).2.1 61 61 = true) (by rw [hc107]; decide)]
            refine e_go hk_145 1 (c := (111, [.ref 131, s_no], [.int 1], hp (q_tx Z (nI (q_rn (Z 140) g (s + 1) nm).2.1) (q_od (Z 140) g s) ((q_rn (Z 140) g (s + 1) nm).2.2) ((q_rn (Z 140) g (s + 1) nm).2.2) ((q_rn (Z 140) g (s + 1) nm).2.2)) P L)) rfl ?_
            exact e_ret hk_145 rfl rfl rfl (by rw [q_ro, if_neg hyes, if_neg (by rw [hc71]; decide), if_neg (fun z => by rw [hc107] at z; exact absurd z.2 (by decide))]; rfl) (by rw [q_ro, if_neg hyes, if_neg (by rw [hc71]; decide), if_neg (fun z => by rw [hc107] at z; exact absurd z.2 (by decide))])
      · skip
        rw [y_b0] at hc71
        refine e_go hk_145 1 (c := (75, [.ref 131, s_no], [.int 0], hp (q_tx Z (nI (q_rn (Z 140) g (s + 1) nm).2.1) (q_od (Z 140) g s) rk rv ((q_rn (Z 140) g (s + 1) nm).2.2)) P L)) rfl ?_
        exact e_ret hk_145 rfl rfl rfl (by rw [q_ro, if_neg hyes, if_pos hc71]; rfl) (by rw [q_ro, if_neg hyes, if_pos hc71])
    · skip
      refine e_go hk_145 4 (c := (if s_cnd .eq (q_od (Z 140) g s) 45 = true then 57 else 46, [.ref 131, s_no], [], hp (q_tx Z (nI s) (q_od (Z 140) g s) rk rv nm) P L)) rfl ?_
      refine e_eq (a := 57) (b := 46) (x := q_od (Z 140) g s) (y := 45) (fun hc43 => ?_) (fun hc43 => ?_)
      · skip
        have hyes : ¬ q_is (q_od (Z 140) g s) = false := by rw [q_is, decide_eq_true (Or.inr (Or.inl hc43))]; decide
        have hsg2 : s < g := q_is_lt (y_tnf hyes)
        refine e_go hk_145 6 (c := (67, [.ref 131, s_no], [], hp (s_upd (q_tx Z (nI s) (q_od (Z 140) g s) rk rv nm) 131 11 ((nI s) + 1)) P L)) rfl ?_
        rw [q_tx_11]
        show e_r 145 67 [.ref 131, s_no] [] (hp (q_tx Z ((nI s) + 1) (q_od (Z 140) g s) rk rv nm) P L) _ _
        rw [nI_1]
        refine e_go hk_145 1 (c := (68, [.ref 131, s_no], [.ref 131], hp (q_tx Z (nI (s + 1)) (q_od (Z 140) g s) rk rv nm) P L)) rfl ?_
        refine e_call hk_145 (as := [.ref 131]) (rest := []) rfl rfl hk_144 rfl (Nat.le_of_ble_eq_true rfl) rfl (q_rnum hG hg (s := s + 1) (by omega)) ?_
        show e_r 145 71 [.ref 131, s_no] [.int (y_b (q_rn (Z 140) g (s + 1) nm).1)] (hp (q_tx Z (nI (q_rn (Z 140) g (s + 1) nm).2.1) (q_od (Z 140) g s) rk rv ((q_rn (Z 140) g (s + 1) nm).2.2)) P L) _ _
        refine e_go hk_145 1 (c := (if s_cnd .ne (y_b (q_rn (Z 140) g (s + 1) nm).1) 0 = true then 76 else 74, [.ref 131, s_no], [], hp (q_tx Z (nI (q_rn (Z 140) g (s + 1) nm).2.1) (q_od (Z 140) g s) rk rv ((q_rn (Z 140) g (s + 1) nm).2.2)) P L)) rfl ?_
        refine e_ne (a := 76) (b := 74) (x := y_b (q_rn (Z 140) g (s + 1) nm).1) (y := 0) (fun hc71 => ?_) (fun hc71 => ?_)
        · skip
          rw [y_b1] at hc71
          have hR := q_rn_le (p := Z 140) (g := g) (s := s + 1) (nm := nm) (by omega)
          refine e_go hk_145 4 (c := (84, [.ref 131, s_no], [], hp (s_upd (q_tx Z (nI (q_rn (Z 140) g (s + 1) nm).2.1) (q_od (Z 140) g s) rk rv ((q_rn (Z 140) g (s + 1) nm).2.2)) 131 13 ((q_rn (Z 140) g (s + 1) nm).2.2)) P L)) rfl ?_
          rw [q_tx_13]
          show e_r 145 84 [.ref 131, s_no] [] (hp (q_tx Z (nI (q_rn (Z 140) g (s + 1) nm).2.1) (q_od (Z 140) g s) ((q_rn (Z 140) g (s + 1) nm).2.2) rv ((q_rn (Z 140) g (s + 1) nm).2.2)) P L) _ _
          refine e_go hk_145 4 (c := (92, [.ref 131, s_no], [], hp (s_upd (q_tx Z (nI (q_rn (Z 140) g (s + 1) nm).2.1) (q_od (Z 140) g s) ((q_rn (Z 140) g (s + 1) nm).2.2) rv ((q_rn (Z 140) g (s + 1) nm).2.2)) 131 14 ((q_rn (Z 140) g (s + 1) nm).2.2)) P L)) rfl ?_
          rw [q_tx_14]
          show e_r 145 92 [.ref 131, s_no] [] (hp (q_tx Z (nI (q_rn (Z 140) g (s + 1) nm).2.1) (q_od (Z 140) g s) ((q_rn (Z 140) g (s + 1) nm).2.2) ((q_rn (Z 140) g (s + 1) nm).2.2) ((q_rn (Z 140) g (s + 1) nm).2.2)) P L) _ _
          refine e_go hk_145 4 (c := (if s_cnd .ne (q_od (Z 140) g s) 43 = true then 110 else 101, [.ref 131, s_no], [], hp (q_tx Z (nI (q_rn (Z 140) g (s + 1) nm).2.1) (q_od (Z 140) g s) ((q_rn (Z 140) g (s + 1) nm).2.2) ((q_rn (Z 140) g (s + 1) nm).2.2) ((q_rn (Z 140) g (s + 1) nm).2.2)) P L)) rfl ?_
          refine e_ne (a := 110) (b := 101) (x := q_od (Z 140) g s) (y := 43) (fun hc98 => ?_) (fun hc98 => ?_)
          · skip
            refine e_go hk_145 1 (c := (111, [.ref 131, s_no], [.int 1], hp (q_tx Z (nI (q_rn (Z 140) g (s + 1) nm).2.1) (q_od (Z 140) g s) ((q_rn (Z 140) g (s + 1) nm).2.2) ((q_rn (Z 140) g (s + 1) nm).2.2) ((q_rn (Z 140) g (s + 1) nm).2.2)) P L)) rfl ?_
            exact e_ret hk_145 rfl rfl rfl (by rw [q_ro, if_neg hyes, if_neg (by rw [hc71]; decide), if_neg (fun z => hc98 z.1)]; rfl) (by rw [q_ro, if_neg hyes, if_neg (by rw [hc71]; decide), if_neg (fun z => hc98 z.1)])
          · skip
            refine e_go hk_145 2 (c := (104, [.ref 131, s_no], [.int 61, .ref 131], hp (q_tx Z (nI (q_rn (Z 140) g (s + 1) nm).2.1) (q_od (Z 140) g s) ((q_rn (Z 140) g (s + 1) nm).2.2) ((q_rn (Z 140) g (s + 1) nm).2.2) ((q_rn (Z 140) g (s + 1) nm).2.2)) P L)) rfl ?_
            refine e_call hk_145 (as := [.ref 131, .int 61]) (rest := []) rfl rfl hk_143 rfl (Nat.le_of_ble_eq_true rfl) rfl (q_takesc hG hg (s := (q_rn (Z 140) g (s + 1) nm).2.1) (by omega)) ?_
            show e_r 145 107 [.ref 131, s_no] [.int (y_b (q_hr (Z 140) g (q_rn (Z 140) g (s + 1) nm).2.1 61 61))] (hp (q_tx Z (nI (if q_hr (Z 140) g (q_rn (Z 140) g (s + 1) nm).2.1 61 61 = true then (q_rn (Z 140) g (s + 1) nm).2.1 + 1 else (q_rn (Z 140) g (s + 1) nm).2.1)) (q_od (Z 140) g s) ((q_rn (Z 140) g (s + 1) nm).2.2) ((q_rn (Z 140) g (s + 1) nm).2.2) ((q_rn (Z 140) g (s + 1) nm).2.2)) P L) _ _
            refine e_go hk_145 1 (c := (if s_cnd .ne (y_b (q_hr (Z 140) g (q_rn (Z 140) g (s + 1) nm).2.1 61 61)) 0 = true then 112 else 110, [.ref 131, s_no], [], hp (q_tx Z (nI (if q_hr (Z 140) g (q_rn (Z 140) g (s + 1) nm).2.1 61 61 = true then (q_rn (Z 140) g (s + 1) nm).2.1 + 1 else (q_rn (Z 140) g (s + 1) nm).2.1)) (q_od (Z 140) g s) ((q_rn (Z 140) g (s + 1) nm).2.2) ((q_rn (Z 140) g (s + 1) nm).2.2) ((q_rn (Z 140) g (s + 1) nm).2.2)) P L)) rfl ?_
            refine e_ne (a := 112) (b := 110) (x := y_b (q_hr (Z 140) g (q_rn (Z 140) g (s + 1) nm).2.1 61 61)) (y := 0) (fun hc107 => ?_) (fun hc107 => ?_)
            · skip
              rw [y_b1] at hc107
              have hR2 := q_hr_lt hc107
              rw [if_pos hc107]
              refine e_go hk_145 1 (c := (113, [.ref 131, s_no], [.ref 131], hp (q_tx Z (nI ((q_rn (Z 140) g (s + 1) nm).2.1 + 1)) (q_od (Z 140) g s) ((q_rn (Z 140) g (s + 1) nm).2.2) ((q_rn (Z 140) g (s + 1) nm).2.2) ((q_rn (Z 140) g (s + 1) nm).2.2)) P L)) rfl ?_
              refine e_call hk_145 (as := [.ref 131]) (rest := []) rfl rfl hk_144 rfl (Nat.le_of_ble_eq_true rfl) rfl (q_rnum hG hg (s := (q_rn (Z 140) g (s + 1) nm).2.1 + 1) (by omega)) ?_
              show e_r 145 116 [.ref 131, s_no] [.int (y_b (q_rn (Z 140) g ((q_rn (Z 140) g (s + 1) nm).2.1 + 1) ((q_rn (Z 140) g (s + 1) nm).2.2)).1)] (hp (q_tx Z (nI (q_rn (Z 140) g ((q_rn (Z 140) g (s + 1) nm).2.1 + 1) ((q_rn (Z 140) g (s + 1) nm).2.2)).2.1) (q_od (Z 140) g s) ((q_rn (Z 140) g (s + 1) nm).2.2) ((q_rn (Z 140) g (s + 1) nm).2.2) ((q_rn (Z 140) g ((q_rn (Z 140) g (s + 1) nm).2.1 + 1) ((q_rn (Z 140) g (s + 1) nm).2.2)).2.2)) P L) _ _
              refine e_go hk_145 5 (c := (125, [.ref 131, .int (y_b (q_rn (Z 140) g ((q_rn (Z 140) g (s + 1) nm).2.1 + 1) ((q_rn (Z 140) g (s + 1) nm).2.2)).1)], [], hp (s_upd (q_tx Z (nI (q_rn (Z 140) g ((q_rn (Z 140) g (s + 1) nm).2.1 + 1) ((q_rn (Z 140) g (s + 1) nm).2.2)).2.1) (q_od (Z 140) g s) ((q_rn (Z 140) g (s + 1) nm).2.2) ((q_rn (Z 140) g (s + 1) nm).2.2) ((q_rn (Z 140) g ((q_rn (Z 140) g (s + 1) nm).2.1 + 1) ((q_rn (Z 140) g (s + 1) nm).2.2)).2.2)) 131 14 ((q_rn (Z 140) g ((q_rn (Z 140) g (s + 1) nm).2.1 + 1) ((q_rn (Z 140) g (s + 1) nm).2.2)).2.2)) P L)) rfl ?_
              rw [q_tx_14]
              show e_r 145 125 [.ref 131, .int (y_b (q_rn (Z 140) g ((q_rn (Z 140) g (s + 1) nm).2.1 + 1) ((q_rn (Z 140) g (s + 1) nm).2.2)).1)] [] (hp (q_tx Z (nI (q_rn (Z 140) g ((q_rn (Z 140) g (s + 1) nm).2.1 + 1) ((q_rn (Z 140) g (s + 1) nm).2.2)).2.1) (q_od (Z 140) g s) ((q_rn (Z 140) g (s + 1) nm).2.2) ((q_rn (Z 140) g ((q_rn (Z 140) g (s + 1) nm).2.1 + 1) ((q_rn (Z 140) g (s + 1) nm).2.2)).2.2) ((q_rn (Z 140) g ((q_rn (Z 140) g (s + 1) nm).2.1 + 1) ((q_rn (Z 140) g (s + 1) nm).2.2)).2.2)) P L) _ _
              refine e_go hk_145 1 (c := (126, [.ref 131, .int (y_b (q_rn (Z 140) g ((q_rn (Z 140) g (s + 1) nm).2.1 + 1) ((q_rn (Z 140) g (s + 1) nm).2.2)).1)], [.int (y_b (q_rn (Z 140) g ((q_rn (Z 140) g (s + 1) nm).2.1 + 1) ((q_rn (Z 140) g (s + 1) nm).2.2)).1)], hp (q_tx Z (nI (q_rn (Z 140) g ((q_rn (Z 140) g (s + 1) nm).2.1 + 1) ((q_rn (Z 140) g (s + 1) nm).2.2)).2.1) (q_od (Z 140) g s) ((q_rn (Z 140) g (s + 1) nm).2.2) ((q_rn (Z 140) g ((q_rn (Z 140) g (s + 1) nm).2.1 + 1) ((q_rn (Z 140) g (s + 1) nm).2.2)).2.2) ((q_rn (Z 140) g ((q_rn (Z 140) g (s + 1) nm).2.1 + 1) ((q_rn (Z 140) g (s + 1) nm).2.2)).2.2)) P L)) rfl ?_
              exact e_ret hk_145 rfl rfl s_rxz (by rw [q_ro, if_neg hyes, if_neg (by rw [hc71]; decide), if_pos ⟨hc98, hc107⟩]) (by rw [q_ro, if_neg hyes, if_neg (by rw [hc71]; decide), if_pos ⟨hc98, hc107⟩])
            · skip
              rw [y_b0] at hc107
              rw [if_neg (c := q_hr (Z 140) g (q_rn (Z 140) g (s + 1) nm).2.1 61 61 = true) (by rw [hc107]; decide)]
              refine e_go hk_145 1 (c := (111, [.ref 131, s_no], [.int 1], hp (q_tx Z (nI (q_rn (Z 140) g (s + 1) nm).2.1) (q_od (Z 140) g s) ((q_rn (Z 140) g (s + 1) nm).2.2) ((q_rn (Z 140) g (s + 1) nm).2.2) ((q_rn (Z 140) g (s + 1) nm).2.2)) P L)) rfl ?_
              exact e_ret hk_145 rfl rfl rfl (by rw [q_ro, if_neg hyes, if_neg (by rw [hc71]; decide), if_neg (fun z => by rw [hc107] at z; exact absurd z.2 (by decide))]; rfl) (by rw [q_ro, if_neg hyes, if_neg (by rw [hc71]; decide), if_neg (fun z => by rw [hc107] at z; exact absurd z.2 (by decide))])
        · skip
          rw [y_b0] at hc71
          refine e_go hk_145 1 (c := (75, [.ref 131, s_no], [.int 0], hp (q_tx Z (nI (q_rn (Z 140) g (s + 1) nm).2.1) (q_od (Z 140) g s) rk rv ((q_rn (Z 140) g (s + 1) nm).2.2)) P L)) rfl ?_
          exact e_ret hk_145 rfl rfl rfl (by rw [q_ro, if_neg hyes, if_pos hc71]; rfl) (by rw [q_ro, if_neg hyes, if_pos hc71])
      · skip
        refine e_go hk_145 4 (c := (if s_cnd .eq (q_od (Z 140) g s) 33 = true then 57 else 55, [.ref 131, s_no], [], hp (q_tx Z (nI s) (q_od (Z 140) g s) rk rv nm) P L)) rfl ?_
        refine e_eq (a := 57) (b := 55) (x := q_od (Z 140) g s) (y := 33) (fun hc52 => ?_) (fun hc52 => ?_)
        · skip
          have hyes : ¬ q_is (q_od (Z 140) g s) = false := by rw [q_is, decide_eq_true (Or.inr (Or.inr hc52))]; decide
          have hsg2 : s < g := q_is_lt (y_tnf hyes)
          refine e_go hk_145 6 (c := (67, [.ref 131, s_no], [], hp (s_upd (q_tx Z (nI s) (q_od (Z 140) g s) rk rv nm) 131 11 ((nI s) + 1)) P L)) rfl ?_
          rw [q_tx_11]
          show e_r 145 67 [.ref 131, s_no] [] (hp (q_tx Z ((nI s) + 1) (q_od (Z 140) g s) rk rv nm) P L) _ _
          rw [nI_1]
          refine e_go hk_145 1 (c := (68, [.ref 131, s_no], [.ref 131], hp (q_tx Z (nI (s + 1)) (q_od (Z 140) g s) rk rv nm) P L)) rfl ?_
          refine e_call hk_145 (as := [.ref 131]) (rest := []) rfl rfl hk_144 rfl (Nat.le_of_ble_eq_true rfl) rfl (q_rnum hG hg (s := s + 1) (by omega)) ?_
          show e_r 145 71 [.ref 131, s_no] [.int (y_b (q_rn (Z 140) g (s + 1) nm).1)] (hp (q_tx Z (nI (q_rn (Z 140) g (s + 1) nm).2.1) (q_od (Z 140) g s) rk rv ((q_rn (Z 140) g (s + 1) nm).2.2)) P L) _ _
          refine e_go hk_145 1 (c := (if s_cnd .ne (y_b (q_rn (Z 140) g (s + 1) nm).1) 0 = true then 76 else 74, [.ref 131, s_no], [], hp (q_tx Z (nI (q_rn (Z 140) g (s + 1) nm).2.1) (q_od (Z 140) g s) rk rv ((q_rn (Z 140) g (s + 1) nm).2.2)) P L)) rfl ?_
          refine e_ne (a := 76) (b := 74) (x := y_b (q_rn (Z 140) g (s + 1) nm).1) (y := 0) (fun hc71 => ?_) (fun hc71 => ?_)
          · skip
            rw [y_b1] at hc71
            have hR := q_rn_le (p := Z 140) (g := g) (s := s + 1) (nm := nm) (by omega)
            refine e_go hk_145 4 (c := (84, [.ref 131, s_no], [], hp (s_upd (q_tx Z (nI (q_rn (Z 140) g (s + 1) nm).2.1) (q_od (Z 140) g s) rk rv ((q_rn (Z 140) g (s + 1) nm).2.2)) 131 13 ((q_rn (Z 140) g (s + 1) nm).2.2)) P L)) rfl ?_
            rw [q_tx_13]
            show e_r 145 84 [.ref 131, s_no] [] (hp (q_tx Z (nI (q_rn (Z 140) g (s + 1) nm).2.1) (q_od (Z 140) g s) ((q_rn (Z 140) g (s + 1) nm).2.2) rv ((q_rn (Z 140) g (s + 1) nm).2.2)) P L) _ _
            refine e_go hk_145 4 (c := (92, [.ref 131, s_no], [], hp (s_upd (q_tx Z (nI (q_rn (Z 140) g (s + 1) nm).2.1) (q_od (Z 140) g s) ((q_rn (Z 140) g (s + 1) nm).2.2) rv ((q_rn (Z 140) g (s + 1) nm).2.2)) 131 14 ((q_rn (Z 140) g (s + 1) nm).2.2)) P L)) rfl ?_
            rw [q_tx_14]
            show e_r 145 92 [.ref 131, s_no] [] (hp (q_tx Z (nI (q_rn (Z 140) g (s + 1) nm).2.1) (q_od (Z 140) g s) ((q_rn (Z 140) g (s + 1) nm).2.2) ((q_rn (Z 140) g (s + 1) nm).2.2) ((q_rn (Z 140) g (s + 1) nm).2.2)) P L) _ _
            refine e_go hk_145 4 (c := (if s_cnd .ne (q_od (Z 140) g s) 43 = true then 110 else 101, [.ref 131, s_no], [], hp (q_tx Z (nI (q_rn (Z 140) g (s + 1) nm).2.1) (q_od (Z 140) g s) ((q_rn (Z 140) g (s + 1) nm).2.2) ((q_rn (Z 140) g (s + 1) nm).2.2) ((q_rn (Z 140) g (s + 1) nm).2.2)) P L)) rfl ?_
            refine e_ne (a := 110) (b := 101) (x := q_od (Z 140) g s) (y := 43) (fun hc98 => ?_) (fun hc98 => ?_)
            · skip
              refine e_go hk_145 1 (c := (111, [.ref 131, s_no], [.int 1], hp (q_tx Z (nI (q_rn (Z 140) g (s + 1) nm).2.1) (q_od (Z 140) g s) ((q_rn (Z 140) g (s + 1) nm).2.2) ((q_rn (Z 140) g (s + 1) nm).2.2) ((q_rn (Z 140) g (s + 1) nm).2.2)) P L)) rfl ?_
              exact e_ret hk_145 rfl rfl rfl (by rw [q_ro, if_neg hyes, if_neg (by rw [hc71]; decide), if_neg (fun z => hc98 z.1)]; rfl) (by rw [q_ro, if_neg hyes, if_neg (by rw [hc71]; decide), if_neg (fun z => hc98 z.1)])
            · skip
              refine e_go hk_145 2 (c := (104, [.ref 131, s_no], [.int 61, .ref 131], hp (q_tx Z (nI (q_rn (Z 140) g (s + 1) nm).2.1) (q_od (Z 140) g s) ((q_rn (Z 140) g (s + 1) nm).2.2) ((q_rn (Z 140) g (s + 1) nm).2.2) ((q_rn (Z 140) g (s + 1) nm).2.2)) P L)) rfl ?_
              refine e_call hk_145 (as := [.ref 131, .int 61]) (rest := []) rfl rfl hk_143 rfl (Nat.le_of_ble_eq_true rfl) rfl (q_takesc hG hg (s := (q_rn (Z 140) g (s + 1) nm).2.1) (by omega)) ?_
              show e_r 145 107 [.ref 131, s_no] [.int (y_b (q_hr (Z 140) g (q_rn (Z 140) g (s + 1) nm).2.1 61 61))] (hp (q_tx Z (nI (if q_hr (Z 140) g (q_rn (Z 140) g (s + 1) nm).2.1 61 61 = true then (q_rn (Z 140) g (s + 1) nm).2.1 + 1 else (q_rn (Z 140) g (s + 1) nm).2.1)) (q_od (Z 140) g s) ((q_rn (Z 140) g (s + 1) nm).2.2) ((q_rn (Z 140) g (s + 1) nm).2.2) ((q_rn (Z 140) g (s + 1) nm).2.2)) P L) _ _
              refine e_go hk_145 1 (c := (if s_cnd .ne (y_b (q_hr (Z 140) g (q_rn (Z 140) g (s + 1) nm).2.1 61 61)) 0 = true then 112 else 110, [.ref 131, s_no], [], hp (q_tx Z (nI (if q_hr (Z 140) g (q_rn (Z 140) g (s + 1) nm).2.1 61 61 = true then (q_rn (Z 140) g (s + 1) nm).2.1 + 1 else (q_rn (Z 140) g (s + 1) nm).2.1)) (q_od (Z 140) g s) ((q_rn (Z 140) g (s + 1) nm).2.2) ((q_rn (Z 140) g (s + 1) nm).2.2) ((q_rn (Z 140) g (s + 1) nm).2.2)) P L)) rfl ?_
              refine e_ne (a := 112) (b := 110) (x := y_b (q_hr (Z 140) g (q_rn (Z 140) g (s + 1) nm).2.1 61 61)) (y := 0) (fun hc107 => ?_) (fun hc107 => ?_)
              · skip
                rw [y_b1] at hc107
                have hR2 := q_hr_lt hc107
                rw [if_pos hc107]
                refine e_go hk_145 1 (c := (113, [.ref 131, s_no], [.ref 131], hp (q_tx Z (nI ((q_rn (Z 140) g (s + 1) nm).2.1 + 1)) (q_od (Z 140) g s) ((q_rn (Z 140) g (s + 1) nm).2.2) ((q_rn (Z 140) g (s + 1) nm).2.2) ((q_rn (Z 140) g (s + 1) nm).2.2)) P L)) rfl ?_
                refine e_call hk_145 (as := [.ref 131]) (rest := []) rfl rfl hk_144 rfl (Nat.le_of_ble_eq_true rfl) rfl (q_rnum hG hg (s := (q_rn (Z 140) g (s + 1) nm).2.1 + 1) (by omega)) ?_
                show e_r 145 116 [.ref 131, s_no] [.int (y_b (q_rn (Z 140) g ((q_rn (Z 140) g (s + 1) nm).2.1 + 1) ((q_rn (Z 140) g (s + 1) nm).2.2)).1)] (hp (q_tx Z (nI (q_rn (Z 140) g ((q_rn (Z 140) g (s + 1) nm).2.1 + 1) ((q_rn (Z 140) g (s + 1) nm).2.2)).2.1) (q_od (Z 140) g s) ((q_rn (Z 140) g (s + 1) nm).2.2) ((q_rn (Z 140) g (s + 1) nm).2.2) ((q_rn (Z 140) g ((q_rn (Z 140) g (s + 1) nm).2.1 + 1) ((q_rn (Z 140) g (s + 1) nm).2.2)).2.2)) P L) _ _
                refine e_go hk_145 5 (c := (125, [.ref 131, .int (y_b (q_rn (Z 140) g ((q_rn (Z 140) g (s + 1) nm).2.1 + 1) ((q_rn (Z 140) g (s + 1) nm).2.2)).1)], [], hp (s_upd (q_tx Z (nI (q_rn (Z 140) g ((q_rn (Z 140) g (s + 1) nm).2.1 + 1) ((q_rn (Z 140) g (s + 1) nm).2.2)).2.1) (q_od (Z 140) g s) ((q_rn (Z 140) g (s + 1) nm).2.2) ((q_rn (Z 140) g (s + 1) nm).2.2) ((q_rn (Z 140) g ((q_rn (Z 140) g (s + 1) nm).2.1 + 1) ((q_rn (Z 140) g (s + 1) nm).2.2)).2.2)) 131 14 ((q_rn (Z 140) g ((q_rn (Z 140) g (s + 1) nm).2.1 + 1) ((q_rn (Z 140) g (s + 1) nm).2.2)).2.2)) P L)) rfl ?_
                rw [q_tx_14]
                show e_r 145 125 [.ref 131, .int (y_b (q_rn (Z 140) g ((q_rn (Z 140) g (s + 1) nm).2.1 + 1) ((q_rn (Z 140) g (s + 1) nm).2.2)).1)] [] (hp (q_tx Z (nI (q_rn (Z 140) g ((q_rn (Z 140) g (s + 1) nm).2.1 + 1) ((q_rn (Z 140) g (s + 1) nm).2.2)).2.1) (q_od (Z 140) g s) ((q_rn (Z 140) g (s + 1) nm).2.2) ((q_rn (Z 140) g ((q_rn (Z 140) g (s + 1) nm).2.1 + 1) ((q_rn (Z 140) g (s + 1) nm).2.2)).2.2) ((q_rn (Z 140) g ((q_rn (Z 140) g (s + 1) nm).2.1 + 1) ((q_rn (Z 140) g (s + 1) nm).2.2)).2.2)) P L) _ _
                refine e_go hk_145 1 (c := (126, [.ref 131, .int (y_b (q_rn (Z 140) g ((q_rn (Z 140) g (s + 1) nm).2.1 + 1) ((q_rn (Z 140) g (s + 1) nm).2.2)).1)], [.int (y_b (q_rn (Z 140) g ((q_rn (Z 140) g (s + 1) nm).2.1 + 1) ((q_rn (Z 140) g (s + 1) nm).2.2)).1)], hp (q_tx Z (nI (q_rn (Z 140) g ((q_rn (Z 140) g (s + 1) nm).2.1 + 1) ((q_rn (Z 140) g (s + 1) nm).2.2)).2.1) (q_od (Z 140) g s) ((q_rn (Z 140) g (s + 1) nm).2.2) ((q_rn (Z 140) g ((q_rn (Z 140) g (s + 1) nm).2.1 + 1) ((q_rn (Z 140) g (s + 1) nm).2.2)).2.2) ((q_rn (Z 140) g ((q_rn (Z 140) g (s + 1) nm).2.1 + 1) ((q_rn (Z 140) g (s + 1) nm).2.2)).2.2)) P L)) rfl ?_
                exact e_ret hk_145 rfl rfl s_rxz (by rw [q_ro, if_neg hyes, if_neg (by rw [hc71]; decide), if_pos ⟨hc98, hc107⟩]) (by rw [q_ro, if_neg hyes, if_neg (by rw [hc71]; decide), if_pos ⟨hc98, hc107⟩])
              · skip
                rw [y_b0] at hc107
                rw [if_neg (c := q_hr (Z 140) g (q_rn (Z 140) g (s + 1) nm).2.1 61 61 = true) (by rw [hc107]; decide)]
                refine e_go hk_145 1 (c := (111, [.ref 131, s_no], [.int 1], hp (q_tx Z (nI (q_rn (Z 140) g (s + 1) nm).2.1) (q_od (Z 140) g s) ((q_rn (Z 140) g (s + 1) nm).2.2) ((q_rn (Z 140) g (s + 1) nm).2.2) ((q_rn (Z 140) g (s + 1) nm).2.2)) P L)) rfl ?_
                exact e_ret hk_145 rfl rfl rfl (by rw [q_ro, if_neg hyes, if_neg (by rw [hc71]; decide), if_neg (fun z => by rw [hc107] at z; exact absurd z.2 (by decide))]; rfl) (by rw [q_ro, if_neg hyes, if_neg (by rw [hc71]; decide), if_neg (fun z => by rw [hc107] at z; exact absurd z.2 (by decide))])
          · skip
            rw [y_b0] at hc71
            refine e_go hk_145 1 (c := (75, [.ref 131, s_no], [.int 0], hp (q_tx Z (nI (q_rn (Z 140) g (s + 1) nm).2.1) (q_od (Z 140) g s) rk rv ((q_rn (Z 140) g (s + 1) nm).2.2)) P L)) rfl ?_
            exact e_ret hk_145 rfl rfl rfl (by rw [q_ro, if_neg hyes, if_pos hc71]; rfl) (by rw [q_ro, if_neg hyes, if_pos hc71])
        · skip
          have hno : q_is (q_od (Z 140) g s) = false := by rw [q_is, decide_eq_false (fun z => z.elim hc34 (fun z => z.elim hc43 hc52))]
          refine e_go hk_145 1 (c := (56, [.ref 131, s_no], [.int 0], hp (q_tx Z (nI s) (q_od (Z 140) g s) rk rv nm) P L)) rfl ?_
          exact e_ret hk_145 rfl rfl rfl (by rw [q_ro, if_pos hno]; rfl) (by rw [q_ro, if_pos hno])
  · skip
    have hsg : s < g := by rw [hG, y_le (by omega) (by omega)] at hc9; omega
    refine e_go hk_145 4 (c := (20, [.ref 131, s_no], [.int (nI s), .ref 140, .ref 131], hp (q_tx Z (nI s) od rk rv nm) P L)) rfl ?_
    refine e_ald hk_145 (a := 140) (j := s) (n := 80) rfl rfl rfl (by omega) (by decide) ?_
    show e_r 145 21 [.ref 131, s_no] [.int (Z 140 s), .ref 131] (hp (q_tx Z (nI s) od rk rv nm) P L) _ _
    refine e_go hk_145 2 (c := (28, [.ref 131, s_no], [], hp (s_upd (q_tx Z (nI s) od rk rv nm) 131 12 (Z 140 s)) P L)) rfl ?_
    rw [q_tx_12]
    show e_r 145 28 [.ref 131, s_no] [] (hp (q_tx Z (nI s) (Z 140 s) rk rv nm) P L) _ _
    rw [show (Z 140 s) = q_od (Z 140) g s from by rw [q_od, if_pos hsg]]
    refine e_go hk_145 4 (c := (if s_cnd .eq (q_od (Z 140) g s) 43 = true then 57 else 37, [.ref 131, s_no], [], hp (q_tx Z (nI s) (q_od (Z 140) g s) rk rv nm) P L)) rfl ?_
    refine e_eq (a := 57) (b := 37) (x := q_od (Z 140) g s) (y := 43) (fun hc34 => ?_) (fun hc34 => ?_)
    · skip
      have hyes : ¬ q_is (q_od (Z 140) g s) = false := by rw [q_is, decide_eq_true (Or.inl hc34)]; decide
      have hsg2 : s < g := q_is_lt (y_tnf hyes)
      refine e_go hk_145 6 (c := (67, [.ref 131, s_no], [], hp (s_upd (q_tx Z (nI s) (q_od (Z 140) g s) rk rv nm) 131 11 ((nI s) + 1)) P L)) rfl ?_
      rw [q_tx_11]
      show e_r 145 67 [.ref 131, s_no] [] (hp (q_tx Z ((nI s) + 1) (q_od (Z 140) g s) rk rv nm) P L) _ _
      rw [nI_1]
      refine e_go hk_145 1 (c := (68, [.ref 131, s_no], [.ref 131], hp (q_tx Z (nI (s + 1)) (q_od (Z 140) g s) rk rv nm) P L)) rfl ?_
      refine e_call hk_145 (as := [.ref 131]) (rest := []) rfl rfl hk_144 rfl (Nat.le_of_ble_eq_true rfl) rfl (q_rnum hG hg (s := s + 1) (by omega)) ?_
      show e_r 145 71 [.ref 131, s_no] [.int (y_b (q_rn (Z 140) g (s + 1) nm).1)] (hp (q_tx Z (nI (q_rn (Z 140) g (s + 1) nm).2.1) (q_od (Z 140) g s) rk rv ((q_rn (Z 140) g (s + 1) nm).2.2)) P L) _ _
      refine e_go hk_145 1 (c := (if s_cnd .ne (y_b (q_rn (Z 140) g (s + 1) nm).1) 0 = true then 76 else 74, [.ref 131, s_no], [], hp (q_tx Z (nI (q_rn (Z 140) g (s + 1) nm).2.1) (q_od (Z 140) g s) rk rv ((q_rn (Z 140) g (s + 1) nm).2.2)) P L)) rfl ?_
      refine e_ne (a := 76) (b := 74) (x := y_b (q_rn (Z 140) g (s + 1) nm).1) (y := 0) (fun hc71 => ?_) (fun hc71 => ?_)
      · skip
        rw [y_b1] at hc71
        have hR := q_rn_le (p := Z 140) (g := g) (s := s + 1) (nm := nm) (by omega)
        refine e_go hk_145 4 (c := (84, [.ref 131, s_no], [], hp (s_upd (q_tx Z (nI (q_rn (Z 140) g (s + 1) nm).2.1) (q_od (Z 140) g s) rk rv ((q_rn (Z 140) g (s + 1) nm).2.2)) 131 13 ((q_rn (Z 140) g (s + 1) nm).2.2)) P L)) rfl ?_
        rw [q_tx_13]
        show e_r 145 84 [.ref 131, s_no] [] (hp (q_tx Z (nI (q_rn (Z 140) g (s + 1) nm).2.1) (q_od (Z 140) g s) ((q_rn (Z 140) g (s + 1) nm).2.2) rv ((q_rn (Z 140) g (s + 1) nm).2.2)) P L) _ _
        refine e_go hk_145 4 (c := (92, [.ref 131, s_no], [], hp (s_upd (q_tx Z (nI (q_rn (Z 140) g (s + 1) nm).2.1) (q_od (Z 140) g s) ((q_rn (Z 140) g (s + 1) nm).2.2) rv ((q_rn (Z 140) g (s + 1) nm).2.2)) 131 14 ((q_rn (Z 140) g (s + 1) nm).2.2)) P L)) rfl ?_
        rw [q_tx_14]
        show e_r 145 92 [.ref 131, s_no] [] (hp (q_tx Z (nI (q_rn (Z 140) g (s + 1) nm).2.1) (q_od (Z 140) g s) ((q_rn (Z 140) g (s + 1) nm).2.2) ((q_rn (Z 140) g (s + 1) nm).2.2) ((q_rn (Z 140) g (s + 1) nm).2.2)) P L) _ _
        refine e_go hk_145 4 (c := (if s_cnd .ne (q_od (Z 140) g s) 43 = true then 110 else 101, [.ref 131, s_no], [], hp (q_tx Z (nI (q_rn (Z 140) g (s + 1) nm).2.1) (q_od (Z 140) g s) ((q_rn (Z 140) g (s + 1) nm).2.2) ((q_rn (Z 140) g (s + 1) nm).2.2) ((q_rn (Z 140) g (s + 1) nm).2.2)) P L)) rfl ?_
        refine e_ne (a := 110) (b := 101) (x := q_od (Z 140) g s) (y := 43) (fun hc98 => ?_) (fun hc98 => ?_)
        · skip
          refine e_go hk_145 1 (c := (111, [.ref 131, s_no], [.int 1], hp (q_tx Z (nI (q_rn (Z 140) g (s + 1) nm).2.1) (q_od (Z 140) g s) ((q_rn (Z 140) g (s + 1) nm).2.2) ((q_rn (Z 140) g (s + 1) nm).2.2) ((q_rn (Z 140) g (s + 1) nm).2.2)) P L)) rfl ?_
          exact e_ret hk_145 rfl rfl rfl (by rw [q_ro, if_neg hyes, if_neg (by rw [hc71]; decide), if_neg (fun z => hc98 z.1)]; rfl) (by rw [q_ro, if_neg hyes, if_neg (by rw [hc71]; decide), if_neg (fun z => hc98 z.1)])
        · skip
          refine e_go hk_145 2 (c := (104, [.ref 131, s_no], [.int 61, .ref 131], hp (q_tx Z (nI (q_rn (Z 140) g (s + 1) nm).2.1) (q_od (Z 140) g s) ((q_rn (Z 140) g (s + 1) nm).2.2) ((q_rn (Z 140) g (s + 1) nm).2.2) ((q_rn (Z 140) g (s + 1) nm).2.2)) P L)) rfl ?_
          refine e_call hk_145 (as := [.ref 131, .int 61]) (rest := []) rfl rfl hk_143 rfl (Nat.le_of_ble_eq_true rfl) rfl (q_takesc hG hg (s := (q_rn (Z 140) g (s + 1) nm).2.1) (by omega)) ?_
          show e_r 145 107 [.ref 131, s_no] [.int (y_b (q_hr (Z 140) g (q_rn (Z 140) g (s + 1) nm).2.1 61 61))] (hp (q_tx Z (nI (if q_hr (Z 140) g (q_rn (Z 140) g (s + 1) nm).2.1 61 61 = true then (q_rn (Z 140) g (s + 1) nm).2.1 + 1 else (q_rn (Z 140) g (s + 1) nm).2.1)) (q_od (Z 140) g s) ((q_rn (Z 140) g (s + 1) nm).2.2) ((q_rn (Z 140) g (s + 1) nm).2.2) ((q_rn (Z 140) g (s + 1) nm).2.2)) P L) _ _
          refine e_go hk_145 1 (c := (if s_cnd .ne (y_b (q_hr (Z 140) g (q_rn (Z 140) g (s + 1) nm).2.1 61 61)) 0 = true then 112 else 110, [.ref 131, s_no], [], hp (q_tx Z (nI (if q_hr (Z 140) g (q_rn (Z 140) g (s + 1) nm).2.1 61 61 = true then (q_rn (Z 140) g (s + 1) nm).2.1 + 1 else (q_rn (Z 140) g (s + 1) nm).2.1)) (q_od (Z 140) g s) ((q_rn (Z 140) g (s + 1) nm).2.2) ((q_rn (Z 140) g (s + 1) nm).2.2) ((q_rn (Z 140) g (s + 1) nm).2.2)) P L)) rfl ?_
          refine e_ne (a := 112) (b := 110) (x := y_b (q_hr (Z 140) g (q_rn (Z 140) g (s + 1) nm).2.1 61 61)) (y := 0) (fun hc107 => ?_) (fun hc107 => ?_)
          · skip
            rw [y_b1] at hc107
            have hR2 := q_hr_lt hc107
            rw [if_pos hc107]
            refine e_go hk_145 1 (c := (113, [.ref 131, s_no], [.ref 131], hp (q_tx Z (nI ((q_rn (Z 140) g (s + 1) nm).2.1 + 1)) (q_od (Z 140) g s) ((q_rn (Z 140) g (s + 1) nm).2.2) ((q_rn (Z 140) g (s + 1) nm).2.2) ((q_rn (Z 140) g (s + 1) nm).2.2)) P L)) rfl ?_
            refine e_call hk_145 (as := [.ref 131]) (rest := []) rfl rfl hk_144 rfl (Nat.le_of_ble_eq_true rfl) rfl (q_rnum hG hg (s := (q_rn (Z 140) g (s + 1) nm).2.1 + 1) (by omega)) ?_
            show e_r 145 116 [.ref 131, s_no] [.int (y_b (q_rn (Z 140) g ((q_rn (Z 140) g (s + 1) nm).2.1 + 1) ((q_rn (Z 140) g (s + 1) nm).2.2)).1)] (hp (q_tx Z (nI (q_rn (Z 140) g ((q_rn (Z 140) g (s + 1) nm).2.1 + 1) ((q_rn (Z 140) g (s + 1) nm).2.2)).2.1) (q_od (Z 140) g s) ((q_rn (Z 140) g (s + 1) nm).2.2) ((q_rn (Z 140) g (s + 1) nm).2.2) ((q_rn (Z 140) g ((q_rn (Z 140) g (s + 1) nm).2.1 + 1) ((q_rn (Z 140) g (s + 1) nm).2.2)).2.2)) P L) _ _
            refine e_go hk_145 5 (c := (125, [.ref 131, .int (y_b (q_rn (Z 140) g ((q_rn (Z 140) g (s + 1) nm).2.1 + 1) ((q_rn (Z 140) g (s + 1) nm).2.2)).1)], [], hp (s_upd (q_tx Z (nI (q_rn (Z 140) g ((q_rn (Z 140) g (s + 1) nm).2.1 + 1) ((q_rn (Z 140) g (s + 1) nm).2.2)).2.1) (q_od (Z 140) g s) ((q_rn (Z 140) g (s + 1) nm).2.2) ((q_rn (Z 140) g (s + 1) nm).2.2) ((q_rn (Z 140) g ((q_rn (Z 140) g (s + 1) nm).2.1 + 1) ((q_rn (Z 140) g (s + 1) nm).2.2)).2.2)) 131 14 ((q_rn (Z 140) g ((q_rn (Z 140) g (s + 1) nm).2.1 + 1) ((q_rn (Z 140) g (s + 1) nm).2.2)).2.2)) P L)) rfl ?_
            rw [q_tx_14]
            show e_r 145 125 [.ref 131, .int (y_b (q_rn (Z 140) g ((q_rn (Z 140) g (s + 1) nm).2.1 + 1) ((q_rn (Z 140) g (s + 1) nm).2.2)).1)] [] (hp (q_tx Z (nI (q_rn (Z 140) g ((q_rn (Z 140) g (s + 1) nm).2.1 + 1) ((q_rn (Z 140) g (s + 1) nm).2.2)).2.1) (q_od (Z 140) g s) ((q_rn (Z 140) g (s + 1) nm).2.2) ((q_rn (Z 140) g ((q_rn (Z 140) g (s + 1) nm).2.1 + 1) ((q_rn (Z 140) g (s + 1) nm).2.2)).2.2) ((q_rn (Z 140) g ((q_rn (Z 140) g (s + 1) nm).2.1 + 1) ((q_rn (Z 140) g (s + 1) nm).2.2)).2.2)) P L) _ _
            refine e_go hk_145 1 (c := (126, [.ref 131, .int (y_b (q_rn (Z 140) g ((q_rn (Z 140) g (s + 1) nm).2.1 + 1) ((q_rn (Z 140) g (s + 1) nm).2.2)).1)], [.int (y_b (q_rn (Z 140) g ((q_rn (Z 140) g (s + 1) nm).2.1 + 1) ((q_rn (Z 140) g (s + 1) nm).2.2)).1)], hp (q_tx Z (nI (q_rn (Z 140) g ((q_rn (Z 140) g (s + 1) nm).2.1 + 1) ((q_rn (Z 140) g (s + 1) nm).2.2)).2.1) (q_od (Z 140) g s) ((q_rn (Z 140) g (s + 1) nm).2.2) ((q_rn (Z 140) g ((q_rn (Z 140) g (s + 1) nm).2.1 + 1) ((q_rn (Z 140) g (s + 1) nm).2.2)).2.2) ((q_rn (Z 140) g ((q_rn (Z 140) g (s + 1) nm).2.1 + 1) ((q_rn (Z 140) g (s + 1) nm).2.2)).2.2)) P L)) rfl ?_
            exact e_ret hk_145 rfl rfl s_rxz (by rw [q_ro, if_neg hyes, if_neg (by rw [hc71]; decide), if_pos ⟨hc98, hc107⟩]) (by rw [q_ro, if_neg hyes, if_neg (by rw [hc71]; decide), if_pos ⟨hc98, hc107⟩])
          · skip
            rw [y_b0] at hc107
            rw [if_neg (c := q_hr (Z 140) g (q_rn (Z 140) g (s + 1) nm).2.1 61 61 = true) (by rw [hc107]; decide)]
            refine e_go hk_145 1 (c := (111, [.ref 131, s_no], [.int 1], hp (q_tx Z (nI (q_rn (Z 140) g (s + 1) nm).2.1) (q_od (Z 140) g s) ((q_rn (Z 140) g (s + 1) nm).2.2) ((q_rn (Z 140) g (s + 1) nm).2.2) ((q_rn (Z 140) g (s + 1) nm).2.2)) P L)) rfl ?_
            exact e_ret hk_145 rfl rfl rfl (by rw [q_ro, if_neg hyes, if_neg (by rw [hc71]; decide), if_neg (fun z => by rw [hc107] at z; exact absurd z.2 (by decide))]; rfl) (by rw [q_ro, if_neg hyes, if_neg (by rw [hc71]; decide), if_neg (fun z => by rw [hc107] at z; exact absurd z.2 (by decide))])
      · skip
        rw [y_b0] at hc71
        refine e_go hk_145 1 (c := (75, [.ref 131, s_no], [.int 0], hp (q_tx Z (nI (q_rn (Z 140) g (s + 1) nm).2.1) (q_od (Z 140) g s) rk rv ((q_rn (Z 140) g (s + 1) nm).2.2)) P L)) rfl ?_
        exact e_ret hk_145 rfl rfl rfl (by rw [q_ro, if_neg hyes, if_pos hc71]; rfl) (by rw [q_ro, if_neg hyes, if_pos hc71])
    · skip
      refine e_go hk_145 4 (c := (if s_cnd .eq (q_od (Z 140) g s) 45 = true then 57 else 46, [.ref 131, s_no], [], hp (q_tx Z (nI s) (q_od (Z 140) g s) rk rv nm) P L)) rfl ?_
      refine e_eq (a := 57) (b := 46) (x := q_od (Z 140) g s) (y := 45) (fun hc43 => ?_) (fun hc43 => ?_)
      · skip
        have hyes : ¬ q_is (q_od (Z 140) g s) = false := by rw [q_is, decide_eq_true (Or.inr (Or.inl hc43))]; decide
        have hsg2 : s < g := q_is_lt (y_tnf hyes)
        refine e_go hk_145 6 (c := (67, [.ref 131, s_no], [], hp (s_upd (q_tx Z (nI s) (q_od (Z 140) g s) rk rv nm) 131 11 ((nI s) + 1)) P L)) rfl ?_
        rw [q_tx_11]
        show e_r 145 67 [.ref 131, s_no] [] (hp (q_tx Z ((nI s) + 1) (q_od (Z 140) g s) rk rv nm) P L) _ _
        rw [nI_1]
        refine e_go hk_145 1 (c := (68, [.ref 131, s_no], [.ref 131], hp (q_tx Z (nI (s + 1)) (q_od (Z 140) g s) rk rv nm) P L)) rfl ?_
        refine e_call hk_145 (as := [.ref 131]) (rest := []) rfl rfl hk_144 rfl (Nat.le_of_ble_eq_true rfl) rfl (q_rnum hG hg (s := s + 1) (by omega)) ?_
        show e_r 145 71 [.ref 131, s_no] [.int (y_b (q_rn (Z 140) g (s + 1) nm).1)] (hp (q_tx Z (nI (q_rn (Z 140) g (s + 1) nm).2.1) (q_od (Z 140) g s) rk rv ((q_rn (Z 140) g (s + 1) nm).2.2)) P L) _ _
        refine e_go hk_145 1 (c := (if s_cnd .ne (y_b (q_rn (Z 140) g (s + 1) nm).1) 0 = true then 76 else 74, [.ref 131, s_no], [], hp (q_tx Z (nI (q_rn (Z 140) g (s + 1) nm).2.1) (q_od (Z 140) g s) rk rv ((q_rn (Z 140) g (s + 1) nm).2.2)) P L)) rfl ?_
        refine e_ne (a := 76) (b := 74) (x := y_b (q_rn (Z 140) g (s + 1) nm).1) (y := 0) (fun hc71 => ?_) (fun hc71 => ?_)
        · skip
          rw [y_b1] at hc71
          have hR := q_rn_le (p := Z 140) (g := g) (s := s + 1) (nm := nm) (by omega)
          refine e_go hk_145 4 (c := (84, [.ref 131, s_no], [], hp (s_upd (q_tx Z (nI (q_rn (Z 140) g (s + 1) nm).2.1) (q_od (Z 140) g s) rk rv ((q_rn (Z 140) g (s + 1) nm).2.2)) 131 13 ((q_rn (Z 140) g (s + 1) nm).2.2)) P L)) rfl ?_
          rw [q_tx_13]
          show e_r 145 84 [.ref 131, s_no] [] (hp (q_tx Z (nI (q_rn (Z 140) g (s + 1) nm).2.1) (q_od (Z 140) g s) ((q_rn (Z 140) g (s + 1) nm).2.2) rv ((q_rn (Z 140) g (s + 1) nm).2.2)) P L) _ _
          refine e_go hk_145 4 (c := (92, [.ref 131, s_no], [], hp (s_upd (q_tx Z (nI (q_rn (Z 140) g (s + 1) nm).2.1) (q_od (Z 140) g s) ((q_rn (Z 140) g (s + 1) nm).2.2) rv ((q_rn (Z 140) g (s + 1) nm).2.2)) 131 14 ((q_rn (Z 140) g (s + 1) nm).2.2)) P L)) rfl ?_
          rw [q_tx_14]
          show e_r 145 92 [.ref 131, s_no] [] (hp (q_tx Z (nI (q_rn (Z 140) g (s + 1) nm).2.1) (q_od (Z 140) g s) ((q_rn (Z 140) g (s + 1) nm).2.2) ((q_rn (Z 140) g (s + 1) nm).2.2) ((q_rn (Z 140) g (s + 1) nm).2.2)) P L) _ _
          refine e_go hk_145 4 (c := (if s_cnd .ne (q_od (Z 140) g s) 43 = true then 110 else 101, [.ref 131, s_no], [], hp (q_tx Z (nI (q_rn (Z 140) g (s + 1) nm).2.1) (q_od (Z 140) g s) ((q_rn (Z 140) g (s + 1) nm).2.2) ((q_rn (Z 140) g (s + 1) nm).2.2) ((q_rn (Z 140) g (s + 1) nm).2.2)) P L)) rfl ?_
          refine e_ne (a := 110) (b := 101) (x := q_od (Z 140) g s) (y := 43) (fun hc98 => ?_) (fun hc98 => ?_)
          · skip
            refine e_go hk_145 1 (c := (111, [.ref 131, s_no], [.int 1], hp (q_tx Z (nI (q_rn (Z 140) g (s + 1) nm).2.1) (q_od (Z 140) g s) ((q_rn (Z 140) g (s + 1) nm).2.2) ((q_rn (Z 140) g (s + 1) nm).2.2) ((q_rn (Z 140) g (s + 1) nm).2.2)) P L)) rfl ?_
            exact e_ret hk_145 rfl rfl rfl (by rw [q_ro, if_neg hyes, if_neg (by rw [hc71]; decide), if_neg (fun z => hc98 z.1)]; rfl) (by rw [q_ro, if_neg hyes, if_neg (by rw [hc71]; decide), if_neg (fun z => hc98 z.1)])
          · skip
            refine e_go hk_145 2 (c := (104, [.ref 131, s_no], [.int 61, .ref 131], hp (q_tx Z (nI (q_rn (Z 140) g (s + 1) nm).2.1) (q_od (Z 140) g s) ((q_rn (Z 140) g (s + 1) nm).2.2) ((q_rn (Z 140) g (s + 1) nm).2.2) ((q_rn (Z 140) g (s + 1) nm).2.2)) P L)) rfl ?_
            refine e_call hk_145 (as := [.ref 131, .int 61]) (rest := []) rfl rfl hk_143 rfl (Nat.le_of_ble_eq_true rfl) rfl (q_takesc hG hg (s := (q_rn (Z 140) g (s + 1) nm).2.1) (by omega)) ?_
            show e_r 145 107 [.ref 131, s_no] [.int (y_b (q_hr (Z 140) g (q_rn (Z 140) g (s + 1) nm).2.1 61 61))] (hp (q_tx Z (nI (if q_hr (Z 140) g (q_rn (Z 140) g (s + 1) nm).2.1 61 61 = true then (q_rn (Z 140) g (s + 1) nm).2.1 + 1 else (q_rn (Z 140) g (s + 1) nm).2.1)) (q_od (Z 140) g s) ((q_rn (Z 140) g (s + 1) nm).2.2) ((q_rn (Z 140) g (s + 1) nm).2.2) ((q_rn (Z 140) g (s + 1) nm).2.2)) P L) _ _
            refine e_go hk_145 1 (c := (if s_cnd .ne (y_b (q_hr (Z 140) g (q_rn (Z 140) g (s + 1) nm).2.1 61 61)) 0 = true then 112 else 110, [.ref 131, s_no], [], hp (q_tx Z (nI (if q_hr (Z 140) g (q_rn (Z 140) g (s + 1) nm).2.1 61 61 = true then (q_rn (Z 140) g (s + 1) nm).2.1 + 1 else (q_rn (Z 140) g (s + 1) nm).2.1)) (q_od (Z 140) g s) ((q_rn (Z 140) g (s + 1) nm).2.2) ((q_rn (Z 140) g (s + 1) nm).2.2) ((q_rn (Z 140) g (s + 1) nm).2.2)) P L)) rfl ?_
            refine e_ne (a := 112) (b := 110) (x := y_b (q_hr (Z 140) g (q_rn (Z 140) g (s + 1) nm).2.1 61 61)) (y := 0) (fun hc107 => ?_) (fun hc107 => ?_)
            · skip
              rw [y_b1] at hc107
              have hR2 := q_hr_lt hc107
              rw [if_pos hc107]
              refine e_go hk_145 1 (c := (113, [.ref 131, s_no], [.ref 131], hp (q_tx Z (nI ((q_rn (Z 140) g (s + 1) nm).2.1 + 1)) (q_od (Z 140) g s) ((q_rn (Z 140) g (s + 1) nm).2.2) ((q_rn (Z 140) g (s + 1) nm).2.2) ((q_rn (Z 140) g (s + 1) nm).2.2)) P L)) rfl ?_
              refine e_call hk_145 (as := [.ref 131]) (rest := []) rfl rfl hk_144 rfl (Nat.le_of_ble_eq_true rfl) rfl (q_rnum hG hg (s := (q_rn (Z 140) g (s + 1) nm).2.1 + 1) (by omega)) ?_
              show e_r 145 116 [.ref 131, s_no] [.int (y_b (q_rn (Z 140) g ((q_rn (Z 140) g (s + 1) nm).2.1 + 1) ((q_rn (Z 140) g (s + 1) nm).2.2)).1)] (hp (q_tx Z (nI (q_rn (Z 140) g ((q_rn (Z 140) g (s + 1) nm).2.1 + 1) ((q_rn (Z 140) g (s + 1) nm).2.2)).2.1) (q_od (Z 140) g s) ((q_rn (Z 140) g (s + 1) nm).2.2) ((q_rn (Z 140) g (s + 1) nm).2.2) ((q_rn (Z 140) g ((q_rn (Z 140) g (s + 1) nm).2.1 + 1) ((q_rn (Z 140) g (s + 1) nm).2.2)).2.2)) P L) _ _
              refine e_go hk_145 5 (c := (125, [.ref 131, .int (y_b (q_rn (Z 140) g ((q_rn (Z 140) g (s + 1) nm).2.1 + 1) ((q_rn (Z 140) g (s + 1) nm).2.2)).1)], [], hp (s_upd (q_tx Z (nI (q_rn (Z 140) g ((q_rn (Z 140) g (s + 1) nm).2.1 + 1) ((q_rn (Z 140) g (s + 1) nm).2.2)).2.1) (q_od (Z 140) g s) ((q_rn (Z 140) g (s + 1) nm).2.2) ((q_rn (Z 140) g (s + 1) nm).2.2) ((q_rn (Z 140) g ((q_rn (Z 140) g (s + 1) nm).2.1 + 1) ((q_rn (Z 140) g (s + 1) nm).2.2)).2.2)) 131 14 ((q_rn (Z 140) g ((q_rn (Z 140) g (s + 1) nm).2.1 + 1) ((q_rn (Z 140) g (s + 1) nm).2.2)).2.2)) P L)) rfl ?_
              rw [q_tx_14]
              show e_r 145 125 [.ref 131, .int (y_b (q_rn (Z 140) g ((q_rn (Z 140) g (s + 1) nm).2.1 + 1) ((q_rn (Z 140) g (s + 1) nm).2.2)).1)] [] (hp (q_tx Z (nI (q_rn (Z 140) g ((q_rn (Z 140) g (s + 1) nm).2.1 + 1) ((q_rn (Z 140) g (s + 1) nm).2.2)).2.1) (q_od (Z 140) g s) ((q_rn (Z 140) g (s + 1) nm).2.2) ((q_rn (Z 140) g ((q_rn (Z 140) g (s + 1) nm).2.1 + 1) ((q_rn (Z 140) g (s + 1) nm).2.2)).2.2) ((q_rn (Z 140) g ((q_rn (Z 140) g (s + 1) nm).2.1 + 1) ((q_rn (Z 140) g (s + 1) nm).2.2)).2.2)) P L) _ _
              refine e_go hk_145 1 (c := (126, [.ref 131, .int (y_b (q_rn (Z 140) g ((q_rn (Z 140) g (s + 1) nm).2.1 + 1) ((q_rn (Z 140) g (s + 1) nm).2.2)).1)], [.int (y_b (q_rn (Z 140) g ((q_rn (Z 140) g (s + 1) nm).2.1 + 1) ((q_rn (Z 140) g (s + 1) nm).2.2)).1)], hp (q_tx Z (nI (q_rn (Z 140) g ((q_rn (Z 140) g (s + 1) nm).2.1 + 1) ((q_rn (Z 140) g (s + 1) nm).2.2)).2.1) (q_od (Z 140) g s) ((q_rn (Z 140) g (s + 1) nm).2.2) ((q_rn (Z 140) g ((q_rn (Z 140) g (s + 1) nm).2.1 + 1) ((q_rn (Z 140) g (s + 1) nm).2.2)).2.2) ((q_rn (Z 140) g ((q_rn (Z 140) g (s + 1) nm).2.1 + 1) ((q_rn (Z 140) g (s + 1) nm).2.2)).2.2)) P L)) rfl ?_
              exact e_ret hk_145 rfl rfl s_rxz (by rw [q_ro, if_neg hyes, if_neg (by rw [hc71]; decide), if_pos ⟨hc98, hc107⟩]) (by rw [q_ro, if_neg hyes, if_neg (by rw [hc71]; decide), if_pos ⟨hc98, hc107⟩])
            · skip
              rw [y_b0] at hc107
              rw [if_neg (c := q_hr (Z 140) g (q_rn (Z 140) g (s + 1) nm).2.1 61 61 = true) (by rw [hc107]; decide)]
              refine e_go hk_145 1 (c := (111, [.ref 131, s_no], [.int 1], hp (q_tx Z (nI (q_rn (Z 140) g (s + 1) nm).2.1) (q_od (Z 140) g s) ((q_rn (Z 140) g (s + 1) nm).2.2) ((q_rn (Z 140) g (s + 1) nm).2.2) ((q_rn (Z 140) g (s + 1) nm).2.2)) P L)) rfl ?_
              exact e_ret hk_145 rfl rfl rfl (by rw [q_ro, if_neg hyes, if_neg (by rw [hc71]; decide), if_neg (fun z => by rw [hc107] at z; exact absurd z.2 (by decide))]; rfl) (by rw [q_ro, if_neg hyes, if_neg (by rw [hc71]; decide), if_neg (fun z => by rw [hc107] at z; exact absurd z.2 (by decide))])
        · skip
          rw [y_b0] at hc71
          refine e_go hk_145 1 (c := (75, [.ref 131, s_no], [.int 0], hp (q_tx Z (nI (q_rn (Z 140) g (s + 1) nm).2.1) (q_od (Z 140) g s) rk rv ((q_rn (Z 140) g (s + 1) nm).2.2)) P L)) rfl ?_
          exact e_ret hk_145 rfl rfl rfl (by rw [q_ro, if_neg hyes, if_pos hc71]; rfl) (by rw [q_ro, if_neg hyes, if_pos hc71])
      · skip
        refine e_go hk_145 4 (c := (if s_cnd .eq (q_od (Z 140) g s) 33 = true then 57 else 55, [.ref 131, s_no], [], hp (q_tx Z (nI s) (q_od (Z 140) g s) rk rv nm) P L)) rfl ?_
        refine e_eq (a := 57) (b := 55) (x := q_od (Z 140) g s) (y := 33) (fun hc52 => ?_) (fun hc52 => ?_)
        · skip
          have hyes : ¬ q_is (q_od (Z 140) g s) = false := by rw [q_is, decide_eq_true (Or.inr (Or.inr hc52))]; decide
          have hsg2 : s < g := q_is_lt (y_tnf hyes)
          refine e_go hk_145 6 (c := (67, [.ref 131, s_no], [], hp (s_upd (q_tx Z (nI s) (q_od (Z 140) g s) rk rv nm) 131 11 ((nI s) + 1)) P L)) rfl ?_
          rw [q_tx_11]
          show e_r 145 67 [.ref 131, s_no] [] (hp (q_tx Z ((nI s) + 1) (q_od (Z 140) g s) rk rv nm) P L) _ _
          rw [nI_1]
          refine e_go hk_145 1 (c := (68, [.ref 131, s_no], [.ref 131], hp (q_tx Z (nI (s + 1)) (q_od (Z 140) g s) rk rv nm) P L)) rfl ?_
          refine e_call hk_145 (as := [.ref 131]) (rest := []) rfl rfl hk_144 rfl (Nat.le_of_ble_eq_true rfl) rfl (q_rnum hG hg (s := s + 1) (by omega)) ?_
          show e_r 145 71 [.ref 131, s_no] [.int (y_b (q_rn (Z 140) g (s + 1) nm).1)] (hp (q_tx Z (nI (q_rn (Z 140) g (s + 1) nm).2.1) (q_od (Z 140) g s) rk rv ((q_rn (Z 140) g (s + 1) nm).2.2)) P L) _ _
          refine e_go hk_145 1 (c := (if s_cnd .ne (y_b (q_rn (Z 140) g (s + 1) nm).1) 0 = true then 76 else 74, [.ref 131, s_no], [], hp (q_tx Z (nI (q_rn (Z 140) g (s + 1) nm).2.1) (q_od (Z 140) g s) rk rv ((q_rn (Z 140) g (s + 1) nm).2.2)) P L)) rfl ?_
          refine e_ne (a := 76) (b := 74) (x := y_b (q_rn (Z 140) g (s + 1) nm).1) (y := 0) (fun hc71 => ?_) (fun hc71 => ?_)
          · skip
            rw [y_b1] at hc71
            have hR := q_rn_le (p := Z 140) (g := g) (s := s + 1) (nm := nm) (by omega)
            refine e_go hk_145 4 (c := (84, [.ref 131, s_no], [], hp (s_upd (q_tx Z (nI (q_rn (Z 140) g (s + 1) nm).2.1) (q_od (Z 140) g s) rk rv ((q_rn (Z 140) g (s + 1) nm).2.2)) 131 13 ((q_rn (Z 140) g (s + 1) nm).2.2)) P L)) rfl ?_
            rw [q_tx_13]
            show e_r 145 84 [.ref 131, s_no] [] (hp (q_tx Z (nI (q_rn (Z 140) g (s + 1) nm).2.1) (q_od (Z 140) g s) ((q_rn (Z 140) g (s + 1) nm).2.2) rv ((q_rn (Z 140) g (s + 1) nm).2.2)) P L) _ _
            refine e_go hk_145 4 (c := (92, [.ref 131, s_no], [], hp (s_upd (q_tx Z (nI (q_rn (Z 140) g (s + 1) nm).2.1) (q_od (Z 140) g s) ((q_rn (Z 140) g (s + 1) nm).2.2) rv ((q_rn (Z 140) g (s + 1) nm).2.2)) 131 14 ((q_rn (Z 140) g (s + 1) nm).2.2)) P L)) rfl ?_
            rw [q_tx_14]
            show e_r 145 92 [.ref 131, s_no] [] (hp (q_tx Z (nI (q_rn (Z 140) g (s + 1) nm).2.1) (q_od (Z 140) g s) ((q_rn (Z 140) g (s + 1) nm).2.2) ((q_rn (Z 140) g (s + 1) nm).2.2) ((q_rn (Z 140) g (s + 1) nm).2.2)) P L) _ _
            refine e_go hk_145 4 (c := (if s_cnd .ne (q_od (Z 140) g s) 43 = true then 110 else 101, [.ref 131, s_no], [], hp (q_tx Z (nI (q_rn (Z 140) g (s + 1) nm).2.1) (q_od (Z 140) g s) ((q_rn (Z 140) g (s + 1) nm).2.2) ((q_rn (Z 140) g (s + 1) nm).2.2) ((q_rn (Z 140) g (s + 1) nm).2.2)) P L)) rfl ?_
            refine e_ne (a := 110) (b := 101) (x := q_od (Z 140) g s) (y := 43) (fun hc98 => ?_) (fun hc98 => ?_)
            · skip
              refine e_go hk_145 1 (c := (111, [.ref 131, s_no], [.int 1], hp (q_tx Z (nI (q_rn (Z 140) g (s + 1) nm).2.1) (q_od (Z 140) g s) ((q_rn (Z 140) g (s + 1) nm).2.2) ((q_rn (Z 140) g (s + 1) nm).2.2) ((q_rn (Z 140) g (s + 1) nm).2.2)) P L)) rfl ?_
              exact e_ret hk_145 rfl rfl rfl (by rw [q_ro, if_neg hyes, if_neg (by rw [hc71]; decide), if_neg (fun z => hc98 z.1)]; rfl) (by rw [q_ro, if_neg hyes, if_neg (by rw [hc71]; decide), if_neg (fun z => hc98 z.1)])
            · skip
              refine e_go hk_145 2 (c := (104, [.ref 131, s_no], [.int 61, .ref 131], hp (q_tx Z (nI (q_rn (Z 140) g (s + 1) nm).2.1) (q_od (Z 140) g s) ((q_rn (Z 140) g (s + 1) nm).2.2) ((q_rn (Z 140) g (s + 1) nm).2.2) ((q_rn (Z 140) g (s + 1) nm).2.2)) P L)) rfl ?_
              refine e_call hk_145 (as := [.ref 131, .int 61]) (rest := []) rfl rfl hk_143 rfl (Nat.le_of_ble_eq_true rfl) rfl (q_takesc hG hg (s := (q_rn (Z 140) g (s + 1) nm).2.1) (by omega)) ?_
              show e_r 145 107 [.ref 131, s_no] [.int (y_b (q_hr (Z 140) g (q_rn (Z 140) g (s + 1) nm).2.1 61 61))] (hp (q_tx Z (nI (if q_hr (Z 140) g (q_rn (Z 140) g (s + 1) nm).2.1 61 61 = true then (q_rn (Z 140) g (s + 1) nm).2.1 + 1 else (q_rn (Z 140) g (s + 1) nm).2.1)) (q_od (Z 140) g s) ((q_rn (Z 140) g (s + 1) nm).2.2) ((q_rn (Z 140) g (s + 1) nm).2.2) ((q_rn (Z 140) g (s + 1) nm).2.2)) P L) _ _
              refine e_go hk_145 1 (c := (if s_cnd .ne (y_b (q_hr (Z 140) g (q_rn (Z 140) g (s + 1) nm).2.1 61 61)) 0 = true then 112 else 110, [.ref 131, s_no], [], hp (q_tx Z (nI (if q_hr (Z 140) g (q_rn (Z 140) g (s + 1) nm).2.1 61 61 = true then (q_rn (Z 140) g (s + 1) nm).2.1 + 1 else (q_rn (Z 140) g (s + 1) nm).2.1)) (q_od (Z 140) g s) ((q_rn (Z 140) g (s + 1) nm).2.2) ((q_rn (Z 140) g (s + 1) nm).2.2) ((q_rn (Z 140) g (s + 1) nm).2.2)) P L)) rfl ?_
              refine e_ne (a := 112) (b := 110) (x := y_b (q_hr (Z 140) g (q_rn (Z 140) g (s + 1) nm).2.1 61 61)) (y := 0) (fun hc107 => ?_) (fun hc107 => ?_)
              · skip
                rw [y_b1] at hc107
                have hR2 := q_hr_lt hc107
                rw [if_pos hc107]
                refine e_go hk_145 1 (c := (113, [.ref 131, s_no], [.ref 131], hp (q_tx Z (nI ((q_rn (Z 140) g (s + 1) nm).2.1 + 1)) (q_od (Z 140) g s) ((q_rn (Z 140) g (s + 1) nm).2.2) ((q_rn (Z 140) g (s + 1) nm).2.2) ((q_rn (Z 140) g (s + 1) nm).2.2)) P L)) rfl ?_
                refine e_call hk_145 (as := [.ref 131]) (rest := []) rfl rfl hk_144 rfl (Nat.le_of_ble_eq_true rfl) rfl (q_rnum hG hg (s := (q_rn (Z 140) g (s + 1) nm).2.1 + 1) (by omega)) ?_
                show e_r 145 116 [.ref 131, s_no] [.int (y_b (q_rn (Z 140) g ((q_rn (Z 140) g (s + 1) nm).2.1 + 1) ((q_rn (Z 140) g (s + 1) nm).2.2)).1)] (hp (q_tx Z (nI (q_rn (Z 140) g ((q_rn (Z 140) g (s + 1) nm).2.1 + 1) ((q_rn (Z 140) g (s + 1) nm).2.2)).2.1) (q_od (Z 140) g s) ((q_rn (Z 140) g (s + 1) nm).2.2) ((q_rn (Z 140) g (s + 1) nm).2.2) ((q_rn (Z 140) g ((q_rn (Z 140) g (s + 1) nm).2.1 + 1) ((q_rn (Z 140) g (s + 1) nm).2.2)).2.2)) P L) _ _
                refine e_go hk_145 5 (c := (125, [.ref 131, .int (y_b (q_rn (Z 140) g ((q_rn (Z 140) g (s + 1) nm).2.1 + 1) ((q_rn (Z 140) g (s + 1) nm).2.2)).1)], [], hp (s_upd (q_tx Z (nI (q_rn (Z 140) g ((q_rn (Z 140) g (s + 1) nm).2.1 + 1) ((q_rn (Z 140) g (s + 1) nm).2.2)).2.1) (q_od (Z 140) g s) ((q_rn (Z 140) g (s + 1) nm).2.2) ((q_rn (Z 140) g (s + 1) nm).2.2) ((q_rn (Z 140) g ((q_rn (Z 140) g (s + 1) nm).2.1 + 1) ((q_rn (Z 140) g (s + 1) nm).2.2)).2.2)) 131 14 ((q_rn (Z 140) g ((q_rn (Z 140) g (s + 1) nm).2.1 + 1) ((q_rn (Z 140) g (s + 1) nm).2.2)).2.2)) P L)) rfl ?_
                rw [q_tx_14]
                show e_r 145 125 [.ref 131, .int (y_b (q_rn (Z 140) g ((q_rn (Z 140) g (s + 1) nm).2.1 + 1) ((q_rn (Z 140) g (s + 1) nm).2.2)).1)] [] (hp (q_tx Z (nI (q_rn (Z 140) g ((q_rn (Z 140) g (s + 1) nm).2.1 + 1) ((q_rn (Z 140) g (s + 1) nm).2.2)).2.1) (q_od (Z 140) g s) ((q_rn (Z 140) g (s + 1) nm).2.2) ((q_rn (Z 140) g ((q_rn (Z 140) g (s + 1) nm).2.1 + 1) ((q_rn (Z 140) g (s + 1) nm).2.2)).2.2) ((q_rn (Z 140) g ((q_rn (Z 140) g (s + 1) nm).2.1 + 1) ((q_rn (Z 140) g (s + 1) nm).2.2)).2.2)) P L) _ _
                refine e_go hk_145 1 (c := (126, [.ref 131, .int (y_b (q_rn (Z 140) g ((q_rn (Z 140) g (s + 1) nm).2.1 + 1) ((q_rn (Z 140) g (s + 1) nm).2.2)).1)], [.int (y_b (q_rn (Z 140) g ((q_rn (Z 140) g (s + 1) nm).2.1 + 1) ((q_rn (Z 140) g (s + 1) nm).2.2)).1)], hp (q_tx Z (nI (q_rn (Z 140) g ((q_rn (Z 140) g (s + 1) nm).2.1 + 1) ((q_rn (Z 140) g (s + 1) nm).2.2)).2.1) (q_od (Z 140) g s) ((q_rn (Z 140) g (s + 1) nm).2.2) ((q_rn (Z 140) g ((q_rn (Z 140) g (s + 1) nm).2.1 + 1) ((q_rn (Z 140) g (s + 1) nm).2.2)).2.2) ((q_rn (Z 140) g ((q_rn (Z 140) g (s + 1) nm).2.1 + 1) ((q_rn (Z 140) g (s + 1) nm).2.2)).2.2)) P L)) rfl ?_
                exact e_ret hk_145 rfl rfl s_rxz (by rw [q_ro, if_neg hyes, if_neg (by rw [hc71]; decide), if_pos ⟨hc98, hc107⟩]) (by rw [q_ro, if_neg hyes, if_neg (by rw [hc71]; decide), if_pos ⟨hc98, hc107⟩])
              · skip
                rw [y_b0] at hc107
                rw [if_neg (c := q_hr (Z 140) g (q_rn (Z 140) g (s + 1) nm).2.1 61 61 = true) (by rw [hc107]; decide)]
                refine e_go hk_145 1 (c := (111, [.ref 131, s_no], [.int 1], hp (q_tx Z (nI (q_rn (Z 140) g (s + 1) nm).2.1) (q_od (Z 140) g s) ((q_rn (Z 140) g (s + 1) nm).2.2) ((q_rn (Z 140) g (s + 1) nm).2.2) ((q_rn (Z 140) g (s + 1) nm).2.2)) P L)) rfl ?_
                exact e_ret hk_145 rfl rfl rfl (by rw [q_ro, if_neg hyes, if_neg (by rw [hc71]; decide), if_neg (fun z => by rw [hc107] at z; exact absurd z.2 (by decide))]; rfl) (by rw [q_ro, if_neg hyes, if_neg (by rw [hc71]; decide), if_neg (fun z => by rw [hc107] at z; exact absurd z.2 (by decide))])
          · skip
            rw [y_b0] at hc71
            refine e_go hk_145 1 (c := (75, [.ref 131, s_no], [.int 0], hp (q_tx Z (nI (q_rn (Z 140) g (s + 1) nm).2.1) (q_od (Z 140) g s) rk rv ((q_rn (Z 140) g (s + 1) nm).2.2)) P L)) rfl ?_
            exact e_ret hk_145 rfl rfl rfl (by rw [q_ro, if_neg hyes, if_pos hc71]; rfl) (by rw [q_ro, if_neg hyes, if_pos hc71])
        · skip
          have hno : q_is (q_od (Z 140) g s) = false := by rw [q_is, decide_eq_false (fun z => z.elim hc34 (fun z => z.elim hc43 hc52))]
          refine e_go hk_145 1 (c := (56, [.ref 131, s_no], [.int 0], hp (q_tx Z (nI s) (q_od (Z 140) g s) rk rv nm) P L)) rfl ?_
          exact e_ret hk_145 rfl rfl rfl (by rw [q_ro, if_pos hno]; rfl) (by rw [q_ro, if_pos hno])
/-- all orders: the answer, then the reader's five numbers -/
def q_rf (p : Nat → Int32) (g : Nat) : Nat → Nat → Int32 → Int32 → Int32 → Int32 → Int32 × Nat × Int32 × Int32 × Int32 × Int32
  | 0, s, od, rk, rv, nm => (0, s, od, rk, rv, nm)
  | k + 1, s, _, rk, rv, nm => if (q_ro p g s rk rv nm).1 = false then (nI (q_ro p g s rk rv nm).2.1, (q_ro p g s rk rv nm).2)
    else if q_hr p g (q_ro p g s rk rv nm).2.1 59 59 = true then q_rf p g k ((q_ro p g s rk rv nm).2.1 + 1) (q_ro p g s rk rv nm).2.2.1 (q_ro p g s rk rv nm).2.2.2.1 (q_ro p g s rk rv nm).2.2.2.2.1 (q_ro p g s rk rv nm).2.2.2.2.2
    else (if (q_ro p g s rk rv nm).2.1 = g then -6 else nI (q_ro p g s rk rv nm).2.1, (q_ro p g s rk rv nm).2)
def q_tx5 (Z : Nat → Nat → Int32) (q : Nat × Int32 × Int32 × Int32 × Int32) : Nat → Nat → Int32 := q_tx Z (nI q.1) q.2.1 q.2.2.1 q.2.2.2.1 q.2.2.2.2
theorem q_fault_e {Z : Nat → Nat → Int32} {P : Nat → Nat} {L g : Nat} (hG : Z 131 10 = nI g) (hg : g ≤ 80) {od rk rv nm : Int32} {s : Nat} (hs : s ≤ g) : e_r 146 7 [.ref 131, .int (y_b false)] [] (hp (q_tx Z (nI s) od rk rv nm) P L) (some (.int (if s = g then -6 else nI s))) (hp (q_tx Z (nI s) od rk rv nm) P L) := by
  show e_r 146 7 [.ref 131, .int 0] [] (hp (q_tx Z (nI s) od rk rv nm) P L) _ _
  refine e_go hk_146 2 (c := (if s_cnd .eq 0 0 = true then 33 else 11, [.ref 131, .int 0], [], hp (q_tx Z (nI s) od rk rv nm) P L)) rfl ?_
  refine e_eq (a := 33) (b := 11) (x := 0) (y := 0) (fun hc8 => ?_) (fun hc8 => absurd (rfl) hc8)
  refine e_go hk_146 5 (c := (if s_cnd .ne (nI s) (Z 131 10) = true then 49 else 44, [.ref 131, .int 0], [], hp (q_tx Z (nI s) od rk rv nm) P L)) rfl ?_
  refine e_ne (a := 49) (b := 44) (x := nI s) (y := Z 131 10) (fun hc41 => ?_) (fun hc41 => ?_)
  · skip
    have hne : ¬ s = g := fun z => hc41 (by rw [hG, z])
    refine e_go hk_146 2 (c := (53, [.ref 131, .int 0], [.int (nI s)], hp (q_tx Z (nI s) od rk rv nm) P L)) rfl ?_
    exact e_ret hk_146 rfl rfl rfl (by rw [if_neg hne]) rfl
  · skip
    have hne : s = g := by rw [hG] at hc41; exact (y_eqI (by omega) (by omega)).mp hc41
    refine e_go hk_146 2 (c := (53, [.ref 131, .int 0], [.int ((-6))], hp (q_tx Z (nI s) od rk rv nm) P L)) rfl ?_
    exact e_ret hk_146 rfl rfl rfl (by rw [if_pos hne]) rfl
theorem q_fault_l {Z : Nat → Nat → Int32} {P : Nat → Nat} {L g : Nat} (hG : Z 131 10 = nI g) (hg : g ≤ 80) : ∀ (k s : Nat) (od rk rv nm : Int32), s ≤ g → g - s < k → e_r 146 7 [.ref 131, .int (y_b true)] [] (hp (q_tx Z (nI s) od rk rv nm) P L) (some (.int (q_rf (Z 140) g k s od rk rv nm).1)) (hp (q_tx5 Z (q_rf (Z 140) g k s od rk rv nm).2) P L)
  | 0, s, od, rk, rv, nm, hs, hk => by omega
  | k + 1, s, od, rk, rv, nm, hs, hk => by
    show e_r 146 7 [.ref 131, .int 1] [] (hp (q_tx Z (nI s) od rk rv nm) P L) _ _
    refine e_go hk_146 2 (c := (if s_cnd .eq 1 0 = true then 33 else 11, [.ref 131, .int 1], [], hp (q_tx Z (nI s) od rk rv nm) P L)) rfl ?_
    refine e_eq (a := 33) (b := 11) (x := 1) (y := 0) (fun hc8 => absurd hc8 (by decide)) (fun hc8 => ?_)
    refine e_go hk_146 1 (c := (12, [.ref 131, .int 1], [.ref 131], hp (q_tx Z (nI s) od rk rv nm) P L)) rfl ?_
    refine e_call hk_146 (as := [.ref 131]) (rest := []) rfl rfl hk_145 rfl (Nat.le_of_ble_eq_true rfl) rfl (q_rord hG hg (s := s) (by omega)) ?_
    show e_r 146 15 [.ref 131, .int 1] [.int (y_b (q_ro (Z 140) g s rk rv nm).1)] (hp (q_tx Z (nI (q_ro (Z 140) g s rk rv nm).2.1) ((q_ro (Z 140) g s rk rv nm).2.2.1) ((q_ro (Z 140) g s rk rv nm).2.2.2.1) ((q_ro (Z 140) g s rk rv nm).2.2.2.2.1) ((q_ro (Z 140) g s rk rv nm).2.2.2.2.2)) P L) _ _
    refine e_go hk_146 1 (c := (if s_cnd .ne (y_b (q_ro (Z 140) g s rk rv nm).1) 0 = true then 23 else 18, [.ref 131, .int 1], [], hp (q_tx Z (nI (q_ro (Z 140) g s rk rv nm).2.1) ((q_ro (Z 140) g s rk rv nm).2.2.1) ((q_ro (Z 140) g s rk rv nm).2.2.2.1) ((q_ro (Z 140) g s rk rv nm).2.2.2.2.1) ((q_ro (Z 140) g s rk rv nm).2.2.2.2.2)) P L)) rfl ?_
    refine e_ne (a := 23) (b := 18) (x := y_b (q_ro (Z 140) g s rk rv nm).1) (y := 0) (fun hc15 => ?_) (fun hc15 => ?_)
    · skip
      rw [y_b1] at hc15
      have hle := q_ro_le (p := Z 140) (g := g) (s := s) (rk := rk) (rv := rv) (nm := nm) hs
      refine e_go hk_146 2 (c := (26, [.ref 131, .int 1], [.int 59, .ref 131], hp (q_tx Z (nI (q_ro (Z 140) g s rk rv nm).2.1) ((q_ro (Z 140) g s rk rv nm).2.2.1) ((q_ro (Z 140) g s rk rv nm).2.2.2.1) ((q_ro (Z 140) g s rk rv nm).2.2.2.2.1) ((q_ro (Z 140) g s rk rv nm).2.2.2.2.2)) P L)) rfl ?_
      refine e_call hk_146 (as := [.ref 131, .int 59]) (rest := []) rfl rfl hk_143 rfl (Nat.le_of_ble_eq_true rfl) rfl (q_takesc hG hg (s := (q_ro (Z 140) g s rk rv nm).2.1) (by omega)) ?_
      show e_r 146 29 [.ref 131, .int 1] [.int (y_b (q_hr (Z 140) g (q_ro (Z 140) g s rk rv nm).2.1 59 59))] (hp (q_tx Z (nI (if q_hr (Z 140) g (q_ro (Z 140) g s rk rv nm).2.1 59 59 = true then (q_ro (Z 140) g s rk rv nm).2.1 + 1 else (q_ro (Z 140) g s rk rv nm).2.1)) ((q_ro (Z 140) g s rk rv nm).2.2.1) ((q_ro (Z 140) g s rk rv nm).2.2.2.1) ((q_ro (Z 140) g s rk rv nm).2.2.2.2.1) ((q_ro (Z 140) g s rk rv nm).2.2.2.2.2)) P L) _ _
      refine e_go hk_146 2 (c := (7, [.ref 131, .int (y_b (q_hr (Z 140) g (q_ro (Z 140) g s rk rv nm).2.1 59 59))], [], hp (q_tx Z (nI (if q_hr (Z 140) g (q_ro (Z 140) g s rk rv nm).2.1 59 59 = true then (q_ro (Z 140) g s rk rv nm).2.1 + 1 else (q_ro (Z 140) g s rk rv nm).2.1)) ((q_ro (Z 140) g s rk rv nm).2.2.1) ((q_ro (Z 140) g s rk rv nm).2.2.2.1) ((q_ro (Z 140) g s rk rv nm).2.2.2.2.1) ((q_ro (Z 140) g s rk rv nm).2.2.2.2.2)) P L)) rfl ?_
      rw [q_rf, if_neg (c := (q_ro (Z 140) g s rk rv nm).1 = false) (by rw [hc15]; decide)]
      cases hh : q_hr (Z 140) g (q_ro (Z 140) g s rk rv nm).2.1 59 59 with
      | true =>
        rw [if_pos rfl, if_pos rfl]
        exact q_fault_l hG hg k ((q_ro (Z 140) g s rk rv nm).2.1 + 1) _ _ _ _ (by have := q_hr_lt hh; omega) (by have := q_hr_lt hh; have := hle.2.2 hc15; omega)
      | false =>
        rw [if_neg (by decide), if_neg (by decide)]
        exact q_fault_e hG hg hle.2.1
    · skip
      rw [y_b0] at hc15
      refine e_go hk_146 2 (c := (22, [.ref 131, .int 1], [.int (nI (q_ro (Z 140) g s rk rv nm).2.1)], hp (q_tx Z (nI (q_ro (Z 140) g s rk rv nm).2.1) ((q_ro (Z 140) g s rk rv nm).2.2.1) ((q_ro (Z 140) g s rk rv nm).2.2.2.1) ((q_ro (Z 140) g s rk rv nm).2.2.2.2.1) ((q_ro (Z 140) g s rk rv nm).2.2.2.2.2)) P L)) rfl ?_
      exact e_ret hk_146 rfl rfl rfl (by rw [q_rf, if_pos hc15]) (by rw [q_rf, if_pos hc15]; rfl)
def q_flt (Z : Nat → Nat → Int32) (g : Nat) : Int32 × Nat × Int32 × Int32 × Int32 × Int32 := q_rf (Z 140) g 81 0 (Z 131 12) (Z 131 13) (Z 131 14) (Z 131 15)
theorem q_tx_0 {Z : Nat → Nat → Int32} : s_upd Z 131 11 0 = q_tx Z (nI 0) (Z 131 12) (Z 131 13) (Z 131 14) (Z 131 15) := q_tx_x (fun c hc => s_upd_o hc) (fun j hj => by rw [s_upd_c, if_neg (by omega)]) rfl rfl rfl rfl rfl
theorem q_fault {Z : Nat → Nat → Int32} {P : Nat → Nat} {L g : Nat} (hG : Z 131 10 = nI g) (hg : g ≤ 80) : m_r 146 [.ref 131] (hp Z P L) (some (.int (q_flt Z g).1)) (hp (q_tx5 Z (q_flt Z g).2) P L) := by
  refine m_of (ls := [.ref 131, s_no]) hk_146 rfl rfl rfl ?_
  refine e_go hk_146 5 (c := (7, [.ref 131, .int 1], [], hp (s_upd Z 131 11 0) P L)) rfl ?_
  rw [q_tx_0]
  exact q_fault_l hG hg 81 0 _ _ _ _ (by omega) (by omega)
theorem q_wipe {Z : Nat → Nat → Int32} {P : Nat → Nat} {L : Nat} : m_r 141 [.ref 131] (hp Z P L) (some (.int (Z 131 10))) (hp (s_upd Z 131 10 0) P L) := by
  refine m_of (ls := [.ref 131, s_no]) hk_141 rfl rfl rfl ?_
  refine e_go hk_141 7 (c := (11, [.ref 131, .int (Z 131 10)], [.int (Z 131 10)], hp (s_upd Z 131 10 0) P L)) rfl ?_
  exact e_ret hk_141 rfl rfl rfl rfl rfl
def q_pr : Nat → Nat → Bool → Int64 → Nat × Bool × Int64
  | 0, i, b, r => (i, b, r)
  | k + 1, i, b, r => if r &&& 255 = 0 then (i, b, r) else q_pr k (i + 1) (b && decide ((33 : Int64) ≤ r &&& 255 ∧ r &&& 255 ≤ 126)) (y_us r 8)
theorem q_pr_le : ∀ (k i : Nat) (b : Bool) (r : Int64), i + k = 8 → (q_pr k i b r).1 ≤ 8
  | 0, i, b, r, h => by show i ≤ 8; omega
  | k + 1, i, b, r, h => by
    rw [q_pr]
    split
    · show i ≤ 8; omega
    · exact q_pr_le k (i + 1) _ _ (by omega)
def q_cc (w : Int64) (i : Nat) : Int32 := (y_us w (8 * nI i) &&& 255).toInt32
def q_ap (w : Int64) : Nat → Nat → (Nat → Nat → Int32) → Nat → Nat → Int32
  | 0, _, Z => Z
  | k + 1, m, Z => q_ap w k (m + 1) (s_upd (s_upd Z 140 m (q_cc w k)) 131 10 (nI (m + 1)))
def q_text (Z : Nat → Nat → Int32) (g : Nat) (w : Int64) : Int32 × (Nat → Nat → Int32) := if (q_pr 8 0 true w).1 = 0 ∨ ¬ (q_pr 8 0 true w).2.2 = 0 ∨ (q_pr 8 0 true w).2.1 = false then (-2, Z) else if 80 < g + (q_pr 8 0 true w).1 then (-4, Z) else ((q_ap w (q_pr 8 0 true w).1 g Z) 131 10, q_ap w (q_pr 8 0 true w).1 g Z)
theorem q_text_l {h h2 : sHp} {v : Option Value} {w : Int64}  : ∀ (k i : Nat) (b : Bool) (r : Int64), i + k = 8 → e_r 140 68 [.ref 131, .long w, s_no, .int (nI (q_pr k i b r).1), .int (y_b (q_pr k i b r).2.1), .long (q_pr k i b r).2.2, s_no, s_no] [] h v h2 → e_r 140 8 [.ref 131, .long w, s_no, .int (nI i), .int (y_b b), .long r, s_no, s_no] [] h v h2
  | 0, i, b, r, hi, kk => by
    refine e_go hk_140 3 (c := (if s_cnd .ge (nI i) 8 = true then 68 else 14, [.ref 131, .long w, s_no, .int (nI i), .int (y_b b), .long r, s_no, s_no], [], h)) rfl ?_
    refine e_ge (a := 68) (b := 14) (x := nI i) (y := 8) (fun hc11 => ?_) (fun hc11 => absurd ((y_le (a := 8) (b := i) (by omega) (by omega)).mpr (by omega)) hc11)
    exact kk
  | k + 1, i, b, r, hi, kk => by
    refine e_go hk_140 3 (c := (if s_cnd .ge (nI i) 8 = true then 68 else 14, [.ref 131, .long w, s_no, .int (nI i), .int (y_b b), .long r, s_no, s_no], [], h)) rfl ?_
    refine e_ge (a := 68) (b := 14) (x := nI i) (y := 8) (fun hc11 => absurd hc11 (nI_ge (b := 8) (a := i) (by omega) (by omega))) (fun hc11 => ?_)
    refine e_go hk_140 6 (c := (if s_cnd .eq (lg_cmp (r &&& 255) 0) 0 = true then 68 else 25, [.ref 131, .long w, s_no, .int (nI i), .int (y_b b), .long r, s_no, s_no], [], h)) rfl ?_
    refine e_eq (a := 68) (b := 25) (x := lg_cmp (r &&& 255) 0) (y := 0) (fun hc22 => ?_) (fun hc22 => ?_)
    · skip
      have h0 : r &&& 255 = 0 := (lg_cmp_eq _ _).mp hc22
      rw [q_pr, if_pos h0] at kk
      exact kk
    · skip
      have h0 : ¬ r &&& 255 = 0 := fun z => hc22 ((lg_cmp_eq _ _).mpr z)
      rw [q_pr, if_neg h0] at kk
      refine e_go hk_140 2 (c := (if s_cnd .eq (y_b b) 0 = true then 52 else 30, [.ref 131, .long w, s_no, .int (nI i), .int (y_b b), .long r, s_no, s_no], [], h)) rfl ?_
      refine e_eq (a := 52) (b := 30) (x := y_b b) (y := 0) (fun hc27 => ?_) (fun hc27 => ?_)
      · skip
        rw [y_b0] at hc27
        refine e_go hk_140 8 (c := (8, [.ref 131, .long w, s_no, .int ((nI i) + 1), .int 0, .long (y_us r 8), s_no, s_no], [], h)) rfl ?_
        rw [hc27, Bool.false_and] at kk
        rw [nI_1]
        exact q_text_l k (i + 1) false (y_us r 8) (by omega) kk
      · skip
        rw [y_b1] at hc27
        refine e_go hk_140 5 (c := (42, [.ref 131, .long w, s_no, .int (nI i), .int (y_b b), .long r, s_no, s_no], [.long 126, .long 33, .long (r &&& 255)], h)) rfl ?_
        refine e_call hk_140 (as := [.long (r &&& 255), .long 33, .long 126]) (rest := []) rfl rfl hk_90 rfl (Nat.le_of_ble_eq_true rfl) rfl (q_in (x := r &&& 255) (lo := 33) (hi := 126)) ?_
        show e_r 140 45 [.ref 131, .long w, s_no, .int (nI i), .int (y_b b), .long r, s_no, s_no] [.int (y_b (decide ((33 : Int64) ≤ r &&& 255 ∧ r &&& 255 ≤ 126)))] h _ _
        refine e_go hk_140 1 (c := (if s_cnd .eq (y_b (decide ((33 : Int64) ≤ r &&& 255 ∧ r &&& 255 ≤ 126))) 0 = true then 52 else 48, [.ref 131, .long w, s_no, .int (nI i), .int (y_b b), .long r, s_no, s_no], [], h)) rfl ?_
        refine e_eq (a := 52) (b := 48) (x := y_b (decide ((33 : Int64) ≤ r &&& 255 ∧ r &&& 255 ≤ 126))) (y := 0) (fun hc45 => ?_) (fun hc45 => ?_)
        · skip
          rw [y_d0] at hc45
          refine e_go hk_140 8 (c := (8, [.ref 131, .long w, s_no, .int ((nI i) + 1), .int 0, .long (y_us r 8), s_no, s_no], [], h)) rfl ?_
          rw [hc27, decide_eq_false hc45, Bool.and_false] at kk
          rw [nI_1]
          exact q_text_l k (i + 1) false (y_us r 8) (by omega) kk
        · skip
          rw [y_d1] at hc45
          refine e_go hk_140 9 (c := (8, [.ref 131, .long w, s_no, .int ((nI i) + 1), .int 1, .long (y_us r 8), s_no, s_no], [], h)) rfl ?_
          rw [hc27, decide_eq_true hc45, Bool.and_true] at kk
          rw [nI_1]
          exact q_text_l k (i + 1) true (y_us r 8) (by omega) kk
theorem q_text_m {P : Nat → Nat} {L : Nat} {w r : Int64} {q b : Int32}  : ∀ (k m : Nat) (Z : Nat → Nat → Int32), Z 131 10 = nI m → m + k ≤ 80 → e_r 140 106 [.ref 131, .long w, s_no, .int q, .int b, .long r, s_no, .int (nI k - 1)] [] (hp Z P L) (some (.int (q_ap w k m Z 131 10))) (hp (q_ap w k m Z) P L)
  | 0, m, Z, hM, hm => by
    refine e_go hk_140 2 (c := (if s_cnd .lt (nI 0 - 1) 0 = true then 148 else 111, [.ref 131, .long w, s_no, .int q, .int b, .long r, s_no, .int (nI 0 - 1)], [], hp Z P L)) rfl ?_
    refine e_lt (a := 148) (b := 111) (x := nI 0 - 1) (y := 0) (fun hc108 => ?_) (fun hc108 => absurd (by decide) hc108)
    refine e_go hk_140 2 (c := (152, [.ref 131, .long w, s_no, .int q, .int b, .long r, s_no, .int (nI 0 - 1)], [.int (Z 131 10)], hp Z P L)) rfl ?_
    exact e_ret hk_140 rfl rfl rfl rfl rfl
  | k + 1, m, Z, hM, hm => by
    rw [nI_pred]
    refine e_go hk_140 2 (c := (if s_cnd .lt (nI k) 0 = true then 148 else 111, [.ref 131, .long w, s_no, .int q, .int b, .long r, s_no, .int (nI k)], [], hp Z P L)) rfl ?_
    refine e_lt (a := 148) (b := 111) (x := nI k) (y := 0) (fun hc108 => absurd hc108 (nI_pos (by omega))) (fun hc108 => ?_)
    refine e_go hk_140 12 (c := (131, [.ref 131, .long w, s_no, .int q, .int b, .long r, s_no, .int (nI k)], [.int (((y_us w (8 * (nI k))) &&& 255).toInt32), .int (Z 131 10), .ref 140], hp Z P L)) rfl ?_
    rw [show (Z 131 10) = nI m from hM]
    refine e_ast hk_140 (a := 140) (j := m) (n := 80) rfl rfl rfl (by decide) (by omega) (by decide) ?_
    show e_r 140 132 [.ref 131, .long w, s_no, .int q, .int b, .long r, s_no, .int (nI k)] [] (hp (s_upd Z 140 m (((y_us w (8 * (nI k))) &&& 255).toInt32)) P L) _ _
    refine e_go hk_140 8 (c := (106, [.ref 131, .long w, s_no, .int q, .int b, .long r, s_no, .int ((nI k) + (-1))], [], hp (s_upd (s_upd Z 140 m (((y_us w (8 * (nI k))) &&& 255).toInt32)) 131 10 ((Z 131 10) + 1)) P L)) rfl ?_
    rw [q_ap, show Z 131 10 = nI m from hM, nI_1, y_am1]
    exact q_text_m k (m + 1) _ (by rw [s_upd_c, if_pos ⟨rfl, rfl⟩]) (by omega)
theorem q_text_2 {Z : Nat → Nat → Int32} {P : Nat → Nat} {L g : Nat} (hG : Z 131 10 = nI g) (hg : g ≤ 80) {w : Int64} : e_r 140 68 [.ref 131, .long w, s_no, .int (nI (q_pr 8 0 true w).1), .int (y_b (q_pr 8 0 true w).2.1), .long (q_pr 8 0 true w).2.2, s_no, s_no] [] (hp Z P L) (some (.int (q_text Z g w).1)) (hp (q_text Z g w).2 P L) := by
  have h8 : (q_pr 8 0 true w).1 ≤ 8 := q_pr_le 8 0 true w rfl
  refine e_go hk_140 2 (c := (if s_cnd .eq (nI (q_pr 8 0 true w).1) 0 = true then 84 else 72, [.ref 131, .long w, s_no, .int (nI (q_pr 8 0 true w).1), .int (y_b (q_pr 8 0 true w).2.1), .long ((q_pr 8 0 true w).2.2), s_no, s_no], [], hp Z P L)) rfl ?_
  refine e_eq (a := 84) (b := 72) (x := nI (q_pr 8 0 true w).1) (y := 0) (fun hc69 => ?_) (fun hc69 => ?_)
  · skip
    have h0 : (q_pr 8 0 true w).1 = 0 := (y_eqI (b := 0) (by omega) (by omega)).mp hc69
    refine e_go hk_140 1 (c := (86, [.ref 131, .long w, s_no, .int (nI (q_pr 8 0 true w).1), .int (y_b (q_pr 8 0 true w).2.1), .long ((q_pr 8 0 true w).2.2), s_no, s_no], [.int ((-2))], hp Z P L)) rfl ?_
    exact e_ret hk_140 rfl rfl rfl (by rw [q_text, if_pos (Or.inl h0)]) (by rw [q_text, if_pos (Or.inl h0)])
  · skip
    have h0 : ¬ (q_pr 8 0 true w).1 = 0 := fun z => hc69 (by rw [z]; rfl)
    refine e_go hk_140 4 (c := (if s_cnd .ne (lg_cmp ((q_pr 8 0 true w).2.2) 0) 0 = true then 84 else 79, [.ref 131, .long w, s_no, .int (nI (q_pr 8 0 true w).1), .int (y_b (q_pr 8 0 true w).2.1), .long ((q_pr 8 0 true w).2.2), s_no, s_no], [], hp Z P L)) rfl ?_
    refine e_ne (a := 84) (b := 79) (x := lg_cmp ((q_pr 8 0 true w).2.2) 0) (y := 0) (fun hc76 => ?_) (fun hc76 => ?_)
    · skip
      have h1 : ¬ (q_pr 8 0 true w).2.2 = 0 := fun z => hc76 ((lg_cmp_eq _ _).mpr z)
      refine e_go hk_140 1 (c := (86, [.ref 131, .long w, s_no, .int (nI (q_pr 8 0 true w).1), .int (y_b (q_pr 8 0 true w).2.1), .long ((q_pr 8 0 true w).2.2), s_no, s_no], [.int ((-2))], hp Z P L)) rfl ?_
      exact e_ret hk_140 rfl rfl rfl (by rw [q_text, if_pos (Or.inr (Or.inl h1))]) (by rw [q_text, if_pos (Or.inr (Or.inl h1))])
    · skip
      have h1 : (q_pr 8 0 true w).2.2 = 0 := (lg_cmp_eq _ _).mp hc76
      refine e_go hk_140 2 (c := (if s_cnd .ne (y_b (q_pr 8 0 true w).2.1) 0 = true then 87 else 84, [.ref 131, .long w, s_no, .int (nI (q_pr 8 0 true w).1), .int (y_b (q_pr 8 0 true w).2.1), .long ((q_pr 8 0 true w).2.2), s_no, s_no], [], hp Z P L)) rfl ?_
      refine e_ne (a := 87) (b := 84) (x := y_b (q_pr 8 0 true w).2.1) (y := 0) (fun hc81 => ?_) (fun hc81 => ?_)
      · skip
        rw [y_b1] at hc81
        have hgood : ¬ ((q_pr 8 0 true w).1 = 0 ∨ ¬ (q_pr 8 0 true w).2.2 = 0 ∨ (q_pr 8 0 true w).2.1 = false) := fun z => z.elim h0 (fun z => z.elim (fun z => z h1) (fun z => by rw [hc81] at z; cases z))
        refine e_go hk_140 6 (c := (if s_cnd .le ((Z 131 10) + (nI (q_pr 8 0 true w).1)) 80 = true then 101 else 98, [.ref 131, .long w, s_no, .int (nI (q_pr 8 0 true w).1), .int (y_b (q_pr 8 0 true w).2.1), .long ((q_pr 8 0 true w).2.2), s_no, s_no], [], hp Z P L)) rfl ?_
        refine e_le (a := 101) (b := 98) (x := (Z 131 10) + (nI (q_pr 8 0 true w).1)) (y := 80) (fun hc95 => ?_) (fun hc95 => ?_)
        · skip
          have hbig : ¬ 80 < g + (q_pr 8 0 true w).1 := fun z => by rw [hG, nI_add] at hc95; exact absurd ((y_le (b := 80) (by omega) (by omega)).mp hc95) (by omega)
          refine e_go hk_140 4 (c := (106, [.ref 131, .long w, s_no, .int (nI (q_pr 8 0 true w).1), .int (y_b (q_pr 8 0 true w).2.1), .long ((q_pr 8 0 true w).2.2), s_no, .int ((nI (q_pr 8 0 true w).1) - 1)], [], hp Z P L)) rfl ?_
          rw [q_text, if_neg hgood, if_neg hbig]
          exact q_text_m (q_pr 8 0 true w).1 g Z hG (by omega)
        · skip
          have hbig : 80 < g + (q_pr 8 0 true w).1 := by rcases Nat.lt_or_ge 80 (g + (q_pr 8 0 true w).1) with z | z; exact z; exact absurd (by rw [hG, nI_add]; exact (y_le (b := 80) (by omega) (by omega)).mpr z) hc95
          refine e_go hk_140 1 (c := (100, [.ref 131, .long w, s_no, .int (nI (q_pr 8 0 true w).1), .int (y_b (q_pr 8 0 true w).2.1), .long ((q_pr 8 0 true w).2.2), s_no, s_no], [.int ((-4))], hp Z P L)) rfl ?_
          exact e_ret hk_140 rfl rfl rfl (by rw [q_text, if_neg hgood, if_pos hbig]) (by rw [q_text, if_neg hgood, if_pos hbig])
      · skip
        rw [y_b0] at hc81
        refine e_go hk_140 1 (c := (86, [.ref 131, .long w, s_no, .int (nI (q_pr 8 0 true w).1), .int (y_b (q_pr 8 0 true w).2.1), .long ((q_pr 8 0 true w).2.2), s_no, s_no], [.int ((-2))], hp Z P L)) rfl ?_
        exact e_ret hk_140 rfl rfl rfl (by rw [q_text, if_pos (Or.inr (Or.inr hc81))]) (by rw [q_text, if_pos (Or.inr (Or.inr hc81))])
theorem q_ctext {Z : Nat → Nat → Int32} {P : Nat → Nat} {L g : Nat} (hG : Z 131 10 = nI g) (hg : g ≤ 80) {w : Int64} : m_r 140 [.ref 131, .long w] (hp Z P L) (some (.int (q_text Z g w).1)) (hp (q_text Z g w).2 P L) := by
  refine m_of (ls := [.ref 131, .long w, s_no, s_no, s_no, s_no, s_no, s_no]) hk_140 rfl rfl rfl ?_
  refine e_go hk_140 6 (c := (8, [.ref 131, .long w, s_no, .int 0, .int 1, .long w, s_no, s_no], [], hp Z P L)) rfl ?_
  exact q_text_l 8 0 true w rfl (q_text_2 hG hg)
def q_un (Z : Nat → Nat → Int32) (m : Nat) : Nat → Nat → Int32 := q_cl 134 132 (fun i => 308 * m + i) q_id 308 0 (s_upd Z 131 3 (nI m))
theorem q_undo_l {P : Nat → Nat} {L : Nat} {m : Nat} (hm : m < 6) : ∀ (k i : Nat) (Z : Nat → Nat → Int32), Z 131 3 = nI m → i + k = 308 → e_r 149 22 [.ref 131, .int (nI i)] [] (hp Z P L) (some (.int (nI m))) (hp (q_cl 134 132 (fun i => 308 * m + i) q_id k i Z) P L)
  | 0, i, Z, hM, hi => by
    refine e_go hk_149 3 (c := (if s_cnd .ge (nI i) 308 = true then 56 else 29, [.ref 131, .int (nI i)], [], hp Z P L)) rfl ?_
    refine e_ge (a := 56) (b := 29) (x := nI i) (y := 308) (fun hc26 => ?_) (fun hc26 => absurd ((y_le (a := 308) (b := i) (by omega) (by omega)).mpr (by omega)) hc26)
    refine e_go hk_149 2 (c := (60, [.ref 131, .int (nI i)], [.int (Z 131 3)], hp Z P L)) rfl ?_
    exact e_ret hk_149 rfl rfl rfl (by rw [hM]) rfl
  | k + 1, i, Z, hM, hi => by
    refine e_go hk_149 3 (c := (if s_cnd .ge (nI i) 308 = true then 56 else 29, [.ref 131, .int (nI i)], [], hp Z P L)) rfl ?_
    refine e_ge (a := 56) (b := 29) (x := nI i) (y := 308) (fun hc26 => absurd hc26 (nI_ge (b := 308) (a := i) (by omega) (by omega))) (fun hc26 => ?_)
    refine e_go hk_149 11 (c := (48, [.ref 131, .int (nI i)], [.int ((308 * (Z 131 3)) + (nI i)), .ref 134, .int (nI i), .ref 132], hp Z P L)) rfl ?_
    rw [show ((308 * (Z 131 3)) + (nI i)) = nI (308 * m + i) from (by rw [hM]; exact q_mi m i)]
    refine e_ald hk_149 (a := 134) (j := 308 * m + i) (n := 1848) rfl rfl rfl (by omega) (by decide) ?_
    show e_r 149 49 [.ref 131, .int (nI i)] [.int (Z 134 (308 * m + i)), .int (nI i), .ref 132] (hp Z P L) _ _
    refine e_ast hk_149 (a := 132) (j := i) (n := 308) rfl rfl rfl (by decide) (by omega) (by decide) ?_
    show e_r 149 50 [.ref 131, .int (nI i)] [] (hp (s_upd Z 132 i (Z 134 (308 * m + i))) P L) _ _
    refine e_go hk_149 2 (c := (22, [.ref 131, .int ((nI i) + 1)], [], hp (s_upd Z 132 i (Z 134 (308 * m + i))) P L)) rfl ?_
    rw [nI_1, q_cl]
    exact q_undo_l hm k (i + 1) _ (by rw [s_upd_o (by decide)]; exact hM) (by omega)
theorem q_undo_0 {Z : Nat → Nat → Int32} {P : Nat → Nat} {L : Nat} (hM : Z 131 3 = nI 0) : m_r 149 [.ref 131] (hp Z P L) (some (.int (-5))) (hp Z P L) := by
  refine m_of (ls := [.ref 131, s_no]) hk_149 rfl rfl rfl ?_
  refine e_go hk_149 3 (c := (if s_cnd .ne (Z 131 3) 0 = true then 10 else 7, [.ref 131, s_no], [], hp Z P L)) rfl ?_
  refine e_ne (a := 10) (b := 7) (x := Z 131 3) (y := 0) (fun hc4 => absurd (hM) hc4) (fun hc4 => ?_)
  refine e_go hk_149 1 (c := (9, [.ref 131, s_no], [.int ((-5))], hp Z P L)) rfl ?_
  exact e_ret hk_149 rfl rfl rfl rfl rfl
theorem q_undo_s {Z : Nat → Nat → Int32} {P : Nat → Nat} {L : Nat} {m : Nat} (hM : Z 131 3 = nI (m + 1)) (hm : m < 6) : m_r 149 [.ref 131] (hp Z P L) (some (.int (nI m))) (hp (q_un Z m) P L) := by
  refine m_of (ls := [.ref 131, s_no]) hk_149 rfl rfl rfl ?_
  refine e_go hk_149 3 (c := (if s_cnd .ne (Z 131 3) 0 = true then 10 else 7, [.ref 131, s_no], [], hp Z P L)) rfl ?_
  refine e_ne (a := 10) (b := 7) (x := Z 131 3) (y := 0) (fun hc4 => ?_) (fun hc4 => absurd hc4 (by rw [hM]; exact nI_ne0 (by omega) (by omega)))
  refine e_go hk_149 8 (c := (22, [.ref 131, .int 0], [], hp (s_upd Z 131 3 ((Z 131 3) - 1)) P L)) rfl ?_
  rw [show Z 131 3 - 1 = nI m from by rw [hM, nI_pred]]
  exact q_undo_l hm 308 0 _ (by rw [s_upd_c, if_pos ⟨rfl, rfl⟩]) (by omega)
def q_sa (Z : Nat → Nat → Int32) (t : Nat) : Nat → Nat → Int32 := s_upd (q_cl 132 135 q_id (fun i => 308 * t + i) 308 0 Z) 136 t 1
def q_rs (Z : Nat → Nat → Int32) (t : Nat) : Nat → Nat → Int32 := q_cl 135 132 (fun i => 308 * t + i) q_id 308 0 (q_kp Z)
theorem q_rs_x {Z : Nat → Nat → Int32} {t x : Nat} (h : x < 308) : q_rs Z t 132 x = Z 135 (308 * t + x) := by
  have := q_cl_get (a := 135) (b := 132) (fa := fun i => 308 * t + i) (fb := q_id) (by decide) (fun _ _ z => z) 308 0 (q_kp Z) x (Nat.zero_le _) (by omega)
  rw [q_kp_o (by decide)] at this
  exact this
theorem q_rs_o {Z : Nat → Nat → Int32} {t c : Nat} (h : c ≠ 132) (h2 : c ≠ 133) : q_rs Z t c = Z c := by rw [q_rs, q_cl_o h, q_kp_o h2]
theorem q_rs_k {Z : Nat → Nat → Int32} {t : Nat} : q_rs Z t 133 = q_kp Z 133 := by rw [q_rs, q_cl_o (by decide)]
theorem q_save0_l {P : Nat → Nat} {L n : Nat} (hn : n ≤ 60)  : ∀ (k i : Nat) (Z : Nat → Nat → Int32), Z 132 3 = nI n → i + k = 308 → e_r 150 15 [.ref 131, .int 0, .int (nI i)] [] (hp Z P L) (some (.int (t_sm (q_c (q_cl 132 135 q_id (fun i => 308 * 0 + i) k i Z) 188) 0 n 0))) (hp (s_upd (q_cl 132 135 q_id (fun i => 308 * 0 + i) k i Z) 136 0 1) P L)
  | 0, i, Z, hN, hi => by
    refine e_go hk_150 3 (c := (if s_cnd .ge (nI i) 308 = true then 46 else 22, [.ref 131, .int 0, .int (nI i)], [], hp Z P L)) rfl ?_
    refine e_ge (a := 46) (b := 22) (x := nI i) (y := 308) (fun hc19 => ?_) (fun hc19 => absurd ((y_le (a := 308) (b := i) (by omega) (by omega)).mpr (by omega)) hc19)
    refine e_go hk_150 4 (c := (52, [.ref 131, .int 0, .int (nI i)], [.int 1, .int 0, .ref 136], hp Z P L)) rfl ?_
    refine e_ast hk_150 (a := 136) (j := 0) (n := 2) rfl rfl rfl (by decide) (by decide) (by decide) ?_
    show e_r 150 53 [.ref 131, .int 0, .int (nI i)] [] (hp (s_upd Z 136 0 1) P L) _ _
    refine e_go hk_150 1 (c := (54, [.ref 131, .int 0, .int (nI i)], [.ref 131], hp (s_upd Z 136 0 1) P L)) rfl ?_
    refine e_call hk_150 (as := [.ref 131]) (rest := []) rfl rfl hk_115 rfl (Nat.le_of_ble_eq_true rfl) rfl (q_fulls (Z := s_upd Z 136 0 1) (n := n) (by rw [s_upd_o (by decide)]; exact hN) hn) ?_
    show e_r 150 57 [.ref 131, .int 0, .int (nI i)] [.int (t_sm (q_c (s_upd Z 136 0 1) 188) 0 n 0)] (hp (s_upd Z 136 0 1) P L) _ _
    exact e_ret hk_150 rfl rfl rfl rfl rfl
  | k + 1, i, Z, hN, hi => by
    refine e_go hk_150 3 (c := (if s_cnd .ge (nI i) 308 = true then 46 else 22, [.ref 131, .int 0, .int (nI i)], [], hp Z P L)) rfl ?_
    refine e_ge (a := 46) (b := 22) (x := nI i) (y := 308) (fun hc19 => absurd hc19 (nI_ge (b := 308) (a := i) (by omega) (by omega))) (fun hc19 => ?_)
    refine e_go hk_150 10 (c := (38, [.ref 131, .int 0, .int (nI i)], [.int (nI i), .ref 132, .int ((308 * 0) + (nI i)), .ref 135], hp Z P L)) rfl ?_
    refine e_ald hk_150 (a := 132) (j := i) (n := 308) rfl rfl rfl (by omega) (by decide) ?_
    show e_r 150 39 [.ref 131, .int 0, .int (nI i)] [.int (Z 132 i), .int ((308 * 0) + (nI i)), .ref 135] (hp Z P L) _ _
    rw [show ((308 * 0) + (nI i)) = nI (308 * 0 + i) from (q_mi 0 i)]
    refine e_ast hk_150 (a := 135) (j := 308 * 0 + i) (n := 616) rfl rfl rfl (by decide) (by omega) (by decide) ?_
    show e_r 150 40 [.ref 131, .int 0, .int (nI i)] [] (hp (s_upd Z 135 (308 * 0 + i) (Z 132 i)) P L) _ _
    refine e_go hk_150 2 (c := (15, [.ref 131, .int 0, .int ((nI i) + 1)], [], hp (s_upd Z 135 (308 * 0 + i) (Z 132 i)) P L)) rfl ?_
    rw [nI_1, q_cl]
    exact q_save0_l hn k (i + 1) _ (by rw [s_upd_o (by decide)]; exact hN) (by omega)
theorem q_save0 {Z : Nat → Nat → Int32} {P : Nat → Nat} {L n : Nat} (hN : Z 132 3 = nI n) (hn : n ≤ 60) : m_r 150 [.ref 131, .int 0] (hp Z P L) (some (.int (t_sm (q_c Z 188) 0 n 0))) (hp (q_sa Z 0) P L) := by
  refine m_of (ls := [.ref 131, .int 0, s_no]) hk_150 rfl rfl rfl ?_
  refine e_go hk_150 4 (c := (4, [.ref 131, .int 0, s_no], [.long 1, .long 0, .long ((0 : Int32).toInt64)], hp Z P L)) rfl ?_
  refine e_call hk_150 (as := [.long ((0 : Int32).toInt64), .long 0, .long 1]) (rest := []) rfl rfl hk_90 rfl (Nat.le_of_ble_eq_true rfl) rfl (q_in2 (x := 0) (lo := 0) (hi := 1) (by decide) (by decide) (by decide)) ?_
  show e_r 150 7 [.ref 131, .int 0, s_no] [.int (y_b (decide (0 ≤ 0 ∧ 0 ≤ 1)))] (hp Z P L) _ _
  refine e_go hk_150 1 (c := (if s_cnd .ne (y_b (decide (0 ≤ 0 ∧ 0 ≤ 1))) 0 = true then 13 else 10, [.ref 131, .int 0, s_no], [], hp Z P L)) rfl ?_
  refine e_ne (a := 13) (b := 10) (x := y_b (decide (0 ≤ 0 ∧ 0 ≤ 1))) (y := 0) (fun hc7 => ?_) (fun hc7 => absurd hc7 (by decide))
  refine e_go hk_150 2 (c := (15, [.ref 131, .int 0, .int 0], [], hp Z P L)) rfl ?_
  have := q_save0_l (P := P) (L := L) hn 308 0 Z hN (by omega)
  rw [show q_c (q_cl 132 135 q_id (fun i => 308 * 0 + i) 308 0 Z) 188 = q_c Z 188 from by funext i; exact congrFun (q_cl_o (by decide) 308 0 Z) (188 + i)] at this
  exact this
theorem q_rest0_e {Z : Nat → Nat → Int32} {P : Nat → Nat} {L : Nat} (hS : Z 136 0 = 0) : m_r 151 [.ref 131, .int 0] (hp Z P L) (some (.int (-5))) (hp Z P L) := by
  refine m_of (ls := [.ref 131, .int 0, s_no]) hk_151 rfl rfl rfl ?_
  refine e_go hk_151 4 (c := (4, [.ref 131, .int 0, s_no], [.long 1, .long 0, .long ((0 : Int32).toInt64)], hp Z P L)) rfl ?_
  refine e_call hk_151 (as := [.long ((0 : Int32).toInt64), .long 0, .long 1]) (rest := []) rfl rfl hk_90 rfl (Nat.le_of_ble_eq_true rfl) rfl (q_in2 (x := 0) (lo := 0) (hi := 1) (by decide) (by decide) (by decide)) ?_
  show e_r 151 7 [.ref 131, .int 0, s_no] [.int (y_b (decide (0 ≤ 0 ∧ 0 ≤ 1)))] (hp Z P L) _ _
  refine e_go hk_151 1 (c := (if s_cnd .ne (y_b (decide (0 ≤ 0 ∧ 0 ≤ 1))) 0 = true then 13 else 10, [.ref 131, .int 0, s_no], [], hp Z P L)) rfl ?_
  refine e_ne (a := 13) (b := 10) (x := y_b (decide (0 ≤ 0 ∧ 0 ≤ 1))) (y := 0) (fun hc7 => ?_) (fun hc7 => absurd hc7 (by decide))
  refine e_go hk_151 3 (c := (18, [.ref 131, .int 0, s_no], [.int 0, .ref 136], hp Z P L)) rfl ?_
  refine e_ald hk_151 (a := 136) (j := 0) (n := 2) rfl rfl rfl (by decide) (by decide) ?_
  show e_r 151 19 [.ref 131, .int 0, s_no] [.int (Z 136 0)] (hp Z P L) _ _
  refine e_go hk_151 1 (c := (if s_cnd .ne (Z 136 0) 0 = true then 25 else 22, [.ref 131, .int 0, s_no], [], hp Z P L)) rfl ?_
  refine e_ne (a := 25) (b := 22) (x := Z 136 0) (y := 0) (fun hc19 => absurd (hS) hc19) (fun hc19 => ?_)
  refine e_go hk_151 1 (c := (24, [.ref 131, .int 0, s_no], [.int ((-5))], hp Z P L)) rfl ?_
  exact e_ret hk_151 rfl rfl rfl rfl rfl
theorem q_rest0_l {P : Nat → Nat} {L : Nat} {m n2 : Nat} (hm : m ≤ 6) (hn2 : n2 ≤ 60) : ∀ (k i : Nat) (Z : Nat → Nat → Int32), Z 131 3 = nI m → (q_cl 135 132 (fun i => 308 * 0 + i) q_id k i Z) 132 3 = nI n2 → i + k = 308 → e_r 151 31 [.ref 131, .int 0, .int (nI i)] [] (hp Z P L) (some (.int (t_sm (q_c (q_cl 135 132 (fun i => 308 * 0 + i) q_id k i Z) 188) 0 n2 0))) (hp (q_chg (q_cl 135 132 (fun i => 308 * 0 + i) q_id k i Z) m (t_sm (q_c (q_cl 135 132 (fun i => 308 * 0 + i) q_id k i Z) 188) 0 n2 0)) P L)
  | 0, i, Z, hM, hN, hi => by
    refine e_go hk_151 3 (c := (if s_cnd .ge (nI i) 308 = true then 62 else 38, [.ref 131, .int 0, .int (nI i)], [], hp Z P L)) rfl ?_
    refine e_ge (a := 62) (b := 38) (x := nI i) (y := 308) (fun hc35 => ?_) (fun hc35 => absurd ((y_le (a := 308) (b := i) (by omega) (by omega)).mpr (by omega)) hc35)
    refine e_go hk_151 2 (c := (64, [.ref 131, .int 0, .int (nI i)], [.ref 131, .ref 131], hp Z P L)) rfl ?_
    refine e_call hk_151 (as := [.ref 131]) (rest := [.ref 131]) rfl rfl hk_115 rfl (Nat.le_of_ble_eq_true rfl) rfl (q_fulls (n := n2) hN hn2) ?_
    show e_r 151 67 [.ref 131, .int 0, .int (nI i)] [.int (t_sm (q_c Z 188) 0 n2 0), .ref 131] (hp Z P L) _ _
    refine e_call hk_151 (as := [.ref 131, .int (t_sm (q_c Z 188) 0 n2 0)]) (rest := []) rfl rfl hk_93 rfl (Nat.le_of_ble_eq_true rfl) rfl (q_chgd hM hm) ?_
    show e_r 151 70 [.ref 131, .int 0, .int (nI i)] [.int (t_sm (q_c Z 188) 0 n2 0)] (hp ((q_chg Z m (t_sm (q_c Z 188) 0 n2 0))) P L) _ _
    exact e_ret hk_151 rfl rfl rfl rfl rfl
  | k + 1, i, Z, hM, hN, hi => by
    refine e_go hk_151 3 (c := (if s_cnd .ge (nI i) 308 = true then 62 else 38, [.ref 131, .int 0, .int (nI i)], [], hp Z P L)) rfl ?_
    refine e_ge (a := 62) (b := 38) (x := nI i) (y := 308) (fun hc35 => absurd hc35 (nI_ge (b := 308) (a := i) (by omega) (by omega))) (fun hc35 => ?_)
    refine e_go hk_151 10 (c := (54, [.ref 131, .int 0, .int (nI i)], [.int ((308 * 0) + (nI i)), .ref 135, .int (nI i), .ref 132], hp Z P L)) rfl ?_
    rw [show ((308 * 0) + (nI i)) = nI (308 * 0 + i) from (q_mi 0 i)]
    refine e_ald hk_151 (a := 135) (j := 308 * 0 + i) (n := 616) rfl rfl rfl (by omega) (by decide) ?_
    show e_r 151 55 [.ref 131, .int 0, .int (nI i)] [.int (Z 135 (308 * 0 + i)), .int (nI i), .ref 132] (hp Z P L) _ _
    refine e_ast hk_151 (a := 132) (j := i) (n := 308) rfl rfl rfl (by decide) (by omega) (by decide) ?_
    show e_r 151 56 [.ref 131, .int 0, .int (nI i)] [] (hp (s_upd Z 132 i (Z 135 (308 * 0 + i))) P L) _ _
    refine e_go hk_151 2 (c := (31, [.ref 131, .int 0, .int ((nI i) + 1)], [], hp (s_upd Z 132 i (Z 135 (308 * 0 + i))) P L)) rfl ?_
    rw [nI_1, q_cl]
    rw [q_cl] at hN
    exact q_rest0_l hm hn2 k (i + 1) _ (by rw [s_upd_o (by decide)]; exact hM) hN (by omega)
theorem q_rest0 {Z : Nat → Nat → Int32} {P : Nat → Nat} {L : Nat} {m n2 : Nat} (hM : Z 131 3 = nI m) (hm : m ≤ 6) (hn2 : n2 ≤ 60) (hS : ¬ Z 136 0 = 0) (hT : Z 135 (308 * 0 + 3) = nI n2) : m_r 151 [.ref 131, .int 0] (hp Z P L) (some (.int (t_sm (q_c (q_rs Z 0) 188) 0 n2 0))) (hp (q_chg (q_rs Z 0) m (t_sm (q_c (q_rs Z 0) 188) 0 n2 0)) P L) := by
  refine m_of (ls := [.ref 131, .int 0, s_no]) hk_151 rfl rfl rfl ?_
  refine e_go hk_151 4 (c := (4, [.ref 131, .int 0, s_no], [.long 1, .long 0, .long ((0 : Int32).toInt64)], hp Z P L)) rfl ?_
  refine e_call hk_151 (as := [.long ((0 : Int32).toInt64), .long 0, .long 1]) (rest := []) rfl rfl hk_90 rfl (Nat.le_of_ble_eq_true rfl) rfl (q_in2 (x := 0) (lo := 0) (hi := 1) (by decide) (by decide) (by decide)) ?_
  show e_r 151 7 [.ref 131, .int 0, s_no] [.int (y_b (decide (0 ≤ 0 ∧ 0 ≤ 1)))] (hp Z P L) _ _
  refine e_go hk_151 1 (c := (if s_cnd .ne (y_b (decide (0 ≤ 0 ∧ 0 ≤ 1))) 0 = true then 13 else 10, [.ref 131, .int 0, s_no], [], hp Z P L)) rfl ?_
  refine e_ne (a := 13) (b := 10) (x := y_b (decide (0 ≤ 0 ∧ 0 ≤ 1))) (y := 0) (fun hc7 => ?_) (fun hc7 => absurd hc7 (by decide))
  refine e_go hk_151 3 (c := (18, [.ref 131, .int 0, s_no], [.int 0, .ref 136], hp Z P L)) rfl ?_
  refine e_ald hk_151 (a := 136) (j := 0) (n := 2) rfl rfl rfl (by decide) (by decide) ?_
  show e_r 151 19 [.ref 131, .int 0, s_no] [.int (Z 136 0)] (hp Z P L) _ _
  refine e_go hk_151 1 (c := (if s_cnd .ne (Z 136 0) 0 = true then 25 else 22, [.ref 131, .int 0, s_no], [], hp Z P L)) rfl ?_
  refine e_ne (a := 25) (b := 22) (x := Z 136 0) (y := 0) (fun hc19 => ?_) (fun hc19 => absurd hc19 (hS))
  refine e_go hk_151 1 (c := (26, [.ref 131, .int 0, s_no], [.ref 131], hp Z P L)) rfl ?_
  refine e_call hk_151 (as := [.ref 131]) (rest := []) rfl rfl hk_91 rfl (Nat.le_of_ble_eq_true rfl) rfl q_keep ?_
  show e_r 151 29 [.ref 131, .int 0, s_no] [] (hp ((q_kp Z)) P L) _ _
  refine e_go hk_151 2 (c := (31, [.ref 131, .int 0, .int 0], [], hp ((q_kp Z)) P L)) rfl ?_
  exact q_rest0_l hm hn2 308 0 (q_kp Z) (by rw [q_kp_o (by decide)]; exact hM) (by have := q_rs_x (Z := Z) (t := 0) (x := 3) (by omega); rw [hT] at this; exact this) (by omega)
theorem q_save1_l {P : Nat → Nat} {L n : Nat} (hn : n ≤ 60)  : ∀ (k i : Nat) (Z : Nat → Nat → Int32), Z 132 3 = nI n → i + k = 308 → e_r 150 15 [.ref 131, .int 1, .int (nI i)] [] (hp Z P L) (some (.int (t_sm (q_c (q_cl 132 135 q_id (fun i => 308 * 1 + i) k i Z) 188) 0 n 0))) (hp (s_upd (q_cl 132 135 q_id (fun i => 308 * 1 + i) k i Z) 136 1 1) P L)
  | 0, i, Z, hN, hi => by
    refine e_go hk_150 3 (c := (if s_cnd .ge (nI i) 308 = true then 46 else 22, [.ref 131, .int 1, .int (nI i)], [], hp Z P L)) rfl ?_
    refine e_ge (a := 46) (b := 22) (x := nI i) (y := 308) (fun hc19 => ?_) (fun hc19 => absurd ((y_le (a := 308) (b := i) (by omega) (by omega)).mpr (by omega)) hc19)
    refine e_go hk_150 4 (c := (52, [.ref 131, .int 1, .int (nI i)], [.int 1, .int 1, .ref 136], hp Z P L)) rfl ?_
    refine e_ast hk_150 (a := 136) (j := 1) (n := 2) rfl rfl rfl (by decide) (by decide) (by decide) ?_
    show e_r 150 53 [.ref 131, .int 1, .int (nI i)] [] (hp (s_upd Z 136 1 1) P L) _ _
    refine e_go hk_150 1 (c := (54, [.ref 131, .int 1, .int (nI i)], [.ref 131], hp (s_upd Z 136 1 1) P L)) rfl ?_
    refine e_call hk_150 (as := [.ref 131]) (rest := []) rfl rfl hk_115 rfl (Nat.le_of_ble_eq_true rfl) rfl (q_fulls (Z := s_upd Z 136 1 1) (n := n) (by rw [s_upd_o (by decide)]; exact hN) hn) ?_
    show e_r 150 57 [.ref 131, .int 1, .int (nI i)] [.int (t_sm (q_c (s_upd Z 136 1 1) 188) 0 n 0)] (hp (s_upd Z 136 1 1) P L) _ _
    exact e_ret hk_150 rfl rfl rfl rfl rfl
  | k + 1, i, Z, hN, hi => by
    refine e_go hk_150 3 (c := (if s_cnd .ge (nI i) 308 = true then 46 else 22, [.ref 131, .int 1, .int (nI i)], [], hp Z P L)) rfl ?_
    refine e_ge (a := 46) (b := 22) (x := nI i) (y := 308) (fun hc19 => absurd hc19 (nI_ge (b := 308) (a := i) (by omega) (by omega))) (fun hc19 => ?_)
    refine e_go hk_150 10 (c := (38, [.ref 131, .int 1, .int (nI i)], [.int (nI i), .ref 132, .int ((308 * 1) + (nI i)), .ref 135], hp Z P L)) rfl ?_
    refine e_ald hk_150 (a := 132) (j := i) (n := 308) rfl rfl rfl (by omega) (by decide) ?_
    show e_r 150 39 [.ref 131, .int 1, .int (nI i)] [.int (Z 132 i), .int ((308 * 1) + (nI i)), .ref 135] (hp Z P L) _ _
    rw [show ((308 * 1) + (nI i)) = nI (308 * 1 + i) from (q_mi 1 i)]
    refine e_ast hk_150 (a := 135) (j := 308 * 1 + i) (n := 616) rfl rfl rfl (by decide) (by omega) (by decide) ?_
    show e_r 150 40 [.ref 131, .int 1, .int (nI i)] [] (hp (s_upd Z 135 (308 * 1 + i) (Z 132 i)) P L) _ _
    refine e_go hk_150 2 (c := (15, [.ref 131, .int 1, .int ((nI i) + 1)], [], hp (s_upd Z 135 (308 * 1 + i) (Z 132 i)) P L)) rfl ?_
    rw [nI_1, q_cl]
    exact q_save1_l hn k (i + 1) _ (by rw [s_upd_o (by decide)]; exact hN) (by omega)
theorem q_save1 {Z : Nat → Nat → Int32} {P : Nat → Nat} {L n : Nat} (hN : Z 132 3 = nI n) (hn : n ≤ 60) : m_r 150 [.ref 131, .int 1] (hp Z P L) (some (.int (t_sm (q_c Z 188) 0 n 0))) (hp (q_sa Z 1) P L) := by
  refine m_of (ls := [.ref 131, .int 1, s_no]) hk_150 rfl rfl rfl ?_
  refine e_go hk_150 4 (c := (4, [.ref 131, .int 1, s_no], [.long 1, .long 0, .long ((1 : Int32).toInt64)], hp Z P L)) rfl ?_
  refine e_call hk_150 (as := [.long ((1 : Int32).toInt64), .long 0, .long 1]) (rest := []) rfl rfl hk_90 rfl (Nat.le_of_ble_eq_true rfl) rfl (q_in2 (x := 1) (lo := 0) (hi := 1) (by decide) (by decide) (by decide)) ?_
  show e_r 150 7 [.ref 131, .int 1, s_no] [.int (y_b (decide (0 ≤ 1 ∧ 1 ≤ 1)))] (hp Z P L) _ _
  refine e_go hk_150 1 (c := (if s_cnd .ne (y_b (decide (0 ≤ 1 ∧ 1 ≤ 1))) 0 = true then 13 else 10, [.ref 131, .int 1, s_no], [], hp Z P L)) rfl ?_
  refine e_ne (a := 13) (b := 10) (x := y_b (decide (0 ≤ 1 ∧ 1 ≤ 1))) (y := 0) (fun hc7 => ?_) (fun hc7 => absurd hc7 (by decide))
  refine e_go hk_150 2 (c := (15, [.ref 131, .int 1, .int 0], [], hp Z P L)) rfl ?_
  have := q_save1_l (P := P) (L := L) hn 308 0 Z hN (by omega)
  rw [show q_c (q_cl 132 135 q_id (fun i => 308 * 1 + i) 308 0 Z) 188 = q_c Z 188 from by funext i; exact congrFun (q_cl_o (by decide) 308 0 Z) (188 + i)] at this
  exact this
theorem q_rest1_e {Z : Nat → Nat → Int32} {P : Nat → Nat} {L : Nat} (hS : Z 136 1 = 0) : m_r 151 [.ref 131, .int 1] (hp Z P L) (some (.int (-5))) (hp Z P L) := by
  refine m_of (ls := [.ref 131, .int 1, s_no]) hk_151 rfl rfl rfl ?_
  refine e_go hk_151 4 (c := (4, [.ref 131, .int 1, s_no], [.long 1, .long 0, .long ((1 : Int32).toInt64)], hp Z P L)) rfl ?_
  refine e_call hk_151 (as := [.long ((1 : Int32).toInt64), .long 0, .long 1]) (rest := []) rfl rfl hk_90 rfl (Nat.le_of_ble_eq_true rfl) rfl (q_in2 (x := 1) (lo := 0) (hi := 1) (by decide) (by decide) (by decide)) ?_
  show e_r 151 7 [.ref 131, .int 1, s_no] [.int (y_b (decide (0 ≤ 1 ∧ 1 ≤ 1)))] (hp Z P L) _ _
  refine e_go hk_151 1 (c := (if s_cnd .ne (y_b (decide (0 ≤ 1 ∧ 1 ≤ 1))) 0 = true then 13 else 10, [.ref 131, .int 1, s_no], [], hp Z P L)) rfl ?_
  refine e_ne (a := 13) (b := 10) (x := y_b (decide (0 ≤ 1 ∧ 1 ≤ 1))) (y := 0) (fun hc7 => ?_) (fun hc7 => absurd hc7 (by decide))
  refine e_go hk_151 3 (c := (18, [.ref 131, .int 1, s_no], [.int 1, .ref 136], hp Z P L)) rfl ?_
  refine e_ald hk_151 (a := 136) (j := 1) (n := 2) rfl rfl rfl (by decide) (by decide) ?_
  show e_r 151 19 [.ref 131, .int 1, s_no] [.int (Z 136 1)] (hp Z P L) _ _
  refine e_go hk_151 1 (c := (if s_cnd .ne (Z 136 1) 0 = true then 25 else 22, [.ref 131, .int 1, s_no], [], hp Z P L)) rfl ?_
  refine e_ne (a := 25) (b := 22) (x := Z 136 1) (y := 0) (fun hc19 => absurd (hS) hc19) (fun hc19 => ?_)
  refine e_go hk_151 1 (c := (24, [.ref 131, .int 1, s_no], [.int ((-5))], hp Z P L)) rfl ?_
  exact e_ret hk_151 rfl rfl rfl rfl rfl
theorem q_rest1_l {P : Nat → Nat} {L : Nat} {m n2 : Nat} (hm : m ≤ 6) (hn2 : n2 ≤ 60) : ∀ (k i : Nat) (Z : Nat → Nat → Int32), Z 131 3 = nI m → (q_cl 135 132 (fun i => 308 * 1 + i) q_id k i Z) 132 3 = nI n2 → i + k = 308 → e_r 151 31 [.ref 131, .int 1, .int (nI i)] [] (hp Z P L) (some (.int (t_sm (q_c (q_cl 135 132 (fun i => 308 * 1 + i) q_id k i Z) 188) 0 n2 0))) (hp (q_chg (q_cl 135 132 (fun i => 308 * 1 + i) q_id k i Z) m (t_sm (q_c (q_cl 135 132 (fun i => 308 * 1 + i) q_id k i Z) 188) 0 n2 0)) P L)
  | 0, i, Z, hM, hN, hi => by
    refine e_go hk_151 3 (c := (if s_cnd .ge (nI i) 308 = true then 62 else 38, [.ref 131, .int 1, .int (nI i)], [], hp Z P L)) rfl ?_
    refine e_ge (a := 62) (b := 38) (x := nI i) (y := 308) (fun hc35 => ?_) (fun hc35 => absurd ((y_le (a := 308) (b := i) (by omega) (by omega)).mpr (by omega)) hc35)
    refine e_go hk_151 2 (c := (64, [.ref 131, .int 1, .int (nI i)], [.ref 131, .ref 131], hp Z P L)) rfl ?_
    refine e_call hk_151 (as := [.ref 131]) (rest := [.ref 131]) rfl rfl hk_115 rfl (Nat.le_of_ble_eq_true rfl) rfl (q_fulls (n := n2) hN hn2) ?_
    show e_r 151 67 [.ref 131, .int 1, .int (nI i)] [.int (t_sm (q_c Z 188) 0 n2 0), .ref 131] (hp Z P L) _ _
    refine e_call hk_151 (as := [.ref 131, .int (t_sm (q_c Z 188) 0 n2 0)]) (rest := []) rfl rfl hk_93 rfl (Nat.le_of_ble_eq_true rfl) rfl (q_chgd hM hm) ?_
    show e_r 151 70 [.ref 131, .int 1, .int (nI i)] [.int (t_sm (q_c Z 188) 0 n2 0)] (hp ((q_chg Z m (t_sm (q_c Z 188) 0 n2 0))) P L) _ _
    exact e_ret hk_151 rfl rfl rfl rfl rfl
  | k + 1, i, Z, hM, hN, hi => by
    refine e_go hk_151 3 (c := (if s_cnd .ge (nI i) 308 = true then 62 else 38, [.ref 131, .int 1, .int (nI i)], [], hp Z P L)) rfl ?_
    refine e_ge (a := 62) (b := 38) (x := nI i) (y := 308) (fun hc35 => absurd hc35 (nI_ge (b := 308) (a := i) (by omega) (by omega))) (fun hc35 => ?_)
    refine e_go hk_151 10 (c := (54, [.ref 131, .int 1, .int (nI i)], [.int ((308 * 1) + (nI i)), .ref 135, .int (nI i), .ref 132], hp Z P L)) rfl ?_
    rw [show ((308 * 1) + (nI i)) = nI (308 * 1 + i) from (q_mi 1 i)]
    refine e_ald hk_151 (a := 135) (j := 308 * 1 + i) (n := 616) rfl rfl rfl (by omega) (by decide) ?_
    show e_r 151 55 [.ref 131, .int 1, .int (nI i)] [.int (Z 135 (308 * 1 + i)), .int (nI i), .ref 132] (hp Z P L) _ _
    refine e_ast hk_151 (a := 132) (j := i) (n := 308) rfl rfl rfl (by decide) (by omega) (by decide) ?_
    show e_r 151 56 [.ref 131, .int 1, .int (nI i)] [] (hp (s_upd Z 132 i (Z 135 (308 * 1 + i))) P L) _ _
    refine e_go hk_151 2 (c := (31, [.ref 131, .int 1, .int ((nI i) + 1)], [], hp (s_upd Z 132 i (Z 135 (308 * 1 + i))) P L)) rfl ?_
    rw [nI_1, q_cl]
    rw [q_cl] at hN
    exact q_rest1_l hm hn2 k (i + 1) _ (by rw [s_upd_o (by decide)]; exact hM) hN (by omega)
theorem q_rest1 {Z : Nat → Nat → Int32} {P : Nat → Nat} {L : Nat} {m n2 : Nat} (hM : Z 131 3 = nI m) (hm : m ≤ 6) (hn2 : n2 ≤ 60) (hS : ¬ Z 136 1 = 0) (hT : Z 135 (308 * 1 + 3) = nI n2) : m_r 151 [.ref 131, .int 1] (hp Z P L) (some (.int (t_sm (q_c (q_rs Z 1) 188) 0 n2 0))) (hp (q_chg (q_rs Z 1) m (t_sm (q_c (q_rs Z 1) 188) 0 n2 0)) P L) := by
  refine m_of (ls := [.ref 131, .int 1, s_no]) hk_151 rfl rfl rfl ?_
  refine e_go hk_151 4 (c := (4, [.ref 131, .int 1, s_no], [.long 1, .long 0, .long ((1 : Int32).toInt64)], hp Z P L)) rfl ?_
  refine e_call hk_151 (as := [.long ((1 : Int32).toInt64), .long 0, .long 1]) (rest := []) rfl rfl hk_90 rfl (Nat.le_of_ble_eq_true rfl) rfl (q_in2 (x := 1) (lo := 0) (hi := 1) (by decide) (by decide) (by decide)) ?_
  show e_r 151 7 [.ref 131, .int 1, s_no] [.int (y_b (decide (0 ≤ 1 ∧ 1 ≤ 1)))] (hp Z P L) _ _
  refine e_go hk_151 1 (c := (if s_cnd .ne (y_b (decide (0 ≤ 1 ∧ 1 ≤ 1))) 0 = true then 13 else 10, [.ref 131, .int 1, s_no], [], hp Z P L)) rfl ?_
  refine e_ne (a := 13) (b := 10) (x := y_b (decide (0 ≤ 1 ∧ 1 ≤ 1))) (y := 0) (fun hc7 => ?_) (fun hc7 => absurd hc7 (by decide))
  refine e_go hk_151 3 (c := (18, [.ref 131, .int 1, s_no], [.int 1, .ref 136], hp Z P L)) rfl ?_
  refine e_ald hk_151 (a := 136) (j := 1) (n := 2) rfl rfl rfl (by decide) (by decide) ?_
  show e_r 151 19 [.ref 131, .int 1, s_no] [.int (Z 136 1)] (hp Z P L) _ _
  refine e_go hk_151 1 (c := (if s_cnd .ne (Z 136 1) 0 = true then 25 else 22, [.ref 131, .int 1, s_no], [], hp Z P L)) rfl ?_
  refine e_ne (a := 25) (b := 22) (x := Z 136 1) (y := 0) (fun hc19 => ?_) (fun hc19 => absurd hc19 (hS))
  refine e_go hk_151 1 (c := (26, [.ref 131, .int 1, s_no], [.ref 131], hp Z P L)) rfl ?_
  refine e_call hk_151 (as := [.ref 131]) (rest := []) rfl rfl hk_91 rfl (Nat.le_of_ble_eq_true rfl) rfl q_keep ?_
  show e_r 151 29 [.ref 131, .int 1, s_no] [] (hp ((q_kp Z)) P L) _ _
  refine e_go hk_151 2 (c := (31, [.ref 131, .int 1, .int 0], [], hp ((q_kp Z)) P L)) rfl ?_
  exact q_rest1_l hm hn2 308 0 (q_kp Z) (by rw [q_kp_o (by decide)]; exact hM) (by have := q_rs_x (Z := Z) (t := 1) (x := 3) (by omega); rw [hT] at this; exact this) (by omega)
theorem q_save_no {Z : Nat → Nat → Int32} {P : Nat → Nat} {L : Nat} {s : Int32} (hs : ¬ (0 ≤ s ∧ s ≤ 1)) : m_r 150 [.ref 131, .int s] (hp Z P L) (some (.int (-2))) (hp Z P L) := by
  refine m_of (ls := [.ref 131, .int s, s_no]) hk_150 rfl rfl rfl ?_
  refine e_go hk_150 4 (c := (4, [.ref 131, .int s, s_no], [.long 1, .long 0, .long s.toInt64], hp Z P L)) rfl ?_
  refine e_call hk_150 (as := [.long s.toInt64, .long 0, .long 1]) (rest := []) rfl rfl hk_90 rfl (Nat.le_of_ble_eq_true rfl) rfl (q_in2 (x := s) (lo := 0) (hi := 1) rfl (by decide) (by decide)) ?_
  show e_r 150 7 [.ref 131, .int s, s_no] [.int (y_b (decide (0 ≤ s ∧ s ≤ 1)))] (hp Z P L) _ _
  refine e_go hk_150 1 (c := (if s_cnd .ne (y_b (decide (0 ≤ s ∧ s ≤ 1))) 0 = true then 13 else 10, [.ref 131, .int s, s_no], [], hp Z P L)) rfl ?_
  refine e_ne (a := 13) (b := 10) (x := y_b (decide (0 ≤ s ∧ s ≤ 1))) (y := 0) (fun hc7 => absurd (y_d0.mpr hs) hc7) (fun hc7 => ?_)
  refine e_go hk_150 1 (c := (12, [.ref 131, .int s, s_no], [.int ((-2))], hp Z P L)) rfl ?_
  exact e_ret hk_150 rfl rfl rfl rfl rfl
theorem q_rest_no {Z : Nat → Nat → Int32} {P : Nat → Nat} {L : Nat} {s : Int32} (hs : ¬ (0 ≤ s ∧ s ≤ 1)) : m_r 151 [.ref 131, .int s] (hp Z P L) (some (.int (-2))) (hp Z P L) := by
  refine m_of (ls := [.ref 131, .int s, s_no]) hk_151 rfl rfl rfl ?_
  refine e_go hk_151 4 (c := (4, [.ref 131, .int s, s_no], [.long 1, .long 0, .long s.toInt64], hp Z P L)) rfl ?_
  refine e_call hk_151 (as := [.long s.toInt64, .long 0, .long 1]) (rest := []) rfl rfl hk_90 rfl (Nat.le_of_ble_eq_true rfl) rfl (q_in2 (x := s) (lo := 0) (hi := 1) rfl (by decide) (by decide)) ?_
  show e_r 151 7 [.ref 131, .int s, s_no] [.int (y_b (decide (0 ≤ s ∧ s ≤ 1)))] (hp Z P L) _ _
  refine e_go hk_151 1 (c := (if s_cnd .ne (y_b (decide (0 ≤ s ∧ s ≤ 1))) 0 = true then 13 else 10, [.ref 131, .int s, s_no], [], hp Z P L)) rfl ?_
  refine e_ne (a := 13) (b := 10) (x := y_b (decide (0 ≤ s ∧ s ≤ 1))) (y := 0) (fun hc7 => absurd (y_d0.mpr hs) hc7) (fun hc7 => ?_)
  refine e_go hk_151 1 (c := (12, [.ref 131, .int s, s_no], [.int ((-2))], hp Z P L)) rfl ?_
  exact e_ret hk_151 rfl rfl rfl rfl rfl
theorem e_drem {k pc : Nat} {r : sM} {cn : Option Nat} {ls rest : List Value} {h h2 : sHp} {v : Option Value} (hk : s_T k = some (r, cn)) {e : sE} {x y : UInt64} (hat : s_at (s_cd r) pc = some e) (hi : e.2.1 = .drem) (hf : FP.drem x y &&& 0x7fffffffffffffff ≤ 0x7ff0000000000000) (kk : e_r k (pc + e.2.2.1) ls (.double (FP.drem x y) :: rest) h v h2) : e_r k pc ls (.double y :: .double x :: rest) h v h2 := by
  refine e_step (c := (pc + e.2.2.1, ls, .double (FP.drem x y) :: rest, h)) hk hat (by rw [hi]; rfl) (by rw [hi]; rfl) ?_ kk
  rw [hi]
  dsimp only [s_x]
  rw [if_pos hf]
theorem q_dnan {h : sHp} {x : UInt64} (hx : Op.cmpValue (FP.dcmp x x) .l = 0) : m_r 154 [.double x] h (some (.int 0)) h := by
  refine m_of (ls := [.double x, s_no]) hk_154 rfl rfl rfl ?_
  refine e_go hk_154 4 (c := (if s_cnd .eq (Op.cmpValue (FP.dcmp x x) .l) 0 = true then 10 else 6, [.double x, s_no], [], h)) rfl ?_
  refine e_eq (a := 10) (b := 6) (x := Op.cmpValue (FP.dcmp x x) .l) (y := 0) (fun hc3 => ?_) (fun hc3 => absurd (hx) hc3)
  refine e_go hk_154 1 (c := (11, [.double x, s_no], [.int 0], h)) rfl ?_
  exact e_ret hk_154 rfl rfl rfl rfl rfl
theorem q_dbits {h : sHp} {x : UInt64} (hx : Op.cmpValue (FP.dcmp x x) .l = 0) : m_r 153 [.double x] h (some (.long x.toInt64)) h := by
  refine m_of (ls := [.double x, s_no]) hk_153 rfl rfl rfl ?_
  refine e_go hk_153 1 (c := (1, [.double x, s_no], [.double x], h)) rfl ?_
  refine e_call hk_153 (as := [.double x]) (rest := []) rfl rfl hk_154 rfl (Nat.le_of_ble_eq_true rfl) rfl (q_dnan hx) ?_
  show e_r 153 4 [.double x, s_no] [.int 0] h _ _
  refine e_go hk_153 1 (c := (if s_cnd .ne 0 0 = true then 12 else 7, [.double x, s_no], [], h)) rfl ?_
  refine e_ne (a := 12) (b := 7) (x := 0) (y := 0) (fun hc4 => absurd (rfl) hc4) (fun hc4 => ?_)
  refine e_go hk_153 2 (c := (11, [.double x, s_no], [.long x.toInt64], h)) rfl ?_
  exact e_ret hk_153 rfl rfl rfl rfl rfl
theorem q_fnan {h : sHp} {x : UInt32} (hx : Op.cmpValue (FP.fcmp x x) .l = 0) : m_r 156 [.float x] h (some (.int 0)) h := by
  refine m_of (ls := [.float x]) hk_156 rfl rfl rfl ?_
  refine e_go hk_156 4 (c := (if s_cnd .eq (Op.cmpValue (FP.fcmp x x) .l) 0 = true then 10 else 6, [.float x], [], h)) rfl ?_
  refine e_eq (a := 10) (b := 6) (x := Op.cmpValue (FP.fcmp x x) .l) (y := 0) (fun hc3 => ?_) (fun hc3 => absurd (hx) hc3)
  refine e_go hk_156 1 (c := (11, [.float x], [.int 0], h)) rfl ?_
  exact e_ret hk_156 rfl rfl rfl rfl rfl
theorem q_fbits {h : sHp} {x : UInt32} (hx : Op.cmpValue (FP.fcmp x x) .l = 0) : m_r 155 [.float x] h (some (.int x.toInt32)) h := by
  refine m_of (ls := [.float x]) hk_155 rfl rfl rfl ?_
  refine e_go hk_155 1 (c := (1, [.float x], [.float x], h)) rfl ?_
  refine e_call hk_155 (as := [.float x]) (rest := []) rfl rfl hk_156 rfl (Nat.le_of_ble_eq_true rfl) rfl (q_fnan hx) ?_
  show e_r 155 4 [.float x] [.int 0] h _ _
  refine e_go hk_155 1 (c := (if s_cnd .ne 0 0 = true then 12 else 7, [.float x], [], h)) rfl ?_
  refine e_ne (a := 12) (b := 7) (x := 0) (y := 0) (fun hc4 => absurd (rfl) hc4) (fun hc4 => ?_)
  refine e_go hk_155 2 (c := (11, [.float x], [.int x.toInt32], h)) rfl ?_
  exact e_ret hk_155 rfl rfl rfl rfl rfl
def q_mn (Z : Nat → Nat → Int32) (n : Nat) : UInt64 := FP.ddiv (FP.i2d (t_sm (q_c Z 248) 0 n 0)) (FP.i2d (nI n))
def q_md (Z : Nat → Nat → Int32) (n : Nat) : UInt64 := FP.drem (q_mn Z n) FP.dconst1
def q_lx (Z : Nat → Nat → Int32) (n j : Nat) : UInt32 := FP.fdiv (FP.i2f (q_hv Z n j)) (FP.i2f (q_w Z n j))
theorem q_mean0 {Z : Nat → Nat → Int32} {P : Nat → Nat} {L n : Nat} (hN : Z 132 3 = nI n) (hn : n ≤ 60) (h0 : ¬ n = 0) (hf : g_fin (q_mn Z n)) (hx : Op.cmpValue (FP.dcmp (q_mn Z n) (q_mn Z n)) .l = 0) : m_r 130 [.ref 131, .int 0] (hp Z P L) (some (.long (q_mn Z n).toInt64)) (hp Z P L) := by
  refine m_of (ls := [.ref 131, .int 0, s_no, s_no]) hk_130 rfl rfl rfl ?_
  refine e_go hk_130 4 (c := (4, [.ref 131, .int 0, s_no, s_no], [.long 1, .long 0, .long ((0 : Int32).toInt64)], hp Z P L)) rfl ?_
  refine e_call hk_130 (as := [.long ((0 : Int32).toInt64), .long 0, .long 1]) (rest := []) rfl rfl hk_90 rfl (Nat.le_of_ble_eq_true rfl) rfl (q_in2 (x := 0) (lo := 0) (hi := 1) (by decide) (by decide) (by decide)) ?_
  show e_r 130 7 [.ref 131, .int 0, s_no, s_no] [.int (y_b (decide (0 ≤ 0 ∧ 0 ≤ 1)))] (hp Z P L) _ _
  refine e_go hk_130 1 (c := (if s_cnd .ne (y_b (decide (0 ≤ 0 ∧ 0 ≤ 1))) 0 = true then 14 else 10, [.ref 131, .int 0, s_no, s_no], [], hp Z P L)) rfl ?_
  refine e_ne (a := 14) (b := 10) (x := y_b (decide (0 ≤ 0 ∧ 0 ≤ 1))) (y := 0) (fun hc7 => ?_) (fun hc7 => absurd hc7 (by decide))
  refine e_go hk_130 3 (c := (19, [.ref 131, .int 0, s_no, s_no], [.int 3, .ref 132], hp Z P L)) rfl ?_
  refine e_ald hk_130 (a := 132) (j := 3) (n := 308) rfl rfl rfl (by decide) (by decide) ?_
  show e_r 130 20 [.ref 131, .int 0, s_no, s_no] [.int (Z 132 3)] (hp Z P L) _ _
  refine e_go hk_130 1 (c := (if s_cnd .ne (Z 132 3) 0 = true then 25 else 23, [.ref 131, .int 0, s_no, s_no], [], hp Z P L)) rfl ?_
  refine e_ne (a := 25) (b := 23) (x := Z 132 3) (y := 0) (fun hc20 => ?_) (fun hc20 => absurd hc20 (by rw [hN]; exact nI_ne0 (by omega) (by omega)))
  refine e_go hk_130 6 (c := (35, [.ref 131, .int 0, s_no, s_no], [.int 3, .ref 132, .int 0, .int 248, .ref 131], hp Z P L)) rfl ?_
  refine e_ald hk_130 (a := 132) (j := 3) (n := 308) rfl rfl rfl (by decide) (by decide) ?_
  show e_r 130 36 [.ref 131, .int 0, s_no, s_no] [.int (Z 132 3), .int 0, .int 248, .ref 131] (hp Z P L) _ _
  refine e_go hk_130 2 (c := (38, [.ref 131, .int 0, s_no, s_no], [.int ((Z 132 3) - 1), .int 0, .int 248, .ref 131], hp Z P L)) rfl ?_
  refine e_call hk_130 (as := [.ref 131, .int 248, .int 0, .int ((Z 132 3) - 1)]) (rest := []) rfl rfl hk_105 rfl (Nat.le_of_ble_eq_true rfl) rfl (q_sumof (b := 248) (l := 0) (u := n) (by decide) hn (Nat.zero_le _) (by rw [hN])) ?_
  show e_r 130 41 [.ref 131, .int 0, s_no, s_no] [.int (t_sm (q_c Z 248) 0 (n - 0) 0)] (hp Z P L) _ _
  refine e_go hk_130 4 (c := (47, [.ref 131, .int 0, s_no, s_no], [.int 3, .ref 132, .double (FP.i2d (t_sm (q_c Z 248) 0 (n - 0) 0))], hp Z P L)) rfl ?_
  refine e_ald hk_130 (a := 132) (j := 3) (n := 308) rfl rfl rfl (by decide) (by decide) ?_
  show e_r 130 48 [.ref 131, .int 0, s_no, s_no] [.int (Z 132 3), .double (FP.i2d (t_sm (q_c Z 248) 0 (n - 0) 0))] (hp Z P L) _ _
  refine e_go hk_130 1 (c := (49, [.ref 131, .int 0, s_no, s_no], [.double (FP.i2d (Z 132 3)), .double (FP.i2d (t_sm (q_c Z 248) 0 (n - 0) 0))], hp Z P L)) rfl ?_
  rw [hN]
  refine e_ddiv hk_130 (x := FP.i2d (t_sm (q_c Z 248) 0 (n - 0) 0)) (y := FP.i2d (nI n)) rfl rfl hf ?_
  show e_r 130 50 [.ref 131, .int 0, s_no, s_no] [.double (FP.ddiv (FP.i2d (t_sm (q_c Z 248) 0 (n - 0) 0)) (FP.i2d (nI n)))] (hp Z P L) _ _
  show e_r 130 50 [.ref 131, .int 0, s_no, s_no] [.double (q_mn Z n)] (hp Z P L) _ _
  refine e_go hk_130 3 (c := (if s_cnd .ne 0 0 = true then 59 else 55, [.ref 131, .int 0, .double (q_mn Z n), s_no], [], hp Z P L)) rfl ?_
  refine e_ne (a := 59) (b := 55) (x := 0) (y := 0) (fun hc52 => absurd (rfl) hc52) (fun hc52 => ?_)
  refine e_go hk_130 2 (c := (62, [.ref 131, .int 0, .double (q_mn Z n), s_no], [.double (q_mn Z n)], hp Z P L)) rfl ?_
  refine e_call hk_130 (as := [.double (q_mn Z n)]) (rest := []) rfl rfl hk_153 rfl (Nat.le_of_ble_eq_true rfl) rfl (q_dbits hx) ?_
  show e_r 130 65 [.ref 131, .int 0, .double (q_mn Z n), s_no] [.long ((q_mn Z n).toInt64)] (hp Z P L) _ _
  exact e_ret hk_130 rfl rfl rfl rfl rfl
theorem q_mean1 {Z : Nat → Nat → Int32} {P : Nat → Nat} {L n : Nat} (hN : Z 132 3 = nI n) (hn : n ≤ 60) (h0 : ¬ n = 0) (hf : g_fin (q_mn Z n)) (hf2 : g_fin (q_md Z n)) (hx : Op.cmpValue (FP.dcmp (q_md Z n) (q_md Z n)) .l = 0) : m_r 130 [.ref 131, .int 1] (hp Z P L) (some (.long (q_md Z n).toInt64)) (hp Z P L) := by
  refine m_of (ls := [.ref 131, .int 1, s_no, s_no]) hk_130 rfl rfl rfl ?_
  refine e_go hk_130 4 (c := (4, [.ref 131, .int 1, s_no, s_no], [.long 1, .long 0, .long ((1 : Int32).toInt64)], hp Z P L)) rfl ?_
  refine e_call hk_130 (as := [.long ((1 : Int32).toInt64), .long 0, .long 1]) (rest := []) rfl rfl hk_90 rfl (Nat.le_of_ble_eq_true rfl) rfl (q_in2 (x := 1) (lo := 0) (hi := 1) (by decide) (by decide) (by decide)) ?_
  show e_r 130 7 [.ref 131, .int 1, s_no, s_no] [.int (y_b (decide (0 ≤ 1 ∧ 1 ≤ 1)))] (hp Z P L) _ _
  refine e_go hk_130 1 (c := (if s_cnd .ne (y_b (decide (0 ≤ 1 ∧ 1 ≤ 1))) 0 = true then 14 else 10, [.ref 131, .int 1, s_no, s_no], [], hp Z P L)) rfl ?_
  refine e_ne (a := 14) (b := 10) (x := y_b (decide (0 ≤ 1 ∧ 1 ≤ 1))) (y := 0) (fun hc7 => ?_) (fun hc7 => absurd hc7 (by decide))
  refine e_go hk_130 3 (c := (19, [.ref 131, .int 1, s_no, s_no], [.int 3, .ref 132], hp Z P L)) rfl ?_
  refine e_ald hk_130 (a := 132) (j := 3) (n := 308) rfl rfl rfl (by decide) (by decide) ?_
  show e_r 130 20 [.ref 131, .int 1, s_no, s_no] [.int (Z 132 3)] (hp Z P L) _ _
  refine e_go hk_130 1 (c := (if s_cnd .ne (Z 132 3) 0 = true then 25 else 23, [.ref 131, .int 1, s_no, s_no], [], hp Z P L)) rfl ?_
  refine e_ne (a := 25) (b := 23) (x := Z 132 3) (y := 0) (fun hc20 => ?_) (fun hc20 => absurd hc20 (by rw [hN]; exact nI_ne0 (by omega) (by omega)))
  refine e_go hk_130 6 (c := (35, [.ref 131, .int 1, s_no, s_no], [.int 3, .ref 132, .int 0, .int 248, .ref 131], hp Z P L)) rfl ?_
  refine e_ald hk_130 (a := 132) (j := 3) (n := 308) rfl rfl rfl (by decide) (by decide) ?_
  show e_r 130 36 [.ref 131, .int 1, s_no, s_no] [.int (Z 132 3), .int 0, .int 248, .ref 131] (hp Z P L) _ _
  refine e_go hk_130 2 (c := (38, [.ref 131, .int 1, s_no, s_no], [.int ((Z 132 3) - 1), .int 0, .int 248, .ref 131], hp Z P L)) rfl ?_
  refine e_call hk_130 (as := [.ref 131, .int 248, .int 0, .int ((Z 132 3) - 1)]) (rest := []) rfl rfl hk_105 rfl (Nat.le_of_ble_eq_true rfl) rfl (q_sumof (b := 248) (l := 0) (u := n) (by decide) hn (Nat.zero_le _) (by rw [hN])) ?_
  show e_r 130 41 [.ref 131, .int 1, s_no, s_no] [.int (t_sm (q_c Z 248) 0 (n - 0) 0)] (hp Z P L) _ _
  refine e_go hk_130 4 (c := (47, [.ref 131, .int 1, s_no, s_no], [.int 3, .ref 132, .double (FP.i2d (t_sm (q_c Z 248) 0 (n - 0) 0))], hp Z P L)) rfl ?_
  refine e_ald hk_130 (a := 132) (j := 3) (n := 308) rfl rfl rfl (by decide) (by decide) ?_
  show e_r 130 48 [.ref 131, .int 1, s_no, s_no] [.int (Z 132 3), .double (FP.i2d (t_sm (q_c Z 248) 0 (n - 0) 0))] (hp Z P L) _ _
  refine e_go hk_130 1 (c := (49, [.ref 131, .int 1, s_no, s_no], [.double (FP.i2d (Z 132 3)), .double (FP.i2d (t_sm (q_c Z 248) 0 (n - 0) 0))], hp Z P L)) rfl ?_
  rw [hN]
  refine e_ddiv hk_130 (x := FP.i2d (t_sm (q_c Z 248) 0 (n - 0) 0)) (y := FP.i2d (nI n)) rfl rfl hf ?_
  show e_r 130 50 [.ref 131, .int 1, s_no, s_no] [.double (FP.ddiv (FP.i2d (t_sm (q_c Z 248) 0 (n - 0) 0)) (FP.i2d (nI n)))] (hp Z P L) _ _
  show e_r 130 50 [.ref 131, .int 1, s_no, s_no] [.double (q_mn Z n)] (hp Z P L) _ _
  refine e_go hk_130 3 (c := (if s_cnd .ne 1 0 = true then 59 else 55, [.ref 131, .int 1, .double (q_mn Z n), s_no], [], hp Z P L)) rfl ?_
  refine e_ne (a := 59) (b := 55) (x := 1) (y := 0) (fun hc52 => ?_) (fun hc52 => absurd hc52 (by decide))
  refine e_go hk_130 2 (c := (61, [.ref 131, .int 1, .double (q_mn Z n), s_no], [.double FP.dconst1, .double (q_mn Z n)], hp Z P L)) rfl ?_
  refine e_drem hk_130 (x := q_mn Z n) (y := FP.dconst1) rfl rfl hf2 ?_
  show e_r 130 62 [.ref 131, .int 1, .double (q_mn Z n), s_no] [.double (FP.drem (q_mn Z n) FP.dconst1)] (hp Z P L) _ _
  refine e_call hk_130 (as := [.double (FP.drem (q_mn Z n) FP.dconst1)]) (rest := []) rfl rfl hk_153 rfl (Nat.le_of_ble_eq_true rfl) rfl (q_dbits hx) ?_
  show e_r 130 65 [.ref 131, .int 1, .double (q_mn Z n), s_no] [.long ((q_md Z n).toInt64)] (hp Z P L) _ _
  exact e_ret hk_130 rfl rfl rfl rfl rfl
theorem q_mean_0 {Z : Nat → Nat → Int32} {P : Nat → Nat} {L n : Nat} (hN : Z 132 3 = nI n) (hn : n ≤ 60) {what : Int32} (hw : 0 ≤ what ∧ what ≤ 1) (h0 : n = 0) : m_r 130 [.ref 131, .int what] (hp Z P L) (some (.long 0)) (hp Z P L) := by
  refine m_of (ls := [.ref 131, .int what, s_no, s_no]) hk_130 rfl rfl rfl ?_
  refine e_go hk_130 4 (c := (4, [.ref 131, .int what, s_no, s_no], [.long 1, .long 0, .long what.toInt64], hp Z P L)) rfl ?_
  refine e_call hk_130 (as := [.long what.toInt64, .long 0, .long 1]) (rest := []) rfl rfl hk_90 rfl (Nat.le_of_ble_eq_true rfl) rfl (q_in2 (x := what) (lo := 0) (hi := 1) rfl (by decide) (by decide)) ?_
  show e_r 130 7 [.ref 131, .int what, s_no, s_no] [.int (y_b (decide (0 ≤ what ∧ what ≤ 1)))] (hp Z P L) _ _
  refine e_go hk_130 1 (c := (if s_cnd .ne (y_b (decide (0 ≤ what ∧ what ≤ 1))) 0 = true then 14 else 10, [.ref 131, .int what, s_no, s_no], [], hp Z P L)) rfl ?_
  refine e_ne (a := 14) (b := 10) (x := y_b (decide (0 ≤ what ∧ what ≤ 1))) (y := 0) (fun hc7 => ?_) (fun hc7 => absurd hc7 (y_d1.mpr hw))
  refine e_go hk_130 3 (c := (19, [.ref 131, .int what, s_no, s_no], [.int 3, .ref 132], hp Z P L)) rfl ?_
  refine e_ald hk_130 (a := 132) (j := 3) (n := 308) rfl rfl rfl (by decide) (by decide) ?_
  show e_r 130 20 [.ref 131, .int what, s_no, s_no] [.int (Z 132 3)] (hp Z P L) _ _
  refine e_go hk_130 1 (c := (if s_cnd .ne (Z 132 3) 0 = true then 25 else 23, [.ref 131, .int what, s_no, s_no], [], hp Z P L)) rfl ?_
  refine e_ne (a := 25) (b := 23) (x := Z 132 3) (y := 0) (fun hc20 => absurd (by rw [hN, h0]; rfl) hc20) (fun hc20 => ?_)
  refine e_go hk_130 1 (c := (24, [.ref 131, .int what, s_no, s_no], [.long 0], hp Z P L)) rfl ?_
  exact e_ret hk_130 rfl rfl rfl rfl rfl
theorem q_mean_no {Z : Nat → Nat → Int32} {P : Nat → Nat} {L : Nat} {what : Int32} (hw : ¬ (0 ≤ what ∧ what ≤ 1)) : m_r 130 [.ref 131, .int what] (hp Z P L) (some (.long (-2))) (hp Z P L) := by
  refine m_of (ls := [.ref 131, .int what, s_no, s_no]) hk_130 rfl rfl rfl ?_
  refine e_go hk_130 4 (c := (4, [.ref 131, .int what, s_no, s_no], [.long 1, .long 0, .long what.toInt64], hp Z P L)) rfl ?_
  refine e_call hk_130 (as := [.long what.toInt64, .long 0, .long 1]) (rest := []) rfl rfl hk_90 rfl (Nat.le_of_ble_eq_true rfl) rfl (q_in2 (x := what) (lo := 0) (hi := 1) rfl (by decide) (by decide)) ?_
  show e_r 130 7 [.ref 131, .int what, s_no, s_no] [.int (y_b (decide (0 ≤ what ∧ what ≤ 1)))] (hp Z P L) _ _
  refine e_go hk_130 1 (c := (if s_cnd .ne (y_b (decide (0 ≤ what ∧ what ≤ 1))) 0 = true then 14 else 10, [.ref 131, .int what, s_no, s_no], [], hp Z P L)) rfl ?_
  refine e_ne (a := 14) (b := 10) (x := y_b (decide (0 ≤ what ∧ what ≤ 1))) (y := 0) (fun hc7 => absurd (y_d0.mpr hw) hc7) (fun hc7 => ?_)
  refine e_go hk_130 1 (c := (13, [.ref 131, .int what, s_no, s_no], [.long ((-2))], hp Z P L)) rfl ?_
  exact e_ret hk_130 rfl rfl rfl rfl rfl
def q_lean (Z : Nat → Nat → Int32) (n : Nat) (key : Int32) : Int32 := if y_nm key = true then (match q_fd (q_c Z 8) key 0 n with
  | none => -1
  | some j => (q_lx Z n j).toInt32) else -2
theorem q_lean_k {Z : Nat → Nat → Int32} {P : Nat → Nat} {L n : Nat} (hN : Z 132 3 = nI n) (hn : n ≤ 60) {key : Int32} (hk : y_nm key = false) : m_r 131 [.ref 131, .int key] (hp Z P L) (some (.int (q_lean Z n key))) (hp Z P L) := by
  refine m_of (ls := [.ref 131, .int key, s_no]) hk_131 rfl rfl rfl ?_
  refine e_go hk_131 1 (c := (1, [.ref 131, .int key, s_no], [.int key], hp Z P L)) rfl ?_
  refine e_call hk_131 (as := [.int key]) (rest := []) rfl rfl hk_94 rfl (Nat.le_of_ble_eq_true rfl) rfl q_key ?_
  show e_r 131 4 [.ref 131, .int key, s_no] [.int (y_b (y_nm key))] (hp Z P L) _ _
  refine e_go hk_131 1 (c := (if s_cnd .ne (y_b (y_nm key)) 0 = true then 10 else 7, [.ref 131, .int key, s_no], [], hp Z P L)) rfl ?_
  refine e_ne (a := 10) (b := 7) (x := y_b (y_nm key)) (y := 0) (fun hc4 => absurd (y_b0.mpr hk) hc4) (fun hc4 => ?_)
  refine e_go hk_131 1 (c := (9, [.ref 131, .int key, s_no], [.int ((-2))], hp Z P L)) rfl ?_
  exact e_ret hk_131 rfl rfl rfl (by rw [q_lean, if_neg (fun z => by rw [hk] at z; exact absurd z (by decide))]) rfl
theorem q_lean_n {Z : Nat → Nat → Int32} {P : Nat → Nat} {L n : Nat} (hN : Z 132 3 = nI n) (hn : n ≤ 60) {key : Int32} (hk : y_nm key = true) (hq : q_fd (q_c Z 8) key 0 n = none) : m_r 131 [.ref 131, .int key] (hp Z P L) (some (.int (q_lean Z n key))) (hp Z P L) := by
  refine m_of (ls := [.ref 131, .int key, s_no]) hk_131 rfl rfl rfl ?_
  refine e_go hk_131 1 (c := (1, [.ref 131, .int key, s_no], [.int key], hp Z P L)) rfl ?_
  refine e_call hk_131 (as := [.int key]) (rest := []) rfl rfl hk_94 rfl (Nat.le_of_ble_eq_true rfl) rfl q_key ?_
  show e_r 131 4 [.ref 131, .int key, s_no] [.int (y_b (y_nm key))] (hp Z P L) _ _
  refine e_go hk_131 1 (c := (if s_cnd .ne (y_b (y_nm key)) 0 = true then 10 else 7, [.ref 131, .int key, s_no], [], hp Z P L)) rfl ?_
  refine e_ne (a := 10) (b := 7) (x := y_b (y_nm key)) (y := 0) (fun hc4 => ?_) (fun hc4 => absurd hc4 (y_b1.mpr hk))
  refine e_go hk_131 2 (c := (12, [.ref 131, .int key, s_no], [.int key, .ref 131], hp Z P L)) rfl ?_
  refine e_call hk_131 (as := [.ref 131, .int key]) (rest := []) rfl rfl hk_96 rfl (Nat.le_of_ble_eq_true rfl) rfl (q_find_n hN hn hq) ?_
  show e_r 131 15 [.ref 131, .int key, s_no] [.int ((-6))] (hp Z P L) _ _
  refine e_go hk_131 4 (c := (if s_cnd .ne ((-6)) ((-6)) = true then 26 else 22, [.ref 131, .int key, .int ((-6))], [], hp Z P L)) rfl ?_
  refine e_ne (a := 26) (b := 22) (x := (-6)) (y := (-6)) (fun hc19 => absurd (rfl) hc19) (fun hc19 => ?_)
  refine e_go hk_131 2 (c := (42, [.ref 131, .int key, .int ((-6))], [.int ((-1))], hp Z P L)) rfl ?_
  exact e_ret hk_131 rfl rfl rfl (by rw [q_lean, if_pos hk, hq]) rfl
theorem q_lean_s {Z : Nat → Nat → Int32} {P : Nat → Nat} {L n : Nat} (hN : Z 132 3 = nI n) (hn : n ≤ 60) {key : Int32} {j : Nat} (hk : y_nm key = true) (hq : q_fd (q_c Z 8) key 0 n = some j) (hA : ∀ j, q_fd (q_c Z 8) key 0 n = some j → f_fin (q_lx Z n j) ∧ Op.cmpValue (FP.fcmp (q_lx Z n j) (q_lx Z n j)) .l = 0) : m_r 131 [.ref 131, .int key] (hp Z P L) (some (.int (q_lean Z n key))) (hp Z P L) := by
  have hj : j < n := by have := q_fd_lt hq; omega
  refine m_of (ls := [.ref 131, .int key, s_no]) hk_131 rfl rfl rfl ?_
  refine e_go hk_131 1 (c := (1, [.ref 131, .int key, s_no], [.int key], hp Z P L)) rfl ?_
  refine e_call hk_131 (as := [.int key]) (rest := []) rfl rfl hk_94 rfl (Nat.le_of_ble_eq_true rfl) rfl q_key ?_
  show e_r 131 4 [.ref 131, .int key, s_no] [.int (y_b (y_nm key))] (hp Z P L) _ _
  refine e_go hk_131 1 (c := (if s_cnd .ne (y_b (y_nm key)) 0 = true then 10 else 7, [.ref 131, .int key, s_no], [], hp Z P L)) rfl ?_
  refine e_ne (a := 10) (b := 7) (x := y_b (y_nm key)) (y := 0) (fun hc4 => ?_) (fun hc4 => absurd hc4 (y_b1.mpr hk))
  refine e_go hk_131 2 (c := (12, [.ref 131, .int key, s_no], [.int key, .ref 131], hp Z P L)) rfl ?_
  refine e_call hk_131 (as := [.ref 131, .int key]) (rest := []) rfl rfl hk_96 rfl (Nat.le_of_ble_eq_true rfl) rfl (q_find_s hN hn hq) ?_
  show e_r 131 15 [.ref 131, .int key, s_no] [.int (nI j)] (hp Z P L) _ _
  refine e_go hk_131 4 (c := (if s_cnd .ne (nI j) ((-6)) = true then 26 else 22, [.ref 131, .int key, .int (nI j)], [], hp Z P L)) rfl ?_
  refine e_ne (a := 26) (b := 22) (x := nI j) (y := (-6)) (fun hc19 => ?_) (fun hc19 => absurd hc19 (q_ne6 (by omega)))
  refine e_go hk_131 2 (c := (28, [.ref 131, .int key, .int (nI j)], [.int (nI j), .ref 131], hp Z P L)) rfl ?_
  refine e_call hk_131 (as := [.ref 131, .int (nI j)]) (rest := []) rfl rfl hk_103 rfl (Nat.le_of_ble_eq_true rfl) rfl (q_heavy hN hn (j := j) hj) ?_
  show e_r 131 31 [.ref 131, .int key, .int (nI j)] [.int (q_hv Z n j)] (hp Z P L) _ _
  refine e_go hk_131 3 (c := (34, [.ref 131, .int key, .int (nI j)], [.int (nI j), .ref 131, .float (FP.i2f (q_hv Z n j))], hp Z P L)) rfl ?_
  refine e_call hk_131 (as := [.ref 131, .int (nI j)]) (rest := [.float (FP.i2f (q_hv Z n j))]) rfl rfl hk_99 rfl (Nat.le_of_ble_eq_true rfl) rfl (q_weight hN hn (j := j) hj) ?_
  show e_r 131 37 [.ref 131, .int key, .int (nI j)] [.int (q_w Z n j), .float (FP.i2f (q_hv Z n j))] (hp Z P L) _ _
  refine e_go hk_131 1 (c := (38, [.ref 131, .int key, .int (nI j)], [.float (FP.i2f (q_w Z n j)), .float (FP.i2f (q_hv Z n j))], hp Z P L)) rfl ?_
  refine e_fdiv hk_131 (x := FP.i2f (q_hv Z n j)) (y := FP.i2f (q_w Z n j)) rfl rfl (hA j hq).1 ?_
  show e_r 131 39 [.ref 131, .int key, .int (nI j)] [.float (FP.fdiv (FP.i2f (q_hv Z n j)) (FP.i2f (q_w Z n j)))] (hp Z P L) _ _
  refine e_call hk_131 (as := [.float (FP.fdiv (FP.i2f (q_hv Z n j)) (FP.i2f (q_w Z n j)))]) (rest := []) rfl rfl hk_155 rfl (Nat.le_of_ble_eq_true rfl) rfl (q_fbits (x := q_lx Z n j) (hA j hq).2) ?_
  show e_r 131 42 [.ref 131, .int key, .int (nI j)] [.int ((q_lx Z n j).toInt32)] (hp Z P L) _ _
  exact e_ret hk_131 rfl rfl rfl (by rw [q_lean, if_pos hk, hq]) rfl
theorem q_clean {Z : Nat → Nat → Int32} {P : Nat → Nat} {L n : Nat} (hN : Z 132 3 = nI n) (hn : n ≤ 60) {key : Int32} (hA : ∀ j, q_fd (q_c Z 8) key 0 n = some j → f_fin (q_lx Z n j) ∧ Op.cmpValue (FP.fcmp (q_lx Z n j) (q_lx Z n j)) .l = 0) : m_r 131 [.ref 131, .int key] (hp Z P L) (some (.int (q_lean Z n key))) (hp Z P L) := by
  cases hk : y_nm key with
  | false => exact q_lean_k hN hn hk
  | true =>
  cases hq : q_fd (q_c Z 8) key 0 n with
  | some j => exact q_lean_s hN hn hk hq hA
  | none => exact q_lean_n hN hn hk hq
