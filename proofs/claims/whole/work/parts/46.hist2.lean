/-! History and slots in both (by hand) -/
theorem K_T_Z {Z Z2 : Nat → Nat → Int32} {x n : Nat} {A : Nat → Int32} (h : K_T Z x A n) (hz : ∀ c, x ≤ c → c ≤ x + 12 → Z2 c = Z c) : K_T Z2 x A n := by
  unfold K_T at h ⊢
  rw [hz x (by omega) (by omega), hz (x + 2) (by omega) (by omega), hz (x + 4) (by omega) (by omega), hz (x + 6) (by omega) (by omega), hz (x + 8) (by omega) (by omega), hz (x + 12) (by omega) (by omega), hz (x + 10) (by omega) (by omega)]
  exact h
theorem K_T_A {Z : Nat → Nat → Int32} {x n : Nat} {A B : Nat → Int32} (h : K_T Z x A n) (hn : n ≤ 60) (hz : ∀ i, i < 308 → B i = A i) : K_T Z x B n := by
  unfold K_T at h ⊢
  rw [hz 0 (by omega), hz 1 (by omega), hz 2 (by omega), hz 3 (by omega), hz 4 (by omega), hz 5 (by omega), hz 6 (by omega), hz 7 (by omega)]
  refine ⟨h.1, h.2.1, h.2.2.1, fun i hi => ?_⟩
  rw [hz _ (by omega), hz _ (by omega), hz _ (by omega), hz _ (by omega), hz _ (by omega)]
  exact h.2.2.2 i hi
theorem K_I_A {n : Nat} {A B : Nat → Int32} (h : K_I A n) (hz : ∀ i, i < 308 → B i = A i) : K_I B n := by
  have hn := h.1
  obtain ⟨b1, b2, b3, b4, b5, b6⟩ := h
  refine ⟨b1, fun i hi => ?_, fun i j h1 h2 => ?_, fun i hi => ?_, ?_, DT_congr b6 (fun i _ hi => hz _ (by omega))⟩
  · rw [hz _ (by omega)]; exact b2 i hi
  · rw [hz _ (by omega), hz _ (by omega)]; exact b3 i j h1 h2
  · rw [hz _ (by omega)]; exact b4 i hi
  · rw [hz 0 (by omega), hz 1 (by omega), hz 2 (by omega)]; exact b5
theorem t_cp_g {Z : Nat → Nat → Int32} {a b n i : Nat} (hi : i < n) : t_cp Z a b n b i = Z a i := by
  unfold t_cp va_cpy
  rw [if_pos rfl, if_pos (by omega), Nat.zero_add, Nat.sub_zero]
theorem t_bc_rows {Z : Nat → Nat → Int32} {x y : Nat} (h : y + 12 < x ∨ x + 12 < y) : (∀ i, i < 3 → t_bc Z x y (x + 2) i = Z (y + 2) i) ∧ (∀ i, i < 60 → t_bc Z x y (x + 4) i = Z (y + 4) i ∧ t_bc Z x y (x + 6) i = Z (y + 6) i ∧ t_bc Z x y (x + 8) i = Z (y + 8) i ∧ t_bc Z x y (x + 10) i = Z (y + 10) i ∧ t_bc Z x y (x + 12) i = Z (y + 12) i) := by
  have h5 : ∀ o, 0 < o → t_bc Z x y (x + o) = t_bc6 Z x y (x + o) := fun o ho => by
    unfold t_bc t_bc5
    rw [s_upd_o (by omega), s_upd_o (by omega), s_upd_o (by omega), s_upd_o (by omega), s_upd_o (by omega)]
  refine ⟨fun i hi => ?_, fun i hi => ⟨?_, ?_, ?_, ?_, ?_⟩⟩
  · rw [h5 2 (by omega)]
    unfold t_bc6
    rw [t_cp_o (by omega), t_cp_o (by omega), t_cp_o (by omega), t_cp_o (by omega), t_cp_o (by omega), t_cp_g hi]
  · rw [h5 4 (by omega)]
    unfold t_bc6
    rw [t_cp_o (by omega), t_cp_o (by omega), t_cp_o (by omega), t_cp_o (by omega), t_cp_g hi, t_cp_o (by omega)]
  · rw [h5 6 (by omega)]
    unfold t_bc6
    rw [t_cp_o (by omega), t_cp_o (by omega), t_cp_o (by omega), t_cp_g hi, t_cp_o (by omega), t_cp_o (by omega)]
  · rw [h5 8 (by omega)]
    unfold t_bc6
    rw [t_cp_o (by omega), t_cp_o (by omega), t_cp_g hi, t_cp_o (by omega), t_cp_o (by omega), t_cp_o (by omega)]
  · rw [h5 10 (by omega)]
    unfold t_bc6
    rw [t_cp_o (by omega), t_cp_g hi, t_cp_o (by omega), t_cp_o (by omega), t_cp_o (by omega), t_cp_o (by omega)]
  · rw [h5 12 (by omega)]
    unfold t_bc6
    rw [t_cp_g hi, t_cp_o (by omega), t_cp_o (by omega), t_cp_o (by omega), t_cp_o (by omega), t_cp_o (by omega)]
theorem bc_T {Z : Nat → Nat → Int32} {x y n : Nat} {A : Nat → Int32} (hT : K_T Z y A n) (hn : n ≤ 60) (h : y + 12 < x ∨ x + 12 < y) : K_T (t_bc Z x y) x A n := by
  obtain ⟨r1, r2⟩ := t_bc_rows (Z := Z) h
  have hs : ∀ s, 6 ≤ s ∧ s ≤ 10 → t_bc Z x y x s = Z y s := fun s hs => t_bc_s (by omega) hs
  unfold K_T at hT ⊢
  rw [hs 6 (by omega), hs 7 (by omega), hs 8 (by omega), hs 9 (by omega), hs 10 (by omega), r1 0 (by omega), r1 1 (by omega), r1 2 (by omega)]
  refine ⟨hT.1, hT.2.1, hT.2.2.1, fun i hi => ?_⟩
  obtain ⟨e1, e2, e3, e4, e5⟩ := r2 i (by omega)
  rw [e1, e2, e3, e4, e5]
  exact hT.2.2.2 i hi
theorem q_cl_dn {s : Nat} : ∀ (k i : Nat) (Z : Nat → Nat → Int32) (x : Nat), i ≤ x → x < i + k → q_cl 134 134 (fun i => i + (s + 1)) q_id k i Z 134 x = Z 134 (x + (s + 1))
  | 0, i, Z, x, h1, h2 => by omega
  | k + 1, i, Z, x, h1, h2 => by
    rw [q_cl]
    by_cases hx : x = i
    · rw [hx, q_cl_nu k (i + 1) _ i (fun y hy _ z => by have z : y = i := z; omega), s_upd_c, if_pos ⟨rfl, rfl⟩]
    · rw [q_cl_dn k (i + 1) _ x (by omega) (by omega), s_upd_ne (fun z => by have z2 : x + (s + 1) = i := z.2; omega)]
/-- the histories are the same -/
def K_H2 (Z : Nat → Nat → Int32) (P : Nat → Nat) (Y : Nat → Nat → Int32) (m : Nat) : Prop :=
  m ≤ 6 ∧ Z 18 1 = nI m ∧ Y 131 3 = nI m ∧ (∀ j, j < 6 → t_hs (P j)) ∧ (∀ i j, i < 6 → j < 6 → P i = P j → i = j) ∧ ∀ j, j < m → ∃ n, K_T Z (P j) (fun i => Y 134 (308 * j + i)) n ∧ K_I (fun i => Y 134 (308 * j + i)) n
theorem K_H2_c {Z Z2 Y Y2 : Nat → Nat → Int32} {P : Nat → Nat} {m : Nat} (h : K_H2 Z P Y m) (hz : ∀ c, 18 ≤ c → c ≤ 97 → Z2 c = Z c) (hy : Y2 131 3 = Y 131 3) (hy2 : Y2 134 = Y 134) : K_H2 Z2 P Y2 m := by
  obtain ⟨a1, a2, a3, a4, a5, a6⟩ := h
  refine ⟨a1, by rw [hz 18 (by omega) (by omega)]; exact a2, by rw [hy]; exact a3, a4, a5, fun j hj => ?_⟩
  obtain ⟨n, b1, b2⟩ := a6 j hj
  rw [hy2]
  have := a4 j (by omega)
  unfold t_hs at this
  exact ⟨n, K_T_Z b1 (fun c c1 c2 => hz c (by omega) (by omega)), b2⟩
theorem hs_far {x y : Nat} (hx : t_hs x) (hy : t_hs y) (h : x ≠ y) : y + 12 < x ∨ x + 12 < y := by
  unfold t_hs at hx hy
  omega
theorem q_ch_rows {Y : Nat → Nat → Int32} {m : Nat} (hm : m ≤ 6) (hM : Y 131 3 = nI m) : (m < 6 → q_ch Y m 131 3 = nI (m + 1) ∧ (∀ j, j < m → ∀ i, i < 308 → q_ch Y m 134 (308 * j + i) = Y 134 (308 * j + i)) ∧ ∀ i, i < 308 → q_ch Y m 134 (308 * m + i) = Y 133 i) ∧ (m = 6 → q_ch Y m 131 3 = nI 6 ∧ (∀ j, j < 5 → ∀ i, i < 308 → q_ch Y m 134 (308 * j + i) = Y 134 (308 * (j + 1) + i)) ∧ ∀ i, i < 308 → q_ch Y m 134 (308 * 5 + i) = Y 133 i) := by
  have hin : ∀ (W : Nat → Nat → Int32), q_in1 W 134 = W 134 := fun W => s_upd_o (by decide)
  have hi3 : ∀ (W : Nat → Nat → Int32), q_in1 W 131 3 = W 131 3 + 1 := fun W => by rw [q_in1, s_upd_c, if_pos ⟨rfl, rfl⟩]
  refine ⟨fun h => ?_, fun h => ?_⟩
  · unfold q_ch
    rw [if_pos h]
    refine ⟨by rw [hi3, q_cl_o (by decide), hM, nI_1], fun j hj i hi => ?_, fun i hi => ?_⟩
    · rw [hin, q_cl_nu 308 0 Y _ (fun x _ _ z => by (try dsimp only at z); omega)]
    · rw [hin]
      exact q_cl_get (a := 133) (b := 134) (fa := q_id) (fb := fun i => 308 * m + i) (by decide) (fun i j z => by (try dsimp only at z); omega) 308 0 Y i (Nat.zero_le _) (by omega)
  · subst h
    unfold q_ch
    rw [if_neg (by decide)]
    have hc5 : q_c5 Y 134 = q_cl 134 134 (fun i => i + 308) q_id 1540 0 Y 134 := by
      rw [q_c5, q_d1]
      exact s_upd_o (by decide)
    have hc3 : q_c5 Y 133 = Y 133 := by rw [q_c5, q_d1, s_upd_o (by decide), q_cl_o (by decide)]
    have hsh : ∀ x, x < 1540 → q_cl 134 134 (fun i => i + 308) q_id 1540 0 Y 134 x = Y 134 (x + 308) := fun x hx => q_cl_dn 1540 0 Y x (Nat.zero_le _) (by omega)
    refine ⟨?_, fun j hj i hi => ?_, fun i hi => ?_⟩
    · rw [hi3, q_cl_o (by decide), q_c5, q_d1, s_upd_c, if_pos ⟨rfl, rfl⟩, q_cl_o (by decide), hM]
      rfl
    · rw [hin, q_cl_nu 308 0 _ _ (fun x _ _ z => by (try dsimp only at z); omega), hc5, hsh _ (by omega), show 308 * j + i + 308 = 308 * (j + 1) + i by omega]
    · rw [hin]
      have := q_cl_get (a := 133) (b := 134) (fa := q_id) (fb := fun i => 308 * 5 + i) (by decide) (fun i j z => by (try dsimp only at z); omega) 308 0 (q_c5 Y) i (Nat.zero_le _) (by omega)
      rw [hc3] at this
      exact this
theorem q_ch_o {Y : Nat → Nat → Int32} {m c : Nat} (h1 : c ≠ 134) (h2 : c ≠ 131) : q_ch Y m c = Y c := by
  unfold q_ch
  split
  · rw [q_in1, s_upd_o h2, q_cl_o h1]
  · rw [q_in1, s_upd_o h2, q_cl_o h1, q_c5, q_d1, s_upd_o h2, q_cl_o h1]
theorem q_ch_131 {Y : Nat → Nat → Int32} {m k : Nat} (h : k ≠ 3) : q_ch Y m 131 k = Y 131 k := by
  unfold q_ch
  split
  · rw [q_in1, s_upd_ne (by omega), q_cl_o (by decide)]
  · rw [q_in1, s_upd_ne (by omega), q_cl_o (by decide), q_c5, q_d1, s_upd_ne (by omega), q_cl_o (by decide)]
/-- a state is kept -/
theorem hist_push {Z Y : Nat → Nat → Int32} {P : Nat → Nat} {m n : Nat} {A : Nat → Int32} (h : K_H2 Z P Y m) (hT : K_T Z 5 A n) (hI : K_I A n) (hA : ∀ i, i < 308 → Y 133 i = A i) : ∃ m2, K_H2 (t_kZ Z P m) (t_kP P m) (q_ch Y m) m2 := by
  obtain ⟨a1, a2, a3, a4, a5, a6⟩ := h
  obtain ⟨g1, g2⟩ := q_ch_rows a1 a3
  have hn := hI.1
  rcases Nat.lt_or_ge m 6 with hm | hm
  · obtain ⟨e1, e2, e3⟩ := g1 hm
    have hPm := a4 m hm
    have hx : t_kZ Z P m = s_upd (t_bc Z (P m) 5) 18 1 (t_bc Z (P m) 5 18 1 + 1) := by unfold t_kZ; rw [if_pos hm]; rfl
    have hP : t_kP P m = P := by unfold t_kP; rw [if_pos hm]
    have hx20 : 20 ≤ P m ∧ P m ≤ 85 := by unfold t_hs at hPm; omega
    have hbo : ∀ c, (c < P m ∨ P m + 12 < c) → t_bc Z (P m) 5 c = Z c := fun c hc => t_bc_o hc
    have hup : ∀ (W : Nat → Nat → Int32) (v : Int32) (x : Nat) (B : Nat → Int32) (k : Nat), 20 ≤ x → K_T W x B k → K_T (s_upd W 18 1 v) x B k := fun W v x B k hx2 hk => K_T_Z hk (fun c c1 c2 => s_upd_o (by omega))
    rw [hx, hP]
    refine ⟨m + 1, by omega, ?_, e1, a4, a5, fun j hj => ?_⟩
    · rw [s_upd_c, if_pos ⟨rfl, rfl⟩, hbo 18 (by omega), a2, nI_1]
    · by_cases hjm : j = m
      · subst hjm
        exact ⟨n, hup _ _ _ _ _ hx20.1 (K_T_A (bc_T hT hn (by omega)) hn (fun i hi => by show q_ch Y j 134 (308 * j + i) = _; rw [e3 i hi, hA i hi])), K_I_A hI (fun i hi => by show q_ch Y j 134 (308 * j + i) = _; rw [e3 i hi, hA i hi])⟩
      · obtain ⟨n2, b1, b2⟩ := a6 j (by omega)
        have hPj := a4 j (by omega)
        have hfar := hs_far hPj hPm (fun z => hjm (a5 j m (by omega) hm z))
        have hx2 : 20 ≤ P j := by unfold t_hs at hPj; omega
        exact ⟨n2, hup _ _ _ _ _ hx2 (K_T_A (K_T_Z b1 (fun c c1 c2 => hbo c (by omega))) b2.1 (fun i hi => e2 j (by omega) i hi)), K_I_A b2 (fun i hi => e2 j (by omega) i hi)⟩
  · obtain rfl : m = 6 := by omega
    obtain ⟨e1, e2, e3⟩ := g2 rfl
    have hP0 := a4 0 (by omega)
    have hx : t_kZ Z P 6 = s_upd (t_bc (s_upd Z 18 1 5) (P 0) 5) 18 1 (t_bc (s_upd Z 18 1 5) (P 0) 5 18 1 + 1) := by unfold t_kZ; rw [if_neg (by decide)]; rfl
    have hP : t_kP P 6 = t_rot P := by unfold t_kP; rw [if_neg (by decide)]
    have hx20 : 20 ≤ P 0 ∧ P 0 ≤ 85 := by unfold t_hs at hP0; omega
    have hbo : ∀ c, (c < P 0 ∨ P 0 + 12 < c) → t_bc (s_upd Z 18 1 5) (P 0) 5 c = s_upd Z 18 1 5 c := fun c hc => t_bc_o hc
    have hup : ∀ (W : Nat → Nat → Int32) (v : Int32) (x : Nat) (B : Nat → Int32) (k : Nat), (20 ≤ x ∨ x = 5) → K_T W x B k → K_T (s_upd W 18 1 v) x B k := fun W v x B k hx2 hk => K_T_Z hk (fun c c1 c2 => s_upd_o (by omega))
    rw [hx, hP]
    have hrot : ∀ j, j < 6 → t_rot P j = if j < 5 then P (j + 1) else P 0 := fun j hj => by
      unfold t_rot
      by_cases h5 : j < 5
      · rw [if_pos h5, if_pos h5]
      · rw [if_neg h5, if_neg h5, if_pos (by omega)]
    refine ⟨6, by omega, ?_, e1, fun j hj => ?_, fun i j hi hj hij => ?_, fun j hj => ?_⟩
    · rw [s_upd_c, if_pos ⟨rfl, rfl⟩, hbo 18 (by omega), s_upd_c, if_pos ⟨rfl, rfl⟩]
      rfl
    · rw [hrot j hj]
      split
      · exact a4 _ (by omega)
      · exact hP0
    · rw [hrot i hi, hrot j hj] at hij
      by_cases h1 : i < 5
      · rw [if_pos h1] at hij
        by_cases h2 : j < 5
        · rw [if_pos h2] at hij
          have := a5 _ _ (by omega) (by omega) hij
          omega
        · rw [if_neg h2] at hij
          have := a5 _ _ (by omega) (by omega) hij
          omega
      · rw [if_neg h1] at hij
        by_cases h2 : j < 5
        · rw [if_pos h2] at hij
          have := a5 _ _ (by omega) (by omega) hij
          omega
        · omega
    · rw [hrot j hj]
      by_cases h5 : j < 5
      · rw [if_pos h5]
        obtain ⟨n2, b1, b2⟩ := a6 (j + 1) (by omega)
        have hPj := a4 (j + 1) (by omega)
        have hfar := hs_far hPj hP0 (fun z => by have := a5 (j + 1) 0 (by omega) (by omega) z; omega)
        have hx2 : 20 ≤ P (j + 1) := by unfold t_hs at hPj; omega
        exact ⟨n2, hup _ _ _ _ _ (Or.inl hx2) (K_T_A (K_T_Z (hup Z 5 _ _ _ (Or.inl hx2) b1) (fun c c1 c2 => hbo c (by omega))) b2.1 (fun i hi => e2 j h5 i hi)), K_I_A b2 (fun i hi => e2 j h5 i hi)⟩
      · rw [if_neg h5]
        obtain rfl : j = 5 := by omega
        exact ⟨n, hup _ _ _ _ _ (Or.inl hx20.1) (K_T_A (bc_T (hup Z 5 _ _ _ (Or.inr rfl) hT) hn (by omega)) hn (fun i hi => by show q_ch Y 6 134 (308 * 5 + i) = _; rw [e3 i hi, hA i hi])), K_I_A hI (fun i hi => by show q_ch Y 6 134 (308 * 5 + i) = _; rw [e3 i hi, hA i hi])⟩
/-- what keeping leaves alone -/
theorem kZ_o {Z : Nat → Nat → Int32} {P : Nat → Nat} {m c : Nat} (h : ∀ j, j < 6 → t_hs (P j)) (hc : c < 18 ∨ 98 ≤ c) : t_kZ Z P m c = Z c := t_kZ_o h hc
/-- a state is taken back -/
theorem hist_pop {Z Y : Nat → Nat → Int32} {P : Nat → Nat} {m : Nat} (h : K_H2 Z P Y (m + 1)) : K_H2 (t_tk Z P (m + 1)).2 P (q_un Y m) m ∧ ∃ n, K_T (t_tk Z P (m + 1)).2 5 (q_un Y m 132) n ∧ K_I (q_un Y m 132) n := by
  obtain ⟨a1, a2, a3, a4, a5, a6⟩ := h
  obtain ⟨n, b1, b2⟩ := a6 m (by omega)
  have hPm := a4 m (by omega)
  have hx20 : 20 ≤ P m ∧ P m ≤ 85 := by unfold t_hs at hPm; omega
  have hZ : (t_tk Z P (m + 1)).2 = s_upd (t_bc Z 5 (P m)) 18 1 (t_bc Z 5 (P m) 18 1 - 1) := rfl
  have hbo : ∀ c, 18 ≤ c → t_bc Z 5 (P m) c = Z c := fun c hc => t_bc_o (Or.inr (by omega))
  have hY134 : q_un Y m 134 = Y 134 := by rw [q_un, q_cl_o (by decide), s_upd_o (by decide)]
  have hY3 : q_un Y m 131 3 = nI m := by rw [q_un, q_cl_o (by decide), s_upd_c, if_pos ⟨rfl, rfl⟩]
  have hY132 : ∀ i, i < 308 → q_un Y m 132 i = Y 134 (308 * m + i) := fun i hi => by
    have := q_cl_get (a := 134) (b := 132) (fa := fun i => 308 * m + i) (fb := q_id) (by decide) (fun _ _ z => z) 308 0 (s_upd Y 131 3 (nI m)) i (Nat.zero_le _) (by omega)
    rw [s_upd_o (by decide)] at this
    exact this
  rw [hZ]
  refine ⟨⟨by omega, ?_, hY3, a4, a5, fun j hj => ?_⟩, n, ?_, K_I_A b2 hY132⟩
  · rw [s_upd_c, if_pos ⟨rfl, rfl⟩, hbo 18 (by omega), a2, nI_pred]
  · obtain ⟨n2, c1, c2⟩ := a6 j (by omega)
    have hPj := a4 j (by omega)
    have hx2 : 20 ≤ P j := by unfold t_hs at hPj; omega
    rw [hY134]
    exact ⟨n2, K_T_Z c1 (fun c d1 d2 => by rw [s_upd_o (by omega), hbo c (by omega)]), c2⟩
  · exact K_T_A (K_T_Z (bc_T b1 b2.1 (by omega)) (fun c d1 d2 => s_upd_o (by omega))) b2.1 hY132
/-- the slots are the same -/
def K_S1 (Z Y : Nat → Nat → Int32) (t : Nat) : Prop := (Z (103 + 14 * t) 1 = 0 ∧ Y 136 t = 0) ∨ (¬ Z (103 + 14 * t) 1 = 0 ∧ ¬ Y 136 t = 0 ∧ ∃ n, K_T Z (104 + 14 * t) (fun i => Y 135 (308 * t + i)) n ∧ K_I (fun i => Y 135 (308 * t + i)) n)
theorem K_S1_c {Z Z2 Y Y2 : Nat → Nat → Int32} {t : Nat} (ht : t < 2) (h : K_S1 Z Y t) (hz : ∀ c, 103 ≤ c → c ≤ 130 → Z2 c = Z c) (h1 : Y2 135 = Y 135) (h2 : Y2 136 = Y 136) : K_S1 Z2 Y2 t := by
  unfold K_S1 at h ⊢
  rw [hz _ (by omega) (by omega), h1, h2]
  rcases h with h | ⟨a, b, n, c, d⟩
  · exact Or.inl h
  · exact Or.inr ⟨a, b, n, K_T_Z c (fun x x1 x2 => hz x (by omega) (by omega)), d⟩
theorem slot_save {Z Y : Nat → Nat → Int32} {t n : Nat} (ht : t < 2) (h0 : K_S1 Z Y 0) (h1 : K_S1 Z Y 1) (hT : K_T Z 5 (Y 132) n) (hI : K_I (Y 132) n) : K_S1 (c_save Z (103 + 14 * t)) (q_sa Y t) 0 ∧ K_S1 (c_save Z (103 + 14 * t)) (q_sa Y t) 1 := by
  have hz : ∀ c, c ≠ 103 + 14 * t → (c < 103 + 14 * t + 1 ∨ 103 + 14 * t + 1 + 12 < c) → c_save Z (103 + 14 * t) c = Z c := fun c h1 h2 => by
    unfold c_save
    rw [s_upd_o h1, t_bc_o h2]
  have hnew : K_S1 (c_save Z (103 + 14 * t)) (q_sa Y t) t := by
    right
    have hY : ∀ i, i < 308 → q_sa Y t 135 (308 * t + i) = Y 132 i := fun i hi => by
      rw [q_sa, s_upd_o (by decide)]
      exact q_cl_get (a := 132) (b := 135) (fa := q_id) (fb := fun i => 308 * t + i) (by decide) (fun i j z => by (try dsimp only at z); omega) 308 0 Y i (Nat.zero_le _) (by omega)
    refine ⟨?_, ?_, n, ?_, K_I_A hI hY⟩
    · rw [c_save, s_upd_c, if_pos ⟨rfl, rfl⟩]; decide
    · rw [q_sa, s_upd_c, if_pos ⟨rfl, rfl⟩]; decide
    · rw [show 104 + 14 * t = 103 + 14 * t + 1 by omega]
      refine K_T_A (K_T_Z (bc_T (x := 103 + 14 * t + 1) hT hI.1 (by omega)) (fun c c1 c2 => ?_)) hI.1 hY
      rw [c_save, s_upd_o (by omega)]
  have hold : ∀ t2, t2 < 2 → t2 ≠ t → K_S1 Z Y t2 → K_S1 (c_save Z (103 + 14 * t)) (q_sa Y t) t2 := fun t2 h2 hne h => by
    have hY136 : q_sa Y t 136 t2 = Y 136 t2 := by rw [q_sa, s_upd_ne (fun z => hne z.2), q_cl_o (by decide)]
    have hY135 : ∀ i, i < 308 → q_sa Y t 135 (308 * t2 + i) = Y 135 (308 * t2 + i) := fun i hi => by
      rw [q_sa, s_upd_o (by decide), q_cl_nu 308 0 Y _ (fun x _ _ z => by (try dsimp only at z); omega)]
    unfold K_S1 at h ⊢
    rw [hz (103 + 14 * t2) (by omega) (by omega), hY136]
    rcases h with h | ⟨a, b, k, c, d⟩
    · exact Or.inl h
    · exact Or.inr ⟨a, b, k, K_T_A (K_T_Z c (fun x x1 x2 => hz x (by omega) (by omega))) d.1 hY135, K_I_A d hY135⟩
  rcases (show t = 0 ∨ t = 1 by omega) with h | h
  · exact ⟨by rw [h] at hnew ⊢; exact hnew, hold 1 (by omega) (by omega) h1⟩
  · exact ⟨hold 0 (by omega) (by omega) h0, by rw [h] at hnew ⊢; exact hnew⟩
