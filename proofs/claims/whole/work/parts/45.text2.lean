/-! Texts: putting characters; reading orders (by hand) -/
theorem y_sh : ∀ i, i < 8 → ((8 * nI i : Int32).toInt64.toUInt64 &&& Int64.toUInt64 63).toNat % 64 = 8 * i := by decide +kernel
theorem y_us_nat {w : Int64} {i : Nat} (hi : i < 8) : (y_us w (8 * nI i)).toUInt64.toNat = w.toUInt64.toNat >>> (8 * i) := by
  unfold y_us
  show (w.toUInt64 >>> ((8 * nI i : Int32).toInt64.toUInt64 &&& Int64.toUInt64 63)).toNat = _
  rw [UInt64.toNat_shiftRight, y_sh i hi]
theorem y_us_8 {w : Int64} : (y_us w 8).toUInt64.toNat = w.toUInt64.toNat >>> 8 := y_us_nat (w := w) (i := 1) (by decide)
theorem i64_inj {a b : Int64} (h : a.toUInt64.toNat = b.toUInt64.toNat) : a = b := by
  have h1 : a.toUInt64 = b.toUInt64 := UInt64.toNat_inj.mp h
  have h2 := congrArg UInt64.toInt64 h1
  exact h2
def y_ri (w : Int64) (i : Nat) : Int64 := if i < 8 then y_us w (8 * nI i) else 0
theorem y_ri_s {w : Int64} {i : Nat} (hi : i < 8) : y_us (y_us w (8 * nI i)) 8 = y_ri w (i + 1) := by
  refine i64_inj ?_
  rw [y_us_8, y_us_nat hi, ← Nat.shiftRight_add]
  unfold y_ri
  by_cases h : i + 1 < 8
  · rw [if_pos h, y_us_nat h, show 8 * i + 8 = 8 * (i + 1) by omega]
  · rw [if_neg h, show 8 * i + 8 = 64 by omega, Nat.shiftRight_eq_div_pow]
    have := UInt64.toNat_lt w.toUInt64
    rw [Nat.div_eq_of_lt this]
    rfl
theorem y_byte (r : Int64) : ∃ c, c < 256 ∧ r &&& 255 = Int64.ofNat c := by
  refine ⟨(r &&& 255).toUInt64.toNat, ?_, ?_⟩
  · rw [Int64.toUInt64_and, UInt64.toNat_and]
    exact Nat.lt_of_le_of_lt Nat.and_le_right (by decide)
  · refine i64_inj ?_
    rw [Int64.toUInt64_ofNat', UInt64.ofNat_toNat]
theorem y_by1 : ∀ c, c < 256 → (Int64.ofNat c = 0 ↔ (Int64.ofNat c).toInt32 = 0) := by decide +kernel
theorem y_by2 : ∀ c, c < 256 → (((33 : Int64) ≤ Int64.ofNat c ∧ Int64.ofNat c ≤ 126) ↔ ¬ ((Int64.ofNat c).toInt32 < 33 ∨ 126 < (Int64.ofNat c).toInt32)) := by decide +kernel
theorem y_cc {w : Int64} {i : Nat} : t_cc w i = (y_us w (8 * nI i) &&& 255).toInt32 := by
  unfold t_cc
  rw [Int64.toInt32_and]
  rfl
theorem q_pr_f : ∀ (k i : Nat) (r : Int64), (q_pr k i false r).2.1 = false
  | 0, i, r => rfl
  | k + 1, i, r => by
    rw [q_pr]
    split
    · rfl
    · rw [Bool.false_and]
      exact q_pr_f k (i + 1) _
theorem ci_pr {w : Int64} : ∀ (k i : Nat), i + k = 8 → t_ci w i k = nI (if (q_pr k i true (y_ri w i)).2.2 = 0 ∧ (q_pr k i true (y_ri w i)).2.1 = true then (q_pr k i true (y_ri w i)).1 else 0)
  | 0, i, h => by
    obtain rfl : i = 8 := by omega
    rfl
  | k + 1, i, h => by
    have hr : y_ri w i = y_us w (8 * nI i) := if_pos (by omega)
    obtain ⟨c, c1, c2⟩ := y_byte (y_us w (8 * nI i))
    rw [t_ci, q_pr, hr, y_cc, c2]
    by_cases h0 : Int64.ofNat c = 0
    · rw [if_pos ((y_by1 c c1).mp h0), if_pos h0]
      by_cases hz : y_us w (8 * nI i) = 0
      · rw [if_pos ((lg_cmp_eq _ _).mpr hz), if_pos ⟨hz, rfl⟩]
      · rw [if_neg (fun z => hz ((lg_cmp_eq _ _).mp z)), if_neg (fun z => hz z.1)]
        rfl
    · rw [if_neg (fun z => h0 ((y_by1 c c1).mpr z)), if_neg h0, Bool.true_and, y_ri_s (by omega)]
      by_cases hb : (33 : Int64) ≤ Int64.ofNat c ∧ Int64.ofNat c ≤ 126
      · rw [if_neg ((y_by2 c c1).mp hb), decide_eq_true hb]
        exact ci_pr k (i + 1) (by omega)
      · have hb2 : (Int64.ofNat c).toInt32 < 33 ∨ 126 < (Int64.ofNat c).toInt32 := by
          by_cases z : (Int64.ofNat c).toInt32 < 33 ∨ 126 < (Int64.ofNat c).toInt32
          · exact z
          · exact absurd ((y_by2 c c1).mpr z) hb
        rw [if_pos hb2, decide_eq_false hb, if_neg (fun z => by rw [q_pr_f] at z; exact absurd z.2 (by decide))]
        rfl
/-- the pads are the same -/
def K_P (Z Y : Nat → Nat → Int32) (g : Nat) : Prop := g ≤ 80 ∧ Z 99 1 = nI g ∧ Y 131 10 = nI g ∧ ∀ i, i < g → Z 101 i = Y 140 i
theorem ap_eq {w : Int64} : ∀ (k m : Nat) (Z Y : Nat → Nat → Int32), K_P Z Y m → m + k ≤ 80 → K_P (t_ap w k m Z) (q_ap w k m Y) (m + k)
  | 0, m, Z, Y, h, hk => h
  | k + 1, m, Z, Y, h, hk => by
    rw [t_ap, q_ap, show m + (k + 1) = m + 1 + k by omega]
    refine ap_eq k (m + 1) _ _ ⟨by omega, by rw [s_upd_c, if_pos ⟨rfl, rfl⟩], by rw [s_upd_c, if_pos ⟨rfl, rfl⟩], fun i hi => ?_⟩ (by omega)
    have e1 : s_upd (s_upd Z 101 m (t_cc w k)) 99 1 (nI (m + 1)) 101 i = if 101 = 101 ∧ i = m then t_cc w k else Z 101 i := by rw [s_upd_o (by decide), s_upd_c]
    have e2 : s_upd (s_upd Y 140 m (q_cc w k)) 131 10 (nI (m + 1)) 140 i = if 140 = 140 ∧ i = m then q_cc w k else Y 140 i := by rw [s_upd_o (by decide), s_upd_c]
    rw [e1, e2]
    by_cases him : i = m
    · rw [if_pos ⟨rfl, him⟩, if_pos ⟨rfl, him⟩, y_cc]
      rfl
    · rw [if_neg (fun z => him z.2), if_neg (fun z => him z.2)]
      exact h.2.2.2 i (by omega)
theorem text_eq {Z Y : Nat → Nat → Int32} {g : Nat} (h : K_P Z Y g) {w : Int64} : (c_text Z g w).1 = (q_text Y g w).1 ∧ ∃ g2, K_P (c_text Z g w).2 (q_text Y g w).2 g2 := by
  have hci := ci_pr (w := w) 8 0 rfl
  have h8 := q_pr_le 8 0 true w rfl
  have hr0 : y_ri w 0 = w := by
    refine i64_inj ?_
    show (y_us w (8 * nI 0)).toUInt64.toNat = _
    rw [y_us_nat (by decide)]
    rfl
  rw [hr0] at hci
  unfold c_text q_text
  rw [hci]
  by_cases hc : (q_pr 8 0 true w).2.2 = 0 ∧ (q_pr 8 0 true w).2.1 = true
  · rw [if_pos hc, nI_clamp (by omega)]
    by_cases h0 : (q_pr 8 0 true w).1 = 0
    · rw [if_pos h0, if_pos (Or.inl h0)]
      exact ⟨rfl, g, h⟩
    · rw [if_neg h0, if_neg (show ¬ ((q_pr 8 0 true w).1 = 0 ∨ ¬ (q_pr 8 0 true w).2.2 = 0 ∨ (q_pr 8 0 true w).2.1 = false) from fun z => z.elim h0 (fun z => z.elim (fun z => z hc.1) (fun z => by rw [hc.2] at z; cases z)))]
      by_cases hb : 80 < g + (q_pr 8 0 true w).1
      · rw [if_pos hb, if_pos hb]
        exact ⟨rfl, g, h⟩
      · rw [if_neg hb, if_neg hb]
        have := ap_eq (w := w) (q_pr 8 0 true w).1 g Z Y h (by omega)
        exact ⟨this.2.1.trans this.2.2.1.symm, _, this⟩
  · rw [if_neg hc, if_pos (by rfl), if_pos]
    · exact ⟨rfl, g, h⟩
    · by_cases hz : (q_pr 8 0 true w).2.2 = 0
      · right; right
        cases hq : (q_pr 8 0 true w).2.1 with
        | false => rfl
        | true => exact absurd ⟨hz, hq⟩ hc
      · exact Or.inr (Or.inl hz)
/-! the class's reader along places -/
def rr (p : Nat → Int32) : Nat → Nat → (Nat → Nat → Int32) → Option (Nat → Nat → Int32)
  | 0, _, Z => some Z
  | k + 1, s, Z => if p s = 59 then none else if (t_rdr Z (p s)).1 = true then rr p k (s + 1) (t_rdr Z (p s)).2 else none
theorem rr_add {p : Nat → Int32} : ∀ (a b s : Nat) (Z Z1 : Nat → Nat → Int32), rr p a s Z = some Z1 → rr p (a + b) s Z = rr p b (s + a) Z1
  | 0, b, s, Z, Z1, h => by
    cases h
    rw [Nat.zero_add]
    rfl
  | a + 1, b, s, Z, Z1, h => by
    rw [rr] at h
    rw [show a + 1 + b = a + b + 1 by omega, rr, show s + (a + 1) = s + 1 + a by omega]
    by_cases h1 : p s = 59
    · rw [if_pos h1] at h; cases h
    · rw [if_neg h1] at h ⊢
      by_cases h2 : (t_rdr Z (p s)).1 = true
      · rw [if_pos h2] at h ⊢
        exact rr_add a b (s + 1) _ _ h
      · rw [if_neg h2] at h; cases h
theorem rr_o {p : Nat → Int32} {c : Nat} (hc : c ≠ 102) : ∀ (k s : Nat) (Z Z1 : Nat → Nat → Int32), rr p k s Z = some Z1 → Z1 c = Z c
  | 0, s, Z, Z1, h => by cases h; rfl
  | k + 1, s, Z, Z1, h => by
    rw [rr] at h
    by_cases h1 : p s = 59
    · rw [if_pos h1] at h; cases h
    · rw [if_neg h1] at h
      by_cases h2 : (t_rdr Z (p s)).1 = true
      · rw [if_pos h2] at h
        rw [rr_o hc k (s + 1) _ _ h, t_r_o hc]
      · rw [if_neg h2] at h; cases h
theorem rr_fa {p : Nat → Int32} {g k : Nat} : ∀ (m s : Nat) (Z Z1 : Nat → Nat → Int32), rr p m s Z = some Z1 → s + m ≤ g → (∀ i, i < g → Z 101 i = p i) → t_fa s (m + k) Z = t_fa (s + m) k Z1
  | 0, s, Z, Z1, h, hg, hp => by
    cases h
    rw [Nat.zero_add]
    rfl
  | m + 1, s, Z, Z1, h, hg, hp => by
    rw [rr] at h
    by_cases h1 : p s = 59
    · rw [if_pos h1] at h; cases h
    · rw [if_neg h1] at h
      by_cases h2 : (t_rdr Z (p s)).1 = true
      · rw [if_pos h2] at h
        rw [show m + 1 + k = m + k + 1 by omega, t_fa, hp s (by omega), if_pos h2, rr_fa (g := g) m (s + 1) _ _ h (by omega) (fun i hi => by rw [t_r_o (by decide)]; exact hp i hi), show s + 1 + m = s + (m + 1) by omega]
      · rw [if_neg h2] at h; cases h
theorem rr_co {p : Nat → Int32} {g k : Nat} {a : Int32} : ∀ (m s : Nat) (Z Z1 : Nat → Nat → Int32), rr p m s Z = some Z1 → s + m ≤ g → (∀ i, i < g → Z 101 i = p i) → t_co g (m + k) s Z a = t_co g k (s + m) Z1 a
  | 0, s, Z, Z1, h, hg, hp => by
    cases h
    rw [Nat.zero_add]
    rfl
  | m + 1, s, Z, Z1, h, hg, hp => by
    rw [rr] at h
    by_cases h1 : p s = 59
    · rw [if_pos h1] at h; cases h
    · rw [if_neg h1] at h
      by_cases h2 : (t_rdr Z (p s)).1 = true
      · rw [if_pos h2] at h
        have hcd : t_cd Z g s = p s := by rw [t_cd, if_pos (by omega), hp s (by omega)]
        rw [show m + 1 + k = m + k + 1 by omega, t_co, hcd, if_neg h1, rr_co m (s + 1) _ _ h (by omega) (fun i hi => by rw [t_r_o (by decide)]; exact hp i hi), show s + 1 + m = s + (m + 1) by omega]
      · rw [if_neg h2] at h; cases h
/-! numbers -/
def r_ok (x : Int32) : Prop := 0 ≤ x ∧ x ≤ 999
theorem r_dig {c : Int32} (h : t_dg c = true) : ∃ d, d ≤ 9 ∧ c = nI (48 + d) := by
  have h : 48 ≤ c ∧ c ≤ 57 := of_decide_eq_true h
  obtain ⟨j, j1, j2⟩ := nI_of2 (x := c) (M := 57) (n := 57) (by decide) (Int32.not_lt.mpr (Int32.le_trans (by decide) h.1)) h.2
  have h3 := h.1
  rw [j2] at h3
  have h4 := (y_le (a := 48) (b := j) (by omega) (by omega)).mp h3
  exact ⟨j - 48, by omega, by rw [j2]; congr 1; omega⟩
theorem nI_mul10 (m : Nat) : 10 * nI m = nI (10 * m) := (Int32.ofNat_mul 10 m).symm
theorem r_next {m d : Nat} : 10 * nI m + nI (48 + d) - 48 = nI (10 * m + d) := by
  rw [nI_mul10, nI_add, show (48 : Int32) = nI 48 from rfl, nI_sub (by omega)]
  congr 1
  omega
theorem r_num {x : Int32} (h : r_ok x) : ∃ m, m ≤ 999 ∧ x = nI m := by
  obtain ⟨j, j1, j2⟩ := nI_of2 (x := x) (M := 999) (n := 999) (by decide) (Int32.not_lt.mpr h.1) h.2
  exact ⟨j, j1, j2⟩
theorem r_okn {m : Nat} (h : m ≤ 999) : r_ok (nI m) := ⟨nI_pos' (by omega), (y_le (a := m) (b := 999) (by omega) (by omega)).mpr h⟩
/-- a further digit is taken by both, or by none -/
theorem r3_iff {nm c : Int32} (h : r_ok nm) : (t_dg c = true ∧ ¬ nm = 0 ∧ 10 * nm + c - 48 ≤ 999) ↔ (0 < nm ∧ nm < 100 ∧ t_dg c = true) := by
  obtain ⟨m, m1, rfl⟩ := r_num h
  constructor
  · rintro ⟨h1, h2, h3⟩
    obtain ⟨d, d1, rfl⟩ := r_dig h1
    rw [r_next] at h3
    have h4 := (y_le (a := 10 * m + d) (b := 999) (by omega) (by omega)).mp h3
    have h5 : m ≠ 0 := fun z => h2 (by rw [z]; rfl)
    exact ⟨(y_lt (a := 0) (b := m) (by omega) (by omega)).mpr (by omega), (y_lt (a := m) (b := 100) (by omega) (by omega)).mpr (by omega), h1⟩
  · rintro ⟨h1, h2, h3⟩
    obtain ⟨d, d1, rfl⟩ := r_dig h3
    have h4 := (y_lt (a := 0) (b := m) (by omega) (by omega)).mp h1
    have h5 := (y_lt (a := m) (b := 100) (by omega) (by omega)).mp h2
    refine ⟨h3, fun z => absurd ((nI_eq (a := m) (b := 0) (by omega) (by omega)).mp z) (by omega), ?_⟩
    rw [r_next]
    exact (y_le (a := 10 * m + d) (b := 999) (by omega) (by omega)).mpr (by omega)
theorem r_dg59 {c : Int32} (h : t_dg c = true) : ¬ c = 59 := by
  have h : 48 ≤ c ∧ c ≤ 57 := of_decide_eq_true h
  intro z
  rw [z] at h
  exact absurd h.2 (by decide)
theorem hr_dg {p : Nat → Int32} {g s : Nat} : q_hr p g s 48 57 = true ↔ s < g ∧ t_dg (p s) = true := by
  unfold q_hr t_dg
  rw [Bool.and_eq_true, decide_eq_true_eq, decide_eq_true_eq]
theorem num_rr {p : Nat → Int32} {g : Nat} : ∀ (k s : Nat) (nm : Int32) (Z : Nat → Nat → Int32), s + k = g → Z 102 1 = 2 → Z 102 3 = nm → r_ok nm →
    ∃ Z1, rr p ((q_nl p g k s nm).1 - s) s Z = some Z1 ∧ Z1 102 1 = 2 ∧ Z1 102 3 = (q_nl p g k s nm).2 ∧ r_ok (q_nl p g k s nm).2 ∧ (∀ j, j = 0 ∨ j = 2 ∨ j = 4 → Z1 102 j = Z 102 j) ∧ ((q_nl p g k s nm).1 < g → (t_r3 Z1 (p (q_nl p g k s nm).1)).1 = false)
  | 0, s, nm, Z, hk, h1, h3, hok => by
    rw [q_nl]
    exact ⟨Z, by rw [Nat.sub_self]; rfl, h1, h3, hok, fun j _ => rfl, fun h => by dsimp only at h; omega⟩
  | k + 1, s, nm, Z, hk, h1, h3, hok => by
    rw [q_nl]
    have hiff := r3_iff (c := p s) hok
    by_cases hc : 0 < nm ∧ nm < 100 ∧ q_hr p g s 48 57 = true
    · rw [if_pos hc]
      have hdg := (hr_dg.mp hc.2.2).2
      have hcl := hiff.mpr ⟨hc.1, hc.2.1, hdg⟩
      have hr3 : t_r3 Z (p s) = (true, s_upd Z 102 3 (10 * nm + p s - 48)) := by
        unfold t_r3
        rw [h3, if_pos hcl]
      have hrd : t_rdr Z (p s) = (true, s_upd Z 102 3 (10 * nm + p s - 48)) := by
        unfold t_rdr
        rw [h1, if_neg (by decide), if_neg (by decide), hr3, if_pos rfl]
      have hok2 : r_ok (10 * nm + p s - 48) := by
        obtain ⟨m, m1, rfl⟩ := r_num hok
        obtain ⟨d, d1, hd⟩ := r_dig hdg
        have h5 := hcl.2.2
        rw [hd, r_next] at h5 ⊢
        exact ⟨nI_pos' (by omega), h5⟩
      obtain ⟨Z1, q1, q2, q3, q4, q5, q6⟩ := num_rr (p := p) (g := g) k (s + 1) (10 * nm + p s - 48) (s_upd Z 102 3 (10 * nm + p s - 48)) (by omega) (by rw [s_upd_ne (by omega)]; exact h1) (by rw [s_upd_c, if_pos ⟨rfl, rfl⟩]) hok2
      have hle := q_nl_le (p := p) (g := g) k (s + 1) (10 * nm + p s - 48) (by omega)
      refine ⟨Z1, ?_, q2, q3, q4, fun j hj => by rw [q5 j hj, s_upd_ne (by omega)], q6⟩
      rw [show (q_nl p g k (s + 1) (10 * nm + p s - 48)).1 - s = ((q_nl p g k (s + 1) (10 * nm + p s - 48)).1 - (s + 1)) + 1 by omega, rr, if_neg (r_dg59 hdg), hrd, if_pos rfl]
      exact q1
    · rw [if_neg hc]
      refine ⟨Z, by rw [Nat.sub_self]; rfl, h1, h3, hok, fun j _ => rfl, fun h => ?_⟩
      dsimp only at h ⊢
      unfold t_r3
      rw [h3, if_neg (fun z => ?_)]
      have := hiff.mp z
      exact hc ⟨this.1, this.2.1, hr_dg.mpr ⟨by omega, this.2.2⟩⟩
theorem rn_rr {p : Nat → Int32} {g s : Nat} {nm : Int32} {Z : Nat → Nat → Int32} (hs : s ≤ g) (h1 : Z 102 1 = 1) :
    ((q_rn p g s nm).1 = true → ∃ Z1, rr p ((q_rn p g s nm).2.1 - s) s Z = some Z1 ∧ Z1 102 1 = 2 ∧ Z1 102 3 = (q_rn p g s nm).2.2 ∧ r_ok (q_rn p g s nm).2.2 ∧ (∀ j, j = 0 ∨ j = 2 ∨ j = 4 → Z1 102 j = Z 102 j) ∧ ((q_rn p g s nm).2.1 < g → (t_r3 Z1 (p (q_rn p g s nm).2.1)).1 = false)) ∧
    ((q_rn p g s nm).1 = false → (q_rn p g s nm).2.1 = s ∧ (s < g → (t_rdr Z (p s)).1 = false)) := by
  have hrd : t_rdr Z (p s) = t_r2 Z (p s) := by
    unfold t_rdr
    rw [h1, if_neg (by decide), if_pos rfl]
  unfold q_rn
  by_cases hc : q_hr p g s 48 57 = true
  · rw [if_pos hc]
    have hdg := hr_dg.mp hc
    refine ⟨fun _ => ?_, fun z => (by cases z)⟩
    have hr2 : t_r2 Z (p s) = (true, s_upd (s_upd Z 102 3 (p s - 48)) 102 1 2) := by
      unfold t_r2
      rw [if_pos hdg.2]
    have hok : r_ok (p s - 48) := by
      obtain ⟨d, d1, hd⟩ := r_dig hdg.2
      rw [hd, show (48 : Int32) = nI 48 from rfl, nI_sub (by omega)]
      exact r_okn (by omega)
    obtain ⟨Z1, q1, q2, q3, q4, q5, q6⟩ := num_rr (p := p) (g := g) (g - (s + 1)) (s + 1) (p s - 48) (s_upd (s_upd Z 102 3 (p s - 48)) 102 1 2) (by omega) (by rw [s_upd_c, if_pos ⟨rfl, rfl⟩]) (by rw [s_upd_ne (by omega), s_upd_c, if_pos ⟨rfl, rfl⟩]) hok
    have hle := q_nl_le (p := p) (g := g) (g - (s + 1)) (s + 1) (p s - 48) (by omega)
    refine ⟨Z1, ?_, q2, q3, q4, fun j hj => by rw [q5 j hj, s_upd_ne (by omega), s_upd_ne (by omega)], q6⟩
    show rr p ((q_nl p g (g - (s + 1)) (s + 1) (p s - 48)).1 - s) s Z = some Z1
    rw [show (q_nl p g (g - (s + 1)) (s + 1) (p s - 48)).1 - s = ((q_nl p g (g - (s + 1)) (s + 1) (p s - 48)).1 - (s + 1)) + 1 by omega, rr, if_neg (r_dg59 hdg.2), hrd, hr2, if_pos rfl]
    exact q1
  · rw [if_neg hc]
    refine ⟨fun z => (by cases z), fun _ => ⟨rfl, fun h => ?_⟩⟩
    rw [hrd]
    unfold t_r2
    rw [if_neg (fun z => hc (hr_dg.mpr ⟨h, z⟩))]
theorem r_sign {c : Int32} (h : q_is c = true) : ¬ c = 59 := by
  have h : c = 43 ∨ c = 45 ∨ c = 33 := of_decide_eq_true h
  rintro rfl
  exact absurd h (by decide)
theorem r45 {Z : Nat → Nat → Int32} {c : Int32} (h1 : Z 102 1 = 2) (h3 : (t_r3 Z c).1 = false) (h4 : ¬ (c = 61 ∧ Z 102 0 = 43 ∧ Z 102 4 = 0)) (h5 : ¬ c = 59) : (t_rdr Z c).1 = false := by
  have e4 : (t_r4 Z c).1 = false := by
    unfold t_r4
    rw [if_neg h4]
  have e5 : (t_r5 Z c).1 = false := by
    unfold t_r5
    rw [if_neg h5]
  unfold t_rdr
  rw [h1, if_neg (by decide), if_neg (by decide), h3, if_neg (by decide), e4, if_neg (by decide)]
  exact e5
theorem r59 {Z : Nat → Nat → Int32} (h1 : Z 102 1 = 2) : t_rdr Z 59 = (true, s_upd Z 102 1 0) := by
  have e3 : (t_r3 Z 59).1 = false := by
    unfold t_r3
    rw [if_neg (fun z => absurd z.1 (by decide))]
  have e4 : (t_r4 Z 59).1 = false := by
    unfold t_r4
    rw [if_neg (fun z => absurd z.1 (by decide))]
  unfold t_rdr
  rw [h1, if_neg (by decide), if_neg (by decide), e3, if_neg (by decide), e4, if_neg (by decide)]
  rfl
/-- one order -/
theorem ord_rr {p : Nat → Int32} {g s : Nat} {rk rv nm : Int32} {Z : Nat → Nat → Int32} (hs : s ≤ g) (h1 : Z 102 1 = 0) :
    ((q_ro p g s rk rv nm).1 = true → ∃ Z1, rr p ((q_ro p g s rk rv nm).2.1 - s) s Z = some Z1 ∧ Z1 102 1 = 2 ∧ Z1 102 0 = (q_ro p g s rk rv nm).2.2.1 ∧ q_is (q_ro p g s rk rv nm).2.2.1 = true ∧ t_ak Z1 = (q_ro p g s rk rv nm).2.2.2.1 ∧ Z1 102 3 = (q_ro p g s rk rv nm).2.2.2.2.1 ∧ r_ok (q_ro p g s rk rv nm).2.2.2.1 ∧ r_ok (q_ro p g s rk rv nm).2.2.2.2.1 ∧ ((q_ro p g s rk rv nm).2.1 < g → ¬ p (q_ro p g s rk rv nm).2.1 = 59 → (t_rdr Z1 (p (q_ro p g s rk rv nm).2.1)).1 = false)) ∧
    ((q_ro p g s rk rv nm).1 = false → ∃ m Z1, rr p m s Z = some Z1 ∧ s + m = (q_ro p g s rk rv nm).2.1 ∧ (q_ro p g s rk rv nm).2.1 ≤ g ∧ ((q_ro p g s rk rv nm).2.1 < g → (t_rdr Z1 (p (q_ro p g s rk rv nm).2.1)).1 = false) ∧ ((q_ro p g s rk rv nm).2.1 = g → ¬ Z1 102 1 = 2)) := by
  have hrd0 : t_rdr Z (p s) = t_r1 Z (p s) := by
    unfold t_rdr
    rw [h1, if_pos rfl]
  unfold q_ro
  by_cases his : q_is (q_od p g s) = false
  · rw [if_pos his]
    refine ⟨fun z => (by cases z), fun _ => ⟨0, Z, rfl, rfl, hs, fun h => ?_, fun _ => by rw [h1]; decide⟩⟩
    dsimp only at h ⊢
    rw [q_od, if_pos h] at his
    have his : ¬ (p s = 43 ∨ p s = 45 ∨ p s = 33) := of_decide_eq_false his
    rw [hrd0, t_r1, if_neg his]
  · rw [if_neg his]
    have hsg := q_is_lt (y_tnf his)
    have hod : q_od p g s = p s := if_pos hsg
    have hist : q_is (p s) = true := by rw [← hod]; exact y_tnf his
    rw [hod]
    have hr1 : t_r1 Z (p s) = (true, s_upd (s_upd (s_upd Z 102 0 (p s)) 102 4 0) 102 1 1) := by
      unfold t_r1
      rw [if_pos (of_decide_eq_true hist : p s = 43 ∨ p s = 45 ∨ p s = 33)]
    have hstep : ∀ m, rr p (m + 1) s Z = rr p m (s + 1) (s_upd (s_upd (s_upd Z 102 0 (p s)) 102 4 0) 102 1 1) := fun m => by
      rw [rr, if_neg (r_sign hist), hrd0, hr1, if_pos rfl]
    have hA1 : s_upd (s_upd (s_upd Z 102 0 (p s)) 102 4 0) 102 1 1 102 1 = 1 := by rw [s_upd_c, if_pos ⟨rfl, rfl⟩]
    have hA0 : s_upd (s_upd (s_upd Z 102 0 (p s)) 102 4 0) 102 1 1 102 0 = p s := by rw [s_upd_ne (by omega), s_upd_ne (by omega), s_upd_c, if_pos ⟨rfl, rfl⟩]
    have hA4 : s_upd (s_upd (s_upd Z 102 0 (p s)) 102 4 0) 102 1 1 102 4 = 0 := by rw [s_upd_ne (by omega), s_upd_c, if_pos ⟨rfl, rfl⟩]
    generalize s_upd (s_upd (s_upd Z 102 0 (p s)) 102 4 0) 102 1 1 = A at *
    obtain ⟨n1, n2⟩ := rn_rr (p := p) (g := g) (s := s + 1) (nm := nm) (Z := A) (by omega) hA1
    have hle1 := q_rn_le (p := p) (g := g) (s := s + 1) (nm := nm) (by omega)
    generalize q_rn p g (s + 1) nm = R at *
    cases hR : R.1 with
    | false =>
      rw [if_pos rfl]
      refine ⟨fun z => (by cases z), fun _ => ?_⟩
      obtain ⟨e1, e2⟩ := n2 hR
      refine ⟨1, A, by rw [hstep 0]; rfl, by dsimp only; rw [e1], by dsimp only; omega, fun h => ?_, fun _ => by rw [hA1]; decide⟩
      dsimp only at h ⊢
      rw [e1] at h ⊢
      exact e2 h
    | true =>
      rw [if_neg (by decide)]
      obtain ⟨B, b1, b2, b3, b4, b5, b6⟩ := n1 hR
      have hsR := hle1.2.2 hR
      have hB0 : B 102 0 = p s := by rw [b5 0 (Or.inl rfl), hA0]
      have hB4 : B 102 4 = 0 := by rw [b5 4 (Or.inr (Or.inr rfl)), hA4]
      have hrB : rr p (R.2.1 - s) s Z = some B := by
        rw [show R.2.1 - s = (R.2.1 - (s + 1)) + 1 by omega, hstep]
        exact b1
      have hrdB : ∀ c, (t_r3 B c).1 = false → t_rdr B c = if (t_r4 B c).1 = true then t_r4 B c else t_r5 B c := fun c h => by
        unfold t_rdr
        rw [b2, if_neg (by decide), if_neg (by decide), if_neg (by rw [h]; decide)]
      by_cases hc : p s = 43 ∧ q_hr p g R.2.1 61 61 = true
      · rw [if_pos hc]
        have hRg : R.2.1 < g := q_hr_lt hc.2
        have h61 : p R.2.1 = 61 := by
          have := hc.2
          unfold q_hr at this
          rw [Bool.and_eq_true, decide_eq_true_eq, decide_eq_true_eq] at this
          exact Int32.le_antisymm this.2.2 this.2.1
        have hr4 : t_r4 B (p R.2.1) = (true, s_upd (s_upd (s_upd B 102 2 (B 102 3)) 102 4 1) 102 1 1) := by
          unfold t_r4
          rw [if_pos ⟨h61, by rw [hB0]; exact hc.1, hB4⟩]
        have hrd4 : t_rdr B (p R.2.1) = (true, s_upd (s_upd (s_upd B 102 2 (B 102 3)) 102 4 1) 102 1 1) := by
          rw [hrdB _ (b6 hRg), hr4, if_pos rfl]
        have hC : rr p (R.2.1 + 1 - s) s Z = some (s_upd (s_upd (s_upd B 102 2 (B 102 3)) 102 4 1) 102 1 1) := by
          rw [show R.2.1 + 1 - s = (R.2.1 - s) + 1 by omega, rr_add (R.2.1 - s) 1 s Z B hrB, show s + (R.2.1 - s) = R.2.1 by omega, rr, if_neg (by rw [h61]; decide), hrd4, if_pos rfl]
          rfl
        have hC1 : s_upd (s_upd (s_upd B 102 2 (B 102 3)) 102 4 1) 102 1 1 102 1 = 1 := by rw [s_upd_c, if_pos ⟨rfl, rfl⟩]
        have hC0 : s_upd (s_upd (s_upd B 102 2 (B 102 3)) 102 4 1) 102 1 1 102 0 = p s := by rw [s_upd_ne (by omega), s_upd_ne (by omega), s_upd_ne (by omega), hB0]
        have hC4 : s_upd (s_upd (s_upd B 102 2 (B 102 3)) 102 4 1) 102 1 1 102 4 = 1 := by rw [s_upd_ne (by omega), s_upd_c, if_pos ⟨rfl, rfl⟩]
        have hC2 : s_upd (s_upd (s_upd B 102 2 (B 102 3)) 102 4 1) 102 1 1 102 2 = R.2.2 := by rw [s_upd_ne (by omega), s_upd_ne (by omega), s_upd_c, if_pos ⟨rfl, rfl⟩, b3]
        generalize s_upd (s_upd (s_upd B 102 2 (B 102 3)) 102 4 1) 102 1 1 = C at *
        obtain ⟨m1, m2⟩ := rn_rr (p := p) (g := g) (s := R.2.1 + 1) (nm := R.2.2) (Z := C) (by omega) hC1
        have hle2 := q_rn_le (p := p) (g := g) (s := R.2.1 + 1) (nm := R.2.2) (by omega)
        generalize q_rn p g (R.2.1 + 1) R.2.2 = S at *
        refine ⟨fun h => ?_, fun h => ?_⟩
        · obtain ⟨E, e1, e2, e3, e4, e5, e6⟩ := m1 h
          have hsS := hle2.2.2 h
          have hE4 : E 102 4 = 1 := by rw [e5 4 (Or.inr (Or.inr rfl)), hC4]
          refine ⟨E, ?_, e2, by rw [e5 0 (Or.inl rfl), hC0], hist, ?_, e3, b4, e4, fun hg hn => ?_⟩
          · dsimp only
            rw [show S.2.1 - s = (R.2.1 + 1 - s) + (S.2.1 - (R.2.1 + 1)) by omega, rr_add _ _ s Z C hC, show s + (R.2.1 + 1 - s) = R.2.1 + 1 by omega]
            exact e1
          · dsimp only
            unfold t_ak
            rw [hE4, if_neg (by decide), e5 2 (Or.inr (Or.inl rfl)), hC2]
          · dsimp only at hg hn ⊢
            have h3 := e6 hg
            exact r45 e2 h3 (fun z => by have := z.2.2; rw [hE4] at this; exact absurd this (by decide)) hn
        · obtain ⟨e1, e2⟩ := m2 h
          refine ⟨R.2.1 + 1 - s, C, hC, by dsimp only; omega, by dsimp only; omega, fun hg => ?_, fun _ => by rw [hC1]; decide⟩
          dsimp only at hg ⊢
          rw [e1] at hg ⊢
          exact e2 hg
      · rw [if_neg hc]
        refine ⟨fun _ => ⟨B, hrB, b2, hB0, hist, ?_, b3, b4, b4, fun hg hn => ?_⟩, fun z => (by cases z)⟩
        · dsimp only
          unfold t_ak
          rw [hB4, if_pos rfl, b3]
        · dsimp only at hg hn ⊢
          refine r45 b2 (b6 hg) (fun z => hc ⟨by rw [← hB0]; exact z.2.1, ?_⟩) hn
          unfold q_hr
          rw [Bool.and_eq_true, decide_eq_true_eq, decide_eq_true_eq, z.1]
          exact ⟨hg, by decide⟩
/-- a whole text -/
theorem fa_rf {p : Nat → Int32} {g : Nat} : ∀ (K s : Nat) (od rk rv nm : Int32) (Z : Nat → Nat → Int32), Z 102 1 = 0 → s ≤ g → g - s < K → Z 99 1 = nI g → (∀ i, i < g → Z 101 i = p i) → (t_fa s (g - s) Z).1 = (q_rf p g K s od rk rv nm).1
  | 0, s, od, rk, rv, nm, Z, h1, hs, hK, hG, hp => by omega
  | K + 1, s, od, rk, rv, nm, Z, h1, hs, hK, hG, hp => by
    rw [q_rf]
    obtain ⟨o1, o2⟩ := ord_rr (p := p) (g := g) (s := s) (rk := rk) (rv := rv) (nm := nm) (Z := Z) hs h1
    have hle := q_ro_le (p := p) (g := g) (s := s) (rk := rk) (rv := rv) (nm := nm) hs
    generalize q_ro p g s rk rv nm = R at *
    cases hR : R.1 with
    | false =>
      rw [if_pos rfl]
      obtain ⟨m, B, b1, b2, b3, b4, b5⟩ := o2 hR
      rw [show g - s = m + (g - R.2.1) by omega, rr_fa (g := g) m s Z B b1 (by omega) hp, b2]
      rcases Nat.lt_or_ge R.2.1 g with h | h
      · rw [show g - R.2.1 = (g - R.2.1 - 1) + 1 by omega, t_fa, rr_o (by decide) m s Z B b1, hp R.2.1 h, if_neg (by rw [b4 h]; decide)]
      · rw [show g - R.2.1 = 0 by omega, t_fa, if_neg (b5 (by omega)), rr_o (by decide) m s Z B b1, hG]
        show nI g = nI R.2.1
        congr 1
        omega
    | true =>
      rw [if_neg (by decide)]
      obtain ⟨B, b1, b2, b3, b4, b5, b6, b7, b8, b9⟩ := o1 hR
      have hsR := hle.2.2 hR
      rw [show g - s = (R.2.1 - s) + (g - R.2.1) by omega, rr_fa (g := g) _ s Z B b1 (by omega) hp, show s + (R.2.1 - s) = R.2.1 by omega]
      have hB101 : B 101 = Z 101 := rr_o (by decide) _ s Z B b1
      have hB99 : B 99 = Z 99 := rr_o (by decide) _ s Z B b1
      by_cases hh : q_hr p g R.2.1 59 59 = true
      · rw [if_pos hh]
        have hRg := q_hr_lt hh
        have h59 : p R.2.1 = 59 := by
          unfold q_hr at hh
          rw [Bool.and_eq_true, decide_eq_true_eq, decide_eq_true_eq] at hh
          exact Int32.le_antisymm hh.2.2 hh.2.1
        have hrd := r59 b2
        rw [show g - R.2.1 = (g - (R.2.1 + 1)) + 1 by omega, t_fa, hB101, hp R.2.1 hRg, h59, hrd, if_pos rfl]
        exact fa_rf K (R.2.1 + 1) _ _ _ _ (s_upd B 102 1 0) (by rw [s_upd_c, if_pos ⟨rfl, rfl⟩]) (by omega) (by omega) (by rw [s_upd_o (by decide), hB99]; exact hG) (fun i hi => by rw [s_upd_o (by decide), hB101]; exact hp i hi)
      · rw [if_neg hh]
        rcases Nat.lt_or_ge R.2.1 g with h | h
        · have hn59 : ¬ p R.2.1 = 59 := fun z => hh (by
            unfold q_hr
            rw [Bool.and_eq_true, decide_eq_true_eq, decide_eq_true_eq, z]
            exact ⟨h, by decide⟩)
          rw [show g - R.2.1 = (g - R.2.1 - 1) + 1 by omega, t_fa, hB101, hp R.2.1 h, if_neg (by rw [b9 h hn59]; decide)]
          show nI R.2.1 = (if R.2.1 = g then -6 else nI R.2.1)
          rw [if_neg (by omega)]
        · rw [show g - R.2.1 = 0 by omega, t_fa, if_pos b2]
          show (-6 : Int32) = (if R.2.1 = g then -6 else nI R.2.1)
          rw [if_pos (by omega)]
theorem fault_eq {Z Y : Nat → Nat → Int32} {g : Nat} (h : K_P Z Y g) : (t_zf Z g).1 = (q_flt Y g).1 := by
  unfold t_zf q_flt
  exact fa_rf (p := Y 140) (g := g) 81 0 _ _ _ _ (s_upd Z 102 1 0) (by rw [s_upd_c, if_pos ⟨rfl, rfl⟩]) (by omega) (by have := h.1; omega) (by rw [s_upd_o (by decide)]; exact h.2.1) (fun i hi => by rw [s_upd_o (by decide)]; exact h.2.2.2 i hi)
