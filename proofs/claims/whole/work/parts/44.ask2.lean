/-! node, count, worst, leaning are answered alike (by hand) -/
section ASK2
variable {Z Y : Nat → Nat → Int32} {n : Nat}
theorem ktp_eq (hT : K_T Z 5 (Y 132) n) {d l u : Nat} (h : CT (q_c Y 248) n d l u) : t_ktp Z l u (nI d) = q_ky Y (q_fd (q_c Y 248) (nI d) l (u - l)) := by
  have hun := h.2.1
  unfold t_ktp
  by_cases hul : u ≤ l
  · rw [if_pos hul, show u - l = 0 by omega]
    rfl
  · obtain ⟨t, q0, q1, q2, q3, q4, q5, q6⟩ := CT_top h (by omega)
    rw [if_neg hul, t_tp_congr (D := q_c Y 248) _ _ (fun i a b => K_D hT i (by omega)), q0, q_fd_some q3 (u - l) l q1 (by omega) (fun x a b z => by
      have := q6 x a (by omega) (by omega)
      rw [z] at this
      exact Int32.lt_irrefl this)]
    exact (hT.2.2.2 t (by omega)).1.symm
theorem K_at (hI : K_I (Y 132) n) {j : Nat} (hj : j < n) : ∃ e, q_c Y 248 j = nI e ∧ e < 60 ∧ CT (q_c Y 248) n (e + 1) (q_L Y j) j ∧ CT (q_c Y 248) n (e + 1) (j + 1) (q_H Y n j + 1) := by
  have hn := hI.1
  obtain ⟨e, a, b, p1, p2, p3, p4, p5, p6, p7, p8⟩ := CT_at n 0 0 n (by omega) (CT_root (K_DT hI) hn) j (Nat.zero_le _) hj
  obtain ⟨s1, s2⟩ := CT_span p1 p4 p5 p6 p8
  obtain ⟨t, q0, q1, q2, q3, q4, q5, q6⟩ := CT_top p1 (by omega)
  have htj : t = j := by
    by_cases h : j = t
    · exact h.symm
    · have := q6 j p4 p5 h
      rw [p6] at this
      exact absurd this Int32.lt_irrefl
  subst htj
  have s1 : q_L Y t = a := s1
  have s2 : q_H Y n t = b - 1 := s2
  have h60 := p1.2.2.1
  rw [s1, s2, show b - 1 + 1 = b by omega]
  exact ⟨e, p6, by omega, q4, q5⟩
theorem t_mx_first {f : Nat → Int32} {k i : Nat} {a : Int32} (hk : 0 < k) (ha : a < f i) : t_mx f i k a = t_mx f i k (f i) := by
  obtain ⟨m, rfl⟩ : ∃ m, k = m + 1 := ⟨k - 1, by omega⟩
  rw [t_mx, t_mx, if_pos ha, if_neg Int32.lt_irrefl]
theorem K_dep (hI : K_I (Y 132) n) {j : Nat} (hj : j < n) : (-6 : Int32) < q_c Y 248 j := by
  obtain ⟨e, e1, e2, -⟩ := K_at hI hj
  rw [e1, Int32.lt_iff_toInt_lt, nI_toInt (by omega)]
  have : (-6 : Int32).toInt = -6 := by decide
  omega
theorem ln_eq (hT : K_T Z 5 (Y 132) n) {j : Nat} (hj : j < n) : t_ln Z n j = q_ln Y n j := by
  rw [q_ln_eq hj]
  unfold t_ln
  rw [K_L hT hj, K_H hT hj, show Z 7 0 = Y 132 0 from hT.2.2.1.1.symm]
  rfl
theorem lnc_eq (hT : K_T Z 5 (Y 132) n) : ∀ (k i : Nat) (a : Int32), i + k = n → t_lnc Z n i k a = q_lnc Y n i k a
  | 0, i, a, h => rfl
  | k + 1, i, a, h => by rw [t_lnc, q_lnc, ln_eq hT (by omega), lnc_eq hT k (i + 1) _ (by omega)]
theorem abt_eq (hT : K_T Z 5 (Y 132) n) (hI : K_I (Y 132) n) {j : Nat} (hj : j < n) : ∀ k, k ≤ 8 → c_abt Z n j k = q_abt Y n j k := by
  obtain ⟨e, e1, e2, e3, e4⟩ := K_at hI hj
  have hD := K_D hT j hj
  have hc := hT.2.2.2 j hj
  have hLL := q_LL Y j
  have hHH := q_HH Y hj
  intro k hk
  match k, hk with
  | 0, _ =>
    show t_ktp Z (t_L Z j) j (Z 15 j + 1) = q_ky Y (q_fd (q_c Y 248) (q_c Y 248 j + 1) (q_L Y j) (j - q_L Y j))
    rw [K_L hT hj, hD, e1, nI_1]
    exact ktp_eq hT e3
  | 1, _ =>
    show t_ktp Z (j + 1) (t_H Z n j + 1) (Z 15 j + 1) = q_ky Y (q_fd (q_c Y 248) (q_c Y 248 j + 1) (j + 1) (q_H Y n j - j))
    rw [K_H hT hj, hD, e1, nI_1]
    have := ktp_eq hT e4
    rw [show q_H Y n j + 1 - (j + 1) = q_H Y n j - j by omega] at this
    exact this
  | 2, _ => exact reb_w hT hj
  | 3, _ => exact hD
  | 4, _ => exact hc.2.2.1.symm
  | 5, _ =>
    show y_b (decide (Z 17 j = 1)) = Y 132 (188 + j)
    rw [show Z 17 j = Y 132 (188 + j) from hc.2.2.2.1.symm]
    rcases hI.2.2.2.1 j hj with h | h
    · rw [h]; rfl
    · rw [h]; rfl
  | 6, _ =>
    show t_sm (Z 17) (t_L Z j) (t_H Z n j + 1 - t_L Z j) 0 = t_sm (q_c Y 188) (q_L Y j) (q_H Y n j + 1 - q_L Y j) 0
    rw [K_L hT hj, K_H hT hj]
    exact t_sm_congr _ _ _ (fun i a b => (hT.2.2.2 i (by omega)).2.2.2.1.symm)
  | 7, _ =>
    show y_b (t_ln Z n j) = y_b (q_ln Y n j)
    rw [ln_eq hT hj]
  | 8, _ =>
    show t_mx (Z 15) (t_L Z j) (t_H Z n j + 1 - t_L Z j) (Z 15 (t_L Z j)) - Z 15 j = t_mx (q_c Y 248) (q_L Y j) (q_H Y n j + 1 - q_L Y j) (-6) - q_c Y 248 j
    rw [K_L hT hj, K_H hT hj, hD, t_mx_first (a := -6) (by omega) (K_dep hI (by omega)), K_D hT (q_L Y j) (by omega)]
    congr 1
    exact t_mx_congr _ _ _ (fun i a b => K_D hT i (by omega))
  | k + 9, h => omega
theorem node_eq (hT : K_T Z 5 (Y 132) n) (hI : K_I (Y 132) n) {key : Int32} {k : Nat} (hk : k ≤ 8) : c_node Z n key k = q_node Y n key k := by
  unfold c_node q_node
  rw [K_key hT hI]
  by_cases hn : y_nm key = true
  · rw [if_pos hn, if_pos hn]
    cases hq : q_fd (q_c Y 8) key 0 n with
    | none => rfl
    | some j => exact abt_eq hT hI (by have := q_fd_lt hq; omega) k hk
  · rw [if_neg hn, if_neg hn]
theorem count_eq (hT : K_T Z 5 (Y 132) n) (hI : K_I (Y 132) n) : ∀ k, k ≤ 12 → c_count Z n k = q_count Y n k := by
  have hn := hI.1
  intro k hk
  match k, hk with
  | 0, _ => exact hT.1.2.symm
  | 1, _ => exact t_sm_congr n 0 0 (fun i a b => (hT.2.2.2 i (by omega)).2.2.2.1.symm)
  | 2, _ =>
    show t_ktp Z 0 n (nI 0) = q_ky Y (q_rt (q_c Y 248) 0 n none)
    rcases Nat.eq_zero_or_pos n with h0 | h0
    · subst h0; rfl
    · obtain ⟨g1, g2, g3⟩ := root_eq (K_DT hI) hn h0
      rw [g1]
      unfold t_ktp
      rw [if_neg (by omega), t_tp_congr (D := q_c Y 248) _ _ (fun i a b => K_D hT i (by omega))]
      exact (hT.2.2.2 _ g2).1.symm
  | 3, _ =>
    show (if n = 0 then (-6 : Int32) else t_mx (Z 15) 0 n (Z 15 0)) = t_mx (q_c Y 248) 0 n (-6)
    by_cases h0 : n = 0
    · rw [if_pos h0]; subst h0; rfl
    · rw [if_neg h0, t_mx_first (a := -6) (by omega) (K_dep hI (by omega)), K_D hT 0 (by omega)]
      exact t_mx_congr _ _ _ (fun i a b => K_D hT i (by omega))
  | 4, _ => exact hT.2.1.1.symm
  | 5, _ => exact congrArg (fun x => x + 1000000) hT.2.1.2.1.symm
  | 6, _ => exact t_sm_congr n 0 0 (fun i a b => (hT.2.2.2 i (by omega)).2.2.1.symm)
  | 7, _ => exact hT.2.1.2.2.1.symm
  | 8, _ => exact hT.2.1.2.2.2.symm
  | 9, _ => exact lnc_eq hT n 0 0 (by omega)
  | 10, _ => exact hT.2.2.1.1.symm
  | 11, _ => exact hT.2.2.1.2.1.symm
  | 12, _ => exact hT.2.2.1.2.2.symm
  | k + 13, h => omega
/-! what a key would cost -/
theorem wc_eq (hT : K_T Z 5 (Y 132) n) (hI : K_I (Y 132) n) {key : Int32} : c_wc Z n key = (q_pt Y n key 0).1 := by
  unfold c_wc
  by_cases hk : y_nm key = true
  · rw [if_pos hk]
    rcases put_eq hT hI (value := 0) hk (by decide) with ⟨h1, h2⟩ | ⟨h1, h2, h3, h4, h5⟩
    · rw [h1, h2, if_neg (by decide)]
    · rw [h1, if_pos rfl, h3]
  · rw [if_neg hk, q_pt, if_neg (fun z => hk z.1)]
theorem y_nm_nI {x : Nat} (h : x ≤ 999) : y_nm (nI x) = true := decide_eq_true ⟨nI_pos' (by omega), (y_le (a := x) (b := 999) (by omega) (by omega)).mpr h⟩
theorem y_nm_no {x : Nat} (h : 999 < x) (h2 : x < 2 ^ 31) : y_nm (nI x) = false := decide_eq_false (fun z => by have := (y_le (a := x) (b := 999) h2 (by omega)).mp z.2; omega)
theorem q_wo_same {C : Nat → Int32} : ∀ (k i r : Nat) (b m : Int32), (∀ x, i ≤ x → x < i + k → ¬ m < C x) → q_wo C i (k + r) b m = q_wo C (i + k) r b m
  | 0, i, r, b, m, h => by rw [Nat.zero_add]; rfl
  | k + 1, i, r, b, m, h => by
    rw [show k + 1 + r = k + r + 1 by omega, q_wo, if_neg (h i (Nat.le_refl _) (by omega)), q_wo_same k (i + 1) r b m (fun x a b => h x (by omega) (by omega)), show i + 1 + k = i + (k + 1) by omega]
theorem q_wo_seg {C : Nat → Int32} {c : Int32} {k i r : Nat} {b m : Int32} (h : ∀ x, i ≤ x → x < i + (k + 1) → C x = c) : q_wo C i (k + 1 + r) b m = if m < c then q_wo C (i + (k + 1)) r (nI i) c else q_wo C (i + (k + 1)) r b m := by
  by_cases hm : m < c
  · rw [if_pos hm, show k + 1 + r = k + r + 1 by omega, q_wo, h i (Nat.le_refl _) (by omega), if_pos hm, q_wo_same k (i + 1) r _ _ (fun x a b => by rw [h x (by omega) (by omega)]; exact Int32.lt_irrefl), show i + 1 + k = i + (k + 1) by omega]
  · rw [if_neg hm, q_wo_same (k + 1) i r b m (fun x a b => by rw [h x a b]; exact hm)]
theorem t_pl_at {K : Nat → Int32} {key : Int32} {i : Nat} (hi : i ≤ n) (h1 : ∀ y, y < i → K y < key) (h2 : i < n → ¬ K i < key) : t_pl K key 0 n = i := by
  obtain ⟨p1, p2⟩ := t_pl_spec (K := K) (key := key) n 0
  have hle := (t_pl_le K key n 0).2
  rcases Nat.lt_trichotomy (t_pl K key 0 n) i with z | z | z
  · exact absurd (h1 _ z) (p2 (by omega))
  · exact z
  · exact absurd (p1 i (Nat.zero_le _) z) (h2 (by omega))
/-- a node's key, as a number -/
def k_n (Y : Nat → Nat → Int32) (i : Nat) : Nat := (Y 132 (8 + i)).toNatClampNeg
theorem k_n_eq (hI : K_I (Y 132) n) {i : Nat} (hi : i < n) : Y 132 (8 + i) = nI (k_n Y i) ∧ k_n Y i ≤ 999 := by
  obtain ⟨h1, h2⟩ := hI.2.1 i hi
  obtain ⟨j, j1, j2⟩ := nI_of2 (x := Y 132 (8 + i)) (M := 999) (n := 999) (by decide) (Int32.not_lt.mpr h1) h2
  have h3 : k_n Y i = j := by unfold k_n; rw [j2, nI_clamp (by omega)]
  rw [h3]
  exact ⟨j2, j1⟩
theorem k_n_lt (hI : K_I (Y 132) n) {i j : Nat} (h : i < j) (hj : j < n) : k_n Y i < k_n Y j := by
  obtain ⟨a1, a2⟩ := k_n_eq hI (show i < n by omega)
  obtain ⟨b1, b2⟩ := k_n_eq hI hj
  have := hI.2.2.1 i j h hj
  rw [a1, b1] at this
  exact (y_lt (by omega) (by omega)).mp this
def k_g (Y : Nat → Nat → Int32) (i : Nat) : Nat := if i = 0 then 0 else k_n Y (i - 1) + 1
theorem k_g_eq (hT : K_T Z 5 (Y 132) n) (hI : K_I (Y 132) n) {i : Nat} (hi : i ≤ n) : t_wk Z i = nI (k_g Y i) ∧ k_g Y i ≤ 1000 := by
  unfold t_wk k_g
  by_cases h : i = 0
  · rw [if_pos h, if_pos h]
    exact ⟨rfl, by omega⟩
  · obtain ⟨a1, a2⟩ := k_n_eq hI (show i - 1 < n by omega)
    rw [if_neg h, if_neg h, show Z 9 (i - 1) = Y 132 (8 + (i - 1)) from (hT.2.2.2 (i - 1) (by omega)).1.symm, a1, nI_1]
    exact ⟨rfl, by omega⟩
theorem cost_cs (hT : K_T Z 5 (Y 132) n) (hI : K_I (Y 132) n) (hn : n < 60) {x : Nat} (hx : x ≤ 999) : q_cost Y n x = t_cs Z n (nI x) := by
  have h := wc_eq hT hI (key := nI x)
  unfold c_wc at h
  rw [if_pos (y_nm_nI hx), if_pos (by rw [t_rm, decide_eq_true hn, Bool.true_or])] at h
  exact h.symm
theorem cost_pos (hT : K_T Z 5 (Y 132) n) (hI : K_I (Y 132) n) (hn : n < 60) {x : Nat} (hx : x ≤ 999) : ¬ q_cost Y n x < 0 := by
  rcases put_eq hT hI (key := nI x) (value := 0) (y_nm_nI hx) (by decide) with ⟨h1, h2⟩ | ⟨h1, h2, h3, h4, h5⟩
  · rw [t_rm, decide_eq_true hn, Bool.true_or] at h1
    cases h1
  · exact h4
/-- the cost at a node's own key -/
theorem cost_node (hT : K_T Z 5 (Y 132) n) (hI : K_I (Y 132) n) (hn : n < 60) {i : Nat} (hi : i < n) : q_cost Y n (k_n Y i) = 0 := by
  obtain ⟨a1, a2⟩ := k_n_eq hI hi
  rw [cost_cs hT hI hn a2]
  unfold t_cs
  rw [K_key hT hI, q_fd_some (p := i) a1 n 0 (Nat.zero_le _) (by omega) (fun x _ b => by
    rw [← a1]
    exact Int32_ne_lt (hI.2.2.1 x i b hi))]
/-- the keys of a gap cost the same -/
theorem cost_gap (hT : K_T Z 5 (Y 132) n) (hI : K_I (Y 132) n) (hn : n < 60) {i x y : Nat} (hi : i ≤ n) (hx : k_g Y i ≤ x) (hx2 : i < n → x < k_n Y i) (hx3 : x ≤ 999) (hy : k_g Y i ≤ y) (hy2 : i < n → y < k_n Y i) (hy3 : y ≤ 999) : q_cost Y n x = q_cost Y n y := by
  have one : ∀ z, k_g Y i ≤ z → (i < n → z < k_n Y i) → z ≤ 999 → t_nd (Z 9) n (nI z) = none ∧ t_pl (Z 9) (nI z) 0 n = i := by
    intro z h1 h2 h3
    have hlt : ∀ w, w < i → q_c Y 8 w < nI z := fun w hw => by
      obtain ⟨a1, a2⟩ := k_n_eq hI (show w < n by omega)
      show Y 132 (8 + w) < _
      rw [a1, y_lt (by omega) (by omega)]
      unfold k_g at h1
      rw [if_neg (by omega)] at h1
      by_cases h : w = i - 1
      · rw [h]; omega
      · have := k_n_lt hI (show w < i - 1 by omega) (by omega)
        omega
    have hgt : ∀ w, i ≤ w → w < n → nI z < q_c Y 8 w := fun w hw hwn => by
      obtain ⟨a1, a2⟩ := k_n_eq hI hwn
      show _ < Y 132 (8 + w)
      rw [a1, y_lt (by omega) (by omega)]
      have h4 := h2 (by omega)
      by_cases h : w = i
      · rw [h]; exact h4
      · have := k_n_lt hI (show i < w by omega) hwn
        omega
    constructor
    · rw [K_key hT hI]
      refine q_fd_non n 0 (fun w _ hw e => ?_)
      rcases Nat.lt_or_ge w i with q | q
      · have := hlt w q
        rw [e] at this
        exact Int32.lt_irrefl this
      · have := hgt w q (by omega)
        rw [e] at this
        exact Int32.lt_irrefl this
    · rw [K_pl hT]
      exact t_pl_at hi hlt (fun h z2 => Int32.lt_irrefl (Int32.lt_trans z2 (hgt i (Nat.le_refl _) h)))
  obtain ⟨p1, p2⟩ := one x hx hx2 hx3
  obtain ⟨r1, r2⟩ := one y hy hy2 hy3
  rw [cost_cs hT hI hn hx3, cost_cs hT hI hn hy3]
  unfold t_cs
  rw [p1, r1, p2, r2]
theorem worst_l (hT : K_T Z 5 (Y 132) n) (hI : K_I (Y 132) n) (hn : n < 60) : ∀ (k i : Nat) (b m : Int32), i + k = n + 1 → ¬ m < 0 → (0 < k → q_wo (q_cost Y n) (k_g Y i) (1000 - k_g Y i) b m = t_wo Z n i k b m)
  | 0, i, b, m, hi, hm => fun h => by omega
  | k + 1, i, b, m, hi, hm => fun _ => by
    obtain ⟨g1, g2⟩ := k_g_eq hT hI (show i ≤ n by omega)
    have hstep : ∀ e, k_g Y i ≤ e → e ≤ 1000 → (∀ x, k_g Y i ≤ x → x < e → i < n → x < k_n Y i) → (i < n → e = k_n Y i) → (¬ i < n → e = 1000) →
        ∃ b2 m2, ¬ m2 < 0 ∧ q_wo (q_cost Y n) (k_g Y i) (1000 - k_g Y i) b m = q_wo (q_cost Y n) e (1000 - e) b2 m2 ∧ t_wo Z n i (k + 1) b m = t_wo Z n (i + 1) k b2 m2 := by
      intro e he1 he2 hx h3 h4
      rcases Nat.lt_or_ge (k_g Y i) e with hge | hge
      · have hc : t_wc Z n (nI (k_g Y i)) = q_cost Y n (k_g Y i) := by
          unfold t_wc
          rw [if_pos (y_nm_nI (by omega)), cost_cs hT hI hn (by omega)]
        have hseg := q_wo_seg (C := q_cost Y n) (c := q_cost Y n (k_g Y i)) (k := e - k_g Y i - 1) (i := k_g Y i) (r := 1000 - e) (b := b) (m := m) (fun x a1 a2 => cost_gap hT hI hn (by omega) a1 (fun h => hx x a1 (by omega) h) (by omega) (Nat.le_refl _) (fun h => hx _ (Nat.le_refl _) hge h) (by omega))
        rw [show e - k_g Y i - 1 + 1 + (1000 - e) = 1000 - k_g Y i by omega, show k_g Y i + (e - k_g Y i - 1 + 1) = e by omega] at hseg
        rw [hseg, t_wo, g1, hc]
        by_cases hlt : m < q_cost Y n (k_g Y i)
        · rw [if_pos hlt, if_pos hlt]
          exact ⟨_, _, cost_pos hT hI hn (by omega), rfl, rfl⟩
        · rw [if_neg hlt, if_neg hlt]
          exact ⟨_, _, hm, rfl, rfl⟩
      · have heq : e = k_g Y i := by omega
        have hc0 : t_wc Z n (nI (k_g Y i)) = 0 := by
          unfold t_wc
          by_cases hin : i < n
          · have h5 := h3 hin
            rw [← heq, h5, if_pos (y_nm_nI (k_n_eq hI hin).2), ← cost_cs hT hI hn (k_n_eq hI hin).2]
            exact cost_node hT hI hn hin
          · rw [← heq, h4 hin, if_neg (by rw [y_nm_no (by omega) (by omega)]; decide)]
        refine ⟨b, m, hm, by rw [heq], ?_⟩
        rw [t_wo, g1, hc0, if_neg hm]
    by_cases hin : i < n
    · obtain ⟨a1, a2⟩ := k_n_eq hI hin
      have hgk : k_g Y i ≤ k_n Y i := by
        unfold k_g
        by_cases h : i = 0
        · rw [if_pos h]; exact Nat.zero_le _
        · rw [if_neg h]; exact k_n_lt hI (show i - 1 < i by omega) hin
      obtain ⟨b2, m2, q1, q2, q3⟩ := hstep (k_n Y i) hgk (by omega) (fun x _ h _ => h) (fun _ => rfl) (fun h => absurd hin h)
      rw [q2, q3]
      have hnext : k_g Y (i + 1) = k_n Y i + 1 := by
        unfold k_g
        rw [if_neg (by omega), Nat.add_sub_cancel]
      have hw := worst_l hT hI hn k (i + 1) b2 m2 (by omega) q1 (by omega)
      rw [hnext] at hw
      rw [← hw, show 1000 - k_n Y i = 1 + (1000 - (k_n Y i + 1)) by omega]
      exact q_wo_same 1 (k_n Y i) (1000 - (k_n Y i + 1)) b2 m2 (fun x c1 c2 => by
        rw [show x = k_n Y i by omega, cost_node hT hI hn hin]
        exact q1)
    · obtain ⟨b2, m2, q1, q2, q3⟩ := hstep 1000 g2 (Nat.le_refl _) (fun x _ _ h => absurd h hin) (fun h => absurd h hin) (fun _ => rfl)
      rw [q2, q3, show k = 0 by omega]
      rfl
theorem worst_eq (hT : K_T Z 5 (Y 132) n) (hI : K_I (Y 132) n) (hn : n < 60) {what : Int32} (hw : what = 0 ∨ what = 1) : c_worst Z n what = q_pk what (q_wo (q_cost Y n) 0 1000 0 0) := by
  have h := worst_l hT hI hn (n + 1) 0 0 0 (by omega) (by decide) (by omega)
  have h : q_wo (q_cost Y n) 0 1000 0 0 = t_wo Z n 0 (n + 1) 0 0 := h
  unfold c_worst q_pk
  rw [if_pos hw, if_pos hn, h]
/-! how far a node leans -/
theorem lx_eq (hT : K_T Z 5 (Y 132) n) {j : Nat} (hj : j < n) : f_lx Z n j = q_lx Y n j := by
  unfold f_lx q_lx q_hv y_mx
  rw [K_L hT hj, K_H hT hj, reb_w hT hj]
theorem lx_sh (hI : K_I (Y 132) n) {j : Nat} (hj : j < n) : ∃ a w, a < w ∧ w ≤ 60 ∧ q_lx Y n j = f_sh a w := by
  have hLL := q_LL Y j
  have hHH := q_HH Y hj
  have hn := hI.1
  have hw : q_w Y n j = nI (q_H Y n j - q_L Y j + 1) := by
    unfold q_w
    rw [nI_sub (by omega), nI_1]
  unfold q_lx
  rw [hw]
  unfold q_hv
  rw [nI_sub hLL, nI_sub hHH.1]
  unfold y_mx
  by_cases hc : nI (j - q_L Y j) < nI (q_H Y n j - j)
  · rw [if_pos hc]
    exact ⟨_, _, by omega, by omega, rfl⟩
  · rw [if_neg hc]
    exact ⟨_, _, by omega, by omega, rfl⟩
end ASK2
def f_nnb (a w : Nat) : Bool := decide (Op.cmpValue (FP.fcmp (f_sh a w) (f_sh a w)) .l = 0)
theorem f_nns : (List.range 61).all (fun w => (List.range w).all (fun a => f_nnb a w)) = true := by decide +kernel
theorem f_nn {a w : Nat} (h : a < w) (hw : w ≤ 60) : Op.cmpValue (FP.fcmp (f_sh a w) (f_sh a w)) .l = 0 := by
  have h1 := List.all_eq_true.mp f_nns w (List.mem_range.mpr (by omega))
  exact of_decide_eq_true (List.all_eq_true.mp h1 a (List.mem_range.mpr h))
theorem lean_ok {Z Y : Nat → Nat → Int32} {n : Nat} (hT : K_T Z 5 (Y 132) n) (hI : K_I (Y 132) n) {j : Nat} (hj : j < n) : f_all (f_lx Z n j) ∧ f_fin (q_lx Y n j) ∧ Op.cmpValue (FP.fcmp (q_lx Y n j) (q_lx Y n j)) .l = 0 ∧ f_bits (f_lx Z n j) = (q_lx Y n j).toInt32 := by
  obtain ⟨a, w, h1, h2, h3⟩ := lx_sh hI hj
  rw [lx_eq hT hj, h3]
  have := f_share h1 h2
  exact ⟨this.1, this.1.1, f_nn h1 h2, this.2⟩
theorem lean_eq {Z Y : Nat → Nat → Int32} {n : Nat} (hT : K_T Z 5 (Y 132) n) (hI : K_I (Y 132) n) {key : Int32} : c_lean Z n key = q_lean Y n key := by
  unfold c_lean q_lean
  rw [K_key hT hI]
  by_cases hn : y_nm key = true
  · rw [if_pos hn, if_pos hn]
    cases hq : q_fd (q_c Y 8) key 0 n with
    | none => rfl
    | some j => exact (lean_ok hT hI (by have := q_fd_lt hq; omega)).2.2.2
  · rw [if_neg hn, if_neg hn]
