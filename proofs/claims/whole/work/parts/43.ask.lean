/-! The questions are answered alike (by hand) -/
section ASK
variable {Z Y : Nat → Nat → Int32} {n : Nat}
theorem K_fn (hT : K_T Z 5 (Y 132) n) (hI : K_I (Y 132) n) {key : Int32} : t_fn (Z 9) (Z 17) n key = (match q_fd (q_c Y 8) key 0 n with
  | some j => if Y 132 (188 + j) = 1 then some j else none
  | none => none) := by
  unfold t_fn
  rw [K_key hT hI]
  cases hq : q_fd (q_c Y 8) key 0 n with
  | none => rfl
  | some j =>
    have hj : j < n := by have := q_fd_lt hq; omega
    dsimp only
    rw [show Z 17 j = Y 132 (188 + j) from (hT.2.2.2 j hj).2.2.2.1.symm]
theorem val_eq (hT : K_T Z 5 (Y 132) n) (hI : K_I (Y 132) n) {key : Int32} : c_val Z n key = q_val Y n key := by
  unfold c_val q_val
  rw [K_fn hT hI]
  by_cases hk : y_nm key = true
  · rw [if_pos hk, if_pos hk]
    cases hq : q_fd (q_c Y 8) key 0 n with
    | none => rfl
    | some j =>
      have hj : j < n := by have := q_fd_lt hq; omega
      dsimp only
      rcases hI.2.2.2.1 j hj with h | h
      · rw [if_pos h, if_neg (by rw [h]; decide)]
      · rw [if_neg (show ¬ Y 132 (188 + j) = 0 by rw [h]; decide), if_pos h]
        exact (hT.2.2.2 j hj).2.1.symm
  · rw [if_neg hk, if_neg hk]
/-! ranks -/
theorem q_bl_eq {K F : Nat → Int32} {key : Int32} {p : Nat} : ∀ (k i : Nat) (acc : Int32), (∀ x, i ≤ x → x < i + k → (K x < key ↔ x < p)) → p ≤ i + k → q_bl K F key i k acc = t_sm F i (p - i) acc
  | 0, i, acc, h, hp => by rw [show p - i = 0 by omega]; rfl
  | k + 1, i, acc, h, hp => by
    rw [q_bl, q_bl_eq k (i + 1) _ (fun x a b => h x (by omega) (by omega)) (by omega)]
    by_cases hi : i < p
    · rw [if_pos ((h i (Nat.le_refl _) (by omega)).mpr hi), show p - i = (p - (i + 1)) + 1 by omega, t_sm]
    · rw [if_neg (fun z => hi ((h i (Nat.le_refl _) (by omega)).mp z)), Int32.add_zero, show p - i = 0 by omega, show p - (i + 1) = 0 by omega]
      rfl
theorem K_below (hI : K_I (Y 132) n) {key : Int32} : ∀ x, 0 ≤ x → x < 0 + n → (q_c Y 8 x < key ↔ x < t_pl (q_c Y 8) key 0 n) := by
  intro x _ hx
  obtain ⟨p1, p2⟩ := t_pl_spec (K := q_c Y 8) (key := key) n 0
  constructor
  · intro h
    rcases Nat.lt_or_ge x (t_pl (q_c Y 8) key 0 n) with z | z
    · exact z
    · exfalso
      refine p2 (by omega) ?_
      by_cases hq : x = t_pl (q_c Y 8) key 0 n
      · rw [← hq]; exact h
      · exact Int32.lt_trans (hI.2.2.1 _ x (by omega) (by omega)) h
  · exact fun h => p1 x (Nat.zero_le _) h
theorem bl_eq (hT : K_T Z 5 (Y 132) n) (hI : K_I (Y 132) n) {key : Int32} : t_sm (Z 17) 0 (t_pl (Z 9) key 0 n) 0 = q_bl (q_c Y 8) (q_c Y 188) key 0 n 0 := by
  have hp := (t_pl_le (q_c Y 8) key n 0).2
  rw [q_bl_eq n 0 0 (K_below hI) hp, K_pl hT, Nat.sub_zero]
  exact t_sm_congr _ _ _ (fun i a b => (hT.2.2.2 i (by omega)).2.2.2.1.symm)
theorem rank_eq (hT : K_T Z 5 (Y 132) n) (hI : K_I (Y 132) n) {key : Int32} : c_rank Z n key = q_rank Y n key := by
  unfold c_rank q_rank
  rw [bl_eq hT hI]
/-! the k-th key -/
theorem q_ka_kt {K F : Nat → Int32} {q : Int32} : ∀ (k i : Nat) (a : Int32), q_ka K F i k (q - a) = (match t_kt F q i k a with
  | none => -6
  | some j => K j)
  | 0, i, a => rfl
  | k + 1, i, a => by
    rw [q_ka, t_kt]
    by_cases hF : F i = 1
    · rw [if_pos hF, if_pos hF]
      by_cases ha : a = q
      · rw [if_pos (by rw [ha, Int32.sub_self]), if_pos ha]
      · rw [if_neg (fun z => ha (by
          have : q - a + a = a := by rw [z, Int32.zero_add]
          rw [Int32.sub_add_cancel] at this
          exact this.symm)), if_neg ha, show q - a + -1 = q - (a + 1) from by rw [y_am1, Int32.sub_sub]]
        exact q_ka_kt k (i + 1) (a + 1)
    · rw [if_neg hF, if_neg hF]
      exact q_ka_kt k (i + 1) a
theorem t_kt_non {F : Nat → Int32} {q : Int32} : ∀ (m i a : Nat), a + m < 2 ^ 31 → (q.toInt < a ∨ ((a + d_n (fun x => decide (F x = 1)) i m : Nat) : Int) ≤ q.toInt) → t_kt F q i m (nI a) = none
  | 0, i, a, ha, h => rfl
  | m + 1, i, a, ha, h => by
    rw [t_kt]
    rw [d_n] at h
    by_cases hF : F i = 1
    · rw [if_pos hF]
      rw [if_pos (decide_eq_true hF)] at h
      have hne : ¬ nI a = q := fun z => by
        rw [← z, nI_toInt (by omega)] at h
        omega
      rw [if_neg hne, nI_1]
      exact t_kt_non m (i + 1) (a + 1) (by omega) (by omega)
    · rw [if_neg hF]
      rw [if_neg (by rw [decide_eq_false hF]; decide), Nat.zero_add] at h
      exact t_kt_non m (i + 1) a (by omega) h
theorem t_kt_som {F : Nat → Int32} {q : Int32} : ∀ (m i a : Nat), a + m < 2 ^ 31 → (a : Int) ≤ q.toInt → q.toInt < ((a + d_n (fun x => decide (F x = 1)) i m : Nat) : Int) → ∃ j, t_kt F q i m (nI a) = some j
  | 0, i, a, ha, h1, h2 => by
    rw [d_n] at h2
    omega
  | m + 1, i, a, ha, h1, h2 => by
    rw [t_kt]
    rw [d_n] at h2
    by_cases hF : F i = 1
    · rw [if_pos hF]
      rw [if_pos (decide_eq_true hF)] at h2
      by_cases hq : nI a = q
      · rw [if_pos hq]; exact ⟨i, rfl⟩
      · rw [if_neg hq, nI_1]
        have hne : (a : Int) ≠ q.toInt := fun z => hq (Int32.toInt_inj.mp (by rw [nI_toInt (by omega)]; exact z))
        exact t_kt_som m (i + 1) (a + 1) (by omega) (by omega) (by omega)
    · rw [if_neg hF]
      rw [if_neg (by rw [decide_eq_false hF]; decide), Nat.zero_add] at h2
      exact t_kt_som m (i + 1) a (by omega) h1 h2
theorem t_kt_at {F : Nat → Int32} {j : Nat} (hF : F j = 1) : ∀ (m i a : Nat), a + m < 2 ^ 31 → i ≤ j → j < i + m → t_kt F (nI (a + d_n (fun x => decide (F x = 1)) i (j - i))) i m (nI a) = some j
  | 0, i, a, ha, h1, h2 => by omega
  | m + 1, i, a, ha, h1, h2 => by
    rw [t_kt]
    by_cases hi : i = j
    · rw [hi, if_pos hF, Nat.sub_self]
      exact if_pos rfl
    · have hle := d_n_le (M := fun x => decide (F x = 1)) (j - (i + 1)) (i + 1)
      rw [show j - i = (j - (i + 1)) + 1 by omega, d_n]
      by_cases hF2 : F i = 1
      · rw [if_pos hF2, if_pos (decide_eq_true hF2), if_neg (fun z => by
          have := (nI_eq (by omega) (by omega)).mp z
          omega), nI_1, show a + (1 + d_n (fun x => decide (F x = 1)) (i + 1) (j - (i + 1))) = a + 1 + d_n (fun x => decide (F x = 1)) (i + 1) (j - (i + 1)) by omega]
        exact t_kt_at hF m (i + 1) (a + 1) (by omega) (by omega) (by omega)
      · rw [if_neg hF2, if_neg (by rw [decide_eq_false hF2]; decide), Nat.zero_add]
        exact t_kt_at hF m (i + 1) a (by omega) (by omega) (by omega)
theorem t_kt_F {F : Nat → Int32} {q : Int32} : ∀ (k i : Nat) (a : Int32) (j : Nat), t_kt F q i k a = some j → F j = 1
  | 0, i, a, j, h => by cases h
  | k + 1, i, a, j, h => by
    rw [t_kt] at h
    by_cases hF : F i = 1
    · rw [if_pos hF] at h
      by_cases hq : a = q
      · rw [if_pos hq] at h
        cases h
        exact hF
      · rw [if_neg hq] at h
        exact t_kt_F k (i + 1) _ j h
    · rw [if_neg hF] at h
      exact t_kt_F k (i + 1) _ j h
theorem t_kt_congr {F G : Nat → Int32} {q : Int32} : ∀ (k i : Nat) (a : Int32), (∀ x, i ≤ x → x < i + k → F x = G x) → t_kt F q i k a = t_kt G q i k a
  | 0, i, a, h => rfl
  | k + 1, i, a, h => by rw [t_kt, t_kt, h i (Nat.le_refl _) (by omega), t_kt_congr k (i + 1) _ (fun x a b => h x (by omega) (by omega)), t_kt_congr k (i + 1) _ (fun x a b => h x (by omega) (by omega))]
theorem y_c64 : ∀ c, c < 61 → ((nI c).toInt64 - 1).toInt = (c : Int) - 1 := by decide +kernel
theorem K_kt (hT : K_T Z 5 (Y 132) n) {q : Int32} : t_kt (Z 17) q 0 n 0 = t_kt (q_c Y 188) q 0 n 0 := t_kt_congr n 0 0 (fun i a b => (hT.2.2.2 i (by omega)).2.2.2.1.symm)
theorem K_fulls (hI : K_I (Y 132) n) : t_sm (q_c Y 188) 0 n 0 = nI (d_n (fun x => decide (q_c Y 188 x = 1)) 0 n) := by
  rw [t_sm_c0 (fun i a b => hI.2.2.2.1 i (by omega)), t_ct_dn]
/-- keyAt by place -/
theorem ka_eq {K F : Nat → Int32} {q : Int32} : q_ka K F 0 n q = (match t_kt F q 0 n 0 with
  | none => -6
  | some j => K j) := by
  have := q_ka_kt (K := K) (F := F) (q := q) n 0 0
  rw [Int32.sub_zero] at this
  exact this
theorem K_kj (hT : K_T Z 5 (Y 132) n) {q : Int32} {j : Nat} (h : t_kt (q_c Y 188) q 0 n 0 = some j) : Z 9 j = q_c Y 8 j := (hT.2.2.2 j (t_kt_lt h)).1.symm
theorem kth_eq (hT : K_T Z 5 (Y 132) n) (hI : K_I (Y 132) n) {k : Int32} : c_kth Z n k = q_kth Y n k := by
  have hn := hI.1
  have hle := d_n_le (M := fun x => decide (q_c Y 188 x = 1)) n 0
  have hkc : q_kc Y n k = decide (0 ≤ k.toInt ∧ k.toInt ≤ (d_n (fun x => decide (q_c Y 188 x = 1)) 0 n : Int) - 1) := by
    unfold q_kc
    refine decide_eq_decide.mpr ?_
    rw [Int64.le_iff_toInt_le, Int64.le_iff_toInt_le, Int32.toInt_toInt64, K_fulls hI, y_c64 _ (by omega)]
    rw [show (0 : Int64).toInt = 0 from by decide]
  unfold c_kth q_kth
  rw [K_kt hT, hkc, ka_eq]
  by_cases hc : 0 ≤ k.toInt ∧ k.toInt ≤ (d_n (fun x => decide (q_c Y 188 x = 1)) 0 n : Int) - 1
  · rw [if_pos (decide_eq_true hc)]
    obtain ⟨j, hj⟩ := t_kt_som (F := q_c Y 188) (q := k) n 0 0 (by omega) (by omega) (by rw [Nat.zero_add]; omega)
    have hj : t_kt (q_c Y 188) k 0 n 0 = some j := hj
    rw [hj]
    exact K_kj hT hj
  · rw [if_neg (by rw [decide_eq_false hc]; decide)]
    have hj : t_kt (q_c Y 188) k 0 n 0 = none := t_kt_non (F := q_c Y 188) (q := k) n 0 0 (by omega) (by rw [Nat.zero_add]; omega)
    rw [hj]
/-! neighbours -/
theorem bl_num (hI : K_I (Y 132) n) {key : Int32} : q_bl (q_c Y 8) (q_c Y 188) key 0 n 0 = nI (d_n (fun x => decide (q_c Y 188 x = 1)) 0 (t_pl (q_c Y 8) key 0 n)) := by
  have hp := (t_pl_le (q_c Y 8) key n 0).2
  rw [q_bl_eq n 0 0 (K_below hI) hp, Nat.sub_zero, t_sm_c0 (fun i a b => hI.2.2.2.1 i (by omega)), t_ct_dn]
theorem nb0_eq (hT : K_T Z 5 (Y 132) n) (hI : K_I (Y 132) n) {key : Int32} (hk : y_nm key = true) : c_nb Z n key 0 = q_nb0 Y n key := by
  unfold c_nb q_nb0
  rw [if_pos ⟨hk, Or.inl rfl⟩, if_pos rfl, bl_eq hT hI, K_kt hT, ka_eq]
  generalize q_bl (q_c Y 8) (q_c Y 188) key 0 n 0 = b
  by_cases hb : b = 0
  · rw [if_pos hb, hb]
    have h1 : ((0 : Int32) - 1).toInt = -1 := by decide
    have hj : t_kt (q_c Y 188) (0 - 1) 0 n 0 = none := t_kt_non (F := q_c Y 188) n 0 0 (by have := hI.1; omega) (by rw [h1]; omega)
    rw [hj]
  · rw [if_neg hb]
    cases hj : t_kt (q_c Y 188) (b - 1) 0 n 0 with
    | none => rfl
    | some j => exact K_kj hT hj
theorem nb1_eq (hT : K_T Z 5 (Y 132) n) (hI : K_I (Y 132) n) {key : Int32} (hk : y_nm key = true) : c_nb Z n key 1 = q_nb1 Y n key := by
  have hn := hI.1
  have hkk : 0 ≤ key ∧ key ≤ 999 := of_decide_eq_true hk
  have hnd : ∀ j, q_fd (q_c Y 8) key 0 n = some j → t_pl (q_c Y 8) key 0 n = j := fun j h => by
    have h2 := nd_fd0 (K := q_c Y 8) (n := n) (key := key) (fun i j a b => hI.2.2.1 i j a b)
    rw [h] at h2
    exact t_nd_pl h2
  have hsame : q_ka (q_c Y 8) (q_c Y 188) 0 n (q_bl (q_c Y 8) (q_c Y 188) key 0 n 0) = key ↔ ¬ t_fn (Z 9) (Z 17) n key = none := by
    rw [K_fn hT hI, ka_eq]
    constructor
    · intro h
      cases hj : t_kt (q_c Y 188) (q_bl (q_c Y 8) (q_c Y 188) key 0 n 0) 0 n 0 with
      | none =>
        rw [hj] at h
        have h : (-6 : Int32) = key := h
        rw [← h] at hkk
        exact absurd hkk.1 (by decide)
      | some j =>
        rw [hj] at h
        have h : q_c Y 8 j = key := h
        have hjn := t_kt_lt hj
        have hF := t_kt_F n 0 0 j hj
        have hq : q_fd (q_c Y 8) key 0 n = some j := q_fd_some h n 0 (Nat.zero_le _) (by omega) (fun x _ hx => by
          rw [← h]
          exact Int32_ne_lt (hI.2.2.1 x j hx hjn))
        rw [hq]
        dsimp only
        rw [if_pos hF]
        simp
    · intro h
      cases hq : q_fd (q_c Y 8) key 0 n with
      | none =>
        rw [hq] at h
        exact absurd rfl h
      | some j =>
        rw [hq] at h
        have hl := q_fd_lt hq
        have hF : Y 132 (188 + j) = 1 := by
          by_cases z : Y 132 (188 + j) = 1
          · exact z
          · dsimp only at h
            rw [if_neg z] at h
            exact absurd rfl h
        have := t_kt_at (F := q_c Y 188) (j := j) hF n 0 0 (by omega) (Nat.zero_le _) (by omega)
        rw [Nat.sub_zero, Nat.zero_add] at this
        rw [bl_num hI, hnd j hq]
        rw [show t_kt (q_c Y 188) (nI (d_n (fun x => decide (q_c Y 188 x = 1)) 0 j)) 0 n 0 = some j from this]
        exact hl.2.2
  unfold c_nb q_nb1
  rw [if_pos ⟨hk, Or.inr rfl⟩, if_neg (by decide), bl_eq hT hI, K_kt hT]
  have hx : q_bl (q_c Y 8) (q_c Y 188) key 0 n 0 + (if t_fn (Z 9) (Z 17) n key = none then 0 else 1) = (if q_ka (q_c Y 8) (q_c Y 188) 0 n (q_bl (q_c Y 8) (q_c Y 188) key 0 n 0) = key then q_bl (q_c Y 8) (q_c Y 188) key 0 n 0 + 1 else q_bl (q_c Y 8) (q_c Y 188) key 0 n 0) := by
    by_cases hs : t_fn (Z 9) (Z 17) n key = none
    · rw [if_pos hs, if_neg (fun z => hsame.mp z hs), Int32.add_zero]
    · rw [if_neg hs, if_pos (hsame.mpr hs)]
  rw [hx]
  generalize (if q_ka (q_c Y 8) (q_c Y 188) 0 n (q_bl (q_c Y 8) (q_c Y 188) key 0 n 0) = key then q_bl (q_c Y 8) (q_c Y 188) key 0 n 0 + 1 else q_bl (q_c Y 8) (q_c Y 188) key 0 n 0) = b
  rw [ka_eq]
  cases hj : t_kt (q_c Y 188) b 0 n 0 with
  | none => rfl
  | some j => exact K_kj hT hj
/-! sums -/
theorem q_su_lo {lo hi : Int32} {p : Nat} : ∀ (k i : Nat) (acc : Int32), (∀ x, i ≤ x → x < i + k → x < p → Y 132 (8 + x) < lo) → i + k ≤ p → q_su Y lo hi i k acc = acc
  | 0, i, acc, h, hp => rfl
  | k + 1, i, acc, h, hp => by
    rw [q_su, if_neg (fun z => absurd z.2.1 (Int32.not_le.mpr (h i (Nat.le_refl _) (by omega) (by omega)))), Int32.add_zero]
    exact q_su_lo k (i + 1) acc (fun x a b c => h x (by omega) (by omega) c) (by omega)
theorem q_su_hi {lo hi : Int32} : ∀ (k i : Nat) (acc : Int32), (∀ x, i ≤ x → x < i + k → hi < Y 132 (8 + x)) → q_su Y lo hi i k acc = acc
  | 0, i, acc, h => rfl
  | k + 1, i, acc, h => by
    rw [q_su, if_neg (fun z => absurd z.2.2 (Int32.not_le.mpr (h i (Nat.le_refl _) (by omega)))), Int32.add_zero]
    exact q_su_hi k (i + 1) acc (fun x a b => h x (by omega) (by omega))
theorem q_su_add {lo hi : Int32} : ∀ (a b i : Nat) (acc : Int32), q_su Y lo hi i (a + b) acc = q_su Y lo hi (i + a) b (q_su Y lo hi i a acc)
  | 0, b, i, acc => by rw [Nat.zero_add]; rfl
  | a + 1, b, i, acc => by
    rw [show a + 1 + b = a + b + 1 by omega, q_su, q_su, q_su_add a b (i + 1), show i + 1 + a = i + (a + 1) by omega]
theorem su_eq (hT : K_T Z 5 (Y 132) n) (hI : K_I (Y 132) n) {lo hi : Int32} : ∀ (k i : Nat) (acc : Int32), i + k = n → (∀ x, i ≤ x → x < n → lo ≤ Y 132 (8 + x)) → t_su Z hi i k acc = q_su Y lo hi i k acc
  | 0, i, acc, h, hl => rfl
  | k + 1, i, acc, h, hl => by
    have hc := hT.2.2.2 i (by omega)
    have e9 : Z 9 i = Y 132 (8 + i) := hc.1.symm
    rw [t_su, e9]
    by_cases hh : Y 132 (8 + i) ≤ hi
    · rw [if_pos hh, q_su, su_eq hT hI (lo := lo) k (i + 1) _ (by omega) (fun x a b => hl x (by omega) b)]
      congr 2
      rw [show Z 17 i = Y 132 (188 + i) from hc.2.2.2.1.symm, show Z 11 i = Y 132 (68 + i) from hc.2.1.symm]
      by_cases hF : Y 132 (188 + i) = 1
      · rw [if_pos hF, if_pos ⟨hF, hl i (Nat.le_refl _) (by omega), hh⟩]
      · rw [if_neg hF, if_neg (fun z => hF z.1)]
    · rw [if_neg hh, q_su_hi (k + 1) i acc (fun x a b => ?_)]
      by_cases hx : x = i
      · rw [hx]; exact Int32.not_le.mp hh
      · exact Int32.lt_trans (Int32.not_le.mp hh) (hI.2.2.1 i x (by omega) (by omega))
theorem sum_eq (hT : K_T Z 5 (Y 132) n) (hI : K_I (Y 132) n) {lo hi : Int32} : c_sum Z n lo hi = q_sum Y n lo hi := by
  unfold c_sum q_sum
  have hiff : (y_nm lo = true ∧ y_nm hi = true ∧ lo ≤ hi) ↔ (y_nm lo = true ∧ lo ≤ hi ∧ hi ≤ 999) := by
    unfold y_nm
    rw [decide_eq_true_eq, decide_eq_true_eq]
    exact ⟨fun ⟨a, b, c⟩ => ⟨a, c, b.2⟩, fun ⟨a, b, c⟩ => ⟨a, ⟨Int32.le_trans a.1 b, c⟩, b⟩⟩
  by_cases hc : y_nm lo = true ∧ y_nm hi = true ∧ lo ≤ hi
  · rw [if_pos hc, if_pos (hiff.mp hc), K_pl hT]
    have hp := (t_pl_le (q_c Y 8) lo n 0).2
    have hb := K_below hI (key := lo)
    generalize t_pl (q_c Y 8) lo 0 n = p at *
    have h1 := q_su_add (Y := Y) (lo := lo) (hi := hi) p (n - p) 0 0
    rw [show p + (n - p) = n by omega, Nat.zero_add, q_su_lo (p := p) p 0 0 (fun x _ b c => (hb x (Nat.zero_le _) (by omega)).mpr c) (by omega)] at h1
    rw [h1]
    exact su_eq hT hI (n - p) p 0 (by omega) (fun x a b => Int32.not_lt.mp (fun z => by have := (hb x (Nat.zero_le _) (by omega)).mp z; omega))
  · rw [if_neg hc, if_neg (fun z => hc (hiff.mpr z))]
end ASK
