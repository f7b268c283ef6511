/-! Keys by their places and back (by hand) -/
def k_M (Z : Nat → Nat → Int32) : Nat → Bool := fun x => decide (Z 17 x = 1)
/-- how many keys there are -/
def k_c (Z : Nat → Nat → Int32) (n : Nat) : Nat := d_n (k_M Z) 0 n
def k_v (Z : Nat → Nat → Int32) (i : Nat) : Int32 := if Z 17 i = 1 then Z 11 i else 0
/-- the values of the first k keys together -/
def k_s (Z : Nat → Nat → Int32) (n : Nat) : Nat → Int32
  | 0 => 0
  | k + 1 => k_s Z n k + c_val Z n (c_kth Z n (nI k))
theorem y_nmt {k : Int32} (h : 0 ≤ k ∧ k ≤ 999) : y_nm k = true := decide_eq_true h
theorem su_eq {Z : Nat → Nat → Int32} {hi : Int32} : ∀ (r k i : Nat) (a : Int32), r ≤ k → (∀ x, i ≤ x → x < i + r → Z 9 x ≤ hi) → (r < k → ¬ Z 9 (i + r) ≤ hi) → t_su Z hi i k a = t_sm (k_v Z) i r a
  | 0, 0, i, a, h1, h2, h3 => rfl
  | 0, k + 1, i, a, h1, h2, h3 => by
    have h4 : ¬ Z 9 i ≤ hi := h3 (by omega)
    rw [t_su, if_neg h4]
    rfl
  | r + 1, 0, i, a, h1, h2, h3 => by omega
  | r + 1, k + 1, i, a, h1, h2, h3 => by
    rw [t_su, if_pos (h2 i (Nat.le_refl _) (by omega)), t_sm, su_eq r k (i + 1) _ (by omega) (fun x a b => h2 x (by omega) (by omega)) (fun h => by rw [show i + 1 + r = i + (r + 1) by omega]; exact h3 (by omega))]
    rfl
section KEY
variable {Z : Nat → Nat → Int32} {n : Nat}
theorem k_c_le : k_c Z n ≤ n := d_n_le _ _
theorem k_c_sum (hJ : K_J Z n) : t_sm (Z 17) 0 n 0 = nI (k_c Z n) := t_sm_dn hJ.2.2.2.2.1
theorem k_pl (hJ : K_J Z n) {j : Nat} (hj : j < n) : t_pl (Z 9) (Z 9 j) 0 n = j := t_pl_at (by omega) (fun y hy => hJ.2.2.2.1 y j hy hj) (fun _ => Int32.lt_irrefl)
theorem k_fn (hJ : K_J Z n) {j : Nat} (hj : j < n) (hf : Z 17 j = 1) : t_fn (Z 9) (Z 17) n (Z 9 j) = some j := by
  unfold t_fn
  rw [nd_at hJ.2.2.2.1 hj]
  dsimp only
  rw [if_pos hf]
/-- the place of the k-th key -/
theorem k_at (hJ : K_J Z n) {k : Nat} (hk : k < k_c Z n) : ∃ j, j < n ∧ Z 17 j = 1 ∧ d_n (k_M Z) 0 j = k ∧ c_kth Z n (nI k) = Z 9 j := by
  obtain ⟨j, h1, h2, h3, h4⟩ := d_n_sur (M := k_M Z) (i := 0) n k hk
  rw [Nat.sub_zero] at h4
  have hf : Z 17 j = 1 := of_decide_eq_true h3
  have hn := hJ.2.1
  have := t_kt_at hf n 0 0 (by omega) (Nat.zero_le j) h2
  rw [Nat.sub_zero, Nat.zero_add] at this
  have h5 : d_n (fun x => decide (Z 17 x = 1)) 0 j = k := h4
  rw [h5] at this
  refine ⟨j, by omega, hf, h4, ?_⟩
  unfold c_kth
  rw [show t_kt (Z 17) (nI k) 0 n 0 = some j from this]
theorem k_kt_non (hJ : K_J Z n) {q : Int32} (h : q.toInt < 0 ∨ (k_c Z n : Int) ≤ q.toInt) : t_kt (Z 17) q 0 n 0 = none := by
  have hn := hJ.2.1
  refine t_kt_non (q := q) n 0 0 (by omega) ?_
  rw [Nat.zero_add]
  exact h
theorem k_kth_non (hJ : K_J Z n) {q : Int32} (h : q.toInt < 0 ∨ (k_c Z n : Int) ≤ q.toInt) : c_kth Z n q = -1 := by
  unfold c_kth
  rw [k_kt_non hJ h]
theorem k_kth_end (hJ : K_J Z n) : c_kth Z n (nI (k_c Z n)) = -1 := k_kth_non hJ (Or.inr (by
  have := k_c_le (Z := Z) (n := n)
  have hn := hJ.2.1
  rw [nI_toInt (by omega)]
  omega))
theorem k_kth_m1 (hJ : K_J Z n) : c_kth Z n (-1) = -1 := k_kth_non hJ (Or.inl (by decide))
theorem k_val (hJ : K_J Z n) {j : Nat} (hj : j < n) (hf : Z 17 j = 1) : c_val Z n (Z 9 j) = Z 11 j := val_in hJ (y_nmt (hJ.2.2.1 j hj)) ⟨j, hj, rfl, hf, rfl⟩
theorem k_rank (hJ : K_J Z n) {j : Nat} (hj : j < n) : c_rank Z n (Z 9 j) = nI (d_n (k_M Z) 0 j) := by
  unfold c_rank
  rw [if_pos (y_nmt (hJ.2.2.1 j hj)), k_pl hJ hj]
  exact t_sm_dn (fun i hi => hJ.2.2.2.2.1 i (by omega))
theorem k_nb0 (hJ : K_J Z n) {j : Nat} (hj : j < n) : c_nb Z n (Z 9 j) 0 = (match t_kt (Z 17) (nI (d_n (k_M Z) 0 j) - 1) 0 n 0 with
  | none => -6
  | some j => Z 9 j) := by
  have hr : t_sm (Z 17) 0 j 0 = nI (d_n (k_M Z) 0 j) := t_sm_dn (fun i hi => hJ.2.2.2.2.1 i (by omega))
  unfold c_nb
  rw [if_pos ⟨y_nmt (hJ.2.2.1 j hj), Or.inl rfl⟩, if_pos rfl, k_pl hJ hj, hr]
  rfl
theorem k_nb1 (hJ : K_J Z n) {j : Nat} (hj : j < n) (hf : Z 17 j = 1) : c_nb Z n (Z 9 j) 1 = (match t_kt (Z 17) (nI (d_n (k_M Z) 0 j + 1)) 0 n 0 with
  | none => -6
  | some j => Z 9 j) := by
  have hr : t_sm (Z 17) 0 j 0 = nI (d_n (k_M Z) 0 j) := t_sm_dn (fun i hi => hJ.2.2.2.2.1 i (by omega))
  unfold c_nb
  rw [if_pos ⟨y_nmt (hJ.2.2.1 j hj), Or.inr rfl⟩, if_neg (by decide), k_pl hJ hj, hr, k_fn hJ hj hf, if_neg (by simp), nI_1]
  rfl
theorem k_dlt {x y : Nat} (h : x < y) (hf : k_M Z x = true) : d_n (k_M Z) 0 x < d_n (k_M Z) 0 y := d_n_pos h hf
/-- the first k keys' values are those of the full nodes ahead of any place with k full nodes ahead -/
theorem ks_eq (hJ : K_J Z n) : ∀ (k x : Nat), x ≤ n → d_n (k_M Z) 0 x = k → k_s Z n k = t_sm (k_v Z) 0 x 0
  | 0, x, hx, h => by
    rw [k_s, t_sm_nil x 0 (fun j _ b => ?_)]
    unfold k_v
    rw [if_neg (fun z => ?_)]
    have := k_dlt (Z := Z) (x := j) (y := x) (by omega) (decide_eq_true z)
    omega
  | k + 1, x, hx, h => by
    have hk : k < k_c Z n := by
      have := d_n_mono (M := k_M Z) hx
      unfold k_c
      omega
    obtain ⟨j, j1, j2, j3, j4⟩ := k_at hJ hk
    have hjm : k_M Z j = true := decide_eq_true j2
    have hj1 : d_n (k_M Z) 0 (j + 1) = k + 1 := by
      rw [d_n_snoc, Nat.zero_add, if_pos hjm, j3]
    have hjx : j < x := by
      rcases Nat.lt_or_ge j x with z | z
      · exact z
      · have := d_n_mono (M := k_M Z) z
        omega
    rw [k_s, j4, k_val hJ j1 j2, ks_eq hJ k j (by omega) j3]
    have a := t_sm_add (f := k_v Z) j (x - (j + 1) + 1) 0
    rw [show j + (x - (j + 1) + 1) = x by omega, Nat.zero_add, t_sm_one, t_sm_nil (f := k_v Z) (x - (j + 1)) (j + 1) (fun y b c => ?_), Int32.add_zero] at a
    · rw [a]
      congr 1
      unfold k_v
      rw [if_pos j2]
    · unfold k_v
      rw [if_neg (fun z => ?_)]
      have h1 := k_dlt (Z := Z) (x := y) (y := x) (by omega) (decide_eq_true z)
      have h2 := d_n_mono (M := k_M Z) (show j + 1 ≤ y by omega)
      omega
theorem k_pl0 (hJ : K_J Z n) : t_pl (Z 9) 0 0 n = 0 := t_pl_at (Nat.zero_le _) (fun y hy => absurd hy (Nat.not_lt_zero y)) (fun h z => by
  have := (hJ.2.2.1 0 h).1
  exact Int32.lt_irrefl (Int32.lt_of_lt_of_le z this))
theorem k_le_of (hJ : K_J Z n) {x j : Nat} (h : x ≤ j) (hj : j < n) : Z 9 x ≤ Z 9 j := by
  rcases Nat.lt_or_ge x j with z | z
  · exact Int32.le_of_lt (hJ.2.2.2.1 x j z hj)
  · obtain rfl : x = j := by omega
    exact Int32.le_refl _
theorem k_sum (hJ : K_J Z n) {j : Nat} (hj : j < n) : c_sum Z n 0 (Z 9 j) = t_sm (k_v Z) 0 (j + 1) 0 := by
  unfold c_sum
  have hk := hJ.2.2.1 j hj
  rw [if_pos ⟨y_nmt ⟨by decide, by decide⟩, y_nmt hk, hk.1⟩, k_pl0 hJ, Nat.sub_zero]
  refine su_eq (j + 1) n 0 0 (by omega) (fun x _ b => k_le_of hJ (by omega) hj) (fun h => ?_)
  rw [Nat.zero_add]
  exact Int32.not_le.mpr (hJ.2.2.2.1 j (j + 1) (by omega) h)
theorem k_sum1 (hJ : K_J Z n) {j : Nat} (hj : j < n) (hf : Z 17 j = 1) : c_sum Z n (Z 9 j) (Z 9 j) = Z 11 j := by
  unfold c_sum
  have hk := hJ.2.2.1 j hj
  rw [if_pos ⟨y_nmt hk, y_nmt hk, Int32.le_refl _⟩, k_pl hJ hj, su_eq 1 (n - j) j 0 (by omega) (fun x a b => k_le_of hJ (by omega) hj) (fun h => Int32.not_le.mpr (hJ.2.2.2.1 j (j + 1) (by omega) (by omega)))]
  show (0 : Int32) + k_v Z j = _
  rw [Int32.zero_add]
  unfold k_v
  rw [if_pos hf]
theorem k_sum_all (hJ : K_J Z n) : c_sum Z n 0 999 = k_s Z n (k_c Z n) := by
  unfold c_sum
  rw [if_pos ⟨y_nmt ⟨by decide, by decide⟩, y_nmt ⟨by decide, by decide⟩, by decide⟩, k_pl0 hJ, Nat.sub_zero, ks_eq hJ (k_c Z n) n (Nat.le_refl _) rfl]
  exact su_eq n n 0 0 (Nat.le_refl _) (fun x _ b => (hJ.2.2.1 x (by omega)).2) (fun h => absurd h (Nat.lt_irrefl _))
/-- all that the law asks of the k-th key -/
theorem key_J (hJ : K_J Z n) {k : Nat} (hk : k < k_c Z n) : ∃ key v, (c_kth Z n (nI k) = key ∧ (0 ≤ key ∧ key ≤ 999)) ∧ c_val Z n key = v ∧ c_rank Z n key = nI k ∧ (k = 0 → c_nb Z n key 0 = -6) ∧ (0 < k → ∃ key2, c_nb Z n key 0 = key2 ∧ c_kth Z n (nI (k - 1)) = key2 ∧ key2 < key) ∧ (¬ k + 1 < k_c Z n → c_nb Z n key 1 = -6) ∧ c_sum Z n 0 key = k_s Z n k + v ∧ c_sum Z n key key = v ∧ k_s Z n (k + 1) = k_s Z n k + v := by
  obtain ⟨j, j1, j2, j3, j4⟩ := k_at hJ hk
  have hn := hJ.2.1
  have hcn := k_c_le (Z := Z) (n := n)
  refine ⟨Z 9 j, Z 11 j, ⟨j4, hJ.2.2.1 j j1⟩, k_val hJ j1 j2, by rw [k_rank hJ j1, j3], fun h => ?_, fun h => ?_, fun h => ?_, ?_, k_sum1 hJ j1 j2, by rw [k_s, j4, k_val hJ j1 j2]⟩
  · rw [k_nb0 hJ j1, j3, h, k_kt_non hJ (Or.inl (by decide))]
  · obtain ⟨i, i1, i2, i3, i4⟩ := k_at hJ (k := k - 1) (by omega)
    refine ⟨Z 9 i, ?_, i4, hJ.2.2.2.1 i j ?_ j1⟩
    · rw [k_nb0 hJ j1, j3, show nI k - 1 = nI (k - 1) from by rw [show k = k - 1 + 1 by omega, nI_pred, Nat.add_sub_cancel]]
      have i4 := i4
      unfold c_kth at i4
      cases hq : t_kt (Z 17) (nI (k - 1)) 0 n 0 with
      | none =>
        rw [hq] at i4
        have := (hJ.2.2.1 i i1).1
        rw [← i4] at this
        exact absurd (show (0 : Int32) ≤ -1 from this) (by decide)
      | some x =>
        rw [hq] at i4
        exact i4
    · rcases Nat.lt_or_ge i j with z | z
      · exact z
      · have := d_n_mono (M := k_M Z) z
        omega
  · rw [k_nb1 hJ j1 j2, j3, k_kt_non hJ (Or.inr (by rw [nI_toInt (by omega)]; omega))]
  · rw [k_sum hJ j1, t_sm_snoc, Nat.zero_add, ks_eq hJ k j (by omega) j3]
    congr 1
    unfold k_v
    rw [if_pos j2]
end KEY
