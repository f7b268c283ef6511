/-! looking for keys, out of whole's 42, 43, 44 -/
theorem t_pl_spec {K : Nat → Int32} {key : Int32} : ∀ (k i : Nat), (∀ x, i ≤ x → x < t_pl K key i k → K x < key) ∧ (t_pl K key i k < i + k → ¬ K (t_pl K key i k) < key)
  | 0, i => by
    rw [t_pl]
    exact ⟨fun x a b => by omega, fun h => by omega⟩
  | k + 1, i => by
    rw [t_pl]
    by_cases h : K i < key
    · rw [if_pos h]
      obtain ⟨h1, h2⟩ := t_pl_spec (K := K) (key := key) k (i + 1)
      refine ⟨fun x a b => ?_, fun g => h2 (by omega)⟩
      by_cases hx : x = i
      · rw [hx]; exact h
      · exact h1 x (by omega) b
    · rw [if_neg h]
      exact ⟨fun x a b => by omega, fun _ => h⟩
theorem Int32_ne_lt {a b : Int32} (h : a < b) : ¬ a = b := fun z => by rw [z] at h; exact Int32.lt_irrefl h
theorem t_wl_congr {D E : Nat → Int32} {lean : Int32} {p : Nat} : ∀ (k d l u : Nat), (∀ i, l ≤ i → i < u → E i = D i) → t_wl E lean p k d l u = t_wl D lean p k d l u
  | 0, d, l, u, h => rfl
  | k + 1, d, l, u, h => by
    rw [t_wl, t_wl]
    by_cases hul : u ≤ l
    · rw [if_pos hul, if_pos hul]
    · rw [if_neg hul, if_neg hul]
      dsimp only
      have ht := t_tp_le D (nI d) (u - 1 - l) l
      rw [t_tp_congr (u - 1 - l) l (fun i a b => h i a (by omega))]
      rw [t_wl_congr k (d + 1) l _ (fun i a b => h i a (by omega)), t_wl_congr k (d + 1) _ u (fun i a b => h i (by omega) b)]
theorem t_kt_non {F : Nat → Int32} {q : Int32} : ∀ (m i a : Nat), a + m < 2 ^ 31 → (q.toInt < a ∨ ((a + d_n (fun x => decide (F x = 1)) i m : Nat) : Int) ≤ q.toInt) → t_kt F q i m (nI a) = none
  | 0, i, a, ha, h => rfl
  | m + 1, i, a, ha, h => by
    rw [t_kt]
    rw [d_n] at h
    by_cases hF : F i = 1
    · rw [if_pos hF]
      rw [if_pos (decide_eq_true hF)] at h
      have hne : ¬ nI a = q := fun z => by
        rw [← z, nI_toInt (by omega)] at h
        omega
      rw [if_neg hne, nI_1]
      exact t_kt_non m (i + 1) (a + 1) (by omega) (by omega)
    · rw [if_neg hF]
      rw [if_neg (by rw [decide_eq_false hF]; decide), Nat.zero_add] at h
      exact t_kt_non m (i + 1) a (by omega) h
theorem t_kt_som {F : Nat → Int32} {q : Int32} : ∀ (m i a : Nat), a + m < 2 ^ 31 → (a : Int) ≤ q.toInt → q.toInt < ((a + d_n (fun x => decide (F x = 1)) i m : Nat) : Int) → ∃ j, t_kt F q i m (nI a) = some j
  | 0, i, a, ha, h1, h2 => by
    rw [d_n] at h2
    omega
  | m + 1, i, a, ha, h1, h2 => by
    rw [t_kt]
    rw [d_n] at h2
    by_cases hF : F i = 1
    · rw [if_pos hF]
      rw [if_pos (decide_eq_true hF)] at h2
      by_cases hq : nI a = q
      · rw [if_pos hq]; exact ⟨i, rfl⟩
      · rw [if_neg hq, nI_1]
        have hne : (a : Int) ≠ q.toInt := fun z => hq (Int32.toInt_inj.mp (by rw [nI_toInt (by omega)]; exact z))
        exact t_kt_som m (i + 1) (a + 1) (by omega) (by omega) (by omega)
    · rw [if_neg hF]
      rw [if_neg (by rw [decide_eq_false hF]; decide), Nat.zero_add] at h2
      exact t_kt_som m (i + 1) a (by omega) h1 h2
theorem t_kt_at {F : Nat → Int32} {j : Nat} (hF : F j = 1) : ∀ (m i a : Nat), a + m < 2 ^ 31 → i ≤ j → j < i + m → t_kt F (nI (a + d_n (fun x => decide (F x = 1)) i (j - i))) i m (nI a) = some j
  | 0, i, a, ha, h1, h2 => by omega
  | m + 1, i, a, ha, h1, h2 => by
    rw [t_kt]
    by_cases hi : i = j
    · rw [hi, if_pos hF, Nat.sub_self]
      exact if_pos rfl
    · have hle := d_n_le (M := fun x => decide (F x = 1)) (j - (i + 1)) (i + 1)
      rw [show j - i = (j - (i + 1)) + 1 by omega, d_n]
      by_cases hF2 : F i = 1
      · rw [if_pos hF2, if_pos (decide_eq_true hF2), if_neg (fun z => by
          have := (nI_eq (by omega) (by omega)).mp z
          omega), nI_1, show a + (1 + d_n (fun x => decide (F x = 1)) (i + 1) (j - (i + 1))) = a + 1 + d_n (fun x => decide (F x = 1)) (i + 1) (j - (i + 1)) by omega]
        exact t_kt_at hF m (i + 1) (a + 1) (by omega) (by omega) (by omega)
      · rw [if_neg hF2, if_neg (by rw [decide_eq_false hF2]; decide), Nat.zero_add]
        exact t_kt_at hF m (i + 1) a (by omega) (by omega) (by omega)
theorem t_kt_F {F : Nat → Int32} {q : Int32} : ∀ (k i : Nat) (a : Int32) (j : Nat), t_kt F q i k a = some j → F j = 1
  | 0, i, a, j, h => by cases h
  | k + 1, i, a, j, h => by
    rw [t_kt] at h
    by_cases hF : F i = 1
    · rw [if_pos hF] at h
      by_cases hq : a = q
      · rw [if_pos hq] at h
        cases h
        exact hF
      · rw [if_neg hq] at h
        exact t_kt_F k (i + 1) _ j h
    · rw [if_neg hF] at h
      exact t_kt_F k (i + 1) _ j h
theorem t_kt_congr {F G : Nat → Int32} {q : Int32} : ∀ (k i : Nat) (a : Int32), (∀ x, i ≤ x → x < i + k → F x = G x) → t_kt F q i k a = t_kt G q i k a
  | 0, i, a, h => rfl
  | k + 1, i, a, h => by rw [t_kt, t_kt, h i (Nat.le_refl _) (by omega), t_kt_congr k (i + 1) _ (fun x a b => h x (by omega) (by omega)), t_kt_congr k (i + 1) _ (fun x a b => h x (by omega) (by omega))]
theorem t_mx_first {f : Nat → Int32} {k i : Nat} {a : Int32} (hk : 0 < k) (ha : a < f i) : t_mx f i k a = t_mx f i k (f i) := by
  obtain ⟨m, rfl⟩ : ∃ m, k = m + 1 := ⟨k - 1, by omega⟩
  rw [t_mx, t_mx, if_pos ha, if_neg Int32.lt_irrefl]
def d_kp (F : Nat → Int32) (L H : Nat) (x : Nat) : Bool := decide (x < L ∨ H < x ∨ F x = 1)
theorem d_kp_pos {F : Nat → Int32} {L H x : Nat} : d_n (d_kp F L H) 0 x = if x ≤ L then x else L + d_n (d_kp F L H) L (x - L) := by
  have hall : ∀ y, y ≤ L → d_n (d_kp F L H) 0 y = y := fun y hy => d_n_all y 0 (fun z _ h => decide_eq_true (Or.inl (by omega)))
  by_cases h : x ≤ L
  · rw [if_pos h, hall x h]
  · rw [if_neg h]
    have := d_n_add (M := d_kp F L H) L (x - L) 0
    rw [show L + (x - L) = x by omega, hall L (Nat.le_refl _), Nat.zero_add] at this
    exact this
theorem d_n_mono {M : Nat → Bool} {a b : Nat} (h : a ≤ b) : d_n M 0 a ≤ d_n M 0 b := by
  have := d_n_add (M := M) a (b - a) 0
  rw [show a + (b - a) = b by omega] at this
  omega
