/-! out of whole's 38 -/
/-! The shape of a tree: its depths in the order of keys (by hand) -/
def d_t (D : Nat → Int32) : Nat → Nat → Nat → Nat → Prop
  | 0, _, l, u => l = u
  | k + 1, d, l, u => l = u ∨ ∃ t, l ≤ t ∧ t < u ∧ D t = nI d ∧ d_t D k (d + 1) l t ∧ d_t D k (d + 1) (t + 1) u
/-- the places from l on, below u, are a tree whose root has depth d -/
def DT (D : Nat → Int32) (d l u : Nat) : Prop := ∃ k, d_t D k d l u
theorem d_t_up {D : Nat → Int32} : ∀ (k d l u : Nat), d_t D k d l u → d_t D (k + 1) d l u
  | 0, d, l, u, h => Or.inl h
  | k + 1, d, l, u, h => by
    rcases h with h | ⟨t, h1, h2, h3, h4, h5⟩
    · exact Or.inl h
    · exact Or.inr ⟨t, h1, h2, h3, d_t_up k _ _ _ h4, d_t_up k _ _ _ h5⟩
theorem d_t_ge {D : Nat → Int32} {k d l u : Nat} (h : d_t D k d l u) : ∀ m, d_t D (k + m) d l u
  | 0 => h
  | m + 1 => d_t_up _ _ _ _ (d_t_ge h m)
theorem DT_nil {D : Nat → Int32} {d l : Nat} : DT D d l l := ⟨0, rfl⟩
theorem DT_node {D : Nat → Int32} {d l u t : Nat} (h1 : l ≤ t) (h2 : t < u) (h3 : D t = nI d) (h4 : DT D (d + 1) l t) (h5 : DT D (d + 1) (t + 1) u) : DT D d l u := by
  obtain ⟨a, ha⟩ := h4
  obtain ⟨b, hb⟩ := h5
  refine ⟨a + b + 1, Or.inr ⟨t, h1, h2, h3, d_t_ge ha b, ?_⟩⟩
  have := d_t_ge hb a
  rw [Nat.add_comm] at this
  exact this
theorem DT_cases {D : Nat → Int32} {d l u : Nat} (h : DT D d l u) : l = u ∨ ∃ t, l ≤ t ∧ t < u ∧ D t = nI d ∧ DT D (d + 1) l t ∧ DT D (d + 1) (t + 1) u := by
  obtain ⟨k, hk⟩ := h
  cases k with
  | zero => exact Or.inl hk
  | succ k =>
    rcases hk with h | ⟨t, h1, h2, h3, h4, h5⟩
    · exact Or.inl h
    · exact Or.inr ⟨t, h1, h2, h3, ⟨k, h4⟩, ⟨k, h5⟩⟩
theorem d_t_le {D : Nat → Int32} : ∀ (k d l u : Nat), d_t D k d l u → l ≤ u
  | 0, d, l, u, h => Nat.le_of_eq h
  | k + 1, d, l, u, h => by
    rcases h with h | ⟨t, h1, h2, h3, h4, h5⟩
    · exact Nat.le_of_eq h
    · omega
theorem DT_le {D : Nat → Int32} {d l u : Nat} (h : DT D d l u) : l ≤ u := by
  obtain ⟨k, hk⟩ := h
  exact d_t_le k d l u hk
theorem d_t_val {D : Nat → Int32} : ∀ (k d l u : Nat), d_t D k d l u → ∀ i, l ≤ i → i < u → ∃ e, D i = nI e ∧ d ≤ e ∧ e < d + (u - l)
  | 0, d, l, u, h, i, h1, h2 => by
    have h : l = u := h
    omega
  | k + 1, d, l, u, h, i, h1, h2 => by
    rcases h with h | ⟨t, g1, g2, g3, g4, g5⟩
    · omega
    · rcases Nat.lt_trichotomy i t with z | z | z
      · obtain ⟨e, e1, e2, e3⟩ := d_t_val k _ _ _ g4 i h1 z
        exact ⟨e, e1, by omega, by omega⟩
      · exact ⟨d, by rw [z]; exact g3, Nat.le_refl _, by omega⟩
      · obtain ⟨e, e1, e2, e3⟩ := d_t_val k _ _ _ g5 i (by omega) h2
        exact ⟨e, e1, by omega, by omega⟩
theorem DT_val {D : Nat → Int32} {d l u : Nat} (h : DT D d l u) {i : Nat} (h1 : l ≤ i) (h2 : i < u) : ∃ e, D i = nI e ∧ d ≤ e ∧ e < d + (u - l) := by
  obtain ⟨k, hk⟩ := h
  exact d_t_val k d l u hk i h1 h2
theorem d_t_congr {D E : Nat → Int32} : ∀ (k d l u : Nat), d_t D k d l u → (∀ i, l ≤ i → i < u → E i = D i) → d_t E k d l u
  | 0, d, l, u, h, he => h
  | k + 1, d, l, u, h, he => by
    rcases h with h | ⟨t, g1, g2, g3, g4, g5⟩
    · exact Or.inl h
    · exact Or.inr ⟨t, g1, g2, by rw [he t g1 g2]; exact g3, d_t_congr k _ _ _ g4 (fun i a b => he i a (by omega)), d_t_congr k _ _ _ g5 (fun i a b => he i (by omega) b)⟩
theorem DT_congr {D E : Nat → Int32} {d l u : Nat} (h : DT D d l u) (he : ∀ i, l ≤ i → i < u → E i = D i) : DT E d l u := by
  obtain ⟨k, hk⟩ := h
  exact ⟨k, d_t_congr k d l u hk he⟩
theorem d_t_up1 {D E : Nat → Int32} {s : Nat} : ∀ (k d l u : Nat), d_t D k d l u → (∀ i, l ≤ i → i < u → E (i + s) = D i) → d_t E k d (l + s) (u + s)
  | 0, d, l, u, h, he => by
    have h : l = u := h
    show l + s = u + s
    rw [h]
  | k + 1, d, l, u, h, he => by
    rcases h with h | ⟨t, g1, g2, g3, g4, g5⟩
    · exact Or.inl (by rw [h])
    · refine Or.inr ⟨t + s, by omega, by omega, by rw [he t g1 g2]; exact g3, d_t_up1 k _ _ _ g4 (fun i a b => he i a (by omega)), ?_⟩
      have := d_t_up1 (E := E) (s := s) k _ _ _ g5 (fun i a b => he i (by omega) b)
      rw [show t + 1 + s = t + s + 1 by omega] at this
      exact this
theorem DT_shift {D E : Nat → Int32} {s d l u : Nat} (h : DT D d l u) (he : ∀ i, l ≤ i → i < u → E (i + s) = D i) : DT E d (l + s) (u + s) := by
  obtain ⟨k, hk⟩ := h
  exact ⟨k, d_t_up1 k d l u hk he⟩
theorem d_t_dn {D E : Nat → Int32} {s : Nat} : ∀ (k d l u : Nat), d_t D k d (l + s) (u + s) → (∀ i, l ≤ i → i < u → E i = D (i + s)) → d_t E k d l u
  | 0, d, l, u, h, he => by
    have h : l + s = u + s := h
    show l = u
    omega
  | k + 1, d, l, u, h, he => by
    rcases h with h | ⟨t, g1, g2, g3, g4, g5⟩
    · exact Or.inl (by omega)
    · obtain ⟨r, rfl⟩ : ∃ r, t = r + s := ⟨t - s, by omega⟩
      refine Or.inr ⟨r, by omega, by omega, by rw [he r (by omega) (by omega)]; exact g3, d_t_dn k _ _ _ g4 (fun i a b => he i a (by omega)), ?_⟩
      rw [show r + s + 1 = r + 1 + s by omega] at g5
      exact d_t_dn k _ _ _ g5 (fun i a b => he i (by omega) b)
theorem DT_down {D E : Nat → Int32} {s d l u : Nat} (h : DT D d (l + s) (u + s)) (he : ∀ i, l ≤ i → i < u → E i = D (i + s)) : DT E d l u := by
  obtain ⟨k, hk⟩ := h
  exact ⟨k, d_t_dn k d l u hk he⟩
/-! a part of a tree in its place -/
def d_bl (D : Nat → Int32) (l : Nat) : Int := (t_bf D l).toInt
def d_bh (D : Nat → Int32) (n u : Nat) : Int := (t_bh D n u).toInt
def CT (D : Nat → Int32) (n d l u : Nat) : Prop := DT D d l u ∧ u ≤ n ∧ d + (u - l) ≤ 60 ∧ d_bl D l < d ∧ d_bh D n u < d ∧ (d_bl D l = (d : Int) - 1 ∨ d_bh D n u = (d : Int) - 1)
theorem y_mone : (-1 : Int32).toInt = -1 := by decide
theorem CT_root {D : Nat → Int32} {n : Nat} (h : DT D 0 0 n) (hn : n ≤ 60) : CT D n 0 0 n := by
  have h1 : d_bl D 0 = -1 := y_mone
  have h2 : d_bh D n n = -1 := by
    unfold d_bh t_bh
    rw [if_neg (Nat.lt_irrefl n)]
    exact y_mone
  exact ⟨h, Nat.le_refl _, by omega, by rw [h1]; decide, by rw [h2]; decide, Or.inl (by rw [h1]; rfl)⟩
theorem t_tp_eq {D : Nat → Int32} {x : Int32} {t : Nat} : ∀ (k l : Nat), l ≤ t → t ≤ l + k → (∀ i, l ≤ i → i < t → ¬ D i = x) → (t < l + k → D t = x) → t_tp D x l k = t
  | 0, l, h1, h2, h3, h4 => by
    rw [t_tp]
    omega
  | k + 1, l, h1, h2, h3, h4 => by
    rw [t_tp]
    by_cases hl : l = t
    · rw [if_pos (by rw [hl]; exact h4 (by omega)), hl]
    · rw [if_neg (h3 l (Nat.le_refl _) (by omega)), t_tp_eq k (l + 1) (by omega) (by omega) (fun i a b => h3 i (by omega) b) (fun h => h4 (by omega))]
theorem t_lo_eq {D : Nat → Int32} {x : Int32} {l : Nat} (h0 : l = 0 ∨ D (l - 1) ≤ x) : ∀ (t : Nat), l ≤ t → (∀ i, l ≤ i → i < t → x < D i) → t_lo D x t = l
  | 0, h1, h2 => by
    rw [t_lo]
    omega
  | t + 1, h1, h2 => by
    rw [t_lo]
    by_cases hl : l = t + 1
    · rw [if_pos (by rcases h0 with h0 | h0; omega; rw [hl] at h0; exact h0), hl]
    · rw [if_neg (Int32.not_le.mpr (h2 t (by omega) (by omega))), t_lo_eq h0 t (by omega) (fun i a b => h2 i a (by omega))]
theorem t_hi_eq {D : Nat → Int32} {x : Int32} {h : Nat} : ∀ (k t : Nat), t ≤ h → h ≤ t + k → (∀ i, t < i → i ≤ h → x < D i) → (h < t + k → D (h + 1) ≤ x) → t_hi D x t k = h
  | 0, t, h1, h2, h3, h4 => by
    rw [t_hi]
    omega
  | k + 1, t, h1, h2, h3, h4 => by
    rw [t_hi]
    by_cases hl : t = h
    · rw [if_pos (by rw [hl]; exact h4 (by omega)), hl]
    · rw [if_neg (Int32.not_le.mpr (h3 (t + 1) (by omega) (by omega))), t_hi_eq k (t + 1) (by omega) (by omega) (fun i a b => h3 i (by omega) b) (fun h => h4 (by omega))]
theorem CT_top {D : Nat → Int32} {n d l u : Nat} (h : CT D n d l u) (hlu : l < u) : ∃ t, t_tp D (nI d) l (u - 1 - l) = t ∧ l ≤ t ∧ t < u ∧ D t = nI d ∧ CT D n (d + 1) l t ∧ CT D n (d + 1) (t + 1) u ∧ ∀ i, l ≤ i → i < u → i ≠ t → nI d < D i := by
  obtain ⟨h1, h2, h3, h4, h5, h6⟩ := h
  rcases DT_cases h1 with z | ⟨t, g1, g2, g3, g4, g5⟩
  · omega
  have hv : ∀ i, l ≤ i → i < u → i ≠ t → nI d < D i := by
    intro i a b c
    rcases Nat.lt_or_ge i t with z | z
    · obtain ⟨e, e1, e2, e3⟩ := DT_val g4 a z
      rw [e1]
      exact nI_lt (by omega) (by omega)
    · obtain ⟨e, e1, e2, e3⟩ := DT_val g5 (i := i) (by omega) b
      rw [e1]
      exact nI_lt (by omega) (by omega)
  have ht : (D t).toInt = d := by rw [g3]; exact nI_toInt (by omega)
  have hbl : d_bl D (t + 1) = d := ht
  have hbh : d_bh D n t = d := by
    unfold d_bh t_bh
    rw [if_pos (by omega)]
    exact ht
  refine ⟨t, t_tp_eq _ _ g1 (by omega) (fun i a b => ?_) (fun _ => g3), g1, g2, g3, ⟨g4, by omega, by omega, by omega, by rw [hbh]; omega, Or.inr (by rw [hbh]; omega)⟩, ⟨g5, h2, by omega, by rw [hbl]; omega, by omega, Or.inl (by rw [hbl]; omega)⟩, hv⟩
  intro hc
  have := hv i a (by omega) (by omega)
  rw [hc] at this
  exact Int32.lt_irrefl this
theorem CT_bl {D : Nat → Int32} {n d l u : Nat} (h : CT D n d l u) : l = 0 ∨ D (l - 1) ≤ nI d := by
  obtain ⟨h1, h2, h3, h4, h5, h6⟩ := h
  cases l with
  | zero => exact Or.inl rfl
  | succ l =>
    right
    have h4 : (D l).toInt < d := h4
    show D l ≤ nI d
    rw [Int32.le_iff_toInt_le, nI_toInt (by omega)]
    omega
theorem CT_bh {D : Nat → Int32} {n d l u : Nat} (h : CT D n d l u) (hu : u < n) : D u ≤ nI d := by
  obtain ⟨h1, h2, h3, h4, h5, h6⟩ := h
  unfold d_bh t_bh at h5
  rw [if_pos hu] at h5
  rw [Int32.le_iff_toInt_le, nI_toInt (by omega)]
  omega
theorem CT_span {D : Nat → Int32} {n d l u t : Nat} (h : CT D n d l u) (h1 : l ≤ t) (h2 : t < u) (h3 : D t = nI d) (h4 : ∀ i, l ≤ i → i < u → i ≠ t → nI d < D i) : t_lo D (D t) t = l ∧ t_hi D (D t) t (n - 1 - t) = u - 1 := by
  rw [h3]
  have hun := h.2.1
  refine ⟨t_lo_eq (CT_bl h) t h1 (fun i a b => h4 i a (by omega) (by omega)), t_hi_eq _ _ (by omega) (by omega) (fun i a b => h4 i (by omega) (by omega) (by omega)) (fun hh => ?_)⟩
  rw [show u - 1 + 1 = u by omega]
  exact CT_bh h (by omega)
/-- each place has its part -/
theorem CT_at {D : Nat → Int32} {n : Nat} : ∀ (k d l u : Nat), u - l ≤ k → CT D n d l u → ∀ j, l ≤ j → j < u → ∃ e a b, CT D n e a b ∧ l ≤ a ∧ b ≤ u ∧ a ≤ j ∧ j < b ∧ D j = nI e ∧ d ≤ e ∧ ∀ i, a ≤ i → i < b → i ≠ j → nI e < D i
  | 0, d, l, u, hk, h, j, h1, h2 => by omega
  | k + 1, d, l, u, hk, h, j, h1, h2 => by
    obtain ⟨t, q0, q1, q2, q3, q4, q5, q6⟩ := CT_top h (by omega)
    rcases Nat.lt_trichotomy j t with z | z | z
    · obtain ⟨e, a, b, p1, p2, p3, p4, p5, p6, p7, p8⟩ := CT_at k (d + 1) l t (by omega) q4 j h1 z
      exact ⟨e, a, b, p1, p2, by omega, p4, p5, p6, by omega, p8⟩
    · subst z
      exact ⟨d, l, u, h, Nat.le_refl _, Nat.le_refl _, h1, h2, q3, Nat.le_refl _, q6⟩
    · obtain ⟨e, a, b, p1, p2, p3, p4, p5, p6, p7, p8⟩ := CT_at k (d + 1) (t + 1) u (by omega) q5 j (by omega) h2
      exact ⟨e, a, b, p1, by omega, p3, p4, p5, p6, by omega, p8⟩
/-- the first and the last place below j, as functions of the depths -/
abbrev dL (D : Nat → Int32) (j : Nat) : Nat := t_lo D (D j) j
abbrev dH (D : Nat → Int32) (n j : Nat) : Nat := t_hi D (D j) j (n - 1 - j)
theorem CT_in {D : Nat → Int32} {n d l u j : Nat} (h : CT D n d l u) (h1 : l ≤ j) (h2 : j < u) : l ≤ dL D j ∧ dL D j ≤ j ∧ j ≤ dH D n j ∧ dH D n j < u := by
  obtain ⟨e, a, b, p1, p2, p3, p4, p5, p6, p7, p8⟩ := CT_at (u - l) d l u (Nat.le_refl _) h j h1 h2
  obtain ⟨s1, s2⟩ := CT_span p1 p4 p5 p6 p8
  show l ≤ t_lo D (D j) j ∧ t_lo D (D j) j ≤ j ∧ j ≤ t_hi D (D j) j (n - 1 - j) ∧ t_hi D (D j) j (n - 1 - j) < u
  rw [s1, s2]
  omega
/-! functions of the depths that see the places of the tree alone -/
theorem t_lo_congr {D E : Nat → Int32} {x : Int32} : ∀ (t : Nat), (∀ i, i < t → E i = D i) → t_lo E x t = t_lo D x t
  | 0, h => rfl
  | t + 1, h => by rw [t_lo, t_lo, h t (by omega), t_lo_congr t (fun i a => h i (by omega))]
theorem t_hi_congr {D E : Nat → Int32} {x : Int32} : ∀ (k t : Nat), (∀ i, t < i → i ≤ t + k → E i = D i) → t_hi E x t k = t_hi D x t k
  | 0, t, h => rfl
  | k + 1, t, h => by rw [t_hi, t_hi, h (t + 1) (by omega) (by omega), t_hi_congr k (t + 1) (fun i a b => h i (by omega) (by omega))]
theorem t_tp_congr {D E : Nat → Int32} {x : Int32} : ∀ (k t : Nat), (∀ i, t ≤ i → i < t + k → E i = D i) → t_tp E x t k = t_tp D x t k
  | 0, t, h => rfl
  | k + 1, t, h => by rw [t_tp, t_tp, h t (by omega) (by omega), t_tp_congr k (t + 1) (fun i a b => h i (by omega) (by omega))]
theorem t_sm_congr {f g : Nat → Int32} : ∀ (k i : Nat) (a : Int32), (∀ j, i ≤ j → j < i + k → f j = g j) → t_sm f i k a = t_sm g i k a
  | 0, i, a, h => rfl
  | k + 1, i, a, h => by rw [t_sm, t_sm, h i (Nat.le_refl _) (by omega), t_sm_congr k (i + 1) _ (fun j a b => h j (by omega) (by omega))]
theorem t_mx_congr {f g : Nat → Int32} : ∀ (k i : Nat) (a : Int32), (∀ j, i ≤ j → j < i + k → f j = g j) → t_mx f i k a = t_mx g i k a
  | 0, i, a, h => rfl
  | k + 1, i, a, h => by rw [t_mx, t_mx, h i (Nat.le_refl _) (by omega), t_mx_congr k (i + 1) _ (fun j a b => h j (by omega) (by omega))]
theorem t_pl_congr {f g : Nat → Int32} {x : Int32} : ∀ (k i : Nat), (∀ j, i ≤ j → j < i + k → f j = g j) → t_pl f x i k = t_pl g x i k
  | 0, i, h => rfl
  | k + 1, i, h => by rw [t_pl, t_pl, h i (Nat.le_refl _) (by omega), t_pl_congr k (i + 1) (fun j a b => h j (by omega) (by omega))]
theorem dL_congr {D E : Nat → Int32} {n j : Nat} (h : ∀ i, i < n → E i = D i) (hj : j < n) : dL E j = dL D j := by
  show t_lo E (E j) j = t_lo D (D j) j
  rw [h j hj, t_lo_congr j (fun i a => h i (by omega))]
theorem dH_congr {D E : Nat → Int32} {n j : Nat} (h : ∀ i, i < n → E i = D i) (hj : j < n) : dH E n j = dH D n j := by
  show t_hi E (E j) j (n - 1 - j) = t_hi D (D j) j (n - 1 - j)
  rw [h j hj, t_hi_congr _ j (fun i a b => h i (by omega))]
/-- no place above j is deeper than where j's part ends: the places below a hold j if and only if a is above j -/
theorem CT_top_in {D : Nat → Int32} {n d l u t p : Nat} (h : CT D n d l u) (h1 : l ≤ t) (h2 : t < u) (h3 : D t = nI d) (h4 : ∀ i, l ≤ i → i < u → i ≠ t → nI d < D i) (p1 : l ≤ p) (p2 : p < u) : dL D t ≤ p ∧ p ≤ dH D n t := by
  obtain ⟨s1, s2⟩ := CT_span h h1 h2 h3 h4
  show t_lo D (D t) t ≤ p ∧ p ≤ t_hi D (D t) t (n - 1 - t)
  rw [s1, s2]
  omega
