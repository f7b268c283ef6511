/-! out of whole's 40 -/
/-! Dropping hollow nodes and laying anew (by hand) -/
def d_n (M : Nat → Bool) : Nat → Nat → Nat
  | _, 0 => 0
  | i, k + 1 => (if M i = true then 1 else 0) + d_n M (i + 1) k
theorem d_n_le {M : Nat → Bool} : ∀ (k i : Nat), d_n M i k ≤ k
  | 0, i => Nat.le_refl _
  | k + 1, i => by
    have := d_n_le (M := M) k (i + 1)
    rw [d_n]
    split <;> omega
theorem d_n_snoc {M : Nat → Bool} : ∀ (k i : Nat), d_n M i (k + 1) = d_n M i k + (if M (i + k) = true then 1 else 0)
  | 0, i => by
    show (if M i = true then 1 else 0) + 0 = 0 + (if M (i + 0) = true then 1 else 0)
    rw [Nat.add_zero, Nat.add_zero, Nat.zero_add]
  | k + 1, i => by
    rw [d_n, d_n_snoc k (i + 1), d_n, show i + 1 + k = i + (k + 1) by omega]
    omega
theorem d_n_add {M : Nat → Bool} : ∀ (a b i : Nat), d_n M i (a + b) = d_n M i a + d_n M (i + a) b
  | 0, b, i => by rw [Nat.zero_add, d_n, Nat.zero_add, Nat.add_zero]
  | a + 1, b, i => by
    rw [show a + 1 + b = a + b + 1 by omega, d_n, d_n_add a b (i + 1), d_n, show i + 1 + a = i + (a + 1) by omega]
    omega
theorem d_n_congr {M N : Nat → Bool} : ∀ (k i : Nat), (∀ x, i ≤ x → x < i + k → M x = N x) → d_n M i k = d_n N i k
  | 0, i, h => rfl
  | k + 1, i, h => by rw [d_n, d_n, h i (Nat.le_refl _) (by omega), d_n_congr k (i + 1) (fun x a b => h x (by omega) (by omega))]
theorem d_n_all {M : Nat → Bool} : ∀ (k i : Nat), (∀ x, i ≤ x → x < i + k → M x = true) → d_n M i k = k
  | 0, i, h => rfl
  | k + 1, i, h => by
    rw [d_n, if_pos (h i (Nat.le_refl _) (by omega)), d_n_all k (i + 1) (fun x a b => h x (by omega) (by omega))]
    omega
theorem d_n_sur {M : Nat → Bool} {i : Nat} : ∀ (k y : Nat), y < d_n M i k → ∃ x, i ≤ x ∧ x < i + k ∧ M x = true ∧ d_n M i (x - i) = y
  | 0, y, h => by cases h
  | k + 1, y, h => by
    rw [d_n_snoc] at h
    rcases Nat.lt_or_ge y (d_n M i k) with z | z
    · obtain ⟨x, a, b, c, e⟩ := d_n_sur k y z
      exact ⟨x, a, by omega, c, e⟩
    · by_cases hm : M (i + k) = true
      · rw [if_pos hm] at h
        exact ⟨i + k, by omega, by omega, hm, by rw [show i + k - i = k by omega]; omega⟩
      · rw [if_neg hm] at h
        omega
theorem t_ct_dn {F : Nat → Int32} : ∀ (k i : Nat), t_ct F i k = d_n (fun x => decide (F x = 1)) i k
  | 0, i => rfl
  | k + 1, i => by
    rw [t_ct, d_n, t_ct_dn k (i + 1)]
    by_cases h : F i = 1
    · rw [if_pos h, if_pos (decide_eq_true h)]
    · rw [if_neg h, if_neg (by rw [decide_eq_false h]; decide)]
/-! the class -/
theorem t_dh_get {hi n c : Nat} {M : Nat → Bool} (hc : t_cl c) : ∀ (k i q : Nat) (Z : Nat → Nat → Int32), i + k = n → q ≤ i → (∀ x, i ≤ x → x < n → (M x = true ↔ hi < x ∨ Z 17 x = 1)) →
    (∀ y, y < q → t_dh hi k i q Z c y = Z c y) ∧ (∀ x, i ≤ x → x < n → M x = true → t_dh hi k i q Z c (q + d_n M i (x - i)) = Z c x) ∧ t_dh hi k i q Z 5 6 = nI (q + d_n M i k)
  | 0, i, q, Z, hi2, hq, hM => by
    refine ⟨fun y hy => ?_, fun x a b => by omega, ?_⟩
    · rw [t_dh, s_upd_o (fun z => by rw [z] at hc; exact t_cl5 hc)]
    · rw [t_dh, s_upd_c, if_pos ⟨rfl, rfl⟩]
      rfl
  | k + 1, i, q, Z, hi2, hq, hM => by
    rw [t_dh]
    by_cases hm : M i = true
    · rw [if_pos ((hM i (Nat.le_refl _) (by omega)).mp hm)]
      have hM2 : ∀ x, i + 1 ≤ x → x < n → (M x = true ↔ hi < x ∨ t_mv Z i q 17 x = 1) := fun x a b => by
        rw [t_mv_get (Or.inr (Or.inr (Or.inr (Or.inr rfl)))), if_neg (by omega)]
        exact hM x (by omega) b
      obtain ⟨r1, r2, r3⟩ := t_dh_get (hi := hi) (n := n) hc k (i + 1) (q + 1) (t_mv Z i q) (by omega) (by omega) hM2
      refine ⟨fun y hy => ?_, fun x a b m => ?_, ?_⟩
      · rw [r1 y (by omega), t_mv_get hc, if_neg (by omega)]
      · by_cases hx : x = i
        · have e := r1 q (by omega)
          rw [t_mv_get hc, if_pos rfl] at e
          rw [hx, Nat.sub_self]
          exact e
        · have := r2 x (by omega) b m
          rw [t_mv_get hc, if_neg (by omega)] at this
          rw [← this, show x - i = (x - (i + 1)) + 1 by omega, d_n, if_pos hm]
          congr 1
          omega
      · rw [r3, d_n, if_pos hm]
        congr 1
        omega
    · rw [if_neg (fun z => hm ((hM i (Nat.le_refl _) (by omega)).mpr z))]
      obtain ⟨r1, r2, r3⟩ := t_dh_get (hi := hi) (n := n) hc k (i + 1) q Z (by omega) (by omega) (fun x a b => hM x (by omega) b)
      refine ⟨r1, fun x a b m => ?_, ?_⟩
      · have hx : x ≠ i := fun z => by rw [z] at m; exact hm m
        rw [← r2 x (by omega) b m, show x - i = (x - (i + 1)) + 1 by omega, d_n, if_neg hm, Nat.zero_add]
      · rw [r3, d_n, if_neg hm, Nat.zero_add]
theorem t_ly_get {lo c y : Nat} {dep : Int32} : ∀ (k i : Nat) (Z : Nat → Nat → Int32), t_ly lo c dep k i Z 15 y = (if lo + i ≤ y ∧ y < lo + i + k then dep + nI (t_de (y - lo) c) else Z 15 y) ∧ t_ly lo c dep k i Z 13 y = (if lo + i ≤ y ∧ y < lo + i + k then 0 else Z 13 y)
  | 0, i, Z => by
    rw [if_neg (by omega), if_neg (by omega)]
    exact ⟨rfl, rfl⟩
  | k + 1, i, Z => by
    rw [t_ly]
    obtain ⟨r1, r2⟩ := t_ly_get (lo := lo) (c := c) (y := y) (dep := dep) k (i + 1) (s_upd (s_upd Z 15 (lo + i) (dep + nI (t_de i c))) 13 (lo + i) 0)
    rw [r1, r2, s_upd_c, s_upd_c, s_upd_c, s_upd_c]
    rw [if_neg (show ¬ (15 = 13 ∧ y = lo + i) by omega), if_neg (show ¬ (13 = 15 ∧ y = lo + i) by omega)]
    by_cases h1 : y = lo + i
    · rw [if_neg (by omega), if_pos ⟨rfl, h1⟩, if_pos (by omega), if_neg (by omega), if_pos ⟨rfl, h1⟩, if_pos (by omega), show y - lo = i by omega]
      exact ⟨rfl, rfl⟩
    · rw [if_neg (fun z : 15 = 15 ∧ y = lo + i => h1 z.2), if_neg (fun z : 13 = 13 ∧ y = lo + i => h1 z.2)]
      by_cases h2 : lo + (i + 1) ≤ y ∧ y < lo + (i + 1) + k
      · rw [if_pos h2, if_pos h2, if_pos (by omega), if_pos (by omega)]
        exact ⟨rfl, rfl⟩
      · rw [if_neg h2, if_neg h2, if_neg (by omega), if_neg (by omega)]
        exact ⟨rfl, rfl⟩
/-- how deep place y comes to lie below the root of an even part -/
def d_ev : Nat → Nat → Nat → Nat → Nat
  | 0, _, _, _ => 0
  | f + 1, a, u, y => if u ≤ a then 0 else if y = a + (u - 1 - a) / 2 then 0 else if a + (u - 1 - a) / 2 < y then 1 + d_ev f (a + (u - 1 - a) / 2 + 1) u y else 1 + d_ev f a (a + (u - 1 - a) / 2) y
theorem t_dl_ev {lo x : Nat} : ∀ (k f l u d : Nat), l ≤ x → x < u → u - l ≤ k → u - l ≤ f → t_dl x k l u d = d + d_ev f (lo + l) (lo + u) (lo + x)
  | 0, f, l, u, d, h1, h2, h3, h4 => by omega
  | k + 1, 0, l, u, d, h1, h2, h3, h4 => by omega
  | k + 1, f + 1, l, u, d, h1, h2, h3, h4 => by
    rw [t_dl, d_ev, if_neg (show ¬ lo + u ≤ lo + l by omega), show lo + l + (lo + u - 1 - (lo + l)) / 2 = lo + (l + (u - 1 - l) / 2) by omega]
    by_cases hs : u ≤ l + 1
    · rw [if_pos hs, if_pos (show lo + x = lo + (l + (u - 1 - l) / 2) by omega), Nat.add_zero]
    · rw [if_neg hs]
      have hr0 : l + (u - 1 - l) / 2 < u := by omega
      have hr1 : l ≤ l + (u - 1 - l) / 2 := Nat.le_add_right _ _
      generalize l + (u - 1 - l) / 2 = r at hr0 hr1 ⊢
      rcases Nat.lt_trichotomy x r with z | z | z
      · rw [if_neg (by omega), if_neg (by omega), if_neg (by omega), if_neg (by omega), t_dl_ev (lo := lo) k f l r (d + 1) h1 z (by omega) (by omega)]
        omega
      · rw [if_pos z, if_pos (by omega), Nat.add_zero]
      · rw [if_neg (by omega), if_pos z, if_neg (by omega), if_pos (by omega), t_dl_ev (lo := lo) k f (r + 1) u (d + 1) (by omega) h2 (by omega) (by omega), show lo + (r + 1) = lo + r + 1 by omega]
        omega
theorem DT_even {E : Nat → Int32} : ∀ (f d a u : Nat), u - a ≤ f → a ≤ u → (∀ y, a ≤ y → y < u → E y = nI (d + d_ev f a u y)) → DT E d a u
  | 0, d, a, u, h, hau, hE => by
    obtain rfl : a = u := by omega
    exact DT_nil
  | f + 1, d, a, u, h, hau, hE => by
    by_cases hua : u ≤ a
    · obtain rfl : a = u := by omega
      exact DT_nil
    · have hr0 : a + (u - 1 - a) / 2 < u := by omega
      have hr1 : a ≤ a + (u - 1 - a) / 2 := Nat.le_add_right _ _
      have hde : ∀ y, d_ev (f + 1) a u y = if y = a + (u - 1 - a) / 2 then 0 else if a + (u - 1 - a) / 2 < y then 1 + d_ev f (a + (u - 1 - a) / 2 + 1) u y else 1 + d_ev f a (a + (u - 1 - a) / 2) y := fun y => by rw [d_ev, if_neg hua]
      generalize a + (u - 1 - a) / 2 = r at hr0 hr1 hde
      refine DT_node hr1 hr0 (by rw [hE r hr1 hr0, hde, if_pos rfl, Nat.add_zero]) (DT_even f (d + 1) a r (by omega) hr1 (fun y a1 b1 => ?_)) (DT_even f (d + 1) (r + 1) u (by omega) (by omega) (fun y a1 b1 => ?_))
      · rw [hE y a1 (by omega), hde, if_neg (by omega), if_neg (by omega)]
        congr 1
        omega
      · rw [hE y (by omega) b1, hde, if_neg (by omega), if_pos (by omega)]
        congr 1
        omega
/-- a part is laid anew in its place, h places fewer -/
theorem DT_repl {D E : Nat → Int32} {n j e h : Nat} (he : e < 2 ^ 31) (hj : D j = nI e) : ∀ (k d l u : Nat), u - l ≤ k → CT D n d l u → l ≤ j → j < u → h ≤ dH D n j + 1 - dL D j → DT E e (dL D j) (dH D n j + 1 - h) → (∀ i, l ≤ i → i < dL D j → E i = D i) → (∀ i, dH D n j + 1 - h ≤ i → i < u - h → E i = D (i + h)) → DT E d l (u - h)
  | 0, d, l, u, hk, hc, h1, h2, hh, hE, hL, hR => by omega
  | k + 1, d, l, u, hk, hc, h1, h2, hh, hE, hL, hR => by
    obtain ⟨t, q0, q1, q2, q3, q4, q5, q6⟩ := CT_top hc (by omega)
    have h60 := hc.2.2.1
    have hin := CT_in hc h1 h2
    rcases Nat.lt_trichotomy j t with z | z | z
    · have hi := CT_in q4 h1 z
      refine DT_node (t := t - h) (by omega) (by omega) (by rw [hR (t - h) (by omega) (by omega), show t - h + h = t by omega]; exact q3) (DT_repl he hj k (d + 1) l t (by omega) q4 h1 z hh hE hL (fun i a b => hR i a (by omega))) ?_
      refine DT_down (s := h) (D := D) ?_ (fun i a b => hR i (by omega) b)
      rw [show t - h + 1 + h = t + 1 by omega, show u - h + h = u by omega]
      exact q5.1
    · subst z
      obtain ⟨s1, s2⟩ := CT_span hc q1 q2 q3 q6
      have s1 : dL D j = l := s1
      have s2 : dH D n j = u - 1 := s2
      rw [s1, s2, show u - 1 + 1 = u by omega] at hE
      have hed : e = d := by
        rw [hj] at q3
        have hv := CT_in hc h1 h2
        obtain ⟨e2, g1, g2, g3⟩ := DT_val hc.1 h1 h2
        rw [hj] at g1
        have := congrArg Int32.toInt q3
        have hd2 : (nI d).toInt = d := nI_toInt (by omega)
        rw [nI_toInt he, hd2] at this
        omega
      rw [hed] at hE
      exact hE
    · have hi := CT_in q5 (j := j) (by omega) h2
      refine DT_node (t := t) q1 (by omega) (by rw [hL t q1 (by omega)]; exact q3) (DT_congr q4.1 (fun i a b => hL i a (by omega))) ?_
      exact DT_repl he hj k (d + 1) (t + 1) u (by omega) q5 (by omega) h2 hh hE (fun i a b => hL i (by omega) b) hR
