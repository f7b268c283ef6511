/-! The tree's picture, and what a part laid anew leaves (by hand) -/
/-- what always holds of the tree -/
def K_J (Z : Nat → Nat → Int32) (n : Nat) : Prop :=
  Z 5 6 = nI n ∧ n ≤ 60 ∧ (∀ i, i < n → 0 ≤ Z 9 i ∧ Z 9 i ≤ 999) ∧ (∀ i j, i < j → j < n → Z 9 i < Z 9 j) ∧ (∀ i, i < n → Z 17 i = 0 ∨ Z 17 i = 1) ∧ (∀ i, i < n → 0 ≤ Z 11 i ∧ Z 11 i ≤ 999) ∧ DT (Z 15) 0 0 n
/-- work, funds and what is paid, together -/
def k_p (Z : Nat → Nat → Int32) (n : Nat) : Int32 := Z 5 7 + Z 5 8 + t_sm (Z 13) 0 n 0
/-- a key with its value -/
def k_in (Z : Nat → Nat → Int32) (n : Nat) (key v : Int32) : Prop := ∃ i, i < n ∧ Z 9 i = key ∧ Z 17 i = 1 ∧ Z 11 i = v
theorem K_J_congr {Z V : Nat → Nat → Int32} {n : Nat} (h : K_J Z n) (h5 : V 5 6 = Z 5 6) (h9 : V 9 = Z 9) (h11 : V 11 = Z 11) (h15 : V 15 = Z 15) (h17 : V 17 = Z 17) : K_J V n := by
  unfold K_J
  rw [h5, h9, h11, h15, h17]
  exact h
theorem k_in_congr {Z V : Nat → Nat → Int32} {n : Nat} {key v : Int32} (h9 : V 9 = Z 9) (h11 : V 11 = Z 11) (h17 : V 17 = Z 17) : k_in V n key v ↔ k_in Z n key v := by
  unfold k_in
  rw [h9, h11, h17]
theorem t_sm_part {f : Nat → Int32} {l H n : Nat} (h1 : l ≤ H + 1) (h2 : H < n) : t_sm f 0 n 0 = t_sm (fun x => if l ≤ x ∧ x ≤ H then 0 else f x) 0 n 0 + t_sm f l (H + 1 - l) 0 := by
  have e : ∀ g : Nat → Int32, t_sm g 0 n 0 = t_sm g 0 l 0 + (t_sm g l (H + 1 - l) 0 + t_sm g (H + 1) (n - (H + 1)) 0) := fun g => by
    have h := t_sm_add (f := g) l (H + 1 - l + (n - (H + 1))) 0
    rw [show l + (H + 1 - l + (n - (H + 1))) = n by omega, Nat.zero_add, t_sm_add (f := g) (H + 1 - l), show l + (H + 1 - l) = H + 1 by omega] at h
    exact h
  rw [e f, e (fun x => if l ≤ x ∧ x ≤ H then 0 else f x), t_sm_congr (f := fun x => if l ≤ x ∧ x ≤ H then 0 else f x) (g := f) l 0 0 (fun j a b => if_neg (by omega)), t_sm_nil (f := fun x => if l ≤ x ∧ x ≤ H then 0 else f x) (H + 1 - l) l (fun j a b => if_pos ⟨a, by omega⟩), t_sm_congr (f := fun x => if l ≤ x ∧ x ≤ H then 0 else f x) (g := f) (n - (H + 1)) (H + 1) 0 (fun j a b => if_neg (by omega)), Int32.zero_add]
  ac_rfl
theorem d_n_pos {M : Nat → Bool} {n x : Nat} (hx : x < n) (hm : M x = true) : d_n M 0 x < d_n M 0 n := by
  have h1 := d_n_snoc (M := M) x 0
  rw [Nat.zero_add, if_pos hm] at h1
  have h2 := d_n_mono (M := M) (show x + 1 ≤ n by omega)
  omega
theorem y_spend {a b w p s : Int32} : a + w + (b + (p - w)) + s = a + b + (s + p) := by
  have h : w + (p - w) = p := by rw [Int32.add_comm, Int32.sub_add_cancel]
  rw [show a + w + (b + (p - w)) + s = a + b + (s + (w + (p - w))) by ac_rfl, h]
theorem y_range {a b : Int32} (h : a = b) (g : 0 ≤ b ∧ b ≤ 999) : 0 ≤ a ∧ a ≤ 999 := by rw [h]; exact g
/-- the sum of ones and zeros -/
theorem t_sm_dn {F : Nat → Int32} {n : Nat} (h : ∀ i, i < n → F i = 0 ∨ F i = 1) : t_sm F 0 n 0 = nI (d_n (fun x => decide (F x = 1)) 0 n) := by
  rw [t_sm_c0 (fun j _ b => h j (by omega)), t_ct_dn]
theorem la_J {Z : Nat → Nat → Int32} {n j : Nat} (hJ : K_J Z n) (hj : j < n) : ∃ n2 w, K_J (t_la Z n j) n2 ∧ t_wt Z n j = nI w ∧ (1 ≤ w ∧ w ≤ n ∧ n2 ≤ n) ∧ t_la Z n j 5 7 = Z 5 7 + nI w ∧ t_la Z n j 5 10 = y_mx (Z 5 10) (nI w) ∧ k_p (t_la Z n j) n2 = k_p Z n ∧ t_sm (t_la Z n j 17) 0 n2 0 = t_sm (Z 17) 0 n 0 ∧ (∀ key v, k_in (t_la Z n j) n2 key v ↔ k_in Z n key v) ∧ (w = n → nI n2 = t_sm (Z 17) 0 n 0 ∧ ∀ y, y < n2 → t_la Z n j 13 y = 0 ∧ t_la Z n j 15 y = Z 15 j + nI (t_de y n2)) := by
  obtain ⟨hN, hn, hk, hs, hF, hv, hD⟩ := hJ
  obtain ⟨l, H, c, n2, M, ⟨r1, r2, r3, r4, r5⟩, hM, ⟨c1, c2, c3, c4⟩, ⟨v1, v2, v3, v4, v5⟩, fin, sur, hDT⟩ := reb_pt hn hD hj
  generalize t_la Z n j = V at *
  have hMf : ∀ x, x < n → Z 17 x = 1 → M x = true := fun x _ h => by rw [hM]; exact decide_eq_true (Or.inr (Or.inr h))
  have hMn : ∀ x, ¬ M x = true → l ≤ x ∧ x ≤ H ∧ ¬ Z 17 x = 1 := fun x h => by
    rw [hM, decide_eq_true_eq] at h
    exact ⟨Nat.le_of_not_lt (fun z => h (Or.inl z)), Nat.le_of_not_lt (fun z => h (Or.inr (Or.inl z))), fun z => h (Or.inr (Or.inr z))⟩
  have hsum : t_sm (V 17) 0 n2 0 = t_sm (Z 17) 0 n 0 := by
    rw [← c4, t_sm_kept (f := Z 17) (g := V 17) n (fun x a b => (fin x a b _ rfl).2.2.1)]
    refine t_sm_congr n 0 0 (fun x _ b => ?_)
    by_cases h : M x = true
    · rw [if_pos h]
    · rw [if_neg h]
      exact ((hF x (by omega)).resolve_right (hMn x h).2.2).symm
  refine ⟨n2, H + 1 - l, ⟨v1, by omega, fun y hy => ?_, fun y1 y2 h12 hy2 => ?_, fun y hy => ?_, fun y hy => ?_, hDT⟩, v5, ⟨by omega, by omega, by omega⟩, by rw [v2, v5], by rw [v4, v5], ?_, hsum, fun key v => ⟨?_, ?_⟩, fun hw => ⟨?_, fun y hy => ?_⟩⟩
  · obtain ⟨x, a, m, p⟩ := sur y hy
    exact y_range (fin x a m y p).1 (hk x a)
  · obtain ⟨x1, a1, m1, p1⟩ := sur y1 (by omega)
    obtain ⟨x2, a2, m2, p2⟩ := sur y2 hy2
    rw [(fin x1 a1 m1 y1 p1).1, (fin x2 a2 m2 y2 p2).1]
    refine hs x1 x2 ?_ a2
    rcases Nat.lt_or_ge x1 x2 with z | z
    · exact z
    · have := d_n_mono (M := M) z
      omega
  · obtain ⟨x, a, m, p⟩ := sur y hy
    rw [(fin x a m y p).2.2.1]
    exact hF x a
  · obtain ⟨x, a, m, p⟩ := sur y hy
    exact y_range (fin x a m y p).2.1 (hv x a)
  · unfold k_p
    rw [v2, v3, y_spend]
    congr 1
    have h13 : t_sm (V 13) 0 n2 0 = t_sm (fun x => if l ≤ x ∧ x ≤ H then 0 else Z 13 x) 0 n 0 := by
      rw [← c4, t_sm_kept (f := fun x => if l ≤ x ∧ x ≤ H then 0 else Z 13 x) (g := V 13) n (fun x a b => (fin x a b _ rfl).2.2.2.1)]
      refine t_sm_congr n 0 0 (fun x _ b => ?_)
      by_cases h : M x = true
      · rw [if_pos h]
      · rw [if_neg h, if_pos ⟨(hMn x h).1, (hMn x h).2.1⟩]
    rw [h13]
    exact (t_sm_part (by omega) r5).symm
  · rintro ⟨y, hy, e1, e2, e3⟩
    obtain ⟨x, a, m, p⟩ := sur y hy
    obtain ⟨f1, f2, f3, -⟩ := fin x a m y p
    exact ⟨x, a, by rw [← f1]; exact e1, by rw [← f3]; exact e2, by rw [← f2]; exact e3⟩
  · rintro ⟨x, a, e1, e2, e3⟩
    have m := hMf x a e2
    obtain ⟨f1, f2, f3, -⟩ := fin x a m _ rfl
    refine ⟨d_n M 0 x, ?_, by rw [f1]; exact e1, by rw [f3]; exact e2, by rw [f2]; exact e3⟩
    rw [← c4]
    exact d_n_pos a m
  · rw [t_sm_dn hF, ← c4]
    congr 1
    refine d_n_congr n 0 (fun x _ b => ?_)
    rw [hM]
    exact decide_eq_decide.mpr ⟨fun z => z.elim (fun z => by omega) (fun z => z.elim (fun z => by omega) id), fun z => Or.inr (Or.inr z)⟩
  · obtain ⟨x, a, m, p⟩ := sur y hy
    obtain ⟨-, -, -, f4, f5⟩ := fin x a m y p
    rw [f4, f5, if_pos (by omega), if_pos (by omega)]
    refine ⟨rfl, ?_⟩
    congr 3
    · omega
    · omega
/-- the root's part is the whole tree -/
theorem root_J {Z : Nat → Nat → Int32} {n : Nat} (hJ : K_J Z n) (h0 : 0 < n) : ∃ t, t_tp (Z 15) 0 0 (n - 1 - 0) = t ∧ t < n ∧ Z 15 t = 0 ∧ t_wt Z n t = nI n := by
  obtain ⟨hN, hn, hk, hs, hF, hv, hD⟩ := hJ
  have hR := CT_root hD hn
  obtain ⟨t, q0, q1, q2, q3, q4, q5, q6⟩ := CT_top hR h0
  obtain ⟨s1, s2⟩ := CT_span hR q1 q2 q3 q6
  refine ⟨t, q0, q2, q3, ?_⟩
  unfold t_wt
  rw [show t_L Z t = 0 from s1, show t_H Z n t = n - 1 from s2, nI_sub (by omega), nI_1]
  congr 1
  omega
