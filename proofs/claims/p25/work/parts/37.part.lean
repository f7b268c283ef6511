/-! A node and what lies from it downwards (by hand) -/
theorem sp_split {f : Nat → Int32} {l t u : Nat} (h1 : l ≤ t) (h2 : t < u) : t_sm f l (u - l) 0 = f t + (t_sm f l (t - l) 0 + t_sm f (t + 1) (u - (t + 1)) 0) := by
  have h := t_sm_add (f := f) (t - l) (u - (t + 1) + 1) l
  rw [show t - l + (u - (t + 1) + 1) = u - l by omega, show l + (t - l) = t by omega, t_sm_one] at h
  rw [h]
  ac_rfl
/-- the greatest of natural numbers -/
def n_mx (e : Nat → Nat) : Nat → Nat → Nat → Nat
  | _, 0, a => a
  | i, k + 1, a => n_mx e (i + 1) k (max a (e i))
theorem n_mx_max {e : Nat → Nat} : ∀ (k i a : Nat), n_mx e i k a = max a (n_mx e i k 0)
  | 0, i, a => by
    show a = max a 0
    omega
  | k + 1, i, a => by
    rw [n_mx, n_mx, n_mx_max k (i + 1) (max a (e i)), n_mx_max k (i + 1) (max 0 (e i))]
    omega
theorem n_mx_add {e : Nat → Nat} : ∀ (a b i x : Nat), n_mx e i (a + b) x = n_mx e (i + a) b (n_mx e i a x)
  | 0, b, i, x => by rw [Nat.zero_add, Nat.add_zero]; rfl
  | a + 1, b, i, x => by
    rw [show a + 1 + b = a + b + 1 by omega, n_mx, n_mx_add a b (i + 1), n_mx, show i + 1 + a = i + (a + 1) by omega]
theorem n_mx_split {e : Nat → Nat} {l t u a : Nat} (h1 : l ≤ t) (h2 : t < u) : n_mx e l (u - l) a = n_mx e l (t - l) (n_mx e (t + 1) (u - (t + 1)) (max a (e t))) := by
  have h := n_mx_add (e := e) (t - l) (u - (t + 1) + 1) l a
  rw [show t - l + (u - (t + 1) + 1) = u - l by omega, show l + (t - l) = t by omega, n_mx] at h
  rw [h]
  have a1 := n_mx_max (e := e) (u - (t + 1)) (t + 1) (max (n_mx e l (t - l) a) (e t))
  have a2 := n_mx_max (e := e) (t - l) l a
  have a3 := n_mx_max (e := e) (t - l) l (n_mx e (t + 1) (u - (t + 1)) (max a (e t)))
  have a4 := n_mx_max (e := e) (u - (t + 1)) (t + 1) (max a (e t))
  omega
theorem n_mx_le {e : Nat → Nat} {b : Nat} : ∀ (k i a : Nat), a ≤ b → (∀ j, i ≤ j → j < i + k → e j ≤ b) → a ≤ n_mx e i k a ∧ n_mx e i k a ≤ b
  | 0, i, a, h1, h2 => ⟨Nat.le_refl _, h1⟩
  | k + 1, i, a, h1, h2 => by
    have h3 := h2 i (Nat.le_refl _) (by omega)
    have := n_mx_le (e := e) (b := b) k (i + 1) (max a (e i)) (by omega) (fun j a b => h2 j (by omega) (by omega))
    rw [n_mx]
    omega
theorem y_mx_n {a b : Nat} (ha : a < 2 ^ 31) (hb : b < 2 ^ 31) : y_mx (nI a) (nI b) = nI (max a b) := by
  unfold y_mx
  by_cases h : a < b
  · rw [if_pos ((y_lt ha hb).mpr h), Nat.max_eq_right (by omega)]
  · rw [if_neg (fun z => h ((y_lt ha hb).mp z)), Nat.max_eq_left (by omega)]
/-- the depths as natural numbers -/
def k_e (Z : Nat → Nat → Int32) (j : Nat) : Nat := (Z 15 j).toNatClampNeg
theorem t_mx_n {D : Nat → Int32} {e : Nat → Nat} : ∀ (k i a : Nat), a ≤ 100 → (∀ j, i ≤ j → j < i + k → D j = nI (e j) ∧ e j ≤ 100) → t_mx D i k (nI a) = nI (n_mx e i k a)
  | 0, i, a, ha, h => rfl
  | k + 1, i, a, ha, h => by
    obtain ⟨h1, h2⟩ := h i (Nat.le_refl _) (by omega)
    rw [t_mx, n_mx, ← t_mx_n k (i + 1) (max a (e i)) (by omega) (fun j a b => h j (by omega) (by omega)), ← y_mx_n (by omega) (by omega), ← h1]
    rfl
theorem y_cx {a b c : Int32} (h : a + c = b + c) : a = b := by
  have h2 := congrArg (fun z => z - c) h
  simpa only [Int32.add_sub_cancel] using h2
section PRT
variable {Z : Nat → Nat → Int32} {n : Nat}
theorem k_e_eq (hJ : K_J Z n) {j : Nat} (hj : j < n) : Z 15 j = nI (k_e Z j) ∧ k_e Z j < 60 := by
  obtain ⟨e, h1, h2, h3⟩ := DT_val hJ.2.2.2.2.2.2 (Nat.zero_le j) hj
  have hn := hJ.2.1
  unfold k_e
  rw [h1, nI_clamp (by omega)]
  exact ⟨rfl, by omega⟩
theorem k_e_ct (hJ : K_J Z n) {d l u : Nat} (h : CT (Z 15) n d l u) {i : Nat} (h1 : l ≤ i) (h2 : i < u) : d ≤ k_e Z i := by
  obtain ⟨e, e1, e2, e3⟩ := DT_val h.1 h1 h2
  have hi := k_e_eq hJ (j := i) (by have := h.2.1; omega)
  have hn := hJ.2.1
  have h60 := h.2.2.1
  rw [e1] at hi
  have := (nI_eq (a := e) (b := k_e Z i) (by omega) (by omega)).mp hi.1
  omega
/-- how deep a part goes below depth d, 0 if there is nothing -/
def k_h (Z : Nat → Nat → Int32) (d l u : Nat) : Nat := n_mx (k_e Z) l (u - l) d - d
theorem k_h_nil {d l : Nat} : k_h Z d l l = 0 := by
  unfold k_h
  rw [Nat.sub_self]
  show d - d = 0
  omega
theorem k_h_b (hJ : K_J Z n) {d l u : Nat} (hd : d ≤ 60) (hu : u ≤ n) : d ≤ n_mx (k_e Z) l (u - l) d ∧ n_mx (k_e Z) l (u - l) d ≤ 60 ∧ k_h Z d l u ≤ 60 := by
  have := n_mx_le (e := k_e Z) (b := 60) (u - l) l d hd (fun j a b => by have := (k_e_eq hJ (j := j) (by omega)).2; omega)
  unfold k_h
  omega
/-- all about the top of a part -/
theorem part_J (hJ : K_J Z n) {d l u : Nat} (h : CT (Z 15) n d l u) (hlu : l < u) : ∃ t, t_tp (Z 15) (nI d) l (u - 1 - l) = t ∧ (l ≤ t ∧ t < u ∧ u ≤ n) ∧ (CT (Z 15) n (d + 1) l t ∧ CT (Z 15) n (d + 1) (t + 1) u) ∧ d < 60 ∧
    Z 15 t = nI d ∧ t_wt Z n t = nI (u - l) ∧ t_ln Z n t = y_th (Z 7 0) (nI (t - l)) (nI (u - 1 - t)) ∧
    c_abt Z n t 0 = t_ktp Z l t (nI (d + 1)) ∧ c_abt Z n t 1 = t_ktp Z (t + 1) u (nI (d + 1)) ∧ c_abt Z n t 2 = nI (u - l) ∧ c_abt Z n t 3 = nI d ∧ c_abt Z n t 5 = Z 17 t ∧ c_abt Z n t 6 = t_sm (Z 17) l (u - l) 0 ∧ c_abt Z n t 7 = y_b (y_th (Z 7 0) (nI (t - l)) (nI (u - 1 - t))) ∧ c_abt Z n t 8 = nI (k_h Z d l u) := by
  obtain ⟨t, q0, q1, q2, q3, q4, q5, q6⟩ := CT_top h hlu
  obtain ⟨s1, s2⟩ := CT_span h q1 q2 q3 q6
  have s1 : t_L Z t = l := s1
  have s2 : t_H Z n t = u - 1 := s2
  have hun := h.2.1
  have h60 := h.2.2.1
  have hn := hJ.2.1
  have hw : t_wt Z n t = nI (u - l) := by
    unfold t_wt
    rw [s1, s2, nI_sub (by omega), nI_1]
    congr 1
    omega
  have hln : t_ln Z n t = y_th (Z 7 0) (nI (t - l)) (nI (u - 1 - t)) := by
    unfold t_ln
    rw [s1, s2, nI_sub (by omega), nI_sub (by omega)]
  refine ⟨t, q0, ⟨q1, q2, hun⟩, ⟨q4, q5⟩, by omega, q3, hw, hln, ?_, ?_, hw, q3, ?_, ?_, ?_, ?_⟩
  · show t_ktp Z (t_L Z t) t (Z 15 t + 1) = _
    rw [s1, q3, nI_1]
  · show t_ktp Z (t + 1) (t_H Z n t + 1) (Z 15 t + 1) = _
    rw [s2, q3, nI_1, show u - 1 + 1 = u by omega]
  · show y_b (decide (Z 17 t = 1)) = _
    rcases hJ.2.2.2.2.1 t (by omega) with z | z
    · rw [z]; rfl
    · rw [z]; rfl
  · show t_sm (Z 17) (t_L Z t) (t_H Z n t + 1 - t_L Z t) 0 = _
    rw [s1, s2, show u - 1 + 1 - l = u - l by omega]
  · show y_b (t_ln Z n t) = _
    rw [hln]
  · show t_mx (Z 15) (t_L Z t) (t_H Z n t + 1 - t_L Z t) (Z 15 (t_L Z t)) - Z 15 t = _
    have hl := k_e_eq hJ (j := l) (by omega)
    rw [s1, s2, show u - 1 + 1 - l = u - l by omega, hl.1, q3, t_mx_n (e := k_e Z) (u - l) l _ (by omega) (fun j a b => ⟨(k_e_eq hJ (by omega)).1, by have := (k_e_eq hJ (j := j) (by omega)).2; omega⟩)]
    have e1 : n_mx (k_e Z) l (u - l) (k_e Z l) = n_mx (k_e Z) l (u - l) d := by
      have hdl := k_e_ct hJ h (Nat.le_refl l) hlu
      rw [show u - l = u - l - 1 + 1 by omega, n_mx, n_mx]
      congr 1
      omega
    rw [e1, nI_sub (k_h_b hJ (by omega) hun).1]
    rfl
theorem k_h_split (hJ : K_J Z n) {d l t u : Nat} (h1 : l ≤ t) (h2 : t < u) (hu : u ≤ n) (ht : Z 15 t = nI d) (hd : d < 60) : k_h Z d l u = max (k_h Z d l t) (k_h Z d (t + 1) u) := by
  have he : k_e Z t = d := by
    unfold k_e
    rw [ht, nI_clamp (by omega)]
  unfold k_h
  rw [n_mx_split h1 h2, he, Nat.max_self, n_mx_max _ l]
  have a := n_mx_max (e := k_e Z) (t - l) l d
  have b := n_mx_max (e := k_e Z) (u - (t + 1)) (t + 1) d
  omega
/-- a child's height and one, seen from its parent -/
theorem k_h_up (hJ : K_J Z n) {d l u : Nat} (h : CT (Z 15) n (d + 1) l u) (hlu : l < u) : k_h Z d l u = k_h Z (d + 1) l u + 1 := by
  unfold k_h
  have hdl := k_e_ct hJ h (Nat.le_refl l) hlu
  have e1 : n_mx (k_e Z) l (u - l) d = n_mx (k_e Z) l (u - l) (d + 1) := by
    rw [show u - l = u - l - 1 + 1 by omega, n_mx, n_mx]
    congr 1
    omega
  rw [e1]
  have := n_mx_max (e := k_e Z) (u - l) l (d + 1)
  omega
/-- weights and depths -/
theorem w_sum (hJ : K_J Z n) : ∀ (k d l u : Nat), u - l ≤ k → CT (Z 15) n d l u → t_sm (fun j => t_wt Z n j) l (u - l) 0 + nI (d * (u - l)) = t_sm (Z 15) l (u - l) 0 + nI (u - l) := by
  intro k
  induction k with
  | zero =>
    intro d l u hk h
    rw [show u - l = 0 by omega]
    rfl
  | succ k ih =>
    intro d l u hk h
    rcases Nat.lt_or_ge l u with hlu | hlu
    · obtain ⟨t, q0, ⟨q1, q2, hun⟩, ⟨q4, q5⟩, q6, q3, hw, -⟩ := part_J hJ h hlu
      have a := ih (d + 1) l t (by omega) q4
      have b := ih (d + 1) (t + 1) u (by omega) q5
      rw [Nat.add_mul, Nat.one_mul, ← nI_add, ← Int32.add_assoc] at a b
      have a := y_cx a
      have b := y_cx b
      rw [sp_split q1 q2, sp_split q1 q2, hw, q3, ← a, ← b, show d * (u - l) = d + (d * (t - l) + d * (u - (t + 1))) by rw [← Nat.mul_add, show u - l = t - l + (u - (t + 1)) + 1 by omega, Nat.mul_succ, Nat.add_comm], ← nI_add, ← nI_add]
      ac_rfl
    · rw [show u - l = 0 by omega]
      rfl
end PRT
