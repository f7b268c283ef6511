/-! out of whole's 39 -/
/-! Ways: paying, leaning, a new node (by hand) -/
theorem nI_sub {a b : Nat} (h : b ≤ a) : nI a - nI b = nI (a - b) := by
  have h1 : nI a = nI (a - b) + nI b := by rw [nI_add, Nat.sub_add_cancel h]
  rw [h1, Int32.add_sub_cancel]
/-- who is paid: those above p -/
theorem py_eff {n p : Nat} {D : Nat → Int32} : ∀ (k d l u : Nat) (Z : Nat → Nat → Int32), Z 15 = D → CT D n d l u → u - l ≤ k → l ≤ p → p < u → ∀ i, t_py p k d l u Z 13 i = Z 13 i + (if l ≤ i ∧ i < u ∧ dL D i ≤ p ∧ p ≤ dH D n i then Z 7 2 else 0)
  | 0, d, l, u, Z, hD, h, hk, h1, h2, i => by omega
  | k + 1, d, l, u, Z, hD, h, hk, h1, h2, i => by
    obtain ⟨t, q0, q1, q2, q3, q4, q5, q6⟩ := CT_top h (by omega)
    rw [t_py, if_neg (by omega), hD, q0]
    have hti := CT_top_in h q1 q2 q3 q6 h1 h2
    have e1 : ∀ x, s_upd Z 13 t x 13 i = if i = t then x else Z 13 i := fun x => by
      rw [s_upd_c]
      by_cases hi : i = t
      · rw [if_pos ⟨rfl, hi⟩, if_pos hi]
      · rw [if_neg (fun z => hi z.2), if_neg hi]
    have e7 : ∀ x, s_upd Z 13 t x 7 = Z 7 := fun x => s_upd_o (by decide)
    have e15 : ∀ x, s_upd Z 13 t x 15 = D := fun x => by rw [s_upd_o (by decide)]; exact hD
    by_cases hp : t = p
    · rw [if_pos hp, e1]
      by_cases hi : i = t
      · rw [if_pos hi, if_pos (by rw [hi]; exact ⟨q1, q2, hti⟩), hi]
      · rw [if_neg hi, if_neg, Int32.add_zero]
        rintro ⟨a, b, c, e⟩
        rcases Nat.lt_or_ge i t with z | z
        · have := CT_in q4 a z; omega
        · have := CT_in q5 (j := i) (by omega) b; omega
    · rw [if_neg hp]
      by_cases hlt : t < p
      · rw [if_pos hlt, py_eff k (d + 1) (t + 1) u _ (e15 _) q5 (by omega) (by omega) h2 i, e1, e7]
        by_cases hi : i = t
        · rw [if_pos hi, if_neg (by omega), if_pos (by rw [hi]; exact ⟨q1, q2, hti⟩), Int32.add_zero, hi]
        · rw [if_neg hi]
          by_cases hc : t + 1 ≤ i ∧ i < u ∧ dL D i ≤ p ∧ p ≤ dH D n i
          · rw [if_pos hc, if_pos ⟨by omega, hc.2⟩]
          · rw [if_neg hc, if_neg]
            rintro ⟨a, b, c, e⟩
            rcases Nat.lt_or_ge i t with z | z
            · have := CT_in q4 a z; omega
            · exact hc ⟨by omega, b, c, e⟩
      · rw [if_neg hlt, py_eff k (d + 1) l t _ (e15 _) q4 (by omega) h1 (by omega) i, e1, e7]
        by_cases hi : i = t
        · rw [if_pos hi, if_neg (by omega), if_pos (by rw [hi]; exact ⟨q1, q2, hti⟩), Int32.add_zero, hi]
        · rw [if_neg hi]
          by_cases hc : l ≤ i ∧ i < t ∧ dL D i ≤ p ∧ p ≤ dH D n i
          · rw [if_pos hc, if_pos ⟨hc.1, by omega, hc.2.2⟩]
          · rw [if_neg hc, if_neg]
            rintro ⟨a, b, c, e⟩
            rcases Nat.lt_or_ge i t with z | z
            · exact hc ⟨a, z, c, e⟩
            · have := CT_in q5 (j := i) (by omega) b; omega
/-! the way to p: the first node that leans -/
def d_ln (D : Nat → Int32) (n : Nat) (lean : Int32) (i : Nat) : Bool := y_th lean (nI i - nI (dL D i)) (nI (dH D n i) - nI i)
def d_cd (D : Nat → Int32) (n : Nat) (lean : Int32) (p i : Nat) : Prop := dL D i ≤ p ∧ p ≤ dH D n i ∧ d_ln D n lean i = true
def d_wp (D : Nat → Int32) (lean : Int32) (p : Nat) : Nat → Nat → Nat → Nat → Option Nat
  | 0, _, _, _ => none
  | k + 1, d, l, u => if y_th lean (nI (t_tp D (nI d) l (u - 1 - l)) - nI l) (nI (u - 1) - nI (t_tp D (nI d) l (u - 1 - l))) = true then some (t_tp D (nI d) l (u - 1 - l)) else if t_tp D (nI d) l (u - 1 - l) = p then none else if t_tp D (nI d) l (u - 1 - l) < p then d_wp D lean p k (d + 1) (t_tp D (nI d) l (u - 1 - l) + 1) u else d_wp D lean p k (d + 1) l (t_tp D (nI d) l (u - 1 - l))
theorem d_wp_spec {D : Nat → Int32} {n p : Nat} {lean : Int32} : ∀ (k d l u : Nat), CT D n d l u → u - l ≤ k → l ≤ p → p < u → (d_wp D lean p k d l u = none → ∀ i, l ≤ i → i < u → ¬ d_cd D n lean p i) ∧ (∀ j, d_wp D lean p k d l u = some j → l ≤ j ∧ j < u ∧ d_cd D n lean p j ∧ ∀ i, l ≤ i → i < u → i ≠ j → d_cd D n lean p i → D j < D i)
  | 0, d, l, u, h, hk, h1, h2 => by omega
  | k + 1, d, l, u, h, hk, h1, h2 => by
    obtain ⟨t, q0, q1, q2, q3, q4, q5, q6⟩ := CT_top h (by omega)
    obtain ⟨s1, s2⟩ := CT_span h q1 q2 q3 q6
    have hti := CT_top_in h q1 q2 q3 q6 h1 h2
    have hln : d_ln D n lean t = y_th lean (nI t - nI l) (nI (u - 1) - nI t) := by
      show y_th lean (nI t - nI (t_lo D (D t) t)) (nI (t_hi D (D t) t (n - 1 - t)) - nI t) = _
      rw [s1, s2]
    rw [d_wp, q0, ← hln]
    cases hl : d_ln D n lean t with
    | true =>
      rw [if_pos rfl]
      refine ⟨fun z => (by cases z), fun j hj => ?_⟩
      cases hj
      exact ⟨q1, q2, ⟨hti.1, hti.2, hl⟩, fun i a b c _ => by rw [q3]; exact q6 i a b c⟩
    | false =>
      rw [if_neg (by decide)]
      have htn : ¬ d_cd D n lean p t := fun z => (by have z3 := z.2.2; rw [hl] at z3; cases z3)
      by_cases hp : t = p
      · rw [if_pos hp]
        refine ⟨fun _ i a b z => ?_, fun j hj => by cases hj⟩
        by_cases hi : i = t
        · rw [hi] at z; exact htn z
        · rcases Nat.lt_or_ge i t with y | y
          · have := CT_in q4 a y; have := z.2.1; omega
          · have := CT_in q5 (j := i) (by omega) b; have := z.1; omega
      · rw [if_neg hp]
        by_cases hlt : t < p
        · rw [if_pos hlt]
          obtain ⟨r1, r2⟩ := d_wp_spec (lean := lean) k (d + 1) (t + 1) u q5 (by omega) (by omega) h2
          have key : ∀ i, l ≤ i → i < u → d_cd D n lean p i → t + 1 ≤ i := by
            intro i a b z
            by_cases hi : i = t
            · rw [hi] at z; exact absurd z htn
            · rcases Nat.lt_or_ge i t with y | y
              · have := CT_in q4 a y; have := z.2.1; omega
              · omega
          refine ⟨fun hn i a b z => r1 hn i (key i a b z) b z, fun j hj => ?_⟩
          obtain ⟨p1, p2, p3, p4⟩ := r2 j hj
          exact ⟨by omega, p2, p3, fun i a b c z => p4 i (key i a b z) b c z⟩
        · rw [if_neg hlt]
          obtain ⟨r1, r2⟩ := d_wp_spec (lean := lean) k (d + 1) l t q4 (by omega) h1 (by omega)
          have key : ∀ i, l ≤ i → i < u → d_cd D n lean p i → i < t := by
            intro i a b z
            by_cases hi : i = t
            · rw [hi] at z; exact absurd z htn
            · rcases Nat.lt_or_ge i t with y | y
              · exact y
              · have := CT_in q5 (j := i) (by omega) b; have := z.1; omega
          refine ⟨fun hn i a b z => r1 hn i a (key i a b z) z, fun j hj => ?_⟩
          obtain ⟨p1, p2, p3, p4⟩ := r2 j hj
          exact ⟨p1, by omega, p3, fun i a b c z => p4 i a (key i a b z) c z⟩
/-! a new node at place p -/
def d_in (D E : Nat → Int32) (n p : Nat) : Prop := (∀ i, i < p → E i = D i) ∧ (∀ i, p ≤ i → i < n → E (i + 1) = D i) ∧ E p = y_mx (t_bf D p) (t_bh D n p) + 1
theorem y_mx_nI {a b : Int32} {d : Nat} (hd : d < 2 ^ 31) (h1 : a.toInt < d) (h2 : b.toInt < d) (h3 : a.toInt = (d : Int) - 1 ∨ b.toInt = (d : Int) - 1) : y_mx a b + 1 = nI d := by
  have h : (y_mx a b).toInt = (d : Int) - 1 := by
    unfold y_mx
    by_cases hc : a < b
    · rw [if_pos hc]
      rw [Int32.lt_iff_toInt_lt] at hc
      omega
    · rw [if_neg hc]
      rw [Int32.lt_iff_toInt_lt] at hc
      omega
  have h4 : y_mx a b = nI d - 1 := Int32.toInt_inj.mp (by rw [h, y_m1 hd])
  rw [h4, Int32.sub_add_cancel]
theorem d_in_nil {D E : Nat → Int32} {n d p : Nat} (hi : d_in D E n p) (h : CT D n d p p) : E p = nI d := by
  obtain ⟨h1, h2, h3, h4, h5, h6⟩ := h
  rw [hi.2.2]
  exact y_mx_nI (by omega) h4 h5 h6
theorem DT_ins {D E : Nat → Int32} {n p : Nat} (hi : d_in D E n p) : ∀ (k d l u : Nat), u - l ≤ k → CT D n d l u → l ≤ p → p ≤ u → DT E d l (u + 1)
  | 0, d, l, u, hk, h, h1, h2 => by
    obtain rfl : l = p := by omega
    obtain rfl : u = l := by omega
    exact DT_node (Nat.le_refl _) (by omega) (d_in_nil hi h) DT_nil DT_nil
  | k + 1, d, l, u, hk, h, h1, h2 => by
    rcases Nat.lt_or_ge l u with hlu | hlu
    · obtain ⟨t, q0, q1, q2, q3, q4, q5, q6⟩ := CT_top h hlu
      have hun := h.2.1
      rcases Nat.lt_or_ge t p with z | z
      · refine DT_node q1 (by omega) (by rw [hi.1 t z]; exact q3) (DT_congr q4.1 (fun i a b => hi.1 i (by omega))) ?_
        exact DT_ins hi k (d + 1) (t + 1) u (by omega) q5 (by omega) h2
      · refine DT_node (t := t + 1) (by omega) (by omega) (by rw [hi.2.1 t z (by omega)]; exact q3) (DT_ins hi k (d + 1) l t (by omega) q4 h1 z) ?_
        exact DT_shift (s := 1) q5.1 (fun i a b => hi.2.1 i (by omega) (by omega))
    · obtain rfl : l = p := by omega
      obtain rfl : u = l := by omega
      exact DT_node (Nat.le_refl _) (by omega) (d_in_nil hi h) DT_nil DT_nil
theorem y_th0 {lean : Int32} (h : 0 ≤ lean) {a b : Int32} (ha : a = 0) (hb : b = 0) : y_th lean a b = false := by
  subst ha; subst hb
  unfold y_th
  rw [decide_eq_false]
  show ¬ lean * (0 + 0 + 1) < 100 * (if (0 : Int32) < 0 then 0 else 0)
  rw [show (0 : Int32) + 0 + 1 = 1 from by decide, Int32.mul_one, show (100 : Int32) * (if (0 : Int32) < 0 then 0 else 0) = 0 from by decide]
  exact Int32.not_lt.mpr h
/-- the way in the old tree, with the new node counted, and the way in the new one -/
theorem wl_wp {D E : Nat → Int32} {n p : Nat} {lean : Int32} (h0 : 0 ≤ lean) (hi : d_in D E n p) : ∀ (k d l u : Nat), u + 1 - l ≤ k → CT D n d l u → CT E (n + 1) d l (u + 1) → l ≤ p → p ≤ u →
    (t_wl D lean p k d l u = none → d_wp E lean p k d l (u + 1) = none) ∧ (∀ j, t_wl D lean p k d l u = some j → j < n ∧ d_wp E lean p k d l (u + 1) = some (if j < p then j else j + 1) ∧ nI (dH E (n + 1) (if j < p then j else j + 1)) - nI (dL E (if j < p then j else j + 1)) + 1 = nI (dH D n j) - nI (dL D j) + 2)
  | 0, d, l, u, hk, h, hE, h1, h2 => by omega
  | k + 1, d, l, u, hk, h, hE, h1, h2 => by
    obtain ⟨s, r0, r1, r2, r3, r4, r5, r6⟩ := CT_top hE (by omega)
    have hun := h.2.1
    rw [t_wl]
    rcases Nat.lt_or_ge l u with hlu | hlu
    · obtain ⟨t, q0, q1, q2, q3, q4, q5, q6⟩ := CT_top h hlu
      rw [if_neg (by omega)]
      dsimp only
      rw [q0, d_wp, r0]
      have two : ∀ x, l ≤ x → x < u + 1 → E x = nI d → s = x := by
        intro x a b c
        by_cases hx : x = s
        · exact hx.symm
        · have := r6 x a b hx
          rw [c] at this
          exact absurd this Int32.lt_irrefl
      obtain ⟨v1, v2⟩ := CT_span h q1 q2 q3 q6
      obtain ⟨w1, w2⟩ := CT_span hE r1 r2 r3 r6
      rcases Nat.lt_or_ge t p with z | z
      · have hs : s = t := two t q1 (by omega) (by rw [hi.1 t z]; exact q3)
        subst hs
        rw [if_neg (by omega)]
        have ey : y_th lean (nI s - nI l) (nI (u + 1 - 1) - nI s) = y_th lean (nI s - nI l) (nI (u - 1) - nI s + 1) := by
          congr 1
          rw [nI_sub (by omega), nI_sub (by omega), nI_1]
          congr 1
          omega
        rw [ey]
        by_cases hc : y_th lean (nI s - nI l) (nI (u - 1) - nI s + 1) = true
        · rw [if_pos hc, if_pos hc]
          refine ⟨fun z => (by cases z), fun j hj => ?_⟩
          cases hj
          refine ⟨by omega, by rw [if_pos z], ?_⟩
          rw [if_pos z]
          show nI (t_hi E (E s) s (n + 1 - 1 - s)) - nI (t_lo E (E s) s) + 1 = nI (t_hi D (D s) s (n - 1 - s)) - nI (t_lo D (D s) s) + 2
          rw [v1, v2, w1, w2, nI_sub (by omega), nI_sub (by omega), nI_1, show (2 : Int32) = nI 2 from rfl, nI_add]
          congr 1
          omega
        · rw [if_neg hc, if_neg hc, if_neg (by omega), if_pos z]
          exact wl_wp h0 hi k (d + 1) (s + 1) u (by omega) q5 r5 (by omega) h2
      · have hs : s = t + 1 := two (t + 1) (by omega) (by omega) (by rw [hi.2.1 t z (by omega)]; exact q3)
        subst hs
        rw [if_pos z]
        have ey : y_th lean (nI (t + 1) - nI l) (nI (u + 1 - 1) - nI (t + 1)) = y_th lean (nI t - nI l + 1) (nI (u - 1) - nI t) := by
          rw [nI_sub (by omega), nI_sub (by omega), nI_sub (by omega), nI_sub (by omega), nI_1]
          congr 2
          · omega
          · omega
        rw [ey]
        by_cases hc : y_th lean (nI t - nI l + 1) (nI (u - 1) - nI t) = true
        · rw [if_pos hc, if_pos hc]
          refine ⟨fun z => (by cases z), fun j hj => ?_⟩
          cases hj
          refine ⟨by omega, by rw [if_neg (by omega)], ?_⟩
          rw [if_neg (by omega)]
          show nI (t_hi E (E (t + 1)) (t + 1) (n + 1 - 1 - (t + 1))) - nI (t_lo E (E (t + 1)) (t + 1)) + 1 = nI (t_hi D (D t) t (n - 1 - t)) - nI (t_lo D (D t) t) + 2
          rw [v1, v2, w1, w2, nI_sub (by omega), nI_sub (by omega), nI_1, show (2 : Int32) = nI 2 from rfl, nI_add]
          congr 1
          omega
        · rw [if_neg hc, if_neg hc, if_neg (by omega), if_neg (by omega)]
          exact wl_wp h0 hi k (d + 1) l t (by omega) q4 r4 h1 z
    · rw [if_pos hlu]
      refine ⟨fun _ => ?_, fun j hj => by cases hj⟩
      have hs : s = p := by omega
      rw [d_wp, r0, hs, y_th0 h0, if_neg (by decide), if_pos rfl]
      · rw [nI_sub (by omega)]
        rw [show p - l = 0 by omega]
        rfl
      · rw [nI_sub (by omega), show u + 1 - 1 - p = 0 by omega]
        rfl
