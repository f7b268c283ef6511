/-! Ways: paying, leaning, a new node (by hand) -/
theorem nI_sub {a b : Nat} (h : b ≤ a) : nI a - nI b = nI (a - b) := by
  have h1 : nI a = nI (a - b) + nI b := by rw [nI_add, Nat.sub_add_cancel h]
  rw [h1, Int32.add_sub_cancel]
/-- who is paid: those above p -/
theorem py_eff {n p : Nat} {D : Nat → Int32} : ∀ (k d l u : Nat) (Z : Nat → Nat → Int32), Z 15 = D → CT D n d l u → u - l ≤ k → l ≤ p → p < u → ∀ i, t_py p k d l u Z 13 i = Z 13 i + (if l ≤ i ∧ i < u ∧ dL D i ≤ p ∧ p ≤ dH D n i then Z 7 2 else 0)
  | 0, d, l, u, Z, hD, h, hk, h1, h2, i => by omega
  | k + 1, d, l, u, Z, hD, h, hk, h1, h2, i => by
    obtain ⟨t, q0, q1, q2, q3, q4, q5, q6⟩ := CT_top h (by omega)
    rw [t_py, if_neg (by omega), hD, q0]
    have hti := CT_top_in h q1 q2 q3 q6 h1 h2
    have e1 : ∀ x, s_upd Z 13 t x 13 i = if i = t then x else Z 13 i := fun x => by
      rw [s_upd_c]
      by_cases hi : i = t
      · rw [if_pos ⟨rfl, hi⟩, if_pos hi]
      · rw [if_neg (fun z => hi z.2), if_neg hi]
    have e7 : ∀ x, s_upd Z 13 t x 7 = Z 7 := fun x => s_upd_o (by decide)
    have e15 : ∀ x, s_upd Z 13 t x 15 = D := fun x => by rw [s_upd_o (by decide)]; exact hD
    by_cases hp : t = p
    · rw [if_pos hp, e1]
      by_cases hi : i = t
      · rw [if_pos hi, if_pos (by rw [hi]; exact ⟨q1, q2, hti⟩), hi]
      · rw [if_neg hi, if_neg, Int32.add_zero]
        rintro ⟨a, b, c, e⟩
        rcases Nat.lt_or_ge i t with z | z
        · have := CT_in q4 a z; omega
        · have := CT_in q5 (j := i) (by omega) b; omega
    · rw [if_neg hp]
      by_cases hlt : t < p
      · rw [if_pos hlt, py_eff k (d + 1) (t + 1) u _ (e15 _) q5 (by omega) (by omega) h2 i, e1, e7]
        by_cases hi : i = t
        · rw [if_pos hi, if_neg (by omega), if_pos (by rw [hi]; exact ⟨q1, q2, hti⟩), Int32.add_zero, hi]
        · rw [if_neg hi]
          by_cases hc : t + 1 ≤ i ∧ i < u ∧ dL D i ≤ p ∧ p ≤ dH D n i
          · rw [if_pos hc, if_pos ⟨by omega, hc.2⟩]
          · rw [if_neg hc, if_neg]
            rintro ⟨a, b, c, e⟩
            rcases Nat.lt_or_ge i t with z | z
            · have := CT_in q4 a z; omega
            · exact hc ⟨by omega, b, c, e⟩
      · rw [if_neg hlt, py_eff k (d + 1) l t _ (e15 _) q4 (by omega) h1 (by omega) i, e1, e7]
        by_cases hi : i = t
        · rw [if_pos hi, if_neg (by omega), if_pos (by rw [hi]; exact ⟨q1, q2, hti⟩), Int32.add_zero, hi]
        · rw [if_neg hi]
          by_cases hc : l ≤ i ∧ i < t ∧ dL D i ≤ p ∧ p ≤ dH D n i
          · rw [if_pos hc, if_pos ⟨hc.1, by omega, hc.2.2⟩]
          · rw [if_neg hc, if_neg]
            rintro ⟨a, b, c, e⟩
            rcases Nat.lt_or_ge i t with z | z
            · exact hc ⟨a, z, c, e⟩
            · have := CT_in q5 (j := i) (by omega) b; omega
/-- the same in the Model -/
theorem q_pl_eff {n nd : Nat} {D : Nat → Int32} : ∀ (k i : Nat) (Z : Nat → Nat → Int32), q_c Z 248 = D → i + k ≤ 60 → ∀ x, x < 60 → q_pl n nd i k Z 132 (128 + x) = Z 132 (128 + x) + (if i ≤ x ∧ x < i + k ∧ dL D x ≤ nd ∧ nd ≤ dH D n x then Z 132 2 else 0)
  | 0, i, Z, hD, hk, x, hx => by
    rw [if_neg (by omega), Int32.add_zero]
    rfl
  | k + 1, i, Z, hD, hk, x, hx => by
    have hD2 : q_c (q_p1 Z n nd i) 248 = D := by
      rw [← hD]
      funext y
      exact q_p1_x (by omega)
    rw [q_pl, q_pl_eff k (i + 1) _ hD2 (by omega) x hx, q_p1_x (x := 2) (by omega)]
    have hu : q_u Z n nd i = decide (dL D i ≤ nd ∧ nd ≤ dH D n i) := by rw [← hD]; rfl
    by_cases hxi : x = i
    · rw [if_neg (by omega), Int32.add_zero, hxi]
      rw [q_p1, s_upd_c, if_pos ⟨rfl, rfl⟩, hu]
      congr 1
      by_cases hc : dL D i ≤ nd ∧ nd ≤ dH D n i
      · rw [if_pos (decide_eq_true hc), if_pos ⟨Nat.le_refl _, by omega, hc⟩]
      · rw [if_neg (by rw [decide_eq_false hc]; decide), if_neg (fun z => hc z.2.2)]
    · rw [q_p1_x (by omega)]
      congr 1
      by_cases hc : i + 1 ≤ x ∧ x < i + 1 + k ∧ dL D x ≤ nd ∧ nd ≤ dH D n x
      · rw [if_pos hc, if_pos ⟨by omega, by omega, hc.2.2⟩]
      · rw [if_neg hc, if_neg (fun z => hc ⟨by omega, by omega, z.2.2⟩)]
/-! the way to p: the first node that leans -/
def d_ln (D : Nat → Int32) (n : Nat) (lean : Int32) (i : Nat) : Bool := y_th lean (nI i - nI (dL D i)) (nI (dH D n i) - nI i)
def d_cd (D : Nat → Int32) (n : Nat) (lean : Int32) (p i : Nat) : Prop := dL D i ≤ p ∧ p ≤ dH D n i ∧ d_ln D n lean i = true
def d_wp (D : Nat → Int32) (lean : Int32) (p : Nat) : Nat → Nat → Nat → Nat → Option Nat
  | 0, _, _, _ => none
  | k + 1, d, l, u => if y_th lean (nI (t_tp D (nI d) l (u - 1 - l)) - nI l) (nI (u - 1) - nI (t_tp D (nI d) l (u - 1 - l))) = true then some (t_tp D (nI d) l (u - 1 - l)) else if t_tp D (nI d) l (u - 1 - l) = p then none else if t_tp D (nI d) l (u - 1 - l) < p then d_wp D lean p k (d + 1) (t_tp D (nI d) l (u - 1 - l) + 1) u else d_wp D lean p k (d + 1) l (t_tp D (nI d) l (u - 1 - l))
theorem d_wp_spec {D : Nat → Int32} {n p : Nat} {lean : Int32} : ∀ (k d l u : Nat), CT D n d l u → u - l ≤ k → l ≤ p → p < u → (d_wp D lean p k d l u = none → ∀ i, l ≤ i → i < u → ¬ d_cd D n lean p i) ∧ (∀ j, d_wp D lean p k d l u = some j → l ≤ j ∧ j < u ∧ d_cd D n lean p j ∧ ∀ i, l ≤ i → i < u → i ≠ j → d_cd D n lean p i → D j < D i)
  | 0, d, l, u, h, hk, h1, h2 => by omega
  | k + 1, d, l, u, h, hk, h1, h2 => by
    obtain ⟨t, q0, q1, q2, q3, q4, q5, q6⟩ := CT_top h (by omega)
    obtain ⟨s1, s2⟩ := CT_span h q1 q2 q3 q6
    have hti := CT_top_in h q1 q2 q3 q6 h1 h2
    have hln : d_ln D n lean t = y_th lean (nI t - nI l) (nI (u - 1) - nI t) := by
      show y_th lean (nI t - nI (t_lo D (D t) t)) (nI (t_hi D (D t) t (n - 1 - t)) - nI t) = _
      rw [s1, s2]
    rw [d_wp, q0, ← hln]
    cases hl : d_ln D n lean t with
    | true =>
      rw [if_pos rfl]
      refine ⟨fun z => (by cases z), fun j hj => ?_⟩
      cases hj
      exact ⟨q1, q2, ⟨hti.1, hti.2, hl⟩, fun i a b c _ => by rw [q3]; exact q6 i a b c⟩
    | false =>
      rw [if_neg (by decide)]
      have htn : ¬ d_cd D n lean p t := fun z => (by have z3 := z.2.2; rw [hl] at z3; cases z3)
      by_cases hp : t = p
      · rw [if_pos hp]
        refine ⟨fun _ i a b z => ?_, fun j hj => by cases hj⟩
        by_cases hi : i = t
        · rw [hi] at z; exact htn z
        · rcases Nat.lt_or_ge i t with y | y
          · have := CT_in q4 a y; have := z.2.1; omega
          · have := CT_in q5 (j := i) (by omega) b; have := z.1; omega
      · rw [if_neg hp]
        by_cases hlt : t < p
        · rw [if_pos hlt]
          obtain ⟨r1, r2⟩ := d_wp_spec (lean := lean) k (d + 1) (t + 1) u q5 (by omega) (by omega) h2
          have key : ∀ i, l ≤ i → i < u → d_cd D n lean p i → t + 1 ≤ i := by
            intro i a b z
            by_cases hi : i = t
            · rw [hi] at z; exact absurd z htn
            · rcases Nat.lt_or_ge i t with y | y
              · have := CT_in q4 a y; have := z.2.1; omega
              · omega
          refine ⟨fun hn i a b z => r1 hn i (key i a b z) b z, fun j hj => ?_⟩
          obtain ⟨p1, p2, p3, p4⟩ := r2 j hj
          exact ⟨by omega, p2, p3, fun i a b c z => p4 i (key i a b z) b c z⟩
        · rw [if_neg hlt]
          obtain ⟨r1, r2⟩ := d_wp_spec (lean := lean) k (d + 1) l t q4 (by omega) h1 (by omega)
          have key : ∀ i, l ≤ i → i < u → d_cd D n lean p i → i < t := by
            intro i a b z
            by_cases hi : i = t
            · rw [hi] at z; exact absurd z htn
            · rcases Nat.lt_or_ge i t with y | y
              · exact y
              · have := CT_in q5 (j := i) (by omega) b; have := z.1; omega
          refine ⟨fun hn i a b z => r1 hn i a (key i a b z) z, fun j hj => ?_⟩
          obtain ⟨p1, p2, p3, p4⟩ := r2 j hj
          exact ⟨p1, by omega, p3, fun i a b c z => p4 i a (key i a b z) c z⟩
/-- the Model's search over all nodes -/
theorem q_la_spec {Z : Nat → Nat → Int32} {n nd : Nat} : ∀ (k i : Nat) (acc : Option Nat), (q_la Z n nd i k acc = none → acc = none ∧ ∀ x, i ≤ x → x < i + k → (q_u Z n nd x && q_ln Z n x) = false) ∧ (∀ j, q_la Z n nd i k acc = some j → (acc = some j ∨ (i ≤ j ∧ j < i + k ∧ (q_u Z n nd j && q_ln Z n j) = true)) ∧ (∀ x, i ≤ x → x < i + k → (q_u Z n nd x && q_ln Z n x) = true → q_c Z 248 j ≤ q_c Z 248 x) ∧ ∀ a, acc = some a → q_c Z 248 j ≤ q_c Z 248 a)
  | 0, i, acc => by
    refine ⟨fun h => ⟨h, fun x a b => by omega⟩, fun j h => ⟨Or.inl h, fun x a b => by omega, fun a ha => ?_⟩⟩
    rw [q_la, ha] at h
    cases h
    exact Int32.le_refl _
  | k + 1, i, acc => by
    rw [q_la]
    obtain ⟨r1, r2⟩ := q_la_spec (Z := Z) (n := n) (nd := nd) k (i + 1) (if (q_u Z n nd i && q_ln Z n i && q_lb (q_c Z 248) acc i) = true then some i else acc)
    cases hc : (q_u Z n nd i && q_ln Z n i) with
    | false =>
      rw [hc, Bool.false_and, if_neg (by decide)] at r1 r2
      rw [Bool.false_and, if_neg (by decide)]
      refine ⟨fun h => ⟨(r1 h).1, fun x a b => ?_⟩, fun j h => ?_⟩
      · by_cases hx : x = i
        · rw [hx]; exact hc
        · exact (r1 h).2 x (by omega) (by omega)
      · obtain ⟨p1, p2, p3⟩ := r2 j h
        refine ⟨p1.elim Or.inl (fun z => Or.inr ⟨by omega, by omega, z.2.2⟩), fun x a b c => ?_, p3⟩
        by_cases hx : x = i
        · rw [hx, hc] at c; cases c
        · exact p2 x (by omega) (by omega) c
    | true =>
      rw [hc, Bool.true_and] at r1 r2
      rw [Bool.true_and]
      cases hb : q_lb (q_c Z 248) acc i with
      | true =>
        rw [hb, if_pos rfl] at r1 r2
        rw [if_pos rfl]
        refine ⟨fun h => (by have := (r1 h).1; cases this), fun j h => ?_⟩
        obtain ⟨p1, p2, p3⟩ := r2 j h
        have hji := p3 i rfl
        refine ⟨p1.elim (fun z => by cases z; exact Or.inr ⟨Nat.le_refl _, by omega, hc⟩) (fun z => Or.inr ⟨by omega, by omega, z.2.2⟩), fun x a b c => ?_, fun a ha => ?_⟩
        · by_cases hx : x = i
          · rw [hx]; exact hji
          · exact p2 x (by omega) (by omega) c
        · subst ha
          have hb2 : q_c Z 248 i < q_c Z 248 a := of_decide_eq_true hb
          exact Int32.le_trans hji (Int32.le_of_lt hb2)
      | false =>
        rw [hb, if_neg (by decide)] at r1 r2
        rw [if_neg (by decide)]
        cases acc with
        | none => cases hb
        | some a0 =>
          have hb2 : ¬ q_c Z 248 i < q_c Z 248 a0 := of_decide_eq_false hb
          refine ⟨fun h => (by have := (r1 h).1; cases this), fun j h => ?_⟩
          obtain ⟨p1, p2, p3⟩ := r2 j h
          refine ⟨p1.elim Or.inl (fun z => Or.inr ⟨by omega, by omega, z.2.2⟩), fun x a b c => ?_, p3⟩
          by_cases hx : x = i
          · rw [hx]; exact Int32.le_trans (p3 a0 rfl) (Int32.not_lt.mp hb2)
          · exact p2 x (by omega) (by omega) c
theorem q_ln_eq {Z : Nat → Nat → Int32} {n j : Nat} (hj : j < n) : q_ln Z n j = d_ln (q_c Z 248) n (Z 132 0) j := by
  unfold q_ln d_ln y_th q_w q_hv y_mx
  have h1 := q_LL Z j
  have h2 := q_HH Z hj
  have e1 : nI (q_H Z n j) - nI (q_L Z j) + 1 = nI j - nI (q_L Z j) + (nI (q_H Z n j) - nI j) + 1 := by
    rw [nI_sub (by omega), nI_sub (by omega), nI_sub (by omega), nI_add]
    congr 2
    omega
  rw [e1]
theorem q_la_wp {Z : Nat → Nat → Int32} {n p : Nat} (h : DT (q_c Z 248) 0 0 n) (hn : n ≤ 60) (hp : p < n) : q_la Z n p 0 n none = d_wp (q_c Z 248) (Z 132 0) p 60 0 0 n := by
  obtain ⟨a1, a2⟩ := q_la_spec (Z := Z) (n := n) (nd := p) n 0 none
  obtain ⟨b1, b2⟩ := d_wp_spec (lean := Z 132 0) 60 0 0 n (CT_root h hn) (by omega) (Nat.zero_le p) hp
  have hcd : ∀ i, i < n → ((q_u Z n p i && q_ln Z n i) = true ↔ d_cd (q_c Z 248) n (Z 132 0) p i) := by
    intro i hi
    rw [Bool.and_eq_true, q_ln_eq hi, q_u, decide_eq_true_eq, and_assoc]
    exact Iff.rfl
  cases hA : q_la Z n p 0 n none with
  | none =>
    cases hB : d_wp (q_c Z 248) (Z 132 0) p 60 0 0 n with
    | none => rfl
    | some j =>
      obtain ⟨c1, c2, c3, c4⟩ := b2 j hB
      have := (a1 hA).2 j (Nat.zero_le _) (by omega)
      rw [(hcd j c2).mpr c3] at this
      cases this
  | some i =>
    obtain ⟨c1, c2, c3⟩ := a2 i hA
    rcases c1 with c1 | ⟨_, c1, c4⟩
    · cases c1
    have hin : i < n := by omega
    cases hB : d_wp (q_c Z 248) (Z 132 0) p 60 0 0 n with
    | none => exact absurd ((hcd i hin).mp c4) (b1 hB i (Nat.zero_le _) hin)
    | some j =>
      obtain ⟨e1, e2, e3, e4⟩ := b2 j hB
      by_cases hij : i = j
      · rw [hij]
      · have f1 := e4 i (Nat.zero_le _) hin hij ((hcd i hin).mp c4)
        have f2 := c2 j (Nat.zero_le _) (by omega) ((hcd j e2).mpr e3)
        exact absurd f2 (Int32.not_le.mpr f1)
/-! a new node at place p -/
def d_in (D E : Nat → Int32) (n p : Nat) : Prop := (∀ i, i < p → E i = D i) ∧ (∀ i, p ≤ i → i < n → E (i + 1) = D i) ∧ E p = y_mx (t_bf D p) (t_bh D n p) + 1
theorem y_mx_nI {a b : Int32} {d : Nat} (hd : d < 2 ^ 31) (h1 : a.toInt < d) (h2 : b.toInt < d) (h3 : a.toInt = (d : Int) - 1 ∨ b.toInt = (d : Int) - 1) : y_mx a b + 1 = nI d := by
  have h : (y_mx a b).toInt = (d : Int) - 1 := by
    unfold y_mx
    by_cases hc : a < b
    · rw [if_pos hc]
      rw [Int32.lt_iff_toInt_lt] at hc
      omega
    · rw [if_neg hc]
      rw [Int32.lt_iff_toInt_lt] at hc
      omega
  have h4 : y_mx a b = nI d - 1 := Int32.toInt_inj.mp (by rw [h, y_m1 hd])
  rw [h4, Int32.sub_add_cancel]
theorem d_in_nil {D E : Nat → Int32} {n d p : Nat} (hi : d_in D E n p) (h : CT D n d p p) : E p = nI d := by
  obtain ⟨h1, h2, h3, h4, h5, h6⟩ := h
  rw [hi.2.2]
  exact y_mx_nI (by omega) h4 h5 h6
theorem DT_ins {D E : Nat → Int32} {n p : Nat} (hi : d_in D E n p) : ∀ (k d l u : Nat), u - l ≤ k → CT D n d l u → l ≤ p → p ≤ u → DT E d l (u + 1)
  | 0, d, l, u, hk, h, h1, h2 => by
    obtain rfl : l = p := by omega
    obtain rfl : u = l := by omega
    exact DT_node (Nat.le_refl _) (by omega) (d_in_nil hi h) DT_nil DT_nil
  | k + 1, d, l, u, hk, h, h1, h2 => by
    rcases Nat.lt_or_ge l u with hlu | hlu
    · obtain ⟨t, q0, q1, q2, q3, q4, q5, q6⟩ := CT_top h hlu
      have hun := h.2.1
      rcases Nat.lt_or_ge t p with z | z
      · refine DT_node q1 (by omega) (by rw [hi.1 t z]; exact q3) (DT_congr q4.1 (fun i a b => hi.1 i (by omega))) ?_
        exact DT_ins hi k (d + 1) (t + 1) u (by omega) q5 (by omega) h2
      · refine DT_node (t := t + 1) (by omega) (by omega) (by rw [hi.2.1 t z (by omega)]; exact q3) (DT_ins hi k (d + 1) l t (by omega) q4 h1 z) ?_
        exact DT_shift (s := 1) q5.1 (fun i a b => hi.2.1 i (by omega) (by omega))
    · obtain rfl : l = p := by omega
      obtain rfl : u = l := by omega
      exact DT_node (Nat.le_refl _) (by omega) (d_in_nil hi h) DT_nil DT_nil
theorem y_th0 {lean : Int32} (h : 0 ≤ lean) {a b : Int32} (ha : a = 0) (hb : b = 0) : y_th lean a b = false := by
  subst ha; subst hb
  unfold y_th
  rw [decide_eq_false]
  show ¬ lean * (0 + 0 + 1) < 100 * (if (0 : Int32) < 0 then 0 else 0)
  rw [show (0 : Int32) + 0 + 1 = 1 from by decide, Int32.mul_one, show (100 : Int32) * (if (0 : Int32) < 0 then 0 else 0) = 0 from by decide]
  exact Int32.not_lt.mpr h
/-- the way in the old tree, with the new node counted, and the way in the new one -/
theorem wl_wp {D E : Nat → Int32} {n p : Nat} {lean : Int32} (h0 : 0 ≤ lean) (hi : d_in D E n p) : ∀ (k d l u : Nat), u + 1 - l ≤ k → CT D n d l u → CT E (n + 1) d l (u + 1) → l ≤ p → p ≤ u →
    (t_wl D lean p k d l u = none → d_wp E lean p k d l (u + 1) = none) ∧ (∀ j, t_wl D lean p k d l u = some j → j < n ∧ d_wp E lean p k d l (u + 1) = some (if j < p then j else j + 1) ∧ nI (dH E (n + 1) (if j < p then j else j + 1)) - nI (dL E (if j < p then j else j + 1)) + 1 = nI (dH D n j) - nI (dL D j) + 2)
  | 0, d, l, u, hk, h, hE, h1, h2 => by omega
  | k + 1, d, l, u, hk, h, hE, h1, h2 => by
    obtain ⟨s, r0, r1, r2, r3, r4, r5, r6⟩ := CT_top hE (by omega)
    have hun := h.2.1
    rw [t_wl]
    rcases Nat.lt_or_ge l u with hlu | hlu
    · obtain ⟨t, q0, q1, q2, q3, q4, q5, q6⟩ := CT_top h hlu
      rw [if_neg (by omega)]
      dsimp only
      rw [q0, d_wp, r0]
      have two : ∀ x, l ≤ x → x < u + 1 → E x = nI d → s = x := by
        intro x a b c
        by_cases hx : x = s
        · exact hx.symm
        · have := r6 x a b hx
          rw [c] at this
          exact absurd this Int32.lt_irrefl
      obtain ⟨v1, v2⟩ := CT_span h q1 q2 q3 q6
      obtain ⟨w1, w2⟩ := CT_span hE r1 r2 r3 r6
      rcases Nat.lt_or_ge t p with z | z
      · have hs : s = t := two t q1 (by omega) (by rw [hi.1 t z]; exact q3)
        subst hs
        rw [if_neg (by omega)]
        have ey : y_th lean (nI s - nI l) (nI (u + 1 - 1) - nI s) = y_th lean (nI s - nI l) (nI (u - 1) - nI s + 1) := by
          congr 1
          rw [nI_sub (by omega), nI_sub (by omega), nI_1]
          congr 1
          omega
        rw [ey]
        by_cases hc : y_th lean (nI s - nI l) (nI (u - 1) - nI s + 1) = true
        · rw [if_pos hc, if_pos hc]
          refine ⟨fun z => (by cases z), fun j hj => ?_⟩
          cases hj
          refine ⟨by omega, by rw [if_pos z], ?_⟩
          rw [if_pos z]
          show nI (t_hi E (E s) s (n + 1 - 1 - s)) - nI (t_lo E (E s) s) + 1 = nI (t_hi D (D s) s (n - 1 - s)) - nI (t_lo D (D s) s) + 2
          rw [v1, v2, w1, w2, nI_sub (by omega), nI_sub (by omega), nI_1, show (2 : Int32) = nI 2 from rfl, nI_add]
          congr 1
          omega
        · rw [if_neg hc, if_neg hc, if_neg (by omega), if_pos z]
          exact wl_wp h0 hi k (d + 1) (s + 1) u (by omega) q5 r5 (by omega) h2
      · have hs : s = t + 1 := two (t + 1) (by omega) (by omega) (by rw [hi.2.1 t z (by omega)]; exact q3)
        subst hs
        rw [if_pos z]
        have ey : y_th lean (nI (t + 1) - nI l) (nI (u + 1 - 1) - nI (t + 1)) = y_th lean (nI t - nI l + 1) (nI (u - 1) - nI t) := by
          rw [nI_sub (by omega), nI_sub (by omega), nI_sub (by omega), nI_sub (by omega), nI_1]
          congr 2
          · omega
          · omega
        rw [ey]
        by_cases hc : y_th lean (nI t - nI l + 1) (nI (u - 1) - nI t) = true
        · rw [if_pos hc, if_pos hc]
          refine ⟨fun z => (by cases z), fun j hj => ?_⟩
          cases hj
          refine ⟨by omega, by rw [if_neg (by omega)], ?_⟩
          rw [if_neg (by omega)]
          show nI (t_hi E (E (t + 1)) (t + 1) (n + 1 - 1 - (t + 1))) - nI (t_lo E (E (t + 1)) (t + 1)) + 1 = nI (t_hi D (D t) t (n - 1 - t)) - nI (t_lo D (D t) t) + 2
          rw [v1, v2, w1, w2, nI_sub (by omega), nI_sub (by omega), nI_1, show (2 : Int32) = nI 2 from rfl, nI_add]
          congr 1
          omega
        · rw [if_neg hc, if_neg hc, if_neg (by omega), if_neg (by omega)]
          exact wl_wp h0 hi k (d + 1) l t (by omega) q4 r4 h1 z
    · rw [if_pos hlu]
      refine ⟨fun _ => ?_, fun j hj => by cases hj⟩
      have hs : s = p := by omega
      rw [d_wp, r0, hs, y_th0 h0, if_neg (by decide), if_pos rfl]
      · rw [nI_sub (by omega)]
        rw [show p - l = 0 by omega]
        rfl
      · rw [nI_sub (by omega), show u + 1 - 1 - p = 0 by omega]
        rfl
