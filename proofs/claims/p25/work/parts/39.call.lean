/-! What the law sees of a call that changes (by hand) -/
def K_Q (Z : Nat → Nat → Int32) (P : Nat → Nat) (n m q : Nat) : Prop :=
  K_J Z n ∧ (0 ≤ Z 7 0 ∧ 0 ≤ Z 7 1 ∧ Z 7 2 = nI q ∧ q ≤ 9) ∧ (m ≤ 6 ∧ Z 18 1 = nI m ∧ ∀ j, j < 6 → t_hs (P j)) ∧ Z 1 = s_3 55 10 0 ∧ Z 2 = s_3 95 90 9
def K_G (Z : Nat → Nat → Int32) (P : Nat → Nat) : Prop := ∃ n m q, K_Q Z P n m q
def k_m2 (m : Nat) : Nat := if m < 6 then m + 1 else 6
theorem kz_18 {Z : Nat → Nat → Int32} {P : Nat → Nat} {m : Nat} (hm : m ≤ 6) (hM : Z 18 1 = nI m) (hP : ∀ j, j < 6 → t_hs (P j)) : t_kZ Z P m 18 1 = nI (k_m2 m) := by
  unfold t_kZ k_m2
  by_cases h : m < 6
  · have hh := hP m h
    have h20 : 18 < P m := by unfold t_hs at hh; omega
    rw [if_pos h, if_pos h]
    unfold t_k1
    rw [s_upd_c, if_pos ⟨rfl, rfl⟩, t_bc_o (Or.inl h20), hM, nI_1]
  · have hh := hP 0 (by omega)
    have h20 : 18 < P 0 := by unfold t_hs at hh; omega
    rw [if_neg h, if_neg h]
    unfold t_k1
    rw [s_upd_c, if_pos ⟨rfl, rfl⟩, t_bc_o (Or.inl h20), s_upd_c, if_pos ⟨rfl, rfl⟩]
    rfl
theorem kp_hs {P : Nat → Nat} {m : Nat} (hP : ∀ j, j < 6 → t_hs (P j)) : ∀ j, j < 6 → t_hs (t_kP P m j) := by
  intro j hj
  unfold t_kP
  by_cases h : m < 6
  · rw [if_pos h]; exact hP j hj
  · rw [if_neg h]
    unfold t_rot
    by_cases h5 : j < 5
    · rw [if_pos h5]; exact hP _ (by omega)
    · rw [if_neg h5, if_pos (by omega)]; exact hP 0 (by omega)
section QCALL
variable {Z : Nat → Nat → Int32} {P : Nat → Nat} {L n m q : Nat}
theorem kz_lo (hQ : K_Q Z P n m q) {c : Nat} (hc : c < 18) : t_kZ Z P m c = Z c := t_kZ_o hQ.2.2.1.2.2 (Or.inl hc)
theorem kz_J (hQ : K_Q Z P n m q) : K_J (t_kZ Z P m) n := K_J_congr hQ.1 (by rw [kz_lo hQ (by decide)]) (kz_lo hQ (by decide)) (kz_lo hQ (by decide)) (kz_lo hQ (by decide)) (kz_lo hQ (by decide))
theorem kz_p (hQ : K_Q Z P n m q) : k_p (t_kZ Z P m) n = k_p Z n := by
  unfold k_p
  rw [kz_lo hQ (by decide), kz_lo hQ (by decide)]
theorem chg_Q (hQ : K_Q Z P n m q) {C : Nat → Nat → Int32} {n2 q2 : Nat} (hC : ∀ c, c < 3 ∨ 18 ≤ c → C c = t_kZ Z P m c) (hJ : K_J C n2) (h7 : 0 ≤ C 7 0 ∧ 0 ≤ C 7 1 ∧ C 7 2 = nI q2 ∧ q2 ≤ 9) : K_Q C (t_kP P m) n2 (k_m2 m) q2 := by
  refine ⟨hJ, h7, ⟨?_, ?_, kp_hs hQ.2.2.1.2.2⟩, ?_, ?_⟩
  · unfold k_m2
    split <;> omega
  · rw [hC 18 (by omega)]
    exact kz_18 hQ.2.2.1.1 hQ.2.2.1.2.1 hQ.2.2.1.2.2
  · rw [hC 1 (by omega), kz_lo hQ (by decide)]; exact hQ.2.2.2.1
  · rw [hC 2 (by omega), kz_lo hQ (by decide)]; exact hQ.2.2.2.2
theorem y_nmn {k : Nat} (h : k ≤ 999) : 0 ≤ nI k ∧ nI k ≤ 999 := ⟨nI_pos' (by omega), nI_leI (a := k) (b := 999) (by omega) (by omega) |>.mpr h⟩
theorem y_ge {a b : Int32} : ¬ y_mx a b < b := by
  unfold y_mx
  by_cases h : a < b
  · rw [if_pos h]; exact Int32.lt_irrefl
  · rw [if_neg h]; exact h
theorem rm_none (hJ : K_J Z n) {key : Int32} (h : t_rm Z n key = false) : n = 60 ∧ t_fn (Z 9) (Z 17) n key = none := by
  unfold t_rm at h
  rw [Bool.or_eq_false_iff, decide_eq_false_iff_not] at h
  have hn := hJ.2.1
  refine ⟨by omega, ?_⟩
  unfold t_fn
  cases hq : t_nd (Z 9) n key with
  | none => rfl
  | some j => rw [hq] at h; exact absurd h.2 (by simp)
theorem q_put (hQ : K_Q Z P n m q) {k vl : Nat} (hk : k ≤ 999) (hv : vl ≤ 999) :
    (n = 60 ∧ t_fn (Z 9) (Z 17) n (nI k) = none ∧ c_wc Z n (nI k) = -4 ∧ m_r 58 [.ref 4, .int (nI k), .int (nI vl)] (hp Z P L) (some (.int (-4))) (hp Z P L)) ∨
    ∃ Z2 P2 n2 m2 w cnt, K_Q Z2 P2 n2 m2 q ∧ m_r 58 [.ref 4, .int (nI k), .int (nI vl)] (hp Z P L) (some (.int (nI w))) (hp Z2 P2 L) ∧ w ≤ 60 ∧ c_wc Z n (nI k) = nI w ∧ Z2 5 7 = Z 5 7 + nI w ∧ k_p Z2 n2 = k_p Z n + nI (cnt * q) ∧ (1 ≤ cnt ∧ cnt ≤ 60) ∧ c_val Z2 n2 (nI k) = nI vl ∧ t_sm (Z2 17) 0 n2 0 = t_sm (Z 17) 0 n 0 + (if t_fn (Z 9) (Z 17) n (nI k) = none then 1 else 0) ∧ (w = 0 ∨ ¬ Z2 5 10 < nI w) := by
  obtain ⟨hJ, ⟨s1, s2, s3, s4⟩, ⟨h1, h2, h3⟩, h4, h5⟩ := id hQ
  have hkk := y_nmn hk
  have hvv := y_nmn hv
  have x := x_putin (L := L) (key := nI k) (value := nI vl) hJ.1 hJ.2.1 hJ.2.2.2.2.1 h3 h2 h1
  unfold c_put at x
  rw [if_pos ⟨y_nmt hkk, y_nmt hvv⟩] at x
  have hz := fun (c : Nat) (hc : c < 18) => kz_lo hQ hc
  cases hr : t_rm Z n (nI k) with
  | false =>
    left
    obtain ⟨e1, e2⟩ := rm_none hJ hr
    rw [if_neg (by rw [hr]; decide)] at x
    refine ⟨e1, e2, ?_, x⟩
    unfold c_wc
    rw [if_pos (y_nmt hkk), if_neg (by rw [hr]; decide)]
  | true =>
    right
    rw [if_pos hr] at x
    have hr2 : t_rm (t_kZ Z P m) n (nI k) = true := by
      unfold t_rm at hr ⊢
      rw [hz 9 (by decide)]
      exact hr
    obtain ⟨n2, w, cnt, e1, e2, e3, e4, e5, e6, e7, e8, e9, e10⟩ := en_J (kz_J hQ) (q := q) (key := nI k) (value := nI vl) (by rw [hz 7 (by decide)]; exact s3) (by rw [hz 7 (by decide)]; exact s1) hkk hvv hr2
    have hf : ∀ c, c < 3 ∨ 18 ≤ c → (t_en (t_kZ Z P m) n (nI k) (nI vl)).2 c = t_kZ Z P m c := fun c hc => t_en_x (cl_out (by omega)).1 (cl_out (by omega)).2
    have h7 : (t_en (t_kZ Z P m) n (nI k) (nI vl)).2 7 = Z 7 := by rw [t_en_x (by unfold t_cl; omega) (by decide), hz 7 (by decide)]
    have hcs : t_cs (t_kZ Z P m) n (nI k) = t_cs Z n (nI k) := by
      unfold t_cs t_H t_L
      rw [hz 9 (by decide), hz 15 (by decide), hz 7 (by decide)]
    dsimp only at x
    rw [e1] at x
    generalize (t_en (t_kZ Z P m) n (nI k) (nI vl)).2 = C at *
    refine ⟨C, t_kP P m, n2, k_m2 m, w, cnt, chg_Q hQ hf e4 (by rw [h7]; exact ⟨s1, s2, s3, s4⟩), x, e2, ?_, by rw [e5, hz 5 (by decide)], by rw [e6, kz_p hQ], e7, val_in e4 (y_nmt hkk) e8, ?_, ?_⟩
    · unfold c_wc
      rw [if_pos (y_nmt hkk), if_pos hr, ← hcs, e3]
    · rw [e9, hz 9 (by decide), hz 17 (by decide)]
    · rcases e10 with h | h
      · exact Or.inl h
      · right
        rw [h]
        exact y_ge
theorem q_rem (hQ : K_Q Z P n m q) {k : Nat} (hk : k ≤ 999) :
    (t_fn (Z 9) (Z 17) n (nI k) = none ∧ m_r 59 [.ref 4, .int (nI k)] (hp Z P L) (some (.int (-1))) (hp Z P L)) ∨
    (¬ t_fn (Z 9) (Z 17) n (nI k) = none ∧ ∃ Z2 P2 n2 m2 w cnt, K_Q Z2 P2 n2 m2 q ∧ m_r 59 [.ref 4, .int (nI k)] (hp Z P L) (some (.int (nI w))) (hp Z2 P2 L) ∧ w ≤ 60 ∧ Z2 5 7 = Z 5 7 + nI w ∧ k_p Z2 n2 = k_p Z n + nI (cnt * q) ∧ (1 ≤ cnt ∧ cnt ≤ 60) ∧ c_val Z2 n2 (nI k) = -6 ∧ t_sm (Z2 17) 0 n2 0 = t_sm (Z 17) 0 n 0 - 1 ∧ (w = 0 ∨ nI n2 = t_sm (Z2 17) 0 n2 0)) := by
  obtain ⟨hJ, ⟨s1, s2, s3, s4⟩, ⟨h1, h2, h3⟩, h4, h5⟩ := id hQ
  have hkk := y_nmn hk
  have x := x_rem (L := L) (key := nI k) hJ.1 hJ.2.1 hJ.2.2.2.2.1 h3 h2 h1
  unfold c_rem at x
  rw [if_pos (y_nmt hkk)] at x
  have hz := fun (c : Nat) (hc : c < 18) => kz_lo hQ hc
  by_cases hfn : t_fn (Z 9) (Z 17) n (nI k) = none
  · rw [if_pos hfn] at x
    exact Or.inl ⟨hfn, x⟩
  · right
    rw [if_neg hfn] at x
    obtain ⟨j, hj⟩ := Option.ne_none_iff_exists'.mp hfn
    obtain ⟨n2, w, cnt, e1, e2, e4, e5, e6, e7, e8, e9, e10⟩ := hl_J (kz_J hQ) (q := q) (key := nI k) (j := j) (by rw [hz 7 (by decide)]; exact s3) (by rw [hz 9 (by decide), hz 17 (by decide)]; exact hj)
    have hf : ∀ c, c < 3 ∨ 18 ≤ c → (t_hl (t_kZ Z P m) n (nI k)).2 c = t_kZ Z P m c := fun c hc => t_hl_x (cl_out (by omega)).1 (cl_out (by omega)).2
    have h7 : (t_hl (t_kZ Z P m) n (nI k)).2 7 = Z 7 := by rw [t_hl_x (by unfold t_cl; omega) (by decide), hz 7 (by decide)]
    dsimp only at x
    rw [e1] at x
    generalize (t_hl (t_kZ Z P m) n (nI k)).2 = C at *
    refine ⟨hfn, C, t_kP P m, n2, k_m2 m, w, cnt, chg_Q hQ hf e4 (by rw [h7]; exact ⟨s1, s2, s3, s4⟩), x, e2, by rw [e5, hz 5 (by decide)], by rw [e6, kz_p hQ], e7, val_out (y_nmt hkk) e8, ?_, e10⟩
    rw [hz 17 (by decide)] at e9
    rw [← e9, Int32.add_sub_cancel]
theorem q_reb (hQ : K_Q Z P n m q) {k : Nat} (hk : k ≤ 999) :
    (t_fn (Z 9) (Z 17) n (nI k) = none ∧ m_r 60 [.ref 4, .int (nI k)] (hp Z P L) (some (.int (-1))) (hp Z P L)) ∨
    (∃ Z2 P2 n2 m2 w, K_Q Z2 P2 n2 m2 q ∧ m_r 60 [.ref 4, .int (nI k)] (hp Z P L) (some (.int (nI w))) (hp Z2 P2 L) ∧ w ≤ 60 ∧ Z2 5 7 = Z 5 7 + nI w ∧ k_p Z2 n2 = k_p Z n ∧ t_sm (Z2 17) 0 n2 0 = t_sm (Z 17) 0 n 0) := by
  obtain ⟨hJ, ⟨s1, s2, s3, s4⟩, ⟨h1, h2, h3⟩, h4, h5⟩ := id hQ
  have hkk := y_nmn hk
  have x := x_reb (L := L) (key := nI k) hJ.1 hJ.2.1 hJ.2.2.2.2.1 h3 h2 h1
  unfold c_reb at x
  rw [if_pos (y_nmt hkk)] at x
  have hz := fun (c : Nat) (hc : c < 18) => kz_lo hQ hc
  cases hnd : t_nd (Z 9) n (nI k) with
  | none =>
    rw [if_pos hnd] at x
    refine Or.inl ⟨?_, x⟩
    unfold t_fn
    rw [hnd]
  | some j =>
    right
    rw [if_neg (by rw [hnd]; simp)] at x
    obtain ⟨hj, -⟩ := t_nd_lt hnd
    unfold t_lk at x
    rw [hz 9 (by decide), hnd] at x
    dsimp only at x
    obtain ⟨n2, w, k1, k2, ⟨k3, k4, k5⟩, k6, k7, k8, k9, k10, -⟩ := la_J (kz_J hQ) hj
    have hf : ∀ c, c < 3 ∨ 18 ≤ c → t_la (t_kZ Z P m) n j c = t_kZ Z P m c := fun c hc => t_la_x (cl_out (by omega)).1 (cl_out (by omega)).2
    have h7 : t_la (t_kZ Z P m) n j 7 = Z 7 := by rw [t_la_x (by unfold t_cl; omega) (by decide), hz 7 (by decide)]
    have hn := hJ.2.1
    rw [k2] at x
    generalize t_la (t_kZ Z P m) n j = C at *
    exact ⟨C, t_kP P m, n2, k_m2 m, w, chg_Q hQ hf k1 (by rw [h7]; exact ⟨s1, s2, s3, s4⟩), x, by omega, by rw [k6, hz 5 (by decide)], by rw [k8, kz_p hQ], by rw [k9, hz 17 (by decide)]⟩
theorem t_st_n {j : Nat} (hj : j < 3) : t_st (nI j) = some j := by
  unfold t_st
  rw [if_pos ⟨nI_pos' (by omega), nI_lt (b := 3) hj (by decide)⟩, nI_clamp (by omega)]
def k_lo (j : Nat) : Nat := if j = 0 then 55 else if j = 1 then 10 else 0
def k_hi (j : Nat) : Nat := if j = 0 then 95 else if j = 1 then 90 else 9
theorem q_set (hQ : K_Q Z P n m q) {j v : Nat} (hj : j < 3) (h1 : k_lo j ≤ v) (h2 : v ≤ k_hi j) :
    ∃ Z2 P2 m2 q2, K_Q Z2 P2 n m2 q2 ∧ m_r 57 [.ref 4, .int (nI j), .int (nI v)] (hp Z P L) (some (.int (Z 7 j))) (hp Z2 P2 L) ∧ ¬ Z 7 j < 0 ∧ k_p Z2 n = k_p Z n := by
  obtain ⟨hJ, ⟨s1, s2, s3, s4⟩, ⟨g1, g2, g3⟩, g4, g5⟩ := id hQ
  have x := x_set (L := L) (s := nI j) (v := nI v) hJ.1 hJ.2.1 hJ.2.2.2.2.1 g3 g2 g1
  have hz := fun (c : Nat) (hc : c < 18) => kz_lo hQ hc
  unfold c_set at x
  rw [t_st_n hj] at x
  dsimp only at x
  have hb : Z 1 j = nI (k_lo j) ∧ Z 2 j = nI (k_hi j) ∧ k_hi j ≤ 100 ∧ ¬ Z 7 j < 0 := by
    rw [g4, g5]
    unfold s_3 k_lo k_hi
    rcases (by omega : j = 0 ∨ j = 1 ∨ j = 2) with h | h | h
    · subst h; exact ⟨rfl, rfl, by decide, Int32.not_lt.mpr s1⟩
    · subst h; exact ⟨rfl, rfl, by decide, Int32.not_lt.mpr s2⟩
    · subst h; exact ⟨rfl, rfl, by decide, by rw [s3]; exact nI_pos (by omega)⟩
  obtain ⟨b1, b2, b3, b4⟩ := hb
  rw [if_pos ⟨by rw [b1]; exact nI_le h1 (by omega), by rw [b2]; exact nI_le h2 (by omega)⟩] at x
  dsimp only at x
  have ho : ∀ c, c ≠ 7 → s_upd (t_kZ Z P m) 7 j (nI v) c = t_kZ Z P m c := fun c hc => s_upd_o hc
  have h7 : ∀ i, s_upd (t_kZ Z P m) 7 j (nI v) 7 i = if i = j then nI v else Z 7 i := fun i => by
    rw [s_upd_c]
    by_cases h : i = j
    · rw [if_pos ⟨rfl, h⟩, if_pos h]
    · rw [if_neg (fun z => h z.2), if_neg h, hz 7 (by decide)]
  generalize s_upd (t_kZ Z P m) 7 j (nI v) = C at *
  refine ⟨C, t_kP P m, k_m2 m, if j = 2 then v else q, chg_Q hQ (fun c hc => ho c (by omega)) (K_J_congr (kz_J hQ) (by rw [ho 5 (by decide)]) (ho 9 (by decide)) (ho 11 (by decide)) (ho 15 (by decide)) (ho 17 (by decide))) ?_, x, b4, ?_⟩
  · rw [h7 0, h7 1, h7 2]
    have hv : v < 2 ^ 31 := by omega
    unfold k_hi at h2
    rcases (by omega : j = 0 ∨ j = 1 ∨ j = 2) with h | h | h
    · subst h; exact ⟨nI_pos' hv, s2, s3, s4⟩
    · subst h; exact ⟨s1, nI_pos' hv, s3, s4⟩
    · subst h; exact ⟨s1, s2, rfl, h2⟩
  · unfold k_p
    rw [ho 5 (by decide), ho 13 (by decide), hz 5 (by decide), hz 13 (by decide)]
end QCALL
