/-! isTree: the rounds (by hand) -/
def w_F (Z : Nat → Nat → Int32) (P : Nat → Nat) (L pc : Nat) (ls : List Value) (Zh : Nat → Nat → Int32) : Prop := ∃ Z2, (∀ c, c < 131 → Z2 c = Z c) ∧ e_r 93 pc ls [] (hp Zh P L) (some (.int 1)) (hp Z2 P L)
theorem ktp_in {Z : Nat → Nat → Int32} {n d l u : Nat} (hJ : K_J Z n) (h : CT (Z 15) n d l u) (hlu : l < u) : ∃ t, t_tp (Z 15) (nI d) l (u - 1 - l) = t ∧ l ≤ t ∧ t < u ∧ t < n ∧ t_ktp Z l u (nI d) = Z 9 t := by
  obtain ⟨t, q0, ⟨q1, q2, q3⟩, -⟩ := part_J hJ h hlu
  refine ⟨t, q0, q1, q2, by omega, ?_⟩
  unfold t_ktp
  rw [if_neg (by omega), q0]
theorem ktp_nil {Z : Nat → Nat → Int32} {l : Nat} {d : Int32} : t_ktp Z l l d = -6 := if_pos (Nat.le_refl l)
section LOOP
variable {Z : Nat → Nat → Int32} {P : Nat → Nat} {L n r : Nat} {a3 a4 a5 a6 a7 a8 : Int32} {key lk rk F0 : Int32} {d W0 H0 B0 lo hi : Nat} {S : List w_T}
theorem w_put (hlt : lo < hi) (hC : CT (Z 15) n (d + 1) lo hi) {Zh : Nat → Nat → Int32} (hS : w_ok Z n (Zh r) S) {tc : Nat} (htc : t_tp (Z 15) (nI (d + 1)) lo (hi - 1 - lo) = tc) : w_pu (d + 1) lo hi S = (d + 1, lo, hi) :: S ∧ w_ok Z n (s_upd Zh r S.length (Z 9 tc) r) ((d + 1, lo, hi) :: S) := by
  refine ⟨if_pos hlt, hlt, hC, ?_, w_ok_congr S (fun i hi => ?_) hS⟩
  · rw [s_upd_c, if_pos ⟨rfl, rfl⟩]
    show _ = Z 9 (t_tp (Z 15) (nI (d + 1)) lo (hi - 1 - lo))
    rw [htc]
  · rw [s_upd_c, if_neg (by omega)]
theorem x_side0 (hr : 131 ≤ r) (hsh : s_nth (s_SH L) r = some (1, 62)) (hJ : K_J Z n) {Zh : Nat → Nat → Int32} {y19 y20 : Value} (hC : CT (Z 15) n (d + 1) lo hi) (hle : lo ≤ hi) (hord : ∀ j, lo ≤ j → j < hi → Z 9 j < key) (hV : K_V Zh Z n) (hS : w_ok Z n (Zh r) S) (hm : S.length < 62) (hb : W0 ≤ 100 ∧ H0 ≤ 100 ∧ B0 ≤ 100)
    (kk : ∀ (Zh2 : Nat → Nat → Int32) (y19 y20 : Value), K_V Zh2 Z n → w_ok Z n (Zh2 r) (w_pu (d + 1) lo hi S) → w_F Z P L 194 [.ref 4, .ref r, .int (nI (w_pu (d + 1) lo hi S).length), .int a3, .int a4, .int a5, .int a6, .int a7, .int a8, .int 1, .int key, .int (t_ktp Z lo hi (nI (d + 1))), .int rk, .int (nI d), .int (nI (W0 + (hi - lo))), .int (nI (max H0 (hi - lo))), .int (F0 + t_sm (Z 17) lo (hi - lo) 0), .int (nI (max B0 (k_h Z d lo hi))), .int 1, y19, y20] Zh2) :
    w_F Z P L 194 [.ref 4, .ref r, .int (nI S.length), .int a3, .int a4, .int a5, .int a6, .int a7, .int a8, .int 1, .int key, .int (t_ktp Z lo hi (nI (d + 1))), .int rk, .int (nI d), .int (nI W0), .int (nI H0), .int F0, .int (nI B0), .int 0, y19, y20] Zh := by
  by_cases hlt : lo < hi
  · obtain ⟨tc, t0, t1, t2, t3, t4⟩ := ktp_in hJ hC hlt
    obtain ⟨u, u0, ⟨u1, u2, u3⟩, -, -, -, -, -, -, -, v2, v3, -, v6, -, v8⟩ := part_J hJ hC hlt
    obtain rfl : u = tc := by rw [← u0, t0]
    obtain ⟨p1, p2⟩ := w_put (r := r) hlt hC hS u0
    have hh := k_h_b (d := d + 1) (l := lo) (u := hi) hJ (by have := hC.2.2.1; omega) u3
    have hn := hJ.2.1
    rw [p1, t4, k_h_up hJ hC hlt] at kk
    obtain ⟨Z2, hz, h⟩ := kk _ (.int (Z 9 u)) (.int (nI (hi - lo))) (v_put hV hr) p2
    rw [t4]
    refine ⟨Z2, hz, x_s0 hr hsh hm (by omega) (y_ne6 (hJ.2.2.1 u t3)) (hord u u1 u2) ?_ ?_ ?_ ?_ h⟩
    · rw [← v2]; exact v_node hV t3 (k := 2) (by decide)
    · rw [← v6]; exact v_node hV t3 (k := 6) (by decide)
    · rw [← v8]; exact v_node hV t3 (k := 8) (by decide)
    · rw [← v3]; exact v_node hV t3 (k := 3) (by decide)
  · obtain rfl : hi = lo := by omega
    have e : w_pu (d + 1) hi hi S = S := if_neg hlt
    rw [e, Nat.sub_self, ktp_nil, k_h_nil, Nat.add_zero, Nat.max_zero, Nat.max_zero] at kk
    obtain ⟨Z2, hz, h⟩ := kk Zh (.int (-6)) y20 hV hS
    rw [show F0 + t_sm (Z 17) hi 0 0 = F0 from Int32.add_zero F0] at h
    rw [ktp_nil]
    exact ⟨Z2, hz, x_n0 (lk := 0) h⟩
theorem x_side1 (hr : 131 ≤ r) (hsh : s_nth (s_SH L) r = some (1, 62)) (hJ : K_J Z n) {Zh : Nat → Nat → Int32} {y19 y20 : Value} (hC : CT (Z 15) n (d + 1) lo hi) (hle : lo ≤ hi) (hord : ∀ j, lo ≤ j → j < hi → key < Z 9 j) (hV : K_V Zh Z n) (hS : w_ok Z n (Zh r) S) (hm : S.length < 62) (hb : W0 ≤ 100 ∧ H0 ≤ 100 ∧ B0 ≤ 100)
    (kk : ∀ (Zh2 : Nat → Nat → Int32) (y19 y20 : Value), K_V Zh2 Z n → w_ok Z n (Zh2 r) (w_pu (d + 1) lo hi S) → w_F Z P L 194 [.ref 4, .ref r, .int (nI (w_pu (d + 1) lo hi S).length), .int a3, .int a4, .int a5, .int a6, .int a7, .int a8, .int 1, .int key, .int lk, .int (t_ktp Z lo hi (nI (d + 1))), .int (nI d), .int (nI (W0 + (hi - lo))), .int (nI (max H0 (hi - lo))), .int (F0 + t_sm (Z 17) lo (hi - lo) 0), .int (nI (max B0 (k_h Z d lo hi))), .int 2, y19, y20] Zh2) :
    w_F Z P L 194 [.ref 4, .ref r, .int (nI S.length), .int a3, .int a4, .int a5, .int a6, .int a7, .int a8, .int 1, .int key, .int lk, .int (t_ktp Z lo hi (nI (d + 1))), .int (nI d), .int (nI W0), .int (nI H0), .int F0, .int (nI B0), .int 1, y19, y20] Zh := by
  by_cases hlt : lo < hi
  · obtain ⟨tc, t0, t1, t2, t3, t4⟩ := ktp_in hJ hC hlt
    obtain ⟨u, u0, ⟨u1, u2, u3⟩, -, -, -, -, -, -, -, v2, v3, -, v6, -, v8⟩ := part_J hJ hC hlt
    obtain rfl : u = tc := by rw [← u0, t0]
    obtain ⟨p1, p2⟩ := w_put (r := r) hlt hC hS u0
    have hh := k_h_b (d := d + 1) (l := lo) (u := hi) hJ (by have := hC.2.2.1; omega) u3
    have hn := hJ.2.1
    rw [p1, t4, k_h_up hJ hC hlt] at kk
    obtain ⟨Z2, hz, h⟩ := kk _ (.int (Z 9 u)) (.int (nI (hi - lo))) (v_put hV hr) p2
    rw [t4]
    refine ⟨Z2, hz, x_s1 hr hsh hm (by omega) (y_ne6 (hJ.2.2.1 u t3)) (hord u u1 u2) ?_ ?_ ?_ ?_ h⟩
    · rw [← v2]; exact v_node hV t3 (k := 2) (by decide)
    · rw [← v6]; exact v_node hV t3 (k := 6) (by decide)
    · rw [← v8]; exact v_node hV t3 (k := 8) (by decide)
    · rw [← v3]; exact v_node hV t3 (k := 3) (by decide)
  · obtain rfl : hi = lo := by omega
    have e : w_pu (d + 1) hi hi S = S := if_neg hlt
    rw [e, Nat.sub_self, ktp_nil, k_h_nil, Nat.add_zero, Nat.max_zero, Nat.max_zero] at kk
    obtain ⟨Z2, hz, h⟩ := kk Zh (.int (-6)) y20 hV hS
    rw [show F0 + t_sm (Z 17) hi 0 0 = F0 from Int32.add_zero F0] at h
    rw [ktp_nil]
    exact ⟨Z2, hz, x_n1 (rk := 0) h⟩
end LOOP
theorem y_thw {lean : Int32} {a c : Nat} (ha : a ≤ 100) (hc : c ≤ 100) : y_th lean (nI a) (nI c) = decide (lean * nI (1 + a + c) < 100 * nI (max (max 0 a) c)) := by
  unfold y_th
  have e1 : (if nI a < nI c then nI c else nI a) = nI (max (max 0 a) c) := by
    have := y_mx_n (a := a) (b := c) (by omega) (by omega)
    unfold y_mx at this
    rw [this, Nat.zero_max]
  rw [e1, nI_add, nI_1, show a + c + 1 = 1 + a + c by omega]
theorem x_loop {Z : Nat → Nat → Int32} {P : Nat → Nat} {L n r : Nat} (hr : 131 ≤ r) (hsh : s_nth (s_SH L) r = some (1, 62)) (hJ : K_J Z n) : ∀ (k : Nat) (S : List w_T) (Zh : Nat → Nat → Int32) (a3 a4 a5 a6 a7 a8 : Int32) (y10 y11 y12 y13 y14 y15 y16 y17 y18 y19 y20 : Value), w_sz S = k → k ≤ 60 → K_V Zh Z n → w_ok Z n (Zh r) S → w_I Z n S a3 a4 a5 a6 a7 a8 → w_F Z P L 84 [.ref 4, .ref r, .int (nI S.length), .int a3, .int a4, .int a5, .int a6, .int a7, .int a8, .int 1, y10, y11, y12, y13, y14, y15, y16, y17, y18, y19, y20] Zh := by
  intro k
  induction k with
  | zero =>
    intro S Zh a3 a4 a5 a6 a7 a8 y10 y11 y12 y13 y14 y15 y16 y17 y18 y19 y20 hk h60 hV hS hI
    cases S with
    | nil => exact ⟨Zh, hV.2, x_p5 hV hI⟩
    | cons s S =>
      have h1 := hS.1
      simp only [w_sz] at hk
      omega
  | succ k ih =>
    intro S Zh a3 a4 a5 a6 a7 a8 y10 y11 y12 y13 y14 y15 y16 y17 y18 y19 y20 hk h60 hV hS hI
    cases S with
    | nil => cases hk
    | cons s S =>
      obtain ⟨d, l, u⟩ := s
      obtain ⟨g1, g2, g3, g4⟩ := hS
      have g1 : l < u := g1
      have g2 : CT (Z 15) n d l u := g2
      have hk : u - l + w_sz S = k + 1 := hk
      obtain ⟨t, q0, ⟨q1, q2, q3⟩, ⟨q4, q5⟩, q6, q7, q8, q9, v0, v1, v2, v3, v5, v6, v7, v8⟩ := part_J hJ g2 g1
      have g3 : Zh r S.length = Z 9 (t_tp (Z 15) (nI d) l (u - 1 - l)) := g3
      rw [q0] at g3
      have hlen := w_len S g4
      have htn : t < n := by omega
      have hn := hJ.2.1
      have hstep := w_I_step hI q1 q2 q7
      have hsz : w_sz (w_pu (d + 1) (t + 1) u (w_pu (d + 1) l t S)) = k := by
        rw [w_pu_sz (by omega), w_pu_sz q1]
        omega
      have hb1 := k_h_b (d := d) (l := l) (u := t) hJ (by omega) (by omega)
      have hb2 := k_h_b (d := d) (l := t + 1) (u := u) hJ (by omega) q3
      rw [q8] at hstep
      obtain ⟨Z2, hz, h⟩ : w_F Z P L 194 [.ref 4, .ref r, .int (nI S.length), .int (a3 + 1), .int (a4 + Z 17 t), .int (a5 + nI (u - l)), .int (a6 + nI d), .int (y_mx a7 (nI d)), .int a8, .int 1, .int (Z 9 t), .int (t_ktp Z l t (nI (d + 1))), .int (t_ktp Z (t + 1) u (nI (d + 1))), .int (nI d), .int (nI 1), .int (nI 0), .int (Z 17 t), .int (nI 0), .int 0, y19, y20] Zh := by
        refine x_side0 hr hsh hJ q4 q1 (fun j _ b => hJ.2.2.2.1 j t b htn) hV g4 (by omega) (by omega) ?_
        intro Zh2 z19 z20 hV2 hS2
        have hl1 : (w_pu (d + 1) l t S).length ≤ S.length + 1 := by
          unfold w_pu
          split
          · simp only [List.length_cons]; omega
          · omega
        refine x_side1 hr hsh hJ q5 (by omega) (fun j a b => hJ.2.2.2.1 t j (by omega) (by omega)) hV2 hS2 (by omega) (by omega) ?_
        intro Zh3 x19 x20 hV3 hS3
        obtain ⟨Z4, hz4, h4⟩ := ih _ Zh3 _ _ _ _ _ _ (.int (Z 9 t)) (.int (t_ktp Z l t (nI (d + 1)))) (.int (t_ktp Z (t + 1) u (nI (d + 1)))) (.int (nI d)) (.int (nI (1 + (t - l) + (u - (t + 1))))) (.int (nI (max (max 0 (t - l)) (u - (t + 1))))) (.int (Z 17 t + t_sm (Z 17) l (t - l) 0 + t_sm (Z 17) (t + 1) (u - (t + 1)) 0)) (.int (nI (max (max 0 (k_h Z d l t)) (k_h Z d (t + 1) u)))) (.int (y_b (t_ln Z n t))) x19 x20 hsz (by omega) hV3 hS3 hstep
        refine ⟨Z4, hz4, x_p4 (lean := Z 7 0) (vv := if Z 17 t = 1 then Z 11 t else -6) (f5 := Z 17 t) (b := t_ln Z n t) ?_ ?_ (v_c10 hV3) ?_ ?_ ?_ ?_ (v_val hV3 htn) ?_ h4⟩
        · rw [q9, show u - 1 - t = u - (t + 1) by omega]
          exact y_thw (by omega) (by omega)
        · rcases hJ.2.2.2.2.1 t htn with z | z
          · exact Or.inl ⟨if_neg (by rw [z]; decide), z⟩
          · exact Or.inr ⟨by rw [if_pos z]; exact y_ne6 (hJ.2.2.2.2.2.1 t htn), z⟩
        · rw [show 1 + (t - l) + (u - (t + 1)) = u - l by omega, ← v2]
          exact v_node hV3 htn (k := 2) (by decide)
        · rw [Int32.add_assoc, ← sp_split q1 q2, ← v6]
          exact v_node hV3 htn (k := 6) (by decide)
        · rw [Nat.zero_max, ← k_h_split hJ q1 q2 q3 q7 q6, ← v8]
          exact v_node hV3 htn (k := 8) (by decide)
        · rw [q9, ← v7]
          exact v_node hV3 htn (k := 7) (by decide)
        · have z := v_node (P := P) (L := L) hV3 htn (k := 5) (by decide)
          rw [v5] at z
          exact z
      have m0 := v_node (P := P) (L := L) hV htn (k := 0) (by decide)
      have m1 := v_node (P := P) (L := L) hV htn (k := 1) (by decide)
      have m3 := v_node (P := P) (L := L) hV htn (k := 3) (by decide)
      have m5 := v_node (P := P) (L := L) hV htn (k := 5) (by decide)
      have m2 := v_node (P := P) (L := L) hV htn (k := 2) (by decide)
      rw [v0] at m0
      rw [v1] at m1
      rw [v3] at m3
      rw [v5] at m5
      rw [v2] at m2
      exact ⟨Z2, hz, x_p0 hr hsh (by omega) g3 m0 m1 m3 m5 m2 h⟩
/-- the whole of isTree: it holds; a row more, the tree as it was -/
theorem x_tree {Z : Nat → Nat → Int32} {P : Nat → Nat} {L n : Nat} (hJ : K_J Z n) : ∃ Z2, (∀ c, c < 131 → Z2 c = Z c) ∧ m_r 93 [.ref 4] (hp Z P L) (some (.int 1)) (hp Z2 P (L + 512)) := by
  have hsh : s_nth (s_SH (L + 512)) (131 + L / 512) = some (1, 62) := s_SHr (by omega)
  have hV : K_V (r_new Z (131 + L / 512)) Z n := ⟨hJ, fun c hc => r_new_o hc (by omega)⟩
  have hn := hJ.2.1
  rcases Nat.eq_zero_or_pos n with h0 | h0
  · obtain ⟨Z2, hz, h⟩ := x_loop (P := P) (by omega) hsh hJ 0 [] _ 0 0 0 0 (-6) 0 s_no s_no s_no s_no s_no s_no s_no s_no s_no s_no s_no rfl (by omega) hV trivial (w_I_nil h0)
    exact ⟨Z2, hz, x_p6a hV h0 h⟩
  · have hC := CT_root hJ.2.2.2.2.2.2 hn
    obtain ⟨t, q0, ⟨q1, q2, q3⟩, -, -, -, -, -, -, -, v2, v3, -⟩ := part_J hJ hC h0
    have hk : t_ktp Z 0 n 0 = Z 9 t := by
      unfold t_ktp
      rw [if_neg (by omega)]
      have q0 : t_tp (Z 15) 0 0 (n - 1 - 0) = t := q0
      rw [q0]
    have hV2 : K_V (s_upd (r_new Z (131 + L / 512)) (131 + L / 512) 0 (Z 9 t)) Z n := v_put hV (by omega)
    obtain ⟨Z2, hz, h⟩ := x_loop (P := P) (by omega) hsh hJ n [(0, 0, n)] _ 0 0 0 0 (-6) 0 s_no s_no s_no s_no s_no s_no s_no s_no s_no s_no s_no (by simp only [w_sz]; omega) hn hV2 ⟨h0, hC, by
      show s_upd (r_new Z (131 + L / 512)) (131 + L / 512) 0 (Z 9 t) (131 + L / 512) 0 = Z 9 (t_tp (Z 15) (nI 0) 0 (n - 1 - 0))
      rw [s_upd_c, if_pos ⟨rfl, rfl⟩, q0], trivial⟩ (w_I_0 hJ h0)
    exact ⟨Z2, hz, x_p6b hV h0 hn (by omega) hk v3 v2 h⟩
