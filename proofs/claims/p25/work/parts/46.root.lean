/-! The root rebuilt, and that taken back (by hand) -/
def k_b (c : Nat) : Nat := if c = 0 then 0 else Nat.log2 c + 1
theorem k_b_le : ∀ c, c < 61 → k_b c ≤ 6 := by decide +kernel
theorem k_b_sh : ∀ c, c < 61 → ∀ i, i < 7 → (nI c < (1 : Int32) <<< (nI i &&& 31) ↔ k_b c ≤ i) := by decide +kernel
theorem de_ok : (List.range 61).all (fun c => (List.range c).all (fun y => Nat.ble (t_de y c) 100)) = true := by decide +kernel
theorem de_mx : (List.range 61).all (fun c => Nat.beq c 0 || Nat.beq (n_mx (fun y => t_de y c) 0 c (t_de 0 c)) (Nat.log2 c)) = true := by decide +kernel
theorem de_le {c y : Nat} (hc : c ≤ 60) (hy : y < c) : t_de y c ≤ 100 := Nat.le_of_ble_eq_true (List.all_eq_true.mp (List.all_eq_true.mp de_ok c (List.mem_range.mpr (by omega))) y (List.mem_range.mpr hy))
theorem de_log {c : Nat} (hc : c ≤ 60) (h0 : 0 < c) : n_mx (fun y => t_de y c) 0 c (t_de 0 c) = Nat.log2 c := by
  have h := List.all_eq_true.mp de_mx c (List.mem_range.mpr (by omega))
  rcases (Bool.or_eq_true _ _).mp h with z | z
  · have := Nat.eq_of_beq_eq_true z
    omega
  · exact Nat.eq_of_beq_eq_true z
/-- what a kept state shows when it is taken back -/
theorem take_back {Z W : Nat → Nat → Int32} {P : Nat → Nat} {n m q : Nat} (hQ : K_Q Z P n m q) (hW : ∀ c, 18 ≤ c → W c = t_kZ Z P m c) : ∃ k, k_m2 m = k + 1 ∧ k < 6 ∧ (t_tk W (t_kP P m) (k + 1)).2 18 1 = nI k ∧ (t_tk W (t_kP P m) (k + 1)).2 5 6 = nI n ∧ ∀ i, i < 60 → (t_tk W (t_kP P m) (k + 1)).2 17 i = Z 17 i := by
  obtain ⟨hJ, -, ⟨h1, h2, h3⟩, -⟩ := hQ
  have h18 := kz_18 h1 h2 h3
  obtain ⟨k, hk, hk6, x, hx, hxs, hx6, hx17⟩ : ∃ k, k_m2 m = k + 1 ∧ k < 6 ∧ ∃ x, t_kP P m k = x ∧ t_hs x ∧ t_kZ Z P m x 6 = Z 5 6 ∧ ∀ i, i < 60 → t_kZ Z P m (x + 12) i = Z 17 i := by
    by_cases h : m < 6
    · have hh := h3 m h
      have h20 : 20 ≤ P m := by unfold t_hs at hh; omega
      refine ⟨m, if_pos h, h, P m, by unfold t_kP; rw [if_pos h], hh, ?_, fun i hi => ?_⟩
      · unfold t_kZ t_k1
        rw [if_pos h, s_upd_o (by omega), t_bc_s (by omega) (by omega)]
      · unfold t_kZ t_k1
        rw [if_pos h, s_upd_o (by omega)]
        exact ((t_bc_rows (Z := Z) (x := P m) (y := 5) (by omega)).2 i hi).2.2.2.2
    · have hh := h3 0 (by omega)
      have h20 : 20 ≤ P 0 := by unfold t_hs at hh; omega
      refine ⟨5, if_neg h, by decide, P 0, by unfold t_kP; rw [if_neg h]; rfl, hh, ?_, fun i hi => ?_⟩
      · unfold t_kZ t_k1
        rw [if_neg h, s_upd_o (by omega), t_bc_s (by omega) (by omega), s_upd_o (by decide)]
      · unfold t_kZ t_k1
        rw [if_neg h, s_upd_o (by omega)]
        have := ((t_bc_rows (Z := s_upd Z 18 1 5) (x := P 0) (y := 5) (by omega)).2 i hi).2.2.2.2
        rw [this, s_upd_o (by decide)]
  have h20 : 20 ≤ x ∧ x ≤ 85 := by unfold t_hs at hxs; omega
  have hZ : (t_tk W (t_kP P m) (k + 1)).2 = s_upd (t_bc W 5 x) 18 1 (t_bc W 5 x 18 1 - 1) := by
    rw [← hx]
    rfl
  have hrows := t_bc_rows (Z := W) (x := 5) (y := x) (by omega)
  refine ⟨k, hk, hk6, ?_, ?_, fun i hi => ?_⟩
  · rw [hZ, s_upd_c, if_pos ⟨rfl, rfl⟩, t_bc_o (Or.inr (by omega)), hW 18 (by omega), h18, hk, nI_pred]
  · rw [hZ, s_upd_o (by decide), t_bc_s (by omega) (by omega), hW x (by omega), hx6]
    exact hJ.1
  · rw [hZ, s_upd_o (by decide)]
    have := (hrows.2 i hi).2.2.2.2
    rw [show t_bc W 5 x 17 i = W (x + 12) i from this, hW (x + 12) (by omega)]
    exact hx17 i hi
theorem q_root {Z : Nat → Nat → Int32} {P : Nat → Nat} {L n m q : Nat} (hQ : K_Q Z P n m q) (h0 : 0 < n) : ∃ t Z2 P2 Z3 k, t_ktp Z 0 n 0 = Z 9 t ∧ m_r 60 [.ref 4, .int (Z 9 t)] (hp Z P L) (some (.int (nI n))) (hp Z2 P2 L) ∧ K_J Z2 (k_c Z n) ∧ t_sm (Z2 13) 0 (k_c Z n) 0 = 0 ∧ (if k_c Z n = 0 then (-6 : Int32) else t_mx (Z2 15) 0 (k_c Z n) (Z2 15 0)) = (if k_c Z n = 0 then -6 else nI (k_b (k_c Z n)) - 1) ∧ m_r 76 [.ref 4] (hp Z2 P2 L) (some (.int (nI k))) (hp Z3 P2 L) ∧ k < 6 ∧ m_r 63 [.ref 4, .int 1] (hp Z3 P2 L) (some (.int (nI (k_c Z n)))) (hp Z3 P2 L) := by
  obtain ⟨hJ, ⟨s1, s2, s3, s4⟩, ⟨h1, h2, h3⟩, h4, h5⟩ := id hQ
  have hn := hJ.2.1
  have hz := fun (c : Nat) (hc : c < 18) => kz_lo hQ hc
  obtain ⟨t, q0, q1, q2, q3⟩ := root_J (kz_J hQ) h0
  have hk : t_ktp Z 0 n 0 = Z 9 t := by
    unfold t_ktp
    rw [if_neg (by omega)]
    rw [hz 15 (by decide)] at q0
    rw [q0]
  have x := x_reb (L := L) (key := Z 9 t) hJ.1 hJ.2.1 hJ.2.2.2.2.1 h3 h2 h1
  have hnd := nd_at hJ.2.2.2.1 q1
  unfold c_reb at x
  rw [if_pos (y_nmt (hJ.2.2.1 t q1)), if_neg (by rw [hnd]; simp)] at x
  unfold t_lk at x
  rw [hz 9 (by decide), hnd] at x
  dsimp only at x
  obtain ⟨n2, w, k1, k2, ⟨k3, k4, k5⟩, k6, k7, k8, k9, k10, k11⟩ := la_J (kz_J hQ) q1
  have hwn : w = n := by
    rw [q3] at k2
    exact ((nI_eq (by omega) (by omega)).mp k2).symm
  obtain ⟨e1, e2⟩ := k11 hwn
  have hcn := k_c_le (Z := Z) (n := n)
  have hn2 : n2 = k_c Z n := by
    rw [hz 17 (by decide), k_c_sum hJ] at e1
    exact (nI_eq (by omega) (by omega)).mp e1
  have hf : ∀ c, 18 ≤ c → t_la (t_kZ Z P m) n t c = t_kZ Z P m c := fun c hc => t_la_x (cl_out (by omega)).1 (cl_out (by omega)).2
  have h18 : t_la (t_kZ Z P m) n t 18 1 = nI (k_m2 m) := by
    rw [hf 18 (by omega)]
    exact kz_18 h1 h2 h3
  rw [q3] at x
  rw [q2] at e2
  generalize t_la (t_kZ Z P m) n t = C at *
  obtain ⟨k, g1, g2, g3, g4, g5⟩ := take_back hQ hf
  rw [g1] at h18
  have u := x_undo_s (L := L) (kp_hs (m := m) h3) h18 g2
  rw [g3] at u
  generalize (t_tk C (t_kP P m) (k + 1)).2 = Z3 at *
  rw [hn2] at k1 e2
  have hc60 : k_c Z n ≤ 60 := by omega
  refine ⟨t, C, t_kP P m, Z3, k, hk, x, k1, t_sm_nil _ 0 (fun y _ b => (e2 y (by omega)).1), ?_, u, g2, ?_⟩
  · generalize k_c Z n = c at *
    by_cases hc : c = 0
    · rw [if_pos hc, if_pos hc]
    · rw [if_neg hc, if_neg hc]
      have hd : ∀ y, y < c → C 15 y = nI (t_de y c) := fun y hy => by
        rw [(e2 y hy).2, Int32.zero_add]
      rw [hd 0 (by omega), t_mx_n (e := fun y => t_de y c) c 0 (t_de 0 c) (de_le hc60 (by omega)) (fun y _ b => ⟨hd y (by omega), de_le hc60 (by omega)⟩), de_log hc60 (by omega)]
      unfold k_b
      rw [if_neg hc, nI_pred]
  · have y := x_count1 (P := t_kP P m) (L := L) g4 hn
    have e : c_count Z3 n 1 = nI (k_c Z n) := by
      show t_sm (Z3 17) 0 n 0 = _
      rw [← k_c_sum hJ]
      exact t_sm_congr n 0 0 (fun i _ b => g5 i (by omega))
    rw [e] at y
    exact y
