/-! The parts that wait, and what they leave to be counted (by hand) -/
abbrev w_T : Type := Nat × Nat × Nat
def w_ok (Z : Nat → Nat → Int32) (n : Nat) (W : Nat → Int32) : List w_T → Prop
  | [] => True
  | s :: S => s.2.1 < s.2.2 ∧ CT (Z 15) n s.1 s.2.1 s.2.2 ∧ W S.length = Z 9 (t_tp (Z 15) (nI s.1) s.2.1 (s.2.2 - 1 - s.2.1)) ∧ w_ok Z n W S
def w_sz : List w_T → Nat
  | [] => 0
  | s :: S => (s.2.2 - s.2.1) + w_sz S
def w_su (f : Nat → Int32) : List w_T → Int32
  | [] => 0
  | s :: S => t_sm f s.2.1 (s.2.2 - s.2.1) 0 + w_su f S
def w_mx (D : Nat → Int32) : List w_T → Int32 → Int32
  | [], a => a
  | s :: S, a => w_mx D S (t_mx D s.2.1 (s.2.2 - s.2.1) a)
def w_pu (d l u : Nat) (S : List w_T) : List w_T := if l < u then (d, l, u) :: S else S
theorem w_ok_congr {Z : Nat → Nat → Int32} {n : Nat} {W W2 : Nat → Int32} : ∀ (S : List w_T), (∀ i, i < S.length → W2 i = W i) → w_ok Z n W S → w_ok Z n W2 S
  | [], h, g => g
  | s :: S, h, g => by
    obtain ⟨g1, g2, g3, g4⟩ := g
    exact ⟨g1, g2, by rw [h S.length (by simp)]; exact g3, w_ok_congr S (fun i hi => h i (by simp only [List.length_cons]; omega)) g4⟩
theorem w_len {Z : Nat → Nat → Int32} {n : Nat} {W : Nat → Int32} : ∀ (S : List w_T), w_ok Z n W S → S.length ≤ w_sz S
  | [], h => Nat.le_refl _
  | s :: S, h => by
    have h1 := w_len S h.2.2.2
    have h2 := h.1
    simp only [List.length_cons, w_sz]
    omega
theorem w_pu_sz {d l u : Nat} {S : List w_T} (h : l ≤ u) : w_sz (w_pu d l u S) = (u - l) + w_sz S := by
  unfold w_pu
  by_cases hc : l < u
  · rw [if_pos hc]; rfl
  · rw [if_neg hc]; omega
theorem w_pu_sum {f : Nat → Int32} {d l u : Nat} {S : List w_T} (h : l ≤ u) : w_su f (w_pu d l u S) = t_sm f l (u - l) 0 + w_su f S := by
  unfold w_pu
  by_cases hc : l < u
  · rw [if_pos hc]; rfl
  · rw [if_neg hc, show u - l = 0 by omega]
    show _ = (0 : Int32) + _
    rw [Int32.zero_add]
theorem w_pu_mx {D : Nat → Int32} {d l u : Nat} {S : List w_T} {a : Int32} (h : l ≤ u) : w_mx D (w_pu d l u S) a = w_mx D S (t_mx D l (u - l) a) := by
  unfold w_pu
  by_cases hc : l < u
  · rw [if_pos hc]; rfl
  · rw [if_neg hc, show u - l = 0 by omega]; rfl
/-- a greatest number, as an integer -/
def i_mx (D : Nat → Int32) : Nat → Nat → Int
  | _, 0 => -2147483648
  | i, k + 1 => max (D i).toInt (i_mx D (i + 1) k)
theorem y_mx_i {a b : Int32} : (y_mx a b).toInt = max a.toInt b.toInt := by
  unfold y_mx
  by_cases h : a < b
  · rw [if_pos h]
    rw [Int32.lt_iff_toInt_lt] at h
    omega
  · rw [if_neg h]
    rw [Int32.lt_iff_toInt_lt] at h
    omega
theorem t_mx_i {D : Nat → Int32} : ∀ (k i : Nat) (a : Int32), (t_mx D i k a).toInt = max a.toInt (i_mx D i k)
  | 0, i, a => by
    have h : -2147483648 ≤ a.toInt := a.le_toInt
    show a.toInt = max a.toInt (-2147483648)
    omega
  | k + 1, i, a => by
    show (t_mx D (i + 1) k (y_mx a (D i))).toInt = max a.toInt (max (D i).toInt (i_mx D (i + 1) k))
    rw [t_mx_i k (i + 1), y_mx_i]
    omega
theorem i_mx_add {D : Nat → Int32} : ∀ (a b i : Nat), max (-2147483648) (i_mx D i (a + b)) = max (max (-2147483648) (i_mx D i a)) (i_mx D (i + a) b)
  | 0, b, i => by
    rw [Nat.zero_add, Nat.add_zero, i_mx]
    omega
  | a + 1, b, i => by
    have h := i_mx_add (D := D) a b (i + 1)
    rw [show a + 1 + b = a + b + 1 by omega, i_mx, i_mx, show i + (a + 1) = i + 1 + a by omega]
    omega
theorem t_mx_split {D : Nat → Int32} {l t u : Nat} {a : Int32} (h1 : l ≤ t) (h2 : t < u) : t_mx D l (u - l) a = t_mx D l (t - l) (t_mx D (t + 1) (u - (t + 1)) (y_mx a (D t))) := by
  refine Int32.toInt_inj.mp ?_
  rw [t_mx_i, t_mx_i, t_mx_i, y_mx_i]
  have h := i_mx_add (D := D) (t - l) (u - (t + 1) + 1) l
  rw [show t - l + (u - (t + 1) + 1) = u - l by omega, show l + (t - l) = t by omega, i_mx] at h
  have ha : -2147483648 ≤ a.toInt := a.le_toInt
  omega
/-- what is left to be counted, at a stack S with these numbers counted so far -/
def w_I (Z : Nat → Nat → Int32) (n : Nat) (S : List w_T) (a3 a4 a5 a6 a7 a8 : Int32) : Prop :=
  a3 + nI (w_sz S) = nI n ∧ a4 + w_su (Z 17) S = t_sm (Z 17) 0 n 0 ∧ a5 + w_su (fun j => t_wt Z n j) S = t_sm (fun j => t_wt Z n j) 0 n 0 ∧ a6 + w_su (Z 15) S = t_sm (Z 15) 0 n 0 ∧ w_mx (Z 15) S a7 = (if n = 0 then -6 else t_mx (Z 15) 0 n (Z 15 0)) ∧ a8 + w_su (fun j => y_b (t_ln Z n j)) S = t_lnc Z n 0 n 0
theorem w_I_step {Z : Nat → Nat → Int32} {n d l t u : Nat} {S : List w_T} {a3 a4 a5 a6 a7 a8 : Int32} (h : w_I Z n ((d, l, u) :: S) a3 a4 a5 a6 a7 a8) (h1 : l ≤ t) (h2 : t < u) (h3 : Z 15 t = nI d) : w_I Z n (w_pu (d + 1) (t + 1) u (w_pu (d + 1) l t S)) (a3 + 1) (a4 + Z 17 t) (a5 + t_wt Z n t) (a6 + nI d) (y_mx a7 (nI d)) (a8 + y_b (t_ln Z n t)) := by
  obtain ⟨g1, g2, g3, g4, g5, g6⟩ := h
  have key : ∀ (f : Nat → Int32) (a : Int32), a + f t + w_su f (w_pu (d + 1) (t + 1) u (w_pu (d + 1) l t S)) = a + w_su f ((d, l, u) :: S) := fun f a => by
    show _ = a + (t_sm f l (u - l) 0 + w_su f S)
    rw [w_pu_sum (by omega), w_pu_sum h1, sp_split h1 h2]
    ac_rfl
  refine ⟨?_, by rw [key]; exact g2, by rw [key (fun j => t_wt Z n j)]; exact g3, by rw [← h3, key]; exact g4, ?_, by rw [key (fun j => y_b (t_ln Z n j))]; exact g6⟩
  · rw [w_pu_sz (by omega), w_pu_sz h1]
    rw [← g1]
    show _ = a3 + nI (u - l + w_sz S)
    rw [Int32.add_assoc]
    congr 1
    rw [show (1 : Int32) = nI 1 from rfl, nI_add]
    congr 1
    omega
  · rw [w_pu_mx (by omega), w_pu_mx h1, ← g5]
    show _ = w_mx (Z 15) S (t_mx (Z 15) l (u - l) a7)
    rw [t_mx_split h1 h2, h3]
theorem lnc_sm {Z : Nat → Nat → Int32} {n : Nat} : ∀ (k i : Nat) (a : Int32), t_lnc Z n i k a = t_sm (fun j => y_b (t_ln Z n j)) i k a
  | 0, i, a => rfl
  | k + 1, i, a => by rw [t_lnc, t_sm, lnc_sm k (i + 1)]
theorem w_I_0 {Z : Nat → Nat → Int32} {n : Nat} (hJ : K_J Z n) (h0 : 0 < n) : w_I Z n [(0, 0, n)] 0 0 0 0 (-6) 0 := by
  have e : ∀ f : Nat → Int32, (0 : Int32) + w_su f [(0, 0, n)] = t_sm f 0 n 0 := fun f => by
    show (0 : Int32) + (t_sm f 0 (n - 0) 0 + 0) = _
    rw [Int32.zero_add, Int32.add_zero, Nat.sub_zero]
  refine ⟨?_, e _, e _, e _, ?_, by rw [e, lnc_sm]⟩
  · show (0 : Int32) + nI (n - 0 + 0) = nI n
    rw [Int32.zero_add, Nat.add_zero, Nat.sub_zero]
  · show t_mx (Z 15) 0 (n - 0) (-6) = _
    rw [if_neg (by omega), Nat.sub_zero]
    refine t_mx_first h0 ?_
    have := k_e_eq hJ h0
    rw [this.1]
    exact Int32.lt_of_lt_of_le (by decide) (nI_pos' (by omega))
theorem w_I_nil {Z : Nat → Nat → Int32} {n : Nat} (h0 : n = 0) : w_I Z n [] 0 0 0 0 (-6) 0 := by
  subst h0
  exact ⟨rfl, rfl, rfl, rfl, rfl, rfl⟩
/-- counted to the end -/
theorem w_I_end {Z : Nat → Nat → Int32} {n : Nat} {a3 a4 a5 a6 a7 a8 : Int32} (hJ : K_J Z n) (h : w_I Z n [] a3 a4 a5 a6 a7 a8) : a3 = nI n ∧ a4 = t_sm (Z 17) 0 n 0 ∧ a5 = a6 + a3 ∧ a7 = (if n = 0 then -6 else t_mx (Z 15) 0 n (Z 15 0)) ∧ a8 = t_lnc Z n 0 n 0 := by
  obtain ⟨g1, g2, g3, g4, g5, g6⟩ := h
  have g1 : a3 + 0 = nI n := g1
  have g2 : a4 + 0 = _ := g2
  have g3 : a5 + 0 = _ := g3
  have g4 : a6 + 0 = _ := g4
  have g6 : a8 + 0 = _ := g6
  rw [Int32.add_zero] at g1 g2 g3 g4 g6
  refine ⟨g1, g2, ?_, g5, g6⟩
  have h2 := w_sum hJ n 0 0 n (by omega) (CT_root hJ.2.2.2.2.2.2 hJ.2.1)
  rw [Nat.sub_zero, Nat.zero_mul] at h2
  have h2 : t_sm (fun j => t_wt Z n j) 0 n 0 + 0 = _ := h2
  rw [Int32.add_zero] at h2
  rw [g3, g4, g1]
  exact h2
/-! what a node answers in a heap whose tree is Z's -/
def K_V (Zh Z : Nat → Nat → Int32) (n : Nat) : Prop := K_J Z n ∧ ∀ c, c < 131 → Zh c = Z c
section VIEW
variable {Zh Z : Nat → Nat → Int32} {P : Nat → Nat} {L n : Nat}
theorem v_J (hV : K_V Zh Z n) : K_J Zh n := K_J_congr hV.1 (by rw [hV.2 5 (by decide)]) (hV.2 9 (by decide)) (hV.2 11 (by decide)) (hV.2 15 (by decide)) (hV.2 17 (by decide))
theorem v_abt (hV : K_V Zh Z n) {j k : Nat} (hk : k ≤ 8) : c_abt Zh n j k = c_abt Z n j k := by
  have h7 := hV.2 7 (by decide)
  have h9 := hV.2 9 (by decide)
  have h13 := hV.2 13 (by decide)
  have h15 := hV.2 15 (by decide)
  have h17 := hV.2 17 (by decide)
  match k, hk with
  | 0, _ => simp only [c_abt, t_ktp, t_L, h9, h15]
  | 1, _ => simp only [c_abt, t_ktp, t_H, h9, h15]
  | 2, _ => simp only [c_abt, t_wt, t_L, t_H, h15]
  | 3, _ => simp only [c_abt, h15]
  | 4, _ => simp only [c_abt, h13]
  | 5, _ => simp only [c_abt, h17]
  | 6, _ => simp only [c_abt, t_L, t_H, h15, h17]
  | 7, _ => simp only [c_abt, t_ln, t_L, t_H, h7, h15]
  | 8, _ => simp only [c_abt, t_L, t_H, h15]
  | k + 9, hk => omega
theorem v_node (hV : K_V Zh Z n) {t k : Nat} (ht : t < n) (hk : k ≤ 8) : m_r 62 [.ref 4, .int (Z 9 t), .int (nI k)] (hp Zh P L) (some (.int (c_abt Z n t k))) (hp Zh P L) := by
  have hJ := v_J hV
  have h9 := hV.2 9 (by decide)
  have e : c_node Zh n (Z 9 t) k = c_abt Z n t k := by
    unfold c_node
    rw [if_pos (y_nmt (hV.1.2.2.1 t ht)), h9, nd_at hV.1.2.2.2.1 ht]
    exact v_abt hV hk
  rw [← e]
  match k, hk with
  | 0, _ => exact x_cnode0 hJ.1 hJ.2.1
  | 1, _ => exact x_cnode1 hJ.1 hJ.2.1
  | 2, _ => exact x_cnode2 hJ.1 hJ.2.1
  | 3, _ => exact x_cnode3 hJ.1 hJ.2.1
  | 4, _ => exact x_cnode4 hJ.1 hJ.2.1
  | 5, _ => exact x_cnode5 hJ.1 hJ.2.1
  | 6, _ => exact x_cnode6 hJ.1 hJ.2.1
  | 7, _ => exact x_cnode7 hJ.1 hJ.2.1
  | 8, _ => exact x_cnode8 hJ.1 hJ.2.1
  | k + 9, hk => omega
theorem v_val (hV : K_V Zh Z n) {t : Nat} (ht : t < n) : m_r 61 [.ref 4, .int (Z 9 t)] (hp Zh P L) (some (.int (if Z 17 t = 1 then Z 11 t else -6))) (hp Zh P L) := by
  have hJ := v_J hV
  have e : c_val Zh n (Z 9 t) = if Z 17 t = 1 then Z 11 t else -6 := by
    unfold c_val t_fn
    rw [if_pos (y_nmt (hV.1.2.2.1 t ht)), hV.2 9 (by decide), hV.2 17 (by decide), hV.2 11 (by decide), nd_at hV.1.2.2.2.1 ht]
    dsimp only
    by_cases h : Z 17 t = 1
    · rw [if_pos h, if_pos h]
    · rw [if_neg h, if_neg h]
  rw [← e]
  exact a_val hJ
theorem v_c0 (hV : K_V Zh Z n) : m_r 63 [.ref 4, .int 0] (hp Zh P L) (some (.int (nI n))) (hp Zh P L) := a_c0 (v_J hV)
theorem v_c1 (hV : K_V Zh Z n) : m_r 63 [.ref 4, .int 1] (hp Zh P L) (some (.int (t_sm (Z 17) 0 n 0))) (hp Zh P L) := by
  rw [← hV.2 17 (by decide)]
  exact a_c1 (v_J hV)
theorem v_c2 (hV : K_V Zh Z n) : m_r 63 [.ref 4, .int 2] (hp Zh P L) (some (.int (t_ktp Z 0 n 0))) (hp Zh P L) := by
  have e : t_ktp Z 0 n 0 = t_ktp Zh 0 n 0 := by
    unfold t_ktp
    rw [hV.2 9 (by decide), hV.2 15 (by decide)]
  rw [e]
  exact a_c2 (v_J hV)
theorem v_c3 (hV : K_V Zh Z n) : m_r 63 [.ref 4, .int 3] (hp Zh P L) (some (.int (if n = 0 then -6 else t_mx (Z 15) 0 n (Z 15 0)))) (hp Zh P L) := by
  rw [← hV.2 15 (by decide)]
  exact a_c3 (v_J hV)
theorem v_c9 (hV : K_V Zh Z n) : m_r 63 [.ref 4, .int 9] (hp Zh P L) (some (.int (t_lnc Z n 0 n 0))) (hp Zh P L) := by
  have e : t_lnc Z n 0 n 0 = t_lnc Zh n 0 n 0 := by
    rw [lnc_sm, lnc_sm]
    refine t_sm_congr n 0 0 (fun j _ _ => ?_)
    have h : t_ln Zh n j = t_ln Z n j := by
      unfold t_ln t_L t_H
      rw [hV.2 7 (by decide), hV.2 15 (by decide)]
    rw [h]
  rw [e]
  exact a_c9 (v_J hV)
theorem v_c10 (hV : K_V Zh Z n) : m_r 63 [.ref 4, .int 10] (hp Zh P L) (some (.int (Z 7 0))) (hp Zh P L) := by
  rw [← hV.2 7 (by decide)]
  exact a_c10 (v_J hV)
theorem v_put (hV : K_V Zh Z n) {r i : Nat} {x : Int32} (hr : 131 ≤ r) : K_V (s_upd Zh r i x) Z n := ⟨hV.1, fun c hc => by rw [s_upd_o (by omega)]; exact hV.2 c hc⟩
end VIEW
