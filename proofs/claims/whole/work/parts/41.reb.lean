/-! The class's tree and the Model's: rebuilding (by hand) -/
/-- the tree at x is the Model's array A, with n nodes -/
def K_T (Z : Nat → Nat → Int32) (x : Nat) (A : Nat → Int32) (n : Nat) : Prop :=
  (Z x 6 = nI n ∧ A 3 = nI n) ∧ (A 4 = Z x 7 ∧ A 5 = Z x 8 ∧ A 6 = Z x 9 ∧ A 7 = Z x 10) ∧ (A 0 = Z (x + 2) 0 ∧ A 1 = Z (x + 2) 1 ∧ A 2 = Z (x + 2) 2) ∧
  ∀ i, i < n → A (8 + i) = Z (x + 4) i ∧ A (68 + i) = Z (x + 6) i ∧ A (128 + i) = Z (x + 8) i ∧ A (188 + i) = Z (x + 12) i ∧ A (248 + i) = Z (x + 10) i
/-- what always holds of the Model's array -/
def K_I (A : Nat → Int32) (n : Nat) : Prop :=
  n ≤ 60 ∧ (∀ i, i < n → 0 ≤ A (8 + i) ∧ A (8 + i) ≤ 999) ∧ (∀ i j, i < j → j < n → A (8 + i) < A (8 + j)) ∧ (∀ i, i < n → A (188 + i) = 0 ∨ A (188 + i) = 1) ∧ (0 ≤ A 0 ∧ 0 ≤ A 1 ∧ 0 ≤ A 2) ∧ DT (fun i => A (248 + i)) 0 0 n
theorem t_dh_5 {hi s : Nat} (hs : s ≠ 6) : ∀ (k i q : Nat) (Z : Nat → Nat → Int32), t_dh hi k i q Z 5 s = Z 5 s
  | 0, i, q, Z => by rw [t_dh, s_upd_c, if_neg (fun z => hs z.2)]
  | k + 1, i, q, Z => by
    rw [t_dh]
    split
    · rw [t_dh_5 hs k, t_mv_o t_cl5]
    · exact t_dh_5 hs k _ _ _
theorem q_sp_get {Z : Nat → Nat → Int32} {pd w : Int32} : q_sp Z pd w 132 4 = Z 132 4 + w ∧ q_sp Z pd w 132 5 = Z 132 5 + (pd - w) ∧ q_sp Z pd w 132 6 = Z 132 6 + 1 ∧ q_sp Z pd w 132 7 = y_mx (Z 132 7) w ∧ ∀ x, x < 4 ∨ 7 < x → q_sp Z pd w 132 x = Z 132 x := by
  unfold q_sp q_s4
  refine ⟨by simp [s_upd_c], by simp [s_upd_c], by simp [s_upd_c], by simp [s_upd_c], fun x hx => ?_⟩
  rw [s_upd_c, if_neg (by omega), s_upd_c, if_neg (by omega), s_upd_c, if_neg (by omega), s_upd_c, if_neg (by omega)]
theorem t_sp_get {Z : Nat → Nat → Int32} {pd w : Int32} : t_sp Z pd w 5 7 = Z 5 7 + w ∧ t_sp Z pd w 5 8 = Z 5 8 + (pd - w) ∧ t_sp Z pd w 5 9 = Z 5 9 + 1 ∧ t_sp Z pd w 5 10 = y_mx (Z 5 10) w := by
  unfold t_sp
  refine ⟨by simp [s_upd_c], by simp [s_upd_c], by simp [s_upd_c], by simp [s_upd_c, y_mx]⟩
section REB
variable {Z Y : Nat → Nat → Int32} {n j : Nat}
theorem K_D (hT : K_T Z 5 (Y 132) n) : ∀ i, i < n → Z 15 i = q_c Y 248 i := fun i hi => (hT.2.2.2 i hi).2.2.2.2.symm
theorem K_L (hT : K_T Z 5 (Y 132) n) (hj : j < n) : t_L Z j = q_L Y j := dL_congr (K_D hT) hj
theorem K_H (hT : K_T Z 5 (Y 132) n) (hj : j < n) : t_H Z n j = q_H Y n j := dH_congr (K_D hT) hj
theorem reb_w (hT : K_T Z 5 (Y 132) n) (hj : j < n) : t_wt Z n j = q_w Y n j := by
  unfold t_wt q_w
  rw [K_L hT hj, K_H hT hj]
end REB
/-- the kept nodes -/
def d_kp (F : Nat → Int32) (L H : Nat) (x : Nat) : Bool := decide (x < L ∨ H < x ∨ F x = 1)
theorem d_kp_pos {F : Nat → Int32} {L H x : Nat} : d_n (d_kp F L H) 0 x = if x ≤ L then x else L + d_n (d_kp F L H) L (x - L) := by
  have hall : ∀ y, y ≤ L → d_n (d_kp F L H) 0 y = y := fun y hy => d_n_all y 0 (fun z _ h => decide_eq_true (Or.inl (by omega)))
  by_cases h : x ≤ L
  · rw [if_pos h, hall x h]
  · rw [if_neg h]
    have := d_n_add (M := d_kp F L H) L (x - L) 0
    rw [show L + (x - L) = x by omega, hall L (Nat.le_refl _), Nat.zero_add] at this
    exact this
theorem d_n_mono {M : Nat → Bool} {a b : Nat} (h : a ≤ b) : d_n M 0 a ≤ d_n M 0 b := by
  have := d_n_add (M := M) a (b - a) 0
  rw [show a + (b - a) = b by omega] at this
  omega
theorem reb_eq {Z Y : Nat → Nat → Int32} {n j : Nat} (hT : K_T Z 5 (Y 132) n) (hI : K_I (Y 132) n) (hj : j < n) : ∃ n2, K_T (t_la Z n j) 5 (q_re Y n j 132) n2 ∧ K_I (q_re Y n j 132) n2 := by
  obtain ⟨⟨hN, hN2⟩, ⟨hb1, hb2, hb3, hb4⟩, hset, hcol⟩ := id hT
  obtain ⟨hn, hkr, hks, hF, hset0, hDT⟩ := hI
  have hw := reb_w hT hj
  have hLe := K_L hT hj
  have hHe := K_H hT hj
  have hDT : DT (q_c Y 248) 0 0 n := hDT
  have hroot := CT_root hDT hn
  have hin := CT_in hroot (Nat.zero_le j) hj
  have hLj : q_L Y j ≤ j := hin.2.1
  have hHj : j ≤ q_H Y n j := hin.2.2.1
  have hHn : q_H Y n j < n := hin.2.2.2
  unfold t_la q_re q_rb
  rw [hw, hLe, hHe]
  have hpd : t_sm (Z 13) (q_L Y j) (q_H Y n j + 1 - q_L Y j) 0 = t_sm (q_c Y 128) (q_L Y j) (q_H Y n j + 1 - q_L Y j) 0 := t_sm_congr _ _ _ (fun i a b => (hcol i (by omega)).2.2.1.symm)
  rw [hpd]
  generalize hpdg : t_sm (q_c Y 128) (q_L Y j) (q_H Y n j + 1 - q_L Y j) 0 = pd
  generalize hwg : q_w Y n j = w
  have hrepl : ∀ (E : Nat → Int32) (e h : Nat), e < 2 ^ 31 → q_c Y 248 j = nI e → h ≤ q_H Y n j + 1 - q_L Y j → DT E e (q_L Y j) (q_H Y n j + 1 - h) → (∀ i, i < q_L Y j → E i = q_c Y 248 i) → (∀ i, q_H Y n j + 1 - h ≤ i → i < n - h → E i = q_c Y 248 (i + h)) → DT E 0 0 (n - h) := fun E e h h31 he hh hE h1 h2 => DT_repl h31 he n 0 0 n (by omega) hroot (Nat.zero_le j) hj hh hE (fun i _ a => h1 i a) h2
  obtain ⟨e, hej, -, he60⟩ := DT_val hDT (Nat.zero_le j) hj
  generalize q_L Y j = l at *
  generalize q_H Y n j = H at *
  have hDj : Z 15 j = q_c Y 248 j := K_D hT j hj
  -- the mask
  generalize hMg : d_kp (Z 17) l H = M
  have hMv : ∀ x, M x = decide (x < l ∨ H < x ∨ Z 17 x = 1) := fun x => by rw [← hMg]; rfl
  have hct : t_ct (Z 17) l (H + 1 - l) = d_n M l (H + 1 - l) := by
    rw [t_ct_dn]
    refine d_n_congr _ _ (fun x a b => ?_)
    rw [hMv]
    exact decide_eq_decide.mpr ⟨fun z => Or.inr (Or.inr z), fun z => z.elim (fun z => by omega) (fun z => z.elim (fun z => by omega) id)⟩
  rw [hct]
  generalize hcg : d_n M l (H + 1 - l) = c
  have hcle : c ≤ H + 1 - l := by rw [← hcg]; exact d_n_le _ _
  have hpos : ∀ x, d_n M 0 x = if x ≤ l then x else l + d_n M l (x - l) := fun x => by rw [← hMg]; exact d_kp_pos
  have hpastH : ∀ x, H + 1 ≤ x → d_n M l (x - l) = c + (x - (H + 1)) := fun x hx => by
    have h1 := d_n_add (M := M) (H + 1 - l) (x - (H + 1)) l
    rw [show H + 1 - l + (x - (H + 1)) = x - l by omega, hcg, show l + (H + 1 - l) = H + 1 by omega] at h1
    rw [h1, d_n_all (x - (H + 1)) (H + 1) (fun y a b => by rw [hMv]; exact decide_eq_true (Or.inr (Or.inl (by omega))))]
  -- the class's rows
  have hsp : ∀ cc, cc ≠ 5 → t_sp Z pd w cc = Z cc := fun cc h => t_sp_o h
  have hdh := fun (cc : Nat) (hcc : t_cl cc) => t_dh_get (hi := H) (n := n) (M := M) hcc (n - l) l l (t_sp Z pd w) (by omega) (Nat.le_refl _) (fun x a b => by
    rw [hMv, decide_eq_true_eq, hsp 17 (by decide)]
    exact ⟨fun z => z.elim (fun z => by omega) id, fun z => Or.inr z⟩)
  generalize hdg : t_dh H (n - l) l l (t_sp Z pd w) = U at hdh ⊢
  have hU5 : ∀ s, s ≠ 6 → U 5 s = t_sp Z pd w 5 s := fun s hs => by rw [← hdg]; exact t_dh_5 hs _ _ _ _
  have hU7 : U 7 = Z 7 := by
    rw [← hdg, t_dh_o (by unfold t_cl; omega) (by decide), hsp 7 (by decide)]
  have hly := fun (y : Nat) => t_ly_get (lo := l) (c := c) (y := y) (dep := Z 15 j) c 0 U
  have hlyo : ∀ cc, cc ≠ 15 → cc ≠ 13 → t_ly l c (Z 15 j) c 0 U cc = U cc := fun cc h1 h2 => t_ly_o h1 h2 _ _ _
  generalize t_ly l c (Z 15 j) c 0 U = V at hly hlyo ⊢
  -- the Model's
  have hYs := q_sp_get (Z := Y) (pd := pd) (w := w)
  have hY3 : q_sp Y pd w 132 3 = nI n := by rw [hYs.2.2.2.2 3 (by omega)]; exact hN2
  have hrl := q_rl_get (lo := l) (M := M) (H + 1 - l) n (H + 1) (q_sp Y pd w) hY3 hn (by omega) (by omega) (fun x a b => by
    rw [hYs.2.2.2.2 (188 + x) (by omega), hMv, decide_eq_false_iff_not]
    have hx := hcol x (by omega)
    have hx2 := hF x (by omega)
    rw [hx.2.2.2.1] at hx2 ⊢
    constructor
    · intro z
      rcases hx2 with h | h
      · exact h
      · exact absurd (Or.inr (Or.inr h)) z
    · intro z y
      rcases y with y | y | y
      · omega
      · omega
      · rw [show Z (5 + 12) x = Z 17 x from rfl, y] at z
        exact absurd z (by decide))
  rw [hcg] at hrl
  obtain ⟨g1, g2, g3, g4⟩ := hrl
  rw [g1]
  generalize (q_rl l (H + 1 - l) n (H + 1) (q_sp Y pd w)).2 = T at *
  have hla := q_lay_get (Z := T) (a := l) (u := H + 1 - (H + 1 - l - c)) (l := q_c Y 248 j) (by omega)
  generalize q_lay T l (H + 1 - (H + 1 - l - c)) (q_c Y 248 j) = W at hla ⊢
  have he2 : H + 1 - (H + 1 - l - c) = l + c := by omega
  rw [he2] at hla
  obtain ⟨hl1, hl2⟩ := hla
  have hnn : d_n M 0 n = n - (H + 1 - l - c) := by
    rw [hpos, if_neg (by omega), hpastH n (by omega)]
    omega
  -- each kept node
  have hY8 : ∀ b, q_cb b → ∀ x, q_sp Y pd w 132 (b + x) = Y 132 (b + x) := fun b hb x => hYs.2.2.2.2 _ (by unfold q_cb at hb; omega)
  have kept : ∀ x, x < n → M x = true → ∀ y, d_n M 0 x = y →
      (∀ cc, t_cl cc → U cc y = Z cc x) ∧ (∀ b, q_cb b → T 132 (b + y) = if l ≤ x ∧ x ≤ H ∧ b = 128 then 0 else Y 132 (b + x)) ∧ (l ≤ x ∧ x ≤ H ↔ l ≤ y ∧ y < l + c) ∧ (x < l → y = x) ∧ (H < x → y = x - (H + 1 - l - c)) := by
    intro x hx hm y hy
    rw [hpos] at hy
    rcases Nat.lt_or_ge x l with z | z
    · rw [if_pos (by omega)] at hy
      subst hy
      refine ⟨fun cc h => ?_, fun b hb => ?_, by omega, fun _ => rfl, by omega⟩
      · rw [(hdh cc h).1 x z, hsp cc (fun q => by rw [q] at h; exact t_cl5 h)]
      · rw [(g4 b hb).1 x z, hY8 b hb, if_neg (by omega)]
    · have hy2 : l + d_n M l (x - l) = y := by
        by_cases hxl : x ≤ l
        · obtain rfl : x = l := by omega
          rw [if_pos hxl] at hy
          rw [Nat.sub_self]
          exact hy
        · rw [if_neg hxl] at hy
          exact hy
      have hcls : ∀ cc, t_cl cc → U cc y = Z cc x := fun cc h => by
        have := (hdh cc h).2.1 x z hx hm
        rw [hy2, hsp cc (fun q => by rw [q] at h; exact t_cl5 h)] at this
        exact this
      rcases Nat.lt_or_ge H x with zz | zz
      · have hp := hpastH x zz
        refine ⟨hcls, fun b hb => ?_, by omega, by omega, fun _ => by omega⟩
        have := (g4 b hb).2.2 x (by omega) hx
        rw [hY8 b hb, show x - (H + 1 - l - c) = y by omega] at this
        rw [this, if_neg (by omega)]
      · refine ⟨hcls, fun b hb => ?_, ?_, by omega, by omega⟩
        · have := (g4 b hb).2.1 x z (by omega) hm
          rw [hY8 b hb, hy2] at this
          rw [this]
          by_cases hb2 : b = 128
          · rw [if_pos hb2, if_pos ⟨z, zz, hb2⟩]
          · rw [if_neg hb2, if_neg (fun q => hb2 q.2.2)]
        · have h1 := d_n_add (M := M) (x - l) (H + 1 - l - (x - l)) l
          rw [show x - l + (H + 1 - l - (x - l)) = H + 1 - l by omega, hcg, show l + (x - l) = x by omega, show H + 1 - l - (x - l) = (H - x) + 1 by omega, d_n, if_pos hm] at h1
          omega
  have fin : ∀ x, x < n → M x = true → ∀ y, d_n M 0 x = y → W 132 (8 + y) = Y 132 (8 + x) ∧ W 132 (68 + y) = Y 132 (68 + x) ∧ W 132 (188 + y) = Y 132 (188 + x) ∧ V 9 y = Z 9 x ∧ V 11 y = Z 11 x ∧ V 17 y = Z 17 x ∧ W 132 (128 + y) = V 13 y ∧ W 132 (248 + y) = V 15 y ∧ ((x < l ∨ H < x) → W 132 (248 + y) = Y 132 (248 + x)) := by
    intro x hx hm y hy
    obtain ⟨k1, k2, k3, k4, k5⟩ := kept x hx hm y hy
    have hy60 : y < 60 := by
      have := d_n_mono (M := M) (Nat.le_of_lt hx)
      rw [hnn] at this
      have h5 := d_n_le (M := M) x 0
      omega
    have lowb : ∀ b, q_cb b → b ≠ 248 → W 132 (b + y) = T 132 (b + y) := fun b hb h => hl2 _ (Or.inl (by unfold q_cb at hb; omega))
    have c8 : q_cb 8 := Or.inl rfl
    have c68 : q_cb 68 := Or.inr (Or.inl rfl)
    have c128 : q_cb 128 := Or.inr (Or.inr (Or.inl rfl))
    have c188 : q_cb 188 := Or.inr (Or.inr (Or.inr (Or.inl rfl)))
    have c248 : q_cb 248 := Or.inr (Or.inr (Or.inr (Or.inr rfl)))
    have hx5 := hcol x hx
    refine ⟨?_, ?_, ?_, ?_, ?_, ?_, ?_, ?_, ?_⟩
    · rw [lowb 8 c8 (by decide), k2 8 c8, if_neg (by omega)]
    · rw [lowb 68 c68 (by decide), k2 68 c68, if_neg (by omega)]
    · rw [lowb 188 c188 (by decide), k2 188 c188, if_neg (by omega)]
    · rw [hlyo 9 (by decide) (by decide)]; exact k1 9 (Or.inl rfl)
    · rw [hlyo 11 (by decide) (by decide)]; exact k1 11 (Or.inr (Or.inl rfl))
    · rw [hlyo 17 (by decide) (by decide)]; exact k1 17 (Or.inr (Or.inr (Or.inr (Or.inr rfl))))
    · rw [lowb 128 c128 (by decide), k2 128 c128, (hly y).2, Nat.add_zero]
      by_cases hc : l ≤ x ∧ x ≤ H
      · rw [if_pos ⟨hc.1, hc.2, rfl⟩, if_pos (k3.mp hc)]
      · rw [if_neg (fun z => hc ⟨z.1, z.2.1⟩), if_neg (fun z => hc (k3.mpr z)), k1 13 (Or.inr (Or.inr (Or.inl rfl)))]
        exact hx5.2.2.1
    · rw [(hly y).1, Nat.add_zero]
      by_cases hc : l ≤ x ∧ x ≤ H
      · have hc2 := k3.mp hc
        rw [if_pos hc2, hl1 y hc2.1 hc2.2, hDj]
        congr 1
        unfold t_de
        rw [t_dl_ev (lo := l) c 60 0 c 0 (Nat.zero_le _) (by omega) (by omega) (by omega), Nat.zero_add, Nat.add_zero, show l + (y - l) = y by omega]
      · rw [if_neg (fun z => hc (k3.mpr z)), hl2 _ (by have : ¬ (l ≤ y ∧ y < l + c) := fun z => hc (k3.mpr z); omega), k2 248 c248, if_neg (by omega), k1 15 (Or.inr (Or.inr (Or.inr (Or.inl rfl))))]
        exact hx5.2.2.2.2
    · intro hc
      have hc3 : ¬ (l ≤ y ∧ y < l + c) := fun z => by have := k3.mpr z; omega
      rw [hl2 _ (by omega), k2 248 c248, if_neg (by omega)]
  have sur : ∀ y, y < n - (H + 1 - l - c) → ∃ x, x < n ∧ M x = true ∧ d_n M 0 x = y := fun y hy => by
    rw [← hnn] at hy
    obtain ⟨x, a, b, m, p⟩ := d_n_sur (i := 0) n y hy
    exact ⟨x, by omega, m, by rw [Nat.sub_zero] at p; exact p⟩
  have hW : ∀ x, x < 8 → W 132 x = T 132 x := fun x hx => hl2 x (by omega)
  have hV5 : ∀ s, V 5 s = U 5 s := fun s => by rw [hlyo 5 (by decide) (by decide)]
  have hts := t_sp_get (Z := Z) (pd := pd) (w := w)
  refine ⟨n - (H + 1 - l - c), ⟨⟨?_, ?_⟩, ⟨?_, ?_, ?_, ?_⟩, ⟨?_, ?_, ?_⟩, fun y hy => ?_⟩, by omega, fun y hy => ?_, fun y1 y2 h12 hy2 => ?_, fun y hy => ?_, ?_, ?_⟩
  · rw [hV5, (hdh 9 (Or.inl rfl)).2.2, hpastH n (by omega)]
    congr 1
    omega
  · rw [hW 3 (by decide)]; exact g2
  · rw [hW 4 (by decide), g3 4 (by decide) (by decide), hYs.1, hV5, hU5 7 (by decide), hts.1, hb1]
  · rw [hW 5 (by decide), g3 5 (by decide) (by decide), hYs.2.1, hV5, hU5 8 (by decide), hts.2.1, hb2]
  · rw [hW 6 (by decide), g3 6 (by decide) (by decide), hYs.2.2.1, hV5, hU5 9 (by decide), hts.2.2.1, hb3]
  · rw [hW 7 (by decide), g3 7 (by decide) (by decide), hYs.2.2.2.1, hV5, hU5 10 (by decide), hts.2.2.2, hb4]
  · rw [hW 0 (by decide), g3 0 (by decide) (by decide), hYs.2.2.2.2 0 (by decide), show V (5 + 2) = V 7 from rfl, hlyo 7 (by decide) (by decide), hU7]; exact hset.1
  · rw [hW 1 (by decide), g3 1 (by decide) (by decide), hYs.2.2.2.2 1 (by decide), show V (5 + 2) = V 7 from rfl, hlyo 7 (by decide) (by decide), hU7]; exact hset.2.1
  · rw [hW 2 (by decide), g3 2 (by decide) (by decide), hYs.2.2.2.2 2 (by decide), show V (5 + 2) = V 7 from rfl, hlyo 7 (by decide) (by decide), hU7]; exact hset.2.2
  · obtain ⟨x, a, m, p⟩ := sur y hy
    obtain ⟨f1, f2, f3, f4, f5, f6, f7, f8, f9⟩ := fin x a m y p
    have hx5 := hcol x a
    exact ⟨by rw [f1]; exact hx5.1.trans f4.symm, by rw [f2]; exact hx5.2.1.trans f5.symm, f7, by rw [f3]; exact hx5.2.2.2.1.trans f6.symm, f8⟩
  · obtain ⟨x, a, m, p⟩ := sur y hy
    rw [(fin x a m y p).1]
    exact hkr x a
  · obtain ⟨x1, a1, m1, p1⟩ := sur y1 (by omega)
    obtain ⟨x2, a2, m2, p2⟩ := sur y2 hy2
    rw [(fin x1 a1 m1 y1 p1).1, (fin x2 a2 m2 y2 p2).1]
    refine hks x1 x2 ?_ a2
    rcases Nat.lt_or_ge x1 x2 with z | z
    · exact z
    · have := d_n_mono (M := M) z
      omega
  · obtain ⟨x, a, m, p⟩ := sur y hy
    rw [(fin x a m y p).2.2.1]
    exact hF x a
  · rw [hW 0 (by decide), hW 1 (by decide), hW 2 (by decide), g3 0 (by decide) (by decide), g3 1 (by decide) (by decide), g3 2 (by decide) (by decide), hYs.2.2.2.2 0 (by decide), hYs.2.2.2.2 1 (by decide), hYs.2.2.2.2 2 (by decide)]
    exact hset0
  · refine hrepl _ e (H + 1 - l - c) (by omega) hej (by omega) ?_ (fun i hi => ?_) (fun i h1 h2 => ?_)
    · rw [he2]
      refine DT_even 60 e l (l + c) (by omega) (by omega) (fun y a b => ?_)
      show W 132 (248 + y) = _
      rw [hl1 y a b, hej, nI_add]
    · have hm : M i = true := by rw [hMv]; exact decide_eq_true (Or.inl hi)
      exact (fin i (by omega) hm i (by rw [hpos, if_pos (by omega)])).2.2.2.2.2.2.2.2 (Or.inl hi)
    · have hm : M (i + (H + 1 - l - c)) = true := by rw [hMv]; exact decide_eq_true (Or.inr (Or.inl (by omega)))
      refine (fin (i + (H + 1 - l - c)) (by omega) hm i ?_).2.2.2.2.2.2.2.2 (Or.inr (by omega))
      rw [hpos, if_neg (by omega), hpastH _ (by omega)]
      omega
