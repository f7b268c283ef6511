/-! what a change leaves alone, out of whole's 28, 46, 47 -/
theorem t_ly_o {lo c q : Nat} {dep : Int32} (hq : q ≠ 15) (hq2 : q ≠ 13) : ∀ (k i : Nat) (Z : Nat → Nat → Int32), t_ly lo c dep k i Z q = Z q
  | 0, i, Z => rfl
  | k + 1, i, Z => by rw [t_ly, t_ly_o hq hq2 k, s_upd_o hq2, s_upd_o hq]
theorem t_dh_o {hi c : Nat} (hc : ¬ t_cl c) (h5 : c ≠ 5) : ∀ (k i q : Nat) (Z : Nat → Nat → Int32), t_dh hi k i q Z c = Z c
  | 0, i, q, Z => s_upd_o h5
  | k + 1, i, q, Z => by
    rw [t_dh]
    split
    · rw [t_dh_o hc h5 k, t_mv_o hc]
    · rw [t_dh_o hc h5 k]
theorem t_sp_o {Z : Nat → Nat → Int32} {pd w : Int32} {c : Nat} (h : c ≠ 5) : t_sp Z pd w c = Z c := by
  unfold t_sp
  rw [s_upd_o h, s_upd_o h, s_upd_o h, s_upd_o h]
theorem t_la_x {Z : Nat → Nat → Int32} {n j c : Nat} (h1 : ¬ t_cl c) (h5 : c ≠ 5) : t_la Z n j c = Z c := by
  have h := h1
  unfold t_cl at h
  unfold t_la
  rw [t_ly_o (by omega) (by omega), t_dh_o h1 h5, t_sp_o h5]
theorem t_en_x {Z : Nat → Nat → Int32} {n c : Nat} {key value : Int32} (h1 : ¬ t_cl c) (h5 : c ≠ 5) : (t_en Z n key value).2 c = Z c := by
  have h := h1
  unfold t_cl at h
  unfold t_en
  split
  · rfl
  · split
    · show t_py _ 60 0 0 n (s_upd (s_upd Z 11 _ value) 17 _ 1) c = Z c
      rw [t_py_o (by omega), s_upd_o (by omega), s_upd_o (by omega)]
    · split
      · show t_py _ 60 0 0 (n + 1) (t_mk Z n _ key value) c = Z c
        rw [t_py_o (by omega), t_mk_o h1 h5]
      · show t_la _ (n + 1) _ c = Z c
        rw [t_la_x h1 h5, t_py_o (by omega), t_mk_o h1 h5]
theorem t_hl_x {Z : Nat → Nat → Int32} {n c : Nat} {key : Int32} (h1 : ¬ t_cl c) (h5 : c ≠ 5) : (t_hl Z n key).2 c = Z c := by
  have h := h1
  unfold t_cl at h
  unfold t_hl t_h2
  split
  · rfl
  · split
    · show t_la _ n _ c = Z c
      rw [t_la_x h1 h5, t_py_o (by omega), s_upd_o (by omega)]
    · show t_py _ 60 0 0 n (s_upd Z 17 _ 0) c = Z c
      rw [t_py_o (by omega), s_upd_o (by omega)]
theorem t_lk_x {Z : Nat → Nat → Int32} {n c : Nat} {key : Int32} (h1 : ¬ t_cl c) (h5 : c ≠ 5) : (t_lk Z n key).2 c = Z c := by
  unfold t_lk
  split
  · rfl
  · exact t_la_x h1 h5
theorem cl_out {c : Nat} (h : c < 5 ∨ 18 ≤ c) : ¬ t_cl c ∧ c ≠ 5 := by
  unfold t_cl
  omega
theorem t_cp_g {Z : Nat → Nat → Int32} {a b n i : Nat} (hi : i < n) : t_cp Z a b n b i = Z a i := by
  unfold t_cp va_cpy
  rw [if_pos rfl, if_pos (by omega), Nat.zero_add, Nat.sub_zero]
theorem t_bc_rows {Z : Nat → Nat → Int32} {x y : Nat} (h : y + 12 < x ∨ x + 12 < y) : (∀ i, i < 3 → t_bc Z x y (x + 2) i = Z (y + 2) i) ∧ (∀ i, i < 60 → t_bc Z x y (x + 4) i = Z (y + 4) i ∧ t_bc Z x y (x + 6) i = Z (y + 6) i ∧ t_bc Z x y (x + 8) i = Z (y + 8) i ∧ t_bc Z x y (x + 10) i = Z (y + 10) i ∧ t_bc Z x y (x + 12) i = Z (y + 12) i) := by
  have h5 : ∀ o, 0 < o → t_bc Z x y (x + o) = t_bc6 Z x y (x + o) := fun o ho => by
    unfold t_bc t_bc5
    rw [s_upd_o (by omega), s_upd_o (by omega), s_upd_o (by omega), s_upd_o (by omega), s_upd_o (by omega)]
  refine ⟨fun i hi => ?_, fun i hi => ⟨?_, ?_, ?_, ?_, ?_⟩⟩
  · rw [h5 2 (by omega)]
    unfold t_bc6
    rw [t_cp_o (by omega), t_cp_o (by omega), t_cp_o (by omega), t_cp_o (by omega), t_cp_o (by omega), t_cp_g hi]
  · rw [h5 4 (by omega)]
    unfold t_bc6
    rw [t_cp_o (by omega), t_cp_o (by omega), t_cp_o (by omega), t_cp_o (by omega), t_cp_g hi, t_cp_o (by omega)]
  · rw [h5 6 (by omega)]
    unfold t_bc6
    rw [t_cp_o (by omega), t_cp_o (by omega), t_cp_o (by omega), t_cp_g hi, t_cp_o (by omega), t_cp_o (by omega)]
  · rw [h5 8 (by omega)]
    unfold t_bc6
    rw [t_cp_o (by omega), t_cp_o (by omega), t_cp_g hi, t_cp_o (by omega), t_cp_o (by omega), t_cp_o (by omega)]
  · rw [h5 10 (by omega)]
    unfold t_bc6
    rw [t_cp_o (by omega), t_cp_g hi, t_cp_o (by omega), t_cp_o (by omega), t_cp_o (by omega), t_cp_o (by omega)]
  · rw [h5 12 (by omega)]
    unfold t_bc6
    rw [t_cp_g hi, t_cp_o (by omega), t_cp_o (by omega), t_cp_o (by omega), t_cp_o (by omega), t_cp_o (by omega)]
theorem hs_far {x y : Nat} (hx : t_hs x) (hy : t_hs y) (h : x ≠ y) : y + 12 < x ∨ x + 12 < y := by
  unfold t_hs at hx hy
  omega
theorem t_dh_5 {hi s : Nat} (hs : s ≠ 6) : ∀ (k i q : Nat) (Z : Nat → Nat → Int32), t_dh hi k i q Z 5 s = Z 5 s
  | 0, i, q, Z => by rw [t_dh, s_upd_c, if_neg (fun z => hs z.2)]
  | k + 1, i, q, Z => by
    rw [t_dh]
    split
    · rw [t_dh_5 hs k, t_mv_o t_cl5]
    · exact t_dh_5 hs k _ _ _
theorem t_sp_get {Z : Nat → Nat → Int32} {pd w : Int32} : t_sp Z pd w 5 7 = Z 5 7 + w ∧ t_sp Z pd w 5 8 = Z 5 8 + (pd - w) ∧ t_sp Z pd w 5 9 = Z 5 9 + 1 ∧ t_sp Z pd w 5 10 = y_mx (Z 5 10) w := by
  unfold t_sp
  refine ⟨by simp [s_upd_c], by simp [s_upd_c], by simp [s_upd_c], by simp [s_upd_c, y_mx]⟩
theorem s_upd_ne {Z : Nat → Nat → Int32} {a k c i : Nat} {x : Int32} (h : ¬ (c = a ∧ i = k)) : s_upd Z a k x c i = Z c i := by rw [s_upd_c, if_neg h]
