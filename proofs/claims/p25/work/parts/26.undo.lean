/-! undo, out of whole's 26 -/
theorem x_undo_0 {Z : Nat → Nat → Int32} {P : Nat → Nat} {L : Nat} (hP : ∀ j, j < 6 → t_hs (P j)) (hM : Z 18 1 = nI 0) : m_r 76 [.ref 4] (hp Z P L) (some (.int (-5))) (hp Z P L) := by
  refine m_of (ls := [.ref 4]) hk_76 rfl rfl rfl ?_
  refine e_go hk_76 4 (c := (8, [.ref 4], [.ref 5, .ref 18], hp Z P L)) rfl ?_
  refine e_call hk_76 (as := [.ref 18, .ref 5]) (rest := []) rfl rfl hk_2 rfl (Nat.le_of_ble_eq_true rfl) rfl (show m_r 2 [.ref 18, .ref 5] (hp Z P L) (some (.int 0)) (hp Z P L) from x_take_0 (fun j hj => t_hs_at (hP j hj)) hM) ?_
  show e_r 76 11 [.ref 4] [.int 0] (hp Z P L) _ _
  refine e_go hk_76 1 (c := (if s_cnd .eq 0 0 = true then 24 else 14, [.ref 4], [], hp Z P L)) rfl ?_
  refine e_eq (a := 24) (b := 14) (x := 0) (y := 0) (fun hc11 => ?_) (fun hc11 => absurd (rfl) hc11)
  refine e_go hk_76 1 (c := (26, [.ref 4], [.int ((-5))], hp Z P L)) rfl ?_
  exact e_ret hk_76 rfl rfl rfl rfl rfl
theorem x_undo_s {Z : Nat → Nat → Int32} {P : Nat → Nat} {L : Nat} (hP : ∀ j, j < 6 → t_hs (P j)) {m : Nat} (hM : Z 18 1 = nI (m + 1)) (hm : m < 6) : m_r 76 [.ref 4] (hp Z P L) (some (.int ((t_tk Z P (m + 1)).2 18 1))) (hp (t_tk Z P (m + 1)).2 P L) := by
  refine m_of (ls := [.ref 4]) hk_76 rfl rfl rfl ?_
  refine e_go hk_76 4 (c := (8, [.ref 4], [.ref 5, .ref 18], hp Z P L)) rfl ?_
  refine e_call hk_76 (as := [.ref 18, .ref 5]) (rest := []) rfl rfl hk_2 rfl (Nat.le_of_ble_eq_true rfl) rfl (show m_r 2 [.ref 18, .ref 5] (hp Z P L) (some (.int 1)) (hp (t_tk Z P (m + 1)).2 P L) from x_take_s (fun j hj => t_hs_at (hP j hj)) hM hm) ?_
  show e_r 76 11 [.ref 4] [.int 1] (hp ((t_tk Z P (m + 1)).2) P L) _ _
  refine e_go hk_76 1 (c := (if s_cnd .eq 1 0 = true then 24 else 14, [.ref 4], [], hp ((t_tk Z P (m + 1)).2) P L)) rfl ?_
  refine e_eq (a := 24) (b := 14) (x := 1) (y := 0) (fun hc11 => absurd hc11 (by decide)) (fun hc11 => ?_)
  refine e_go hk_76 4 (c := (26, [.ref 4], [.int (((t_tk Z P (m + 1)).2) 18 1)], hp ((t_tk Z P (m + 1)).2) P L)) rfl ?_
  exact e_ret hk_76 rfl rfl rfl rfl rfl
theorem t_bc_s {Z : Nat → Nat → Int32} {x y s : Nat} (hxy : y < x ∨ x + 12 < y) (hs : 6 ≤ s ∧ s ≤ 10) : t_bc Z x y x s = Z y s := by
  have e : ∀ (W : Nat → Nat → Int32) (s : Nat), t_bc5 W x y s y = W y := fun W s => s_upd_o (by omega)
  have g : ∀ (W : Nat → Nat → Int32) (s t : Nat), t_bc5 W x y s x t = if t = s then W y s else W x t := by
    intro W s t
    unfold t_bc5
    rw [s_upd_c]
    by_cases h : t = s
    · rw [if_pos ⟨rfl, h⟩, if_pos h]
    · rw [if_neg (fun z => h z.2), if_neg h]
  have f : t_bc6 Z x y y = Z y := by
    unfold t_bc6
    rw [t_cp_o (by omega), t_cp_o (by omega), t_cp_o (by omega), t_cp_o (by omega), t_cp_o (by omega), t_cp_o (by omega)]
  have hs2 : s = 6 ∨ s = 7 ∨ s = 8 ∨ s = 9 ∨ s = 10 := by omega
  unfold t_bc
  rcases hs2 with rfl | rfl | rfl | rfl | rfl <;> simp [g, e, f]
