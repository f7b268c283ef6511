/-! meanDepth of both (by hand) -/
/-- a call of both that answers a long -/
def K_CL (Z : Nat → Nat → Int32) (P : Nat → Nat) (L k k2 : Nat) (as : List Value) : Prop := ∃ (v : Int64) (Z1 : Nat → Nat → Int32) (P1 : Nat → Nat) (Z2 : Nat → Nat → Int32), m_r k (.ref 4 :: as) (hp Z P L) (some (.long v)) (hp Z1 P1 L) ∧ m_r k2 (.ref 131 :: as) (hp Z1 P1 L) (some (.long v)) (hp Z2 P1 L) ∧ K_R Z2 P1 ∧ Z1 3 = Z 3 ∧ Z2 3 = Z 3
theorem K_CL_ask {Z : Nat → Nat → Int32} {P : Nat → Nat} {L k k2 : Nat} {as : List Value} {v : Int64} (hR : K_R Z P) (h1 : m_r k (.ref 4 :: as) (hp Z P L) (some (.long v)) (hp Z P L)) (h2 : m_r k2 (.ref 131 :: as) (hp Z P L) (some (.long v)) (hp Z P L)) : K_CL Z P L k k2 as := ⟨v, Z, P, Z, h1, h2, hR, rfl, rfl⟩
theorem mean_eq {Z Y : Nat → Nat → Int32} {n : Nat} (hT : K_T Z 5 (Y 132) n) : g_mean Z n = q_mn Y n := by
  unfold g_mean q_mn
  rw [Nat.sub_zero, t_sm_congr n 0 0 (fun j _ hj => K_D hT j (by omega))]
theorem mean_ok {Y : Nat → Nat → Int32} {n : Nat} (hI : K_I (Y 132) n) (h0 : ¬ n = 0) : g_fin (q_mn Y n) ∧ g_all (q_mn Y n) ∧ g_fin (g_rest (q_mn Y n)) ∧ g_all (g_rest (q_mn Y n)) ∧ g_bits (q_mn Y n) = (q_mn Y n).toInt64 ∧ g_rest (q_mn Y n) = q_md Y n ∧ g_bits (g_rest (q_mn Y n)) = (q_md Y n).toInt64 ∧ Op.cmpValue (FP.dcmp (q_mn Y n) (q_mn Y n)) .l = 0 ∧ Op.cmpValue (FP.dcmp (q_md Y n) (q_md Y n)) .l = 0 := by
  obtain ⟨b, b1, b2⟩ := sm_dep (D := q_c Y 248) n 0 0 (fun x x1 x2 => by
    obtain ⟨e, e1, e2, e3⟩ := DT_val (K_DT hI) x1 (by omega)
    have := hI.1
    exact ⟨e, e1, by omega⟩)
  exact g_ask (a := b) (n := n) (by omega) hI.1 (by omega) (by
    unfold q_mn
    rw [show (0 : Int32) = nI 0 from rfl, b1])
theorem call_mean {Z : Nat → Nat → Int32} {P : Nat → Nat} {L : Nat} (hR : K_R Z P) {a : Int32} : K_CL Z P L 64 130 [.int a] := by
  obtain ⟨n, m, g, hT, hI, -⟩ := id hR
  have hn := hI.1
  have x1 := x_mean (P := P) (L := L) (what := a) hT.1.1 hn (fun h0 => by
    rw [mean_eq hT]
    obtain ⟨o1, o2, o3, o4, -⟩ := mean_ok hI h0
    exact ⟨o1, o2, o3, o4⟩)
  rw [c_mean, mean_eq hT] at x1
  by_cases hw : a = 0 ∨ a = 1
  · rw [if_pos hw] at x1
    by_cases h0 : n = 0
    · rw [if_pos h0] at x1
      refine K_CL_ask hR x1 (q_mean_0 hT.1.2 hn ?_ h0)
      rcases hw with h | h
      · rw [h]; decide
      · rw [h]; decide
    · rw [if_neg h0] at x1
      obtain ⟨o1, o2, o3, o4, o5, o6, o7, o8, o9⟩ := mean_ok hI h0
      rcases hw with h | h
      · rw [if_pos h, o5] at x1
        subst h
        exact K_CL_ask hR x1 (q_mean0 hT.1.2 hn h0 o1 o8)
      · rw [if_neg (by rw [h]; decide), o7] at x1
        subst h
        exact K_CL_ask hR x1 (q_mean1 hT.1.2 hn h0 o1 (by rw [← o6]; exact o3) o9)
  · rw [if_neg hw] at x1
    exact K_CL_ask hR x1 (q_mean_no (y_n01 hw))
