/-! Doubles: the bits of a mean (by hand) -/
abbrev g64 : FP.Core.Fmt := FP.Core.b64
theorem g_qmin : g64.qmin = -1074 := by decide
theorem g_qmax : g64.qmax = 971 := by decide
theorem g_tails : g64.tails = 2 ^ 52 := by decide
theorem g_p : g64.p = 53 := rfl
abbrev g_v (x : UInt64) : FP.Core.Datum := FP.Core.val64 x
theorem g_fits {c : Nat} {q : Int} (h1 : 2 ^ 52 ≤ c) (h2 : c < 2 ^ 53) (h3 : -1074 ≤ q) (h4 : q ≤ 971) : FP.Core.fits g64 (.fin false c q) := ⟨h2, by rw [g_qmin]; exact h3, by rw [g_qmax]; exact h4, Or.inr (by rw [g_tails]; exact h1)⟩
theorem g_v2 : g_v (UInt64.ofNat 4611686018427387904) = .fin false (2 ^ 52) (-51) := by decide +kernel
theorem g_v1 : g_v FP.dconst1 = .fin false (2 ^ 52) (-52) := by decide +kernel
theorem g_v0 : g_v FP.dconst0 = .fin false 0 (-1074) := by decide +kernel
theorem g_vb : g_v (UInt64.ofNat 4841369599423283200) = .fin false (2 ^ 52) 0 := by decide +kernel
theorem g_ff {x : UInt64} {s : Bool} {c : Nat} {q : Int} (h : g_v x = .fin s c q) : g_fin x := by
  have h1 := (FP.Core.fin_bits x).mp ⟨s, c, q, h⟩
  unfold g_fin
  rw [UInt64.le_iff_toNat_le, FP.Core.mask_toNat]
  exact Nat.le_of_lt h1
theorem g_nn {x : UInt64} {s : Bool} {c : Nat} {q : Int} (h : g_v x = .fin s c q) : g_v x ≠ .nan := by
  rw [h]
  exact FP.Core.Datum.noConfusion
/-- half -/
theorem g_half {x : UInt64} {c : Nat} {q : Int} (h : g_v x = .fin false c q) (h1 : 2 ^ 52 ≤ c) (h2 : c < 2 ^ 53) (h3 : -1000 ≤ q) (h4 : q ≤ 900) : g_v (FP.ddiv x (UInt64.ofNat 4611686018427387904)) = .fin false c (q - 1) := by
  show FP.Core.val64 (FP.Core.ddiv x (UInt64.ofNat 4611686018427387904)) = _
  rw [FP.Core.val64_ddiv, show FP.Core.val64 x = _ from h, show FP.Core.val64 (UInt64.ofNat 4611686018427387904) = _ from g_v2]
  rw [show FP.Core.quotient g64 (.fin false c q) (.fin false (2 ^ 52) (-51)) = (if 2 ^ 52 = 0 then (if c = 0 then .nan else .inf (false != false)) else FP.Core.roundRatio g64 (false != false) c (2 ^ 52) (q - -51)) from rfl, if_neg (by decide)]
  refine FP.Core.roundRatio_exact FP.Core.good_b64 (by decide) (g_fits h1 h2 (by omega) (by omega)) ?_
  rw [show (q - -51 - (q - 1)).toNat = 52 by omega, show (q - 1 - (q - -51)).toNat = 0 by omega, Nat.pow_zero, Nat.mul_one]
/-- twice -/
theorem g_dbl {x : UInt64} {c : Nat} {q : Int} (h : g_v x = .fin false c q) (h1 : 2 ^ 52 ≤ c) (h2 : c < 2 ^ 53) (h3 : -1000 ≤ q) (h4 : q ≤ 900) : g_v (FP.dmul x (UInt64.ofNat 4611686018427387904)) = .fin false c (q + 1) := by
  show FP.Core.val64 (FP.Core.dmul x (UInt64.ofNat 4611686018427387904)) = _
  rw [FP.Core.val64_dmul, show FP.Core.val64 x = _ from h, show FP.Core.val64 (UInt64.ofNat 4611686018427387904) = _ from g_v2]
  show FP.Core.roundRatio g64 (false != false) (c * 2 ^ 52) 1 (q + -51) = _
  refine FP.Core.roundRatio_exact FP.Core.good_b64 (by decide) (g_fits h1 h2 (by omega) (by omega)) ?_
  rw [show (q + -51 - (q + 1)).toNat = 0 by omega, show (q + 1 - (q + -51)).toNat = 52 by omega, Nat.pow_zero, Nat.mul_one, Nat.mul_one]
theorem g_ord {x y : UInt64} {c d : Nat} {q r : Int} (h : g_v x = .fin false c q) (h2 : g_v y = .fin false d r) : FP.dcmp x y = some (compare ((FP.Core.inUnits c q (min q r) : Nat) : Int) ((FP.Core.inUnits d r (min q r) : Nat) : Int)) := by
  show FP.Core.order (FP.Core.val64 x) (FP.Core.val64 y) = _
  rw [show FP.Core.val64 x = _ from h, show FP.Core.val64 y = _ from h2]
  rfl
theorem g_lt {a b : Int} (h : a < b) : compare a b = .lt := by
  show compareOfLessAndEq a b = .lt
  rw [compareOfLessAndEq, if_pos h]
theorem g_ge {a b : Int} (h : b ≤ a) : compare a b = .eq ∨ compare a b = .gt := by
  show compareOfLessAndEq a b = .eq ∨ compareOfLessAndEq a b = .gt
  unfold compareOfLessAndEq
  rw [if_neg (by omega)]
  by_cases z : a = b
  · rw [if_pos z]; exact Or.inl rfl
  · rw [if_neg z]; exact Or.inr rfl
theorem g_gt {a b : Int} (h : b < a) : compare a b = .gt := by
  show compareOfLessAndEq a b = .gt
  rw [compareOfLessAndEq, if_neg (by omega), if_neg (by omega)]
section CMP
variable {x : UInt64} {c : Nat} {q : Int}
theorem g_ge2 (h : g_v x = .fin false c q) (h1 : 2 ^ 52 ≤ c) (hq : -51 ≤ q) : ¬ Op.cmpValue (FP.dcmp x (UInt64.ofNat 4611686018427387904)) .l < 0 := by
  rw [g_ord h g_v2, show min q (-51) = -51 by omega]
  have : ((FP.Core.inUnits (2 ^ 52) (-51) (-51) : Nat) : Int) ≤ ((FP.Core.inUnits c q (-51) : Nat) : Int) := by
    unfold FP.Core.inUnits
    have h3 : 1 ≤ 2 ^ (q - -51).toNat := Nat.one_le_two_pow
    have h4 : 2 ^ 52 * 2 ^ ((-51 : Int) - -51).toNat ≤ c * 2 ^ (q - -51).toNat := Nat.mul_le_mul h1 (by rw [show ((-51 : Int) - -51).toNat = 0 by decide]; exact h3)
    exact Int.ofNat_le.mpr h4
  rcases g_ge this with z | z
  · rw [z]; decide
  · rw [z]; decide
theorem g_lt2 (h : g_v x = .fin false c q) (h2 : c < 2 ^ 53) (hq : q ≤ -52) : Op.cmpValue (FP.dcmp x (UInt64.ofNat 4611686018427387904)) .l < 0 := by
  rw [g_ord h g_v2, show min q (-51) = q by omega]
  have : ((FP.Core.inUnits c q q : Nat) : Int) < ((FP.Core.inUnits (2 ^ 52) (-51) q : Nat) : Int) := by
    unfold FP.Core.inUnits
    rw [show (q - q).toNat = 0 by omega, Nat.pow_zero, Nat.mul_one, show ((-51 : Int) - q).toNat = (-52 - q).toNat + 1 by omega, Nat.pow_succ]
    have h3 : 1 ≤ 2 ^ ((-52 : Int) - q).toNat := Nat.one_le_two_pow
    have h4 : 2 ^ 52 * (1 * 2) ≤ 2 ^ 52 * (2 ^ ((-52 : Int) - q).toNat * 2) := Nat.mul_le_mul_left _ (Nat.mul_le_mul_right 2 h3)
    exact Int.ofNat_lt.mpr (Nat.lt_of_lt_of_le h2 h4)
  rw [g_lt this]
  decide
theorem g_ge1 (h : g_v x = .fin false c q) (h1 : 2 ^ 52 ≤ c) (hq : -52 ≤ q) : 0 ≤ Op.cmpValue (FP.dcmp x FP.dconst1) .g := by
  rw [g_ord h g_v1, show min q (-52) = -52 by omega]
  have : ((FP.Core.inUnits (2 ^ 52) (-52) (-52) : Nat) : Int) ≤ ((FP.Core.inUnits c q (-52) : Nat) : Int) := by
    unfold FP.Core.inUnits
    have h3 : 1 ≤ 2 ^ (q - -52).toNat := Nat.one_le_two_pow
    have h4 : 2 ^ 52 * 2 ^ ((-52 : Int) - -52).toNat ≤ c * 2 ^ (q - -52).toNat := Nat.mul_le_mul h1 (by rw [show ((-52 : Int) - -52).toNat = 0 by decide]; exact h3)
    exact Int.ofNat_le.mpr h4
  rcases g_ge this with z | z
  · rw [z]; decide
  · rw [z]; decide
theorem g_lt1 (h : g_v x = .fin false c q) (h2 : c < 2 ^ 53) (hq : q ≤ -53) : ¬ 0 ≤ Op.cmpValue (FP.dcmp x FP.dconst1) .g := by
  rw [g_ord h g_v1, show min q (-52) = q by omega]
  have : ((FP.Core.inUnits c q q : Nat) : Int) < ((FP.Core.inUnits (2 ^ 52) (-52) q : Nat) : Int) := by
    unfold FP.Core.inUnits
    rw [show (q - q).toNat = 0 by omega, Nat.pow_zero, Nat.mul_one, show ((-52 : Int) - q).toNat = (-53 - q).toNat + 1 by omega, Nat.pow_succ]
    have h3 : 1 ≤ 2 ^ ((-53 : Int) - q).toNat := Nat.one_le_two_pow
    have h4 : 2 ^ 52 * (1 * 2) ≤ 2 ^ 52 * (2 ^ ((-53 : Int) - q).toNat * 2) := Nat.mul_le_mul_left _ (Nat.mul_le_mul_right 2 h3)
    exact Int.ofNat_lt.mpr (Nat.lt_of_lt_of_le h2 h4)
  rw [g_lt this]
  decide
theorem g_gt0 (h : g_v x = .fin false c q) (h1 : 2 ^ 52 ≤ c) : 0 < Op.cmpValue (FP.dcmp x FP.dconst0) .l := by
  rw [g_ord h g_v0]
  have : ((FP.Core.inUnits 0 (-1074) (min q (-1074)) : Nat) : Int) < ((FP.Core.inUnits c q (min q (-1074)) : Nat) : Int) := by
    unfold FP.Core.inUnits
    rw [Nat.zero_mul]
    exact Int.ofNat_lt.mpr (Nat.mul_pos (by omega) (Nat.two_pow_pos _))
  rw [g_gt this]
  decide
theorem g_self {s : Bool} (h : g_v x = .fin s c q) : Op.cmpValue (FP.dcmp x x) .l = 0 := by
  rw [show FP.dcmp x x = some .eq from FP.Core.dcmp_self (g_nn h)]
  rfl
end CMP
/-! the loops -/
theorem g_l1_up {c : Nat} (h1 : 2 ^ 52 ≤ c) (h2 : c < 2 ^ 53) : ∀ (j k : Nat) (x : UInt64) (p : Int32), j ≤ k → j ≤ 900 → g_v x = .fin false c (-52 + (j : Int)) → g_v (g_l1 k x p).1 = .fin false c (-52) ∧ (g_l1 k x p).2 = p + nI j ∧ g_ok1 k x
  | 0, 0, x, p, hk, hj, h => ⟨h, (Int32.add_zero p).symm, trivial⟩
  | 0, k + 1, x, p, hk, hj, h => by
    have hl := g_lt2 h h2 (by omega)
    rw [g_l1, if_pos hl]
    exact ⟨h, (Int32.add_zero p).symm, fun z => absurd hl z⟩
  | j + 1, 0, x, p, hk, hj, h => by omega
  | j + 1, k + 1, x, p, hk, hj, h => by
    have hl := g_ge2 h h1 (by omega)
    have hd := g_half h h1 h2 (by omega) (by omega)
    rw [show -52 + ((j + 1 : Nat) : Int) - 1 = -52 + (j : Int) by omega] at hd
    obtain ⟨r1, r2, r3⟩ := g_l1_up h1 h2 j k _ (p + 1) (by omega) (by omega) hd
    rw [g_l1, if_neg hl]
    refine ⟨r1, ?_, fun _ => ⟨g_ff hd, r3⟩⟩
    rw [r2, Int32.add_assoc, y_add1, nI_1]
theorem g_l1_lo {c : Nat} {q : Int} (h2 : c < 2 ^ 53) {k : Nat} {x : UInt64} {p : Int32} (h : g_v x = .fin false c q) (hq : q ≤ -52) : g_l1 (k + 1) x p = (x, p) ∧ g_ok1 (k + 1) x := by
  have hl := g_lt2 h h2 hq
  rw [g_l1, if_pos hl]
  exact ⟨rfl, fun z => absurd hl z⟩
theorem g_l2_up {c : Nat} (h1 : 2 ^ 52 ≤ c) (h2 : c < 2 ^ 53) : ∀ (j k : Nat) (x : UInt64) (p : Int32), j ≤ k → j ≤ 900 → g_v x = .fin false c (-52 - (j : Int)) → g_v (g_l2 k x p).1 = .fin false c (-52) ∧ (g_l2 k x p).2 = p - nI j ∧ g_ok2 k x
  | 0, 0, x, p, hk, hj, h => ⟨h, (Int32.sub_zero p).symm, trivial⟩
  | 0, k + 1, x, p, hk, hj, h => by
    have hl := g_ge1 h h1 (by omega)
    rw [g_l2, if_pos hl]
    exact ⟨h, (Int32.sub_zero p).symm, fun z => absurd hl z⟩
  | j + 1, 0, x, p, hk, hj, h => by omega
  | j + 1, k + 1, x, p, hk, hj, h => by
    have hl := g_lt1 h h2 (by omega)
    have hd := g_dbl h h1 h2 (by omega) (by omega)
    rw [show -52 - ((j + 1 : Nat) : Int) + 1 = -52 - (j : Int) by omega] at hd
    obtain ⟨r1, r2, r3⟩ := g_l2_up h1 h2 j k _ (p + (-1)) (by omega) (by omega) hd
    rw [g_l2, if_neg hl]
    refine ⟨r1, ?_, fun _ => ⟨g_ff hd, r3⟩⟩
    rw [r2, y_am1, Int32.sub_sub, y_add1, nI_1]
/-! whole numbers -/
theorem g_norm {t : Nat} (h0 : 0 < t) (h1 : t < 2 ^ 53) : ∃ s, s ≤ 52 ∧ 2 ^ 52 ≤ t * 2 ^ s ∧ t * 2 ^ s < 2 ^ 53 := by
  have a1 : 2 ^ t.log2 ≤ t := Nat.log2_self_le (by omega)
  have a2 : t < 2 ^ (t.log2 + 1) := Nat.lt_log2_self
  have a3 : t.log2 < 53 := (Nat.log2_lt (by omega)).mpr h1
  refine ⟨52 - t.log2, by omega, ?_, ?_⟩
  · calc 2 ^ 52 = 2 ^ t.log2 * 2 ^ (52 - t.log2) := by rw [← Nat.pow_add]; congr 1; omega
      _ ≤ t * 2 ^ (52 - t.log2) := Nat.mul_le_mul_right _ a1
  · calc t * 2 ^ (52 - t.log2) < 2 ^ (t.log2 + 1) * 2 ^ (52 - t.log2) := Nat.mul_lt_mul_of_pos_right a2 (Nat.two_pow_pos _)
      _ = 2 ^ 53 := by rw [← Nat.pow_add]; congr 1; omega
theorem g_rr {t : Nat} {e : Int} (h0 : 0 < t) (h1 : t < 2 ^ 53) (h2 : -900 ≤ e) (h3 : e ≤ 900) : ∃ s : Nat, s ≤ 52 ∧ 2 ^ 52 ≤ t * 2 ^ s ∧ t * 2 ^ s < 2 ^ 53 ∧ FP.Core.roundRatio g64 false t 1 e = .fin false (t * 2 ^ s) (e - s) := by
  obtain ⟨s, s1, s2, s3⟩ := g_norm h0 h1
  refine ⟨s, s1, s2, s3, FP.Core.roundRatio_exact FP.Core.good_b64 (by decide) (g_fits s2 s3 (by omega) (by omega)) ?_⟩
  rw [show (e - (e - (s : Int))).toNat = s by omega, show (e - (s : Int) - e).toNat = 0 by omega, Nat.pow_zero, Nat.mul_one, Nat.mul_one]
theorem g_rr0 {e : Int} : FP.Core.roundRatio g64 false 0 1 e = .fin false 0 (-1074) := by
  unfold FP.Core.roundRatio
  rw [if_pos rfl, g_qmin]
theorem g_l2d {t : Nat} (h : t < 2 ^ 62) : g_v (FP.l2d (Int64.ofNat t)) = FP.Core.roundRatio g64 false t 1 0 := by
  show FP.Core.val64 (FP.Core.l2d (Int64.ofNat t)) = _
  rw [FP.Core.val64_l2d, Int64.toInt_ofNat_of_lt (by omega)]
  show FP.Core.roundRatio g64 (decide ((t : Int) < 0)) (t : Int).natAbs 1 0 = _
  rw [decide_eq_false (by omega), Int.natAbs_natCast]
theorem g_small {t : Nat} (h : t < 2 ^ 53) : FP.d2l (FP.l2d (Int64.ofNat t)) = Int64.ofNat t := by
  refine FP.Core.d2l_l2d_small ?_
  unfold FP.Core.Small53
  rw [Int64.toInt_ofNat_of_lt (by omega)]
  omega
/-- the fraction's bits -/
theorem g_frac {y : UInt64} {c : Nat} (h : g_v y = .fin false c (-52)) (h1 : 2 ^ 52 ≤ c) (h2 : c < 2 ^ 53) : g_fok y ∧ FP.d2l (g_end y) = Int64.ofNat (c - 2 ^ 52) := by
  have hs : g_v (FP.dsub y FP.dconst1) = FP.Core.roundRatio g64 false (c - 2 ^ 52) 1 (-52) := by
    show FP.Core.val64 (FP.Core.dsub y FP.dconst1) = _
    rw [FP.Core.val64_dsub, show FP.Core.val64 y = _ from h, show FP.Core.val64 FP.dconst1 = _ from g_v1]
    have hu : FP.Core.sumUnits false c (-52) true (2 ^ 52) (-52) (min (-52) (-52)) = ((c - 2 ^ 52 : Nat) : Int) := by
      show ((c * 1 : Nat) : Int) + -((2 ^ 52 * 1 : Nat) : Int) = _
      omega
    show FP.Core.round g64 (.fin (FP.Core.sumSign false true (FP.Core.sumUnits false c (-52) true (2 ^ 52) (-52) (min (-52) (-52)))) (FP.Core.sumUnits false c (-52) true (2 ^ 52) (-52) (min (-52) (-52))).natAbs (min (-52) (-52))) = _
    rw [hu, Int.natAbs_natCast]
    have hsg : FP.Core.sumSign false true ((c - 2 ^ 52 : Nat) : Int) = false := by
      unfold FP.Core.sumSign
      split
      · rfl
      · exact decide_eq_false (by omega)
    rw [hsg]
    rfl
  have he : g_v (g_end y) = FP.Core.roundRatio g64 false (c - 2 ^ 52) 1 0 := by
    show FP.Core.val64 (FP.Core.dmul (FP.dsub y FP.dconst1) (UInt64.ofNat 4841369599423283200)) = _
    rw [FP.Core.val64_dmul, show FP.Core.val64 (FP.dsub y FP.dconst1) = _ from hs, show FP.Core.val64 (UInt64.ofNat 4841369599423283200) = _ from g_vb]
    rcases Nat.eq_zero_or_pos (c - 2 ^ 52) with h0 | h0
    · rw [h0, g_rr0, g_rr0]
      show FP.Core.roundRatio g64 (false != false) (0 * 2 ^ 52) 1 (-1074 + 0) = _
      rw [Nat.zero_mul]
      exact g_rr0
    · obtain ⟨s, s1, s2, s3, s4⟩ := g_rr (t := c - 2 ^ 52) (e := -52) h0 (by omega) (by omega) (by omega)
      rw [s4]
      show FP.Core.roundRatio g64 (false != false) ((c - 2 ^ 52) * 2 ^ s * 2 ^ 52) 1 (-52 - (s : Int) + 0) = _
      refine FP.Core.roundRatio_congr (by decide) (by decide) ?_
      rw [show ((-52 : Int) - (s : Int) + 0 - 0).toNat = 0 by omega, show ((0 : Int) - (-52 - (s : Int) + 0)).toNat = s + 52 by omega, Nat.pow_zero, Nat.mul_one, Nat.mul_one, Nat.mul_one, Nat.pow_add, Nat.mul_assoc]
  have hfin : ∀ e : Int, -900 ≤ e → e ≤ 900 → ∃ a b, FP.Core.roundRatio g64 false (c - 2 ^ 52) 1 e = .fin false a b := fun e e1 e2 => by
    rcases Nat.eq_zero_or_pos (c - 2 ^ 52) with h0 | h0
    · rw [h0]
      exact ⟨_, _, g_rr0⟩
    · obtain ⟨s, s1, s2, s3, s4⟩ := g_rr (t := c - 2 ^ 52) (e := e) h0 (by omega) e1 e2
      exact ⟨_, _, s4⟩
  obtain ⟨a1, b1, e1⟩ := hfin (-52) (by omega) (by omega)
  obtain ⟨a2, b2, e2⟩ := hfin 0 (by omega) (by omega)
  refine ⟨⟨g_ff (hs.trans e1), g_ff (he.trans e2)⟩, ?_⟩
  have : g_end y = FP.l2d (Int64.ofNat (c - 2 ^ 52)) := FP.Core.val64_inj (g_nn (he.trans e2)) (by rw [show FP.Core.val64 (g_end y) = _ from he, show FP.Core.val64 (FP.l2d (Int64.ofNat (c - 2 ^ 52))) = _ from g_l2d (by omega)])
  rw [this, g_small (by omega)]
theorem g_shl : ∀ E, E < 1100 → ((nI E).toInt64 <<< ((52 : Int32).toInt64 &&& 63)) = Int64.ofNat (E * 2 ^ 52) := by decide +kernel
/-- a double's own bits -/
theorem g_own {x : UInt64} {c : Nat} {q : Int} (h : g_v x = .fin false c q) (h1 : 2 ^ 52 ≤ c) (h2 : c < 2 ^ 53) (h3 : -1000 ≤ q) : x.toInt64 = Int64.ofNat ((q + 1075).toNat * 2 ^ 52 + (c - 2 ^ 52)) := by
  have hx := FP.Core.of64_val64 (g_nn h)
  rw [show FP.Core.val64 x = _ from h] at hx
  rw [← hx]
  show (UInt64.ofNat (FP.Core.encode g64 (.fin false c q))).toInt64 = _
  have he : FP.Core.encode g64 (.fin false c q) = (q + 1075).toNat * 2 ^ 52 + (c - 2 ^ 52) := by
    show (if c < g64.tails then _ else FP.Core.assemble g64 false ((q - g64.qmin).toNat + 1) (c - g64.tails)) = _
    rw [g_tails, if_neg (by omega), g_qmin]
    unfold FP.Core.assemble
    rw [g_tails, show (q - -1074).toNat + 1 = (q + 1075).toNat by omega]
    show (0 * g64.exps + (q + 1075).toNat) * 2 ^ 52 + (c - 2 ^ 52) = _
    rw [Nat.zero_mul, Nat.zero_add]
  rw [he]
  rfl
theorem g_main {x : UInt64} {c : Nat} {q : Int} (h : g_v x = .fin false c q) (h1 : 2 ^ 52 ≤ c) (h2 : c < 2 ^ 53) (h3 : -115 ≤ q) (h4 : q ≤ 0) : g_all x ∧ g_bits x = x.toInt64 := by
  have key : ∃ y p, g_snd x = (y, p) ∧ g_v y = .fin false c (-52) ∧ p + 1023 = nI (q + 1075).toNat ∧ g_ok1 64 x ∧ g_ok2 64 (g_fst x).1 := by
    by_cases hq : -52 ≤ q
    · obtain ⟨j, hj⟩ : ∃ j : Nat, q = -52 + (j : Int) := ⟨(q + 52).toNat, by omega⟩
      rw [hj] at h
      obtain ⟨r1, r2, r3⟩ := g_l1_up h1 h2 j 64 x 0 (by omega) (by omega) h
      obtain ⟨s1, s2, s3⟩ := g_l2_up h1 h2 0 64 (g_fst x).1 (g_fst x).2 (by omega) (by omega) (by rw [show (-52 : Int) - ((0 : Nat) : Int) = -52 by omega]; exact r1)
      refine ⟨_, _, rfl, s1, ?_, r3, s3⟩
      show (g_snd x).2 + 1023 = _
      have s2 : (g_snd x).2 = (g_fst x).2 - nI 0 := s2
      have r2 : (g_fst x).2 = 0 + nI j := r2
      rw [s2, r2, show nI 0 = 0 from rfl, Int32.sub_zero, Int32.zero_add, show (1023 : Int32) = nI 1023 from rfl, nI_add]
      congr 1
      omega
    · obtain ⟨j, hj⟩ : ∃ j : Nat, q = -52 - (j : Int) := ⟨(-52 - q).toNat, by omega⟩
      obtain ⟨r1, r2⟩ := g_l1_lo (k := 63) (p := 0) h2 h (by omega)
      have r1 : g_fst x = (x, 0) := r1
      rw [hj] at h
      obtain ⟨s1, s2, s3⟩ := g_l2_up h1 h2 j 64 x 0 (by omega) (by omega) h
      refine ⟨(g_snd x).1, (g_snd x).2, rfl, ?_, ?_, r2, by rw [r1]; exact s3⟩
      · unfold g_snd
        rw [r1]
        exact s1
      · unfold g_snd
        rw [r1]
        show (g_l2 64 x 0).2 + 1023 = _
        rw [s2, Int32.sub_eq_add_neg, Int32.zero_add, Int32.add_comm, ← Int32.sub_eq_add_neg, show (1023 : Int32) = nI 1023 from rfl, nI_sub (by omega)]
        congr 1
        omega
  obtain ⟨y, p, k1, k2, k3, k4, k5⟩ := key
  obtain ⟨f1, f2⟩ := g_frac k2 h1 h2
  refine ⟨⟨k4, k5, by rw [k1]; exact f1⟩, ?_⟩
  unfold g_bits
  rw [if_pos (g_gt0 h h1), k1, g_own h h1 h2 (by omega)]
  unfold g_res
  dsimp only
  rw [k3, f2, g_shl _ (by omega), ← Int64.ofNat_add]
theorem g_ok2_0 : ∀ k, g_ok2 k 0
  | 0 => trivial
  | k + 1 => fun _ => by
    rw [show FP.dmul 0 (UInt64.ofNat 4611686018427387904) = 0 by decide +kernel]
    exact ⟨by unfold g_fin; decide +kernel, g_ok2_0 k⟩
theorem g_l2_0 : ∀ (k : Nat) (p : Int32), (g_l2 k 0 p).1 = 0
  | 0, p => rfl
  | k + 1, p => by
    rw [g_l2]
    split
    · rfl
    · rw [show FP.dmul 0 (UInt64.ofNat 4611686018427387904) = 0 by decide +kernel]
      exact g_l2_0 k _
theorem g_zero : g_all 0 ∧ g_bits 0 = (0 : UInt64).toInt64 := by
  have hl : Op.cmpValue (FP.dcmp 0 (UInt64.ofNat 4611686018427387904)) .l < 0 := by decide +kernel
  have hf : g_fst 0 = (0, 0) := by
    show g_l1 (63 + 1) 0 0 = (0, 0)
    rw [g_l1, if_pos hl]
  refine ⟨⟨fun z => absurd hl z, by rw [hf]; exact g_ok2_0 64, ?_⟩, ?_⟩
  · unfold g_snd
    rw [hf]
    show g_fok (g_l2 64 0 0).1
    rw [g_l2_0]
    exact ⟨by unfold g_fin; decide +kernel, by unfold g_fin; decide +kernel⟩
  · unfold g_bits
    rw [if_neg (by decide +kernel)]
    rfl
theorem g_is0 {x : UInt64} {s : Int} (h : g_v x = FP.Core.roundRatio g64 false 0 1 s) : x = 0 := by
  rw [g_rr0] at h
  exact FP.Core.val64_inj (g_nn h) (by rw [show FP.Core.val64 x = _ from h]; exact (by decide +kernel))
/-! a mean -/
theorem g_i2d {a : Nat} (h : a < 2 ^ 30) : g_v (FP.i2d (nI a)) = FP.Core.roundRatio g64 false a 1 0 := by
  show FP.Core.val64 (FP.Core.i2d (nI a)) = _
  rw [FP.Core.val64_i2d, nI_toInt (by omega)]
  show FP.Core.roundRatio g64 (decide ((a : Int) < 0)) (a : Int).natAbs 1 0 = _
  rw [decide_eq_false (by omega), Int.natAbs_natCast]
theorem g_mean_v {a n : Nat} (h0 : 0 < a) (ha : a < 2 ^ 30) (hn : 0 < n) (hn2 : n < 2 ^ 30) : g_v (FP.ddiv (FP.i2d (nI a)) (FP.i2d (nI n))) = FP.Core.roundRatio g64 false a n 0 := by
  show FP.Core.val64 (FP.Core.ddiv (FP.i2d (nI a)) (FP.i2d (nI n))) = _
  obtain ⟨s, s1, s2, s3, s4⟩ := g_rr (t := a) (e := 0) h0 (by omega) (by omega) (by omega)
  obtain ⟨r, r1, r2, r3, r4⟩ := g_rr (t := n) (e := 0) hn (by omega) (by omega) (by omega)
  rw [FP.Core.val64_ddiv, show FP.Core.val64 (FP.i2d (nI a)) = _ from g_i2d ha, show FP.Core.val64 (FP.i2d (nI n)) = _ from g_i2d hn2, s4, r4]
  show (if n * 2 ^ r = 0 then _ else FP.Core.roundRatio g64 (false != false) (a * 2 ^ s) (n * 2 ^ r) ((0 : Int) - (s : Int) - (0 - (r : Int)))) = _
  rw [if_neg (by omega)]
  refine FP.Core.roundRatio_congr (by omega) hn ?_
  rcases Nat.le_total s r with h | h
  · rw [show ((0 : Int) - (s : Int) - (0 - (r : Int)) - 0).toNat = r - s by omega, show ((0 : Int) - (0 - (s : Int) - (0 - (r : Int)))).toNat = 0 by omega, Nat.pow_zero, Nat.mul_one]
    rw [show a * 2 ^ s * n * 2 ^ (r - s) = a * n * (2 ^ s * 2 ^ (r - s)) by ac_rfl, ← Nat.pow_add, show s + (r - s) = r by omega, Nat.mul_assoc]
  · rw [show ((0 : Int) - (s : Int) - (0 - (r : Int)) - 0).toNat = 0 by omega, show ((0 : Int) - (0 - (s : Int) - (0 - (r : Int)))).toNat = s - r by omega, Nat.pow_zero, Nat.mul_one]
    rw [show a * (n * 2 ^ r) * 2 ^ (s - r) = a * n * (2 ^ r * 2 ^ (s - r)) by ac_rfl, ← Nat.pow_add, show r + (s - r) = s by omega]
    ac_rfl
theorem g_form {a n : Nat} (h0 : 0 < a) (hn : 0 < n) (hn2 : n ≤ 60) (hb : a < 64 * n) : ∃ c q, FP.Core.roundRatio g64 false a n 0 = .fin false c q ∧ 2 ^ 52 ≤ c ∧ c < 2 ^ 53 ∧ -60 ≤ q ∧ q ≤ -45 := by
  obtain ⟨l1, l2⟩ := FP.Core.leading_spec h0 hn
  have hlo : -6 ≤ FP.Core.leading a n := by
    have h : ¬ FP.Core.Below a n (-6) := by
      show ¬ a * 2 ^ 6 < n * 2 ^ 0
      omega
    have := FP.Core.lt_of_below h l2
    omega
  have hhi : FP.Core.leading a n < 6 := by
    have h : FP.Core.Below a n 6 := by
      show a * 2 ^ 0 < n * 2 ^ 6
      omega
    exact FP.Core.lt_of_below l1 h
  have hq : FP.Core.quantum g64 a n 0 = FP.Core.leading a n - 52 := by
    unfold FP.Core.quantum
    rw [g_qmin, g_p]
    omega
  have hf := FP.Core.roundRatio_fits FP.Core.good_b64 false a hn 0
  have hform : ∃ c q, FP.Core.roundRatio g64 false a n 0 = .fin false c q ∧ -60 ≤ q ∧ q ≤ -45 := by
    unfold FP.Core.roundRatio
    rw [if_neg (by omega)]
    unfold FP.Core.roundAt FP.Core.settle FP.Core.bound
    rw [hq, g_qmax]
    split
    · rw [if_pos (by omega)]
      exact ⟨_, _, rfl, by omega, by omega⟩
    · rw [if_pos (by omega)]
      exact ⟨_, _, rfl, by omega, by omega⟩
  obtain ⟨c, q, e1, e2, e3⟩ := hform
  rw [e1] at hf
  obtain ⟨f1, f2, f3, f4⟩ := hf
  refine ⟨c, q, e1, ?_, f1, e2, e3⟩
  rcases f4 with f4 | f4
  · rw [g_qmin] at f4; omega
  · rw [g_tails] at f4; exact f4
theorem g_cl {k : Nat} (h : k < 2 ^ 8) : max (-2 ^ 63) (min (2 ^ 63 - 1) (k : Int)) = (k : Int) := by
  rw [Int.min_eq_right (by omega), Int.max_eq_right (by omega)]
theorem g_rest_v {x : UInt64} {c : Nat} {q : Int} (h : g_v x = .fin false c q) (h1 : 2 ^ 52 ≤ c) (h2 : c < 2 ^ 53) (h3 : -60 ≤ q) (h4 : q ≤ -45) : g_v (g_rest x) = FP.Core.roundRatio g64 false (c % 2 ^ (-q).toNat) 1 q ∧ g_v (FP.drem x FP.dconst1) = FP.Core.roundRatio g64 false (c % 2 ^ (-q).toNat) 1 q := by
  have hdm := Nat.div_add_mod c (2 ^ (-q).toNat)
  have hk : c / 2 ^ (-q).toNat < 2 ^ 8 := by
    rw [Nat.div_lt_iff_lt_mul (Nat.two_pow_pos _)]
    have : 2 ^ 45 ≤ 2 ^ (-q).toNat := Nat.pow_le_pow_right (by decide) (by omega)
    omega
  have hd : FP.d2l x = Int64.ofNat (c / 2 ^ (-q).toNat) := by
    show Int64.ofInt (FP.Core.toInt (-2 ^ 63) (2 ^ 63 - 1) (FP.Core.val64 x)) = _
    rw [show FP.Core.val64 x = _ from h]
    have : FP.Core.truncate false c q = ((c / 2 ^ (-q).toNat : Nat) : Int) := by
      show ((c * 2 ^ q.toNat / 2 ^ (-q).toNat : Nat) : Int) = _
      rw [show q.toNat = 0 by omega, Nat.pow_zero, Nat.mul_one]
    show Int64.ofInt (max (-2 ^ 63) (min (2 ^ 63 - 1) (FP.Core.truncate false c q))) = _
    rw [this, g_cl hk]
    rfl
  generalize hkk : c / 2 ^ (-q).toNat = k at *
  generalize hrr : c % 2 ^ (-q).toNat = r at *
  constructor
  · show FP.Core.val64 (FP.Core.dsub x (FP.l2d (FP.d2l x))) = _
    rw [FP.Core.val64_dsub, hd, show FP.Core.val64 x = _ from h, show FP.Core.val64 (FP.l2d (Int64.ofNat k)) = _ from g_l2d (by omega)]
    have fin : ∀ (d : Nat) (w m : Int), m ≤ q → m ≤ w → m = min q w → FP.Core.inUnits d w m = k * 2 ^ (-q).toNat * 2 ^ (q - m).toNat → FP.Core.round g64 (FP.Core.exactSum (.fin false c q) (FP.Core.negate (.fin false d w))) = FP.Core.roundRatio g64 false r 1 q := by
      intro d w m m1 m2 m3 hu
      show FP.Core.round g64 (.fin (FP.Core.sumSign false true (FP.Core.sumUnits false c q true d w (min q w))) (FP.Core.sumUnits false c q true d w (min q w)).natAbs (min q w)) = _
      rw [← m3]
      have hs : FP.Core.sumUnits false c q true d w m = ((r * 2 ^ (q - m).toNat : Nat) : Int) := by
        show ((c * 2 ^ (q - m).toNat : Nat) : Int) + -((FP.Core.inUnits d w m : Nat) : Int) = _
        rw [hu]
        have : c * 2 ^ (q - m).toNat = k * 2 ^ (-q).toNat * 2 ^ (q - m).toNat + r * 2 ^ (q - m).toNat := by
          rw [← Nat.add_mul]
          congr 1
          rw [Nat.mul_comm k]
          exact hdm.symm
        omega
      have hsg : FP.Core.sumSign false true ((r * 2 ^ (q - m).toNat : Nat) : Int) = false := by
        unfold FP.Core.sumSign
        split
        · rfl
        · exact decide_eq_false (by omega)
      rw [hs, hsg, Int.natAbs_natCast]
      show FP.Core.roundRatio g64 false (r * 2 ^ (q - m).toNat) 1 m = _
      refine FP.Core.roundRatio_congr (by decide) (by decide) ?_
      rw [show (m - q).toNat = 0 by omega, Nat.pow_zero, Nat.mul_one, Nat.mul_one, Nat.mul_one]
    rcases Nat.eq_zero_or_pos k with h0 | h0
    · rw [h0, g_rr0]
      refine fin 0 (-1074) (-1074) (by omega) (by omega) (by omega) ?_
      unfold FP.Core.inUnits
      rw [h0, Nat.zero_mul, Nat.zero_mul, Nat.zero_mul]
    · obtain ⟨s, s1, s2, s3, s4⟩ := g_rr (t := k) (e := 0) h0 (by omega) (by omega) (by omega)
      rw [s4]
      refine fin _ _ (min q (0 - (s : Int))) (by omega) (by omega) rfl ?_
      unfold FP.Core.inUnits
      rw [Nat.mul_assoc, Nat.mul_assoc, ← Nat.pow_add, ← Nat.pow_add]
      congr 2
      omega
  · show FP.Core.val64 (FP.Core.drem x FP.dconst1) = _
    rw [FP.Core.val64_drem, show FP.Core.val64 x = _ from h, show FP.Core.val64 FP.dconst1 = _ from g_v1]
    rw [show FP.Core.exactRemainder (.fin false c q) (.fin false (2 ^ 52) (-52)) = (if 2 ^ 52 = 0 then .nan else .fin false (FP.Core.inUnits c q (min q (-52)) % FP.Core.inUnits (2 ^ 52) (-52) (min q (-52))) (min q (-52))) from rfl, if_neg (by decide)]
    have hu : FP.Core.inUnits c q (min q (-52)) % FP.Core.inUnits (2 ^ 52) (-52) (min q (-52)) = r * 2 ^ (q - min q (-52)).toNat := by
      unfold FP.Core.inUnits
      have : 2 ^ 52 * 2 ^ ((-52 : Int) - min q (-52)).toNat = 2 ^ (-q).toNat * 2 ^ (q - min q (-52)).toNat := by
        rw [← Nat.pow_add, ← Nat.pow_add]
        congr 1
        omega
      rw [this, Nat.mul_mod_mul_right, hrr]
    rw [hu]
    show FP.Core.roundRatio g64 false (r * 2 ^ (q - min q (-52)).toNat) 1 (min q (-52)) = _
    refine FP.Core.roundRatio_congr (by decide) (by decide) ?_
    rw [show (min q (-52) - q).toNat = 0 by omega, Nat.pow_zero, Nat.mul_one, Nat.mul_one, Nat.mul_one]
/-- all that is asked of a mean -/
theorem g_ask {a n : Nat} (hn : 0 < n) (hn2 : n ≤ 60) (hb : a ≤ 59 * n) {x : UInt64} (hx : x = FP.ddiv (FP.i2d (nI a)) (FP.i2d (nI n))) : g_fin x ∧ g_all x ∧ g_fin (g_rest x) ∧ g_all (g_rest x) ∧ g_bits x = x.toInt64 ∧ g_rest x = FP.drem x FP.dconst1 ∧ g_bits (g_rest x) = (FP.drem x FP.dconst1).toInt64 ∧ Op.cmpValue (FP.dcmp x x) .l = 0 ∧ Op.cmpValue (FP.dcmp (FP.drem x FP.dconst1) (FP.drem x FP.dconst1)) .l = 0 := by
  have z0 : g_fin 0 := by unfold g_fin; decide +kernel
  rcases Nat.eq_zero_or_pos a with h0 | h0
  · have hx0 : x = 0 := by
      rw [hx, h0]
      have : ∀ n, n < 61 → 0 < n → FP.ddiv (FP.i2d (nI 0)) (FP.i2d (nI n)) = 0 := by decide +kernel
      exact this n (by omega) hn
    have hr0 : g_rest 0 = 0 := by unfold g_rest; decide +kernel
    have hd0 : FP.drem 0 FP.dconst1 = 0 := by decide +kernel
    rw [hx0, hr0, hd0]
    exact ⟨z0, g_zero.1, z0, g_zero.1, g_zero.2, rfl, g_zero.2, by decide +kernel, by decide +kernel⟩
  · obtain ⟨c, q, e1, e2, e3, e4, e5⟩ := g_form h0 hn hn2 (by omega)
    have hv : g_v x = .fin false c q := by rw [hx, g_mean_v h0 (by omega) hn (by omega), e1]
    obtain ⟨m1, m2⟩ := g_main hv e2 e3 (by omega) (by omega)
    obtain ⟨r1, r2⟩ := g_rest_v hv e2 e3 e4 e5
    rcases Nat.eq_zero_or_pos (c % 2 ^ (-q).toNat) with hr | hr
    · rw [hr] at r1 r2
      have q1 := g_is0 r1
      have q2 := g_is0 r2
      rw [q1, q2]
      exact ⟨g_ff hv, m1, z0, g_zero.1, m2, rfl, g_zero.2, g_self hv, by decide +kernel⟩
    · have hlt : c % 2 ^ (-q).toNat < 2 ^ 53 := Nat.lt_of_le_of_lt (Nat.mod_le _ _) e3
      obtain ⟨s, s1, s2, s3, s4⟩ := g_rr (t := c % 2 ^ (-q).toNat) (e := q) hr hlt (by omega) (by omega)
      rw [s4] at r1 r2
      have heq : g_rest x = FP.drem x FP.dconst1 := FP.Core.val64_inj (g_nn r1) (r1.trans r2.symm)
      obtain ⟨t1, t2⟩ := g_main r1 s2 s3 (by omega) (by omega)
      exact ⟨g_ff hv, m1, g_ff r1, t1, m2, heq, by rw [t2, heq], g_self hv, g_self r2⟩
/-- the depths together -/
theorem sm_dep {D : Nat → Int32} : ∀ (k i a : Nat), (∀ x, i ≤ x → x < i + k → ∃ e, D x = nI e ∧ e ≤ 59) → ∃ b, t_sm D i k (nI a) = nI b ∧ b ≤ a + 59 * k
  | 0, i, a, h => ⟨a, rfl, by omega⟩
  | k + 1, i, a, h => by
    obtain ⟨e, e1, e2⟩ := h i (Nat.le_refl _) (by omega)
    obtain ⟨b, b1, b2⟩ := sm_dep (D := D) k (i + 1) (a + e) (fun x p q => h x (by omega) (by omega))
    exact ⟨b, by rw [t_sm, e1, nI_add]; exact b1, by omega⟩
