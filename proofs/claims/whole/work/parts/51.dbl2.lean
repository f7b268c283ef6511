/-! Doubles: the bits of a mean (by hand) -/
abbrev g64 : FP.Core.Fmt := FP.Core.b64
theorem g_qmin : g64.qmin = -1074 := by decide
theorem g_qmax : g64.qmax = 971 := by decide
theorem g_tails : g64.tails = 2 ^ 52 := by decide
theorem g_p : g64.p = 53 := rfl
abbrev g_v (x : UInt64) : FP.Core.Datum := FP.Core.val64 x
theorem g_fits {c : Nat} {q : Int} (h1 : 2 ^ 52 ≤ c) (h2 : c < 2 ^ 53) (h3 : -1074 ≤ q) (h4 : q ≤ 971) : FP.Core.fits g64 (.fin false c q) := ⟨h2, by rw [g_qmin]; exact h3, by rw [g_qmax]; exact h4, Or.inr (by rw [g_tails]; exact h1)⟩
theorem g_v2 : g_v (UInt64.ofNat 4611686018427387904) = .fin false (2 ^ 52) (-51) := by decide +kernel
theorem g_v1 : g_v FP.dconst1 = .fin false (2 ^ 52) (-52) := by decide +kernel
theorem g_v0 : g_v FP.dconst0 = .fin false 0 (-1074) := by decide +kernel
theorem g_vb : g_v (UInt64.ofNat 4841369599423283200) = .fin false (2 ^ 52) 0 := by decide +kernel
theorem g_ff {x : UInt64} {s : Bool} {c : Nat} {q : Int} (h : g_v x = .fin s c q) : g_fin x := by
  have h1 := (FP.Core.fin_bits x).mp ⟨s, c, q, h⟩
  unfold g_fin
  rw [UInt64.le_iff_toNat_le, FP.Core.mask_toNat]
  exact Nat.le_of_lt h1
theorem g_nn {x : UInt64} {s : Bool} {c : Nat} {q : Int} (h : g_v x = .fin s c q) : g_v x ≠ .nan := by
  rw [h]
  exact FP.Core.Datum.noConfusion
/-- half -/
theorem g_half {x : UInt64} {c : Nat} {q : Int} (h : g_v x = .fin false c q) (h1 : 2 ^ 52 ≤ c) (h2 : c < 2 ^ 53) (h3 : -1000 ≤ q) (h4 : q ≤ 900) : g_v (FP.ddiv x (UInt64.ofNat 4611686018427387904)) = .fin false c (q - 1) := by
  show FP.Core.val64 (FP.Core.ddiv x (UInt64.ofNat 4611686018427387904)) = _
  rw [FP.Core.val64_ddiv, show FP.Core.val64 x = _ from h, show FP.Core.val64 (UInt64.ofNat 4611686018427387904) = _ from g_v2]
  show (if 2 ^ 52 = 0 then _ else FP.Core.roundRatio g64 (false != false) c (2 ^ 52) (q - -51)) = _
  rw [if_neg (by decide)]
  refine FP.Core.roundRatio_exact FP.Core.good_b64 (by decide) (g_fits h1 h2 (by omega) (by omega)) ?_
  rw [show (q - -51 - (q - 1)).toNat = 52 by omega, show (q - 1 - (q - -51)).toNat = 0 by omega, Nat.pow_zero, Nat.mul_one]
/-- twice -/
theorem g_dbl {x : UInt64} {c : Nat} {q : Int} (h : g_v x = .fin false c q) (h1 : 2 ^ 52 ≤ c) (h2 : c < 2 ^ 53) (h3 : -1000 ≤ q) (h4 : q ≤ 900) : g_v (FP.dmul x (UInt64.ofNat 4611686018427387904)) = .fin false c (q + 1) := by
  show FP.Core.val64 (FP.Core.dmul x (UInt64.ofNat 4611686018427387904)) = _
  rw [FP.Core.val64_dmul, show FP.Core.val64 x = _ from h, show FP.Core.val64 (UInt64.ofNat 4611686018427387904) = _ from g_v2]
  show FP.Core.roundRatio g64 (false != false) (c * 2 ^ 52) 1 (q + -51) = _
  refine FP.Core.roundRatio_exact FP.Core.good_b64 (by decide) (g_fits h1 h2 (by omega) (by omega)) ?_
  rw [show (q + -51 - (q + 1)).toNat = 0 by omega, show (q + 1 - (q + -51)).toNat = 52 by omega, Nat.pow_zero, Nat.mul_one, Nat.mul_one]
theorem g_ord {x y : UInt64} {c d : Nat} {q r : Int} (h : g_v x = .fin false c q) (h2 : g_v y = .fin false d r) : FP.dcmp x y = some (compare ((FP.Core.inUnits c q (min q r) : Nat) : Int) ((FP.Core.inUnits d r (min q r) : Nat) : Int)) := by
  show FP.Core.order (FP.Core.val64 x) (FP.Core.val64 y) = _
  rw [show FP.Core.val64 x = _ from h, show FP.Core.val64 y = _ from h2]
  rfl
theorem g_lt {a b : Int} (h : a < b) : compare a b = .lt := by
  show compareOfLessAndEq a b = .lt
  rw [compareOfLessAndEq, if_pos h]
theorem g_ge {a b : Int} (h : b ≤ a) : compare a b = .eq ∨ compare a b = .gt := by
  show compareOfLessAndEq a b = .eq ∨ compareOfLessAndEq a b = .gt
  unfold compareOfLessAndEq
  rw [if_neg (by omega)]
  by_cases z : a = b
  · rw [if_pos z]; exact Or.inl rfl
  · rw [if_neg z]; exact Or.inr rfl
theorem g_gt {a b : Int} (h : b < a) : compare a b = .gt := by
  show compareOfLessAndEq a b = .gt
  rw [compareOfLessAndEq, if_neg (by omega), if_neg (by omega)]
section CMP
variable {x : UInt64} {c : Nat} {q : Int}
theorem g_ge2 (h : g_v x = .fin false c q) (h1 : 2 ^ 52 ≤ c) (hq : -51 ≤ q) : ¬ Op.cmpValue (FP.dcmp x (UInt64.ofNat 4611686018427387904)) .l < 0 := by
  rw [g_ord h g_v2, show min q (-51) = -51 by omega]
  have : ((FP.Core.inUnits (2 ^ 52) (-51) (-51) : Nat) : Int) ≤ ((FP.Core.inUnits c q (-51) : Nat) : Int) := by
    unfold FP.Core.inUnits
    have h3 : 1 ≤ 2 ^ (q - -51).toNat := Nat.one_le_two_pow
    have h4 : 2 ^ 52 * 2 ^ ((-51 : Int) - -51).toNat ≤ c * 2 ^ (q - -51).toNat := Nat.mul_le_mul h1 (by rw [show ((-51 : Int) - -51).toNat = 0 by decide]; exact h3)
    exact Int.ofNat_le.mpr h4
  rcases g_ge this with z | z
  · rw [z]; decide
  · rw [z]; decide
theorem g_lt2 (h : g_v x = .fin false c q) (h2 : c < 2 ^ 53) (hq : q ≤ -52) : Op.cmpValue (FP.dcmp x (UInt64.ofNat 4611686018427387904)) .l < 0 := by
  rw [g_ord h g_v2, show min q (-51) = q by omega]
  have : ((FP.Core.inUnits c q q : Nat) : Int) < ((FP.Core.inUnits (2 ^ 52) (-51) q : Nat) : Int) := by
    unfold FP.Core.inUnits
    rw [show (q - q).toNat = 0 by omega, Nat.pow_zero, Nat.mul_one, show ((-51 : Int) - q).toNat = (-52 - q).toNat + 1 by omega, Nat.pow_succ]
    have h3 : 1 ≤ 2 ^ ((-52 : Int) - q).toNat := Nat.one_le_two_pow
    have h4 : 2 ^ 52 * (1 * 2) ≤ 2 ^ 52 * (2 ^ ((-52 : Int) - q).toNat * 2) := Nat.mul_le_mul_left _ (Nat.mul_le_mul_right 2 h3)
    exact Int.ofNat_lt.mpr (Nat.lt_of_lt_of_le h2 h4)
  rw [g_lt this]
  decide
theorem g_ge1 (h : g_v x = .fin false c q) (h1 : 2 ^ 52 ≤ c) (hq : -52 ≤ q) : 0 ≤ Op.cmpValue (FP.dcmp x FP.dconst1) .g := by
  rw [g_ord h g_v1, show min q (-52) = -52 by omega]
  have : ((FP.Core.inUnits (2 ^ 52) (-52) (-52) : Nat) : Int) ≤ ((FP.Core.inUnits c q (-52) : Nat) : Int) := by
    unfold FP.Core.inUnits
    have h3 : 1 ≤ 2 ^ (q - -52).toNat := Nat.one_le_two_pow
    have h4 : 2 ^ 52 * 2 ^ ((-52 : Int) - -52).toNat ≤ c * 2 ^ (q - -52).toNat := Nat.mul_le_mul h1 (by rw [show ((-52 : Int) - -52).toNat = 0 by decide]; exact h3)
    exact Int.ofNat_le.mpr h4
  rcases g_ge this with z | z
  · rw [z]; decide
  · rw [z]; decide
theorem g_lt1 (h : g_v x = .fin false c q) (h2 : c < 2 ^ 53) (hq : q ≤ -53) : ¬ 0 ≤ Op.cmpValue (FP.dcmp x FP.dconst1) .g := by
  rw [g_ord h g_v1, show min q (-52) = q by omega]
  have : ((FP.Core.inUnits c q q : Nat) : Int) < ((FP.Core.inUnits (2 ^ 52) (-52) q : Nat) : Int) := by
    unfold FP.Core.inUnits
    rw [show (q - q).toNat = 0 by omega, Nat.pow_zero, Nat.mul_one, show ((-52 : Int) - q).toNat = (-53 - q).toNat + 1 by omega, Nat.pow_succ]
    have h3 : 1 ≤ 2 ^ ((-53 : Int) - q).toNat := Nat.one_le_two_pow
    have h4 : 2 ^ 52 * (1 * 2) ≤ 2 ^ 52 * (2 ^ ((-53 : Int) - q).toNat * 2) := Nat.mul_le_mul_left _ (Nat.mul_le_mul_right 2 h3)
    exact Int.ofNat_lt.mpr (Nat.lt_of_lt_of_le h2 h4)
  rw [g_lt this]
  decide
theorem g_gt0 (h : g_v x = .fin false c q) (h1 : 2 ^ 52 ≤ c) : 0 < Op.cmpValue (FP.dcmp x FP.dconst0) .l := by
  rw [g_ord h g_v0]
  have : ((FP.Core.inUnits 0 (-1074) (min q (-1074)) : Nat) : Int) < ((FP.Core.inUnits c q (min q (-1074)) : Nat) : Int) := by
    unfold FP.Core.inUnits
    rw [Nat.zero_mul]
    exact Int.ofNat_lt.mpr (Nat.mul_pos (by omega) (Nat.two_pow_pos _))
  rw [g_gt this]
  decide
theorem g_self {s : Bool} (h : g_v x = .fin s c q) : Op.cmpValue (FP.dcmp x x) .l = 0 := by
  rw [show FP.dcmp x x = some .eq from FP.Core.dcmp_self (g_nn h)]
  rfl
end CMP
