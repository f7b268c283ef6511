/-! Floating numbers of shares: each is looked at; printed by wip/whole/gen/num32.py -/
def f_finb (x : UInt32) : Bool := Nat.ble (x &&& 0x7fffffff).toNat 0x7f800000
def f_okb : Nat → UInt32 → Bool
  | 0, _ => true
  | k + 1, x => if 0 ≤ Op.cmpValue (FP.fcmp x FP.fconst1) .g then true else f_finb (FP.fmul x FP.fconst2) && f_okb k (FP.fmul x FP.fconst2)
theorem f_finb_ok {x : UInt32} (h : f_finb x = true) : f_fin x := by
  unfold f_finb at h
  exact UInt32.le_iff_toNat_le.mpr (Nat.le_of_ble_eq_true h)
theorem f_okb_ok : ∀ (k : Nat) (x : UInt32), f_okb k x = true → f_ok k x
  | 0, x, h => trivial
  | k + 1, x, h => by
    intro hn
    unfold f_okb at h
    rw [if_neg hn, Bool.and_eq_true] at h
    exact ⟨f_finb_ok h.1, f_okb_ok k _ h.2⟩
def f_sh (a w : Nat) : UInt32 := FP.fdiv (FP.i2f (nI a)) (FP.i2f (nI w))
def f_chk (a w : Nat) : Bool := f_finb (f_sh a w) && (f_okb 64 (f_sh a w) && (f_finb (FP.fsub (f_lp 64 (f_sh a w) 0).1 FP.fconst1) && (f_finb (f_end (f_lp 64 (f_sh a w) 0).1) && decide (f_bits (f_sh a w) = (f_sh a w).toInt32))))
theorem f_chks : (List.range 61).all (fun w => (List.range w).all (fun a => f_chk a w)) = true := by decide +kernel
/-- a share below one of at most 60: its bits are told rightly, and no NaN comes up on the way -/
theorem f_share {a w : Nat} (h : a < w) (hw : w ≤ 60) : f_all (f_sh a w) ∧ f_bits (f_sh a w) = (f_sh a w).toInt32 := by
  have h1 := List.all_eq_true.mp f_chks w (List.mem_range.mpr (by omega))
  have h2 := List.all_eq_true.mp h1 a (List.mem_range.mpr h)
  unfold f_chk at h2
  simp only [Bool.and_eq_true] at h2
  obtain ⟨q1, q2, q3, q4, q5⟩ := h2
  exact ⟨⟨f_finb_ok q1, f_okb_ok _ _ q2, f_finb_ok q3, f_finb_ok q4⟩, of_decide_eq_true q5⟩
