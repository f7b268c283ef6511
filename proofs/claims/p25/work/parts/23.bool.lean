/-! out of whole's 23 -/
theorem y_cf {c : Prop} [Decidable c] (h : ¬ c) : y_b (decide c) = 0 := by rw [decide_eq_false h]; rfl
theorem y_ct {c : Prop} [Decidable c] (h : c) : y_b (decide c) = 1 := by rw [decide_eq_true h]; rfl
