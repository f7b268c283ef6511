/-! THE LOGIC OF THE SMALL MACHINE -/
theorem s_run_more {MT : sMT} : ∀ (f k pc : Nat) (L st : List Value) (h : sHp) (o : Option Value × sHp), s_run MT f k pc L st h = some o → s_run MT (f + 1) k pc L st h = some o
  | 0, _, _, _, _, _, _, hr => by cases hr
  | f + 1, k, pc, L, st, h, o, hr => by
    unfold s_run at hr ⊢
    split at hr
    · cases hr
    next r hk =>
    try rw [hk]
    try dsimp only
    split at hr
    · cases hr
    next e he =>
    try rw [he]
    try dsimp only
    split at hr
    next q hq =>
      try rw [hq]
      try dsimp only
      split at hr
      · cases hr
      next r2 hk2 =>
      try rw [hk2]
      try dsimp only
      split at hr
      · cases hr
      next hc =>
      try rw [if_neg hc]
      split at hr
      · cases hr
      next o1 h1 =>
      rw [s_run_more f _ _ _ _ _ _ h1]
      try dsimp only
      exact s_run_more f _ _ _ _ _ _ hr
    next hq =>
      try rw [hq]
      try dsimp only
      split at hr
      next v hv =>
        try rw [hv]
        exact hr
      next hv =>
        try rw [hv]
        try dsimp only
        split at hr
        · cases hr
        next c hc =>
          try rw [hc]
          try dsimp only
          exact s_run_more f _ _ _ _ _ _ hr
theorem s_run_le {MT : sMT} {f k pc : Nat} {L st : List Value} {h : sHp} {o : Option Value × sHp} (hr : s_run MT f k pc L st h = some o) : ∀ g : Nat, s_run MT (f + g) k pc L st h = some o
  | 0 => hr
  | g + 1 => s_run_more _ _ _ _ _ _ _ (s_run_le hr g)
/-- from this point of method k the run comes to its end with v and the heap h2 -/
def e_r (k pc : Nat) (ls st : List Value) (h : sHp) (v : Option Value) (h2 : sHp) : Prop := ∃ f : Nat, s_run s_T f k pc ls st h = some (v, h2)
/-- method k at these arguments answers v and leaves h2 -/
def m_r (k : Nat) (as : List Value) (h : sHp) (v : Option Value) (h2 : sHp) : Prop := ∃ (r : sM) (cn : Option Nat), s_T k = some (r, cn) ∧ s_cat as ≤ s_mL r ∧ as.length = s_na r ∧ e_r k 0 (s_ent as (s_mL r)) [] h v h2
def s_go (r : sM) : Nat → Nat → List Value → List Value → sHp → Option sC
  | 0, pc, ls, st, h => some (pc, ls, st, h)
  | n + 1, pc, ls, st, h => match s_at (s_cd r) pc with
    | none => none
    | some e => match s_ci e.2.1 with
      | some _ => none
      | none => match s_rx e.2.1 (s_rt r) st with
        | some _ => none
        | none => match s_x e.2.1 pc e.2.2.1 ls st h with
          | none => none
          | some c => s_go r n c.1 c.2.1 c.2.2.1 c.2.2.2
section LOG
variable {k pc : Nat} {r : sM} {cn : Option Nat} {ls st : List Value} {h h2 : sHp} {v : Option Value}
theorem e_step (hk : s_T k = some (r, cn)) {e : sE} {c : sC} (hat : s_at (s_cd r) pc = some e) (hci : s_ci e.2.1 = none) (hrx : s_rx e.2.1 (s_rt r) st = none) (hx : s_x e.2.1 pc e.2.2.1 ls st h = some c) (kk : e_r k c.1 c.2.1 c.2.2.1 c.2.2.2 v h2) : e_r k pc ls st h v h2 := by
  obtain ⟨f, hf⟩ := kk
  refine ⟨f + 1, ?_⟩
  unfold s_run
  rw [hk]
  dsimp only
  rw [hat]
  dsimp only
  rw [hci]
  dsimp only
  rw [hrx]
  dsimp only
  rw [hx]
  exact hf
theorem e_go (hk : s_T k = some (r, cn)) : ∀ (n : Nat) {pc : Nat} {ls st : List Value} {h : sHp} {c : sC}, s_go r n pc ls st h = some c → e_r k c.1 c.2.1 c.2.2.1 c.2.2.2 v h2 → e_r k pc ls st h v h2
  | 0, pc, ls, st, h, c, hg, kk => by cases hg; exact kk
  | n + 1, pc, ls, st, h, c, hg, kk => by
    unfold s_go at hg
    split at hg
    · cases hg
    next e hat =>
    split at hg
    · cases hg
    next hci =>
    split at hg
    · cases hg
    next hrx =>
    split at hg
    · cases hg
    next c1 hx =>
    exact e_step hk hat hci hrx hx (e_go hk n hg kk)
theorem e_ret (hk : s_T k = some (r, cn)) {e : sE} {w : Option Value} (hat : s_at (s_cd r) pc = some e) (hci : s_ci e.2.1 = none) (hrx : s_rx e.2.1 (s_rt r) st = some w) (hv : w = v) (hh : h = h2) : e_r k pc ls st h v h2 := by
  subst hv; subst hh
  refine ⟨1, ?_⟩
  unfold s_run
  rw [hk]
  dsimp only
  rw [hat]
  dsimp only
  rw [hci]
  dsimp only
  rw [hrx]
theorem e_call (hk : s_T k = some (r, cn)) {e : sE} {q : Nat × Nat} {r2 : sM} {cn2 : Option Nat} {as rest : List Value} {v1 : Option Value} {h1 : sHp} (hat : s_at (s_cd r) pc = some e) (hci : s_ci e.2.1 = some q) (hk2 : s_T q.2 = some (r2, cn2)) (hst : st = as.reverse ++ rest) (hcat : s_cat rest ≤ 8) (hrc : s_rc q.1 cn2 h as = true) (hm : m_r q.2 as h v1 h1) (kk : e_r k (pc + 3) ls (v1.toList ++ rest) h1 v h2) : e_r k pc ls st h v h2 := by
  obtain ⟨r3, cn3, hk3, hc3, hl3, f1, hf1⟩ := hm
  rw [hk2] at hk3
  cases hk3
  obtain ⟨f2, hf2⟩ := kk
  refine ⟨f1 + f2 + 1, ?_⟩
  have e1 : st.take (s_na r2) = as.reverse := by rw [hst, ← hl3, ← List.length_reverse, List.take_left']; rfl
  have e2 : st.drop (s_na r2) = rest := by rw [hst, ← hl3, ← List.length_reverse, List.drop_left']; rfl
  unfold s_run
  rw [hk]
  dsimp only
  rw [hat]
  dsimp only
  rw [hci]
  dsimp only
  rw [hk2]
  dsimp only
  rw [e1, e2, List.reverse_reverse, if_neg (by
    rw [hrc]
    have hlen : st.length = s_na r2 + rest.length := by rw [hst, List.length_append, List.length_reverse, hl3]
    simp only [not_or, Nat.not_lt, Bool.true_eq_false, not_false_eq_true, and_true]
    exact ⟨by omega, hc3, hcat⟩), s_run_le hf1 f2]
  dsimp only
  rw [Nat.add_comm f1 f2]
  exact s_run_le hf2 f1
/-! branches -/
section BRS
variable {a b : Nat} {x y : Int32}
theorem e_eq (kt : x = y → e_r k a ls st h v h2) (kf : ¬ x = y → e_r k b ls st h v h2) : e_r k (if s_cnd .eq x y = true then a else b) ls st h v h2 := by
  by_cases hc : x = y
  · rw [if_pos (by simp [s_cnd, hc])]; exact kt hc
  · rw [if_neg (by simp [s_cnd, hc])]; exact kf hc
theorem e_ne (kt : ¬ x = y → e_r k a ls st h v h2) (kf : x = y → e_r k b ls st h v h2) : e_r k (if s_cnd .ne x y = true then a else b) ls st h v h2 := by
  by_cases hc : x = y
  · rw [if_neg (by simp [s_cnd, hc])]; exact kf hc
  · rw [if_pos (by simp [s_cnd, hc])]; exact kt hc
theorem e_lt (kt : x < y → e_r k a ls st h v h2) (kf : ¬ x < y → e_r k b ls st h v h2) : e_r k (if s_cnd .lt x y = true then a else b) ls st h v h2 := by
  by_cases hc : x < y
  · rw [if_pos (by simp only [s_cnd, decide_eq_true_eq]; exact hc)]; exact kt hc
  · rw [if_neg (by simp only [s_cnd, decide_eq_true_eq]; exact hc)]; exact kf hc
theorem e_ge (kt : y ≤ x → e_r k a ls st h v h2) (kf : ¬ y ≤ x → e_r k b ls st h v h2) : e_r k (if s_cnd .ge x y = true then a else b) ls st h v h2 := by
  by_cases hc : y ≤ x
  · rw [if_pos (by simp only [s_cnd, decide_eq_true_eq]; exact hc)]; exact kt hc
  · rw [if_neg (by simp only [s_cnd, decide_eq_true_eq]; exact hc)]; exact kf hc
theorem e_gt (kt : y < x → e_r k a ls st h v h2) (kf : ¬ y < x → e_r k b ls st h v h2) : e_r k (if s_cnd .gt x y = true then a else b) ls st h v h2 := by
  by_cases hc : y < x
  · rw [if_pos (by simp only [s_cnd, decide_eq_true_eq]; exact hc)]; exact kt hc
  · rw [if_neg (by simp only [s_cnd, decide_eq_true_eq]; exact hc)]; exact kf hc
theorem e_le (kt : x ≤ y → e_r k a ls st h v h2) (kf : ¬ x ≤ y → e_r k b ls st h v h2) : e_r k (if s_cnd .le x y = true then a else b) ls st h v h2 := by
  by_cases hc : x ≤ y
  · rw [if_pos (by simp only [s_cnd, decide_eq_true_eq]; exact hc)]; exact kt hc
  · rw [if_neg (by simp only [s_cnd, decide_eq_true_eq]; exact hc)]; exact kf hc
end BRS
/-! an array's place, named by a number -/
theorem s_outb_nI {j n : Nat} (hj : j < n) (hn : n < 2 ^ 31) : ¬ s_outb (nI j) n = true := by
  unfold s_outb
  have h1 := nI_pos (n := j) (by omega)
  have h2 := nI_clamp (n := j) (by omega)
  simp only [Bool.or_eq_true, decide_eq_true_eq, Nat.ble_eq, not_or]
  exact ⟨h1, by rw [h2]; omega⟩
theorem e_ald (hk : s_T k = some (r, cn)) {e : sE} {rest : List Value} {a j n : Nat} (hat : s_at (s_cd r) pc = some e) (hi : e.2.1 = .iaload) (hs : s_nth h.2.2 a = some (1, n)) (hj : j < n) (hn : n < 2 ^ 31) (kk : e_r k (pc + e.2.2.1) ls (.int (h.1 a j) :: rest) h v h2) : e_r k pc ls (.int (nI j) :: .ref a :: rest) h v h2 := by
  refine e_step (c := (pc + e.2.2.1, ls, .int (h.1 a j) :: rest, h)) hk hat (by rw [hi]; rfl) (by rw [hi]; rfl) ?_ kk
  rw [hi]
  dsimp only [s_x]
  rw [hs]
  show (if s_outb (nI j) n = true then none else some (pc + e.2.2.1, ls, Value.int (h.1 a (nI j).toNatClampNeg) :: rest, h)) = _
  rw [if_neg (s_outb_nI hj hn), nI_clamp (by omega)]
theorem e_ast (hk : s_T k = some (r, cn)) {e : sE} {rest : List Value} {a j n : Nat} {x : Int32} (hat : s_at (s_cd r) pc = some e) (hi : e.2.1 = .iastore) (hs : s_nth h.2.2 a = some (1, n)) (ha : 4 ≤ a) (hj : j < n) (hn : n < 2 ^ 31) (kk : e_r k (pc + e.2.2.1) ls rest (s_upd h.1 a j x, h.2) v h2) : e_r k pc ls (.int x :: .int (nI j) :: .ref a :: rest) h v h2 := by
  refine e_step (c := (pc + e.2.2.1, ls, rest, (s_upd h.1 a j x, h.2))) hk hat (by rw [hi]; rfl) (by rw [hi]; rfl) ?_ kk
  rw [hi]
  dsimp only [s_x]
  rw [hs]
  show (if s_outb (nI j) n = true ∨ a < 4 then none else some (pc + e.2.2.1, ls, rest, (s_upd h.1 a (nI j).toNatClampNeg x, h.2))) = _
  rw [if_neg (by rw [not_or]; exact ⟨s_outb_nI hj hn, by omega⟩), nI_clamp (by omega)]
theorem e_getr (hk : s_T k = some (r, cn)) {e : sE} {rest : List Value} {ev a b : Nat} (hat : s_at (s_cd r) pc = some e) (hi : e.2.1 = .getfield ev) (hs : s_nth h.2.2 a = some (0, ev / 1024)) (hkd : ev % 8 = 2) (hr : h.2.1 a (ev % 1024 / 8) = some b) (kk : e_r k (pc + e.2.2.1) ls (.ref b :: rest) h v h2) : e_r k pc ls (.ref a :: rest) h v h2 := by
  refine e_step (c := (pc + e.2.2.1, ls, .ref b :: rest, h)) hk hat (by rw [hi]; rfl) (by rw [hi]; rfl) ?_ kk
  rw [hi]
  dsimp only [s_x]
  rw [hs]
  show (if ev / 1024 = ev / 1024 then (if ev % 8 = 2 then (match h.2.1 a (ev % 1024 / 8) with | some b => some (pc + e.2.2.1, ls, Value.ref b :: rest, h) | none => some (pc + e.2.2.1, ls, Value.null :: rest, h)) else some (pc + e.2.2.1, ls, Value.int (h.1 a (ev % 1024 / 8)) :: rest, h)) else none) = _
  rw [if_pos rfl, if_pos hkd, hr]
theorem e_geti (hk : s_T k = some (r, cn)) {e : sE} {rest : List Value} {ev a : Nat} (hat : s_at (s_cd r) pc = some e) (hi : e.2.1 = .getfield ev) (hs : s_nth h.2.2 a = some (0, ev / 1024)) (hkd : ¬ ev % 8 = 2) (kk : e_r k (pc + e.2.2.1) ls (.int (h.1 a (ev % 1024 / 8)) :: rest) h v h2) : e_r k pc ls (.ref a :: rest) h v h2 := by
  refine e_step (c := (pc + e.2.2.1, ls, .int (h.1 a (ev % 1024 / 8)) :: rest, h)) hk hat (by rw [hi]; rfl) (by rw [hi]; rfl) ?_ kk
  rw [hi]
  dsimp only [s_x]
  rw [hs]
  show (if ev / 1024 = ev / 1024 then (if ev % 8 = 2 then (match h.2.1 a (ev % 1024 / 8) with | some b => some (pc + e.2.2.1, ls, Value.ref b :: rest, h) | none => some (pc + e.2.2.1, ls, Value.null :: rest, h)) else some (pc + e.2.2.1, ls, Value.int (h.1 a (ev % 1024 / 8)) :: rest, h)) else none) = _
  rw [if_pos rfl, if_neg hkd]
theorem e_puti (hk : s_T k = some (r, cn)) {e : sE} {rest : List Value} {ev a : Nat} {x : Int32} (hat : s_at (s_cd r) pc = some e) (hi : e.2.1 = .putfield ev) (hs : s_nth h.2.2 a = some (0, ev / 1024)) (hkd : ev % 8 = 0) (kk : e_r k (pc + e.2.2.1) ls rest (s_upd h.1 a (ev % 1024 / 8) x, h.2) v h2) : e_r k pc ls (.int x :: .ref a :: rest) h v h2 := by
  refine e_step (c := (pc + e.2.2.1, ls, rest, (s_upd h.1 a (ev % 1024 / 8) x, h.2))) hk hat (by rw [hi]; rfl) (by rw [hi]; rfl) ?_ kk
  rw [hi]
  dsimp only [s_x]
  rw [hs]
  show (if ev / 1024 = ev / 1024 then (if ev % 8 = 0 then some (pc + e.2.2.1, ls, rest, (s_upd h.1 a (ev % 1024 / 8) x, h.2)) else if ev % 8 = 1 then (if x = 0 ∨ x = 1 then some (pc + e.2.2.1, ls, rest, (s_upd h.1 a (ev % 1024 / 8) x, h.2)) else none) else none) else none) = _
  rw [if_pos rfl, if_pos hkd]
theorem e_alen (hk : s_T k = some (r, cn)) {e : sE} {rest : List Value} {a t n : Nat} (hat : s_at (s_cd r) pc = some e) (hi : e.2.1 = .arraylength) (hs : s_nth h.2.2 a = some (t + 1, n)) (kk : e_r k (pc + e.2.2.1) ls (.int (nI n) :: rest) h v h2) : e_r k pc ls (.ref a :: rest) h v h2 := by
  refine e_step (c := (pc + e.2.2.1, ls, .int (nI n) :: rest, h)) hk hat (by rw [hi]; rfl) (by rw [hi]; rfl) ?_ kk
  rw [hi]
  dsimp only [s_x]
  rw [hs]
  rfl
end LOG
theorem m_of {k : Nat} {as : List Value} {h h2 : sHp} {v : Option Value} {r : sM} {cn : Option Nat} {ls : List Value} (hk : s_T k = some (r, cn)) (h1 : Nat.ble (s_cat as) (s_mL r) = true) (h3 : Nat.beq as.length (s_na r) = true) (he : s_ent as (s_mL r) = ls) (kk : e_r k 0 ls [] h v h2) : m_r k as h v h2 := by
  subst he
  exact ⟨r, cn, hk, Nat.le_of_ble_eq_true h1, Nat.eq_of_beq_eq_true h3, kk⟩
