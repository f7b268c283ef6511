/-! The Model: what changes do; printed by wip/whole/gen/mod3.py -/
def q_cb (b : Nat) : Prop := b = 8 ∨ b = 68 ∨ b = 128 ∨ b = 188 ∨ b = 248
theorem q_c1_get {Z : Nat → Nat → Int32} {p c b i : Nat} (hb : q_cb b) (hi : i < 60) (hc : p + (c + 1) < 60) : q_c1 Z p c 132 (b + i) = if i = p + (c + 1) then Z 132 (b + (p + c)) else Z 132 (b + i) := by
  unfold q_cb at hb
  rcases hb with rfl | rfl | rfl | rfl | rfl
  · by_cases hi2 : i = p + (c + 1)
    · rw [hi2, if_pos rfl, q_c1]
      rw [q_cy_ne (by omega), q_cy_ne (by omega), q_cy_ne (by omega), q_cy_ne (by omega)]
      rw [q_cy_eq]
    · rw [if_neg hi2, q_c1]
      rw [q_cy_ne (by omega), q_cy_ne (by omega), q_cy_ne (by omega), q_cy_ne (by omega), q_cy_ne (by omega)]
  · by_cases hi2 : i = p + (c + 1)
    · rw [hi2, if_pos rfl, q_c1]
      rw [q_cy_ne (by omega), q_cy_ne (by omega), q_cy_ne (by omega)]
      rw [q_cy_eq]
      rw [q_cy_ne (by omega)]
    · rw [if_neg hi2, q_c1]
      rw [q_cy_ne (by omega), q_cy_ne (by omega), q_cy_ne (by omega), q_cy_ne (by omega), q_cy_ne (by omega)]
  · by_cases hi2 : i = p + (c + 1)
    · rw [hi2, if_pos rfl, q_c1]
      rw [q_cy_ne (by omega), q_cy_ne (by omega)]
      rw [q_cy_eq]
      rw [q_cy_ne (by omega), q_cy_ne (by omega)]
    · rw [if_neg hi2, q_c1]
      rw [q_cy_ne (by omega), q_cy_ne (by omega), q_cy_ne (by omega), q_cy_ne (by omega), q_cy_ne (by omega)]
  · by_cases hi2 : i = p + (c + 1)
    · rw [hi2, if_pos rfl, q_c1]
      rw [q_cy_ne (by omega)]
      rw [q_cy_eq]
      rw [q_cy_ne (by omega), q_cy_ne (by omega), q_cy_ne (by omega)]
    · rw [if_neg hi2, q_c1]
      rw [q_cy_ne (by omega), q_cy_ne (by omega), q_cy_ne (by omega), q_cy_ne (by omega), q_cy_ne (by omega)]
  · by_cases hi2 : i = p + (c + 1)
    · rw [hi2, if_pos rfl, q_c1]
      rw [q_cy_eq]
      rw [q_cy_ne (by omega), q_cy_ne (by omega), q_cy_ne (by omega), q_cy_ne (by omega)]
    · rw [if_neg hi2, q_c1]
      rw [q_cy_ne (by omega), q_cy_ne (by omega), q_cy_ne (by omega), q_cy_ne (by omega), q_cy_ne (by omega)]
theorem q_t1_get {Z : Nat → Nat → Int32} {j b i : Nat} (hb : q_cb b) (hi : i < 60) (hj : j + 1 < 60) : q_t1 Z j 132 (b + i) = if i = j then Z 132 (b + j + 1) else Z 132 (b + i) := by
  unfold q_cb at hb
  rcases hb with rfl | rfl | rfl | rfl | rfl
  · by_cases hi2 : i = j
    · rw [hi2, if_pos rfl, q_t1]
      rw [q_cy_ne (by omega), q_cy_ne (by omega), q_cy_ne (by omega), q_cy_ne (by omega)]
      rw [q_cy_eq]
    · rw [if_neg hi2, q_t1]
      rw [q_cy_ne (by omega), q_cy_ne (by omega), q_cy_ne (by omega), q_cy_ne (by omega), q_cy_ne (by omega)]
  · by_cases hi2 : i = j
    · rw [hi2, if_pos rfl, q_t1]
      rw [q_cy_ne (by omega), q_cy_ne (by omega), q_cy_ne (by omega)]
      rw [q_cy_eq]
      rw [q_cy_ne (by omega)]
    · rw [if_neg hi2, q_t1]
      rw [q_cy_ne (by omega), q_cy_ne (by omega), q_cy_ne (by omega), q_cy_ne (by omega), q_cy_ne (by omega)]
  · by_cases hi2 : i = j
    · rw [hi2, if_pos rfl, q_t1]
      rw [q_cy_ne (by omega), q_cy_ne (by omega)]
      rw [q_cy_eq]
      rw [q_cy_ne (by omega), q_cy_ne (by omega)]
    · rw [if_neg hi2, q_t1]
      rw [q_cy_ne (by omega), q_cy_ne (by omega), q_cy_ne (by omega), q_cy_ne (by omega), q_cy_ne (by omega)]
  · by_cases hi2 : i = j
    · rw [hi2, if_pos rfl, q_t1]
      rw [q_cy_ne (by omega)]
      rw [q_cy_eq]
      rw [q_cy_ne (by omega), q_cy_ne (by omega), q_cy_ne (by omega)]
    · rw [if_neg hi2, q_t1]
      rw [q_cy_ne (by omega), q_cy_ne (by omega), q_cy_ne (by omega), q_cy_ne (by omega), q_cy_ne (by omega)]
  · by_cases hi2 : i = j
    · rw [hi2, if_pos rfl, q_t1]
      rw [q_cy_eq]
      rw [q_cy_ne (by omega), q_cy_ne (by omega), q_cy_ne (by omega), q_cy_ne (by omega)]
    · rw [if_neg hi2, q_t1]
      rw [q_cy_ne (by omega), q_cy_ne (by omega), q_cy_ne (by omega), q_cy_ne (by omega), q_cy_ne (by omega)]
theorem q_c1_lo {Z : Nat → Nat → Int32} {p c x : Nat} (h : x < 8) : q_c1 Z p c 132 x = Z 132 x := by
  unfold q_c1
  rw [q_cy_ne (by omega), q_cy_ne (by omega), q_cy_ne (by omega), q_cy_ne (by omega), q_cy_ne (by omega)]
theorem q_c1_o {Z : Nat → Nat → Int32} {p c x : Nat} (h : x ≠ 132) : q_c1 Z p c x = Z x := by
  unfold q_c1
  rw [q_cy_o h, q_cy_o h, q_cy_o h, q_cy_o h, q_cy_o h]
theorem q_t1_o {Z : Nat → Nat → Int32} {j x : Nat} (h : x ≠ 132) : q_t1 Z j x = Z x := by
  unfold q_t1
  rw [q_cy_o h, q_cy_o h, q_cy_o h, q_cy_o h, q_cy_o h]
theorem q_sh_get {p b i : Nat} (hb : q_cb b) (hi : i < 60) : ∀ (c : Nat) (Z : Nat → Nat → Int32), p + c < 60 → q_sh p c Z 132 (b + i) = if p < i ∧ i ≤ p + c then Z 132 (b + (i - 1)) else Z 132 (b + i)
  | 0, Z, hc => by rw [q_sh, if_neg (by omega)]
  | c + 1, Z, hc => by
    rw [q_sh, q_sh_get hb hi c _ (by omega), q_c1_get hb hi (by omega), q_c1_get hb (by omega) (by omega)]
    by_cases h1 : p < i ∧ i ≤ p + c
    · rw [if_pos h1, if_neg (by omega), if_pos (by omega)]
    · rw [if_neg h1]
      by_cases h2 : i = p + (c + 1)
      · rw [if_pos h2, if_pos (by omega), show i - 1 = p + c by omega]
      · rw [if_neg h2, if_neg (by omega)]
theorem q_sh_lo {p x : Nat} (h : x < 8) : ∀ (c : Nat) (Z : Nat → Nat → Int32), q_sh p c Z 132 x = Z 132 x
  | 0, Z => rfl
  | c + 1, Z => by rw [q_sh, q_sh_lo h c, q_c1_lo h]
theorem q_sh_o {p x : Nat} (h : x ≠ 132) : ∀ (c : Nat) (Z : Nat → Nat → Int32), q_sh p c Z x = Z x
  | 0, Z => rfl
  | c + 1, Z => by rw [q_sh, q_sh_o h c, q_c1_o h]
def q_nv (b : Nat) (key value dep : Int32) : Int32 := if b = 8 then key else if b = 68 then value else if b = 128 then 0 else if b = 188 then 1 else dep
theorem q_cw_get {Z : Nat → Nat → Int32} {p b i : Nat} {key value dep : Int32} (hb : q_cb b) (hi : i < 60) (hp : p < 60) : q_cw Z p key value dep 132 (b + i) = if i = p then q_nv b key value dep else Z 132 (b + i) := by
  unfold q_cb at hb
  unfold q_cw
  by_cases h : i = p
  · rw [if_pos h, h]
    rcases hb with rfl | rfl | rfl | rfl | rfl
    · rw [s_upd_c, if_neg (by omega), s_upd_c, if_neg (by omega), s_upd_c, if_neg (by omega), s_upd_c, if_neg (by omega), s_upd_c, if_pos (by omega)]; rfl
    · rw [s_upd_c, if_neg (by omega), s_upd_c, if_neg (by omega), s_upd_c, if_neg (by omega), s_upd_c, if_pos (by omega)]; rfl
    · rw [s_upd_c, if_neg (by omega), s_upd_c, if_neg (by omega), s_upd_c, if_pos (by omega)]; rfl
    · rw [s_upd_c, if_neg (by omega), s_upd_c, if_pos (by omega)]; rfl
    · rw [s_upd_c, if_pos (by omega)]; rfl
  · rw [if_neg h, s_upd_c, if_neg (by omega), s_upd_c, if_neg (by omega), s_upd_c, if_neg (by omega), s_upd_c, if_neg (by omega), s_upd_c, if_neg (by omega), s_upd_c, if_neg (by omega)]
theorem q_cm_get {Z : Nat → Nat → Int32} {n p b i : Nat} {key value : Int32} (hb : q_cb b) (hp : p ≤ n) (hn : n < 60) (hi : i ≤ n) : q_cm Z n p key value 132 (b + i) = if i < p then Z 132 (b + i) else if i = p then q_nv b key value (y_mx (t_bf (q_c Z 248) p) (t_bh (q_c Z 248) n p) + 1) else Z 132 (b + (i - 1)) := by
  rw [q_cm, q_cw_get hb (by omega) (by omega), q_sh_get hb (by omega) _ _ (by omega)]
  by_cases h1 : i < p
  · rw [if_pos h1, if_neg (by omega), if_neg (by omega)]
  · rw [if_neg h1]
    by_cases h2 : i = p
    · rw [if_pos h2, if_pos h2]
    · rw [if_neg h2, if_neg h2, if_pos (by omega)]
theorem q_cm_3 {Z : Nat → Nat → Int32} {n p : Nat} {key value : Int32} (hN : Z 132 3 = nI n) : q_cm Z n p key value 132 3 = nI (n + 1) := by
  unfold q_cm q_cw
  rw [s_upd_c, if_neg (by omega), s_upd_c, if_neg (by omega), s_upd_c, if_neg (by omega), s_upd_c, if_neg (by omega), s_upd_c, if_neg (by omega), s_upd_c, if_pos (by omega), q_sh_lo (by omega), hN, nI_1]
theorem q_cm_lo {Z : Nat → Nat → Int32} {n p x : Nat} {key value : Int32} (h : x < 8) (h3 : x ≠ 3) : q_cm Z n p key value 132 x = Z 132 x := by
  unfold q_cm q_cw
  rw [s_upd_c, if_neg (by omega), s_upd_c, if_neg (by omega), s_upd_c, if_neg (by omega), s_upd_c, if_neg (by omega), s_upd_c, if_neg (by omega), s_upd_c, if_neg (by omega), q_sh_lo h]
theorem q_cm_o {Z : Nat → Nat → Int32} {n p x : Nat} {key value : Int32} (h : x ≠ 132) : q_cm Z n p key value x = Z x := by
  unfold q_cm q_cw
  rw [s_upd_o h, s_upd_o h, s_upd_o h, s_upd_o h, s_upd_o h, s_upd_o h, q_sh_o h]
theorem q_p1_x {Z : Nat → Nat → Int32} {n nd i x : Nat} (h : x ≠ 128 + i) : q_p1 Z n nd i 132 x = Z 132 x := by
  rw [q_p1, s_upd_c, if_neg (fun z => h z.2)]
theorem q_pl_x {n nd x : Nat} (h : x < 128 ∨ 188 ≤ x) : ∀ (k i : Nat) (Z : Nat → Nat → Int32), i + k ≤ 60 → q_pl n nd i k Z 132 x = Z 132 x
  | 0, i, Z, hi => rfl
  | k + 1, i, Z, hi => by rw [q_pl, q_pl_x h k _ _ (by omega), q_p1_x (by omega)]
theorem q_pl_o {n nd c : Nat} (h : c ≠ 132) : ∀ (k i : Nat) (Z : Nat → Nat → Int32), q_pl n nd i k Z c = Z c
  | 0, i, Z => rfl
  | k + 1, i, Z => by rw [q_pl, q_pl_o h k, q_p1, s_upd_o h]
theorem q_py_x {Z : Nat → Nat → Int32} {n nd x : Nat} (hn : n ≤ 60) (h : x < 128 ∨ 188 ≤ x) : q_py Z n nd 132 x = Z 132 x := q_pl_x h n 0 Z (by omega)
theorem q_py_o {Z : Nat → Nat → Int32} {n nd c : Nat} (h : c ≠ 132) : q_py Z n nd c = Z c := q_pl_o h n 0 Z
theorem q_py_D {Z : Nat → Nat → Int32} {n nd : Nat} (hn : n ≤ 60) : q_c (q_py Z n nd) 248 = q_c Z 248 := funext fun i => q_py_x hn (Or.inr (by omega))
theorem q_py_F {Z : Nat → Nat → Int32} {n nd : Nat} (hn : n ≤ 60) : q_c (q_py Z n nd) 188 = q_c Z 188 := funext fun i => q_py_x hn (Or.inr (by omega))
theorem q_fd_some {K : Nat → Int32} {key : Int32} {p : Nat} (hp : K p = key) : ∀ (k i : Nat), i ≤ p → p < i + k → (∀ x, i ≤ x → x < p → ¬ K x = key) → q_fd K key i k = some p
  | 0, i, h1, h2, h3 => by omega
  | k + 1, i, h1, h2, h3 => by
    rw [q_fd]
    by_cases hi : i = p
    · rw [hi, if_pos hp]
    · rw [if_neg (h3 i (Nat.le_refl _) (by omega)), q_fd_some hp k (i + 1) (by omega) (by omega) (fun x a b => h3 x (by omega) b)]
theorem q_fd_none {K : Nat → Int32} {key : Int32} : ∀ (k i : Nat), q_fd K key i k = none → ∀ x, i ≤ x → x < i + k → ¬ K x = key
  | 0, i, h, x, h1, h2 => by omega
  | k + 1, i, h, x, h1, h2 => by
    rw [q_fd] at h
    split at h
    · cases h
    next hc =>
    by_cases hx : x = i
    · rw [hx]; exact hc
    · exact q_fd_none k (i + 1) h x (by omega) (by omega)
theorem q_fd_cm {Z : Nat → Nat → Int32} {n p : Nat} {key value : Int32} (hp : p ≤ n) (hn : n < 60) (hq : q_fd (q_c Z 8) key 0 n = none) : q_fd (q_c (q_cm Z n p key value) 8) key 0 (n + 1) = some p := by
  refine q_fd_some ?_ _ _ (Nat.zero_le _) (by omega) (fun x _ hx => ?_)
  · show q_cm Z n p key value 132 (8 + p) = key
    rw [q_cm_get (Or.inl rfl) hp hn hp, if_neg (by omega), if_pos rfl]; rfl
  · show ¬ q_cm Z n p key value 132 (8 + x) = key
    rw [q_cm_get (Or.inl rfl) hp hn (by omega), if_pos hx]
    exact q_fd_none n 0 hq x (Nat.zero_le _) (by omega)
theorem q_fd_cm2 {Z : Nat → Nat → Int32} {n p : Nat} {key value : Int32} (hp : p ≤ n) (hn : n < 60) (hq : q_fd (q_c Z 8) key 0 n = none) : q_fd (q_c (q_py (q_cm Z n p key value) (n + 1) p) 8) key 0 (n + 1) = some p := by
  refine q_fd_some ?_ _ _ (Nat.zero_le _) (by omega) (fun x _ hx => ?_)
  · show q_py (q_cm Z n p key value) (n + 1) p 132 (8 + p) = key
    rw [q_py_x (by omega) (by omega), q_cm_get (Or.inl rfl) hp hn hp, if_neg (by omega), if_pos rfl]; rfl
  · show ¬ q_py (q_cm Z n p key value) (n + 1) p 132 (8 + x) = key
    rw [q_py_x (by omega) (by omega), q_cm_get (Or.inl rfl) hp hn (by omega), if_pos hx]
    exact q_fd_none n 0 hq x (Nat.zero_le _) (by omega)
theorem q_find_s {Z : Nat → Nat → Int32} {P : Nat → Nat} {L n : Nat} (hN : Z 132 3 = nI n) (hn : n ≤ 60) {key : Int32} {j : Nat} (hq : q_fd (q_c Z 8) key 0 n = some j) : m_r 96 [.ref 131, .int key] (hp Z P L) (some (.int (nI j))) (hp Z P L) := by
  have := q_find (P := P) (L := L) (key := key) hN hn
  rw [hq] at this
  exact this
theorem q_find_n {Z : Nat → Nat → Int32} {P : Nat → Nat} {L n : Nat} (hN : Z 132 3 = nI n) (hn : n ≤ 60) {key : Int32} (hq : q_fd (q_c Z 8) key 0 n = none) : m_r 96 [.ref 131, .int key] (hp Z P L) (some (.int (-6))) (hp Z P L) := by
  have := q_find (P := P) (L := L) (key := key) hN hn
  rw [hq] at this
  exact this
theorem q_above_s {Z : Nat → Nat → Int32} {P : Nat → Nat} {L n : Nat} (hN : Z 132 3 = nI n) (hn : n ≤ 60) {nd j : Nat} (hnd : nd < n) (hq : q_la Z n nd 0 n none = some j) : m_r 112 [.ref 131, .int (nI nd)] (hp Z P L) (some (.int (nI j))) (hp Z P L) := by
  have := q_above (P := P) (L := L) hN hn hnd
  rw [hq] at this
  exact this
theorem q_above_n {Z : Nat → Nat → Int32} {P : Nat → Nat} {L n : Nat} (hN : Z 132 3 = nI n) (hn : n ≤ 60) {nd : Nat} (hnd : nd < n) (hq : q_la Z n nd 0 n none = none) : m_r 112 [.ref 131, .int (nI nd)] (hp Z P L) (some (.int (-6))) (hp Z P L) := by
  have := q_above (P := P) (L := L) hN hn hnd
  rw [hq] at this
  exact this
theorem q_root_s {Z : Nat → Nat → Int32} {P : Nat → Nat} {L n : Nat} (hN : Z 132 3 = nI n) (hn : n ≤ 60) {r : Nat} (hq : q_rt (q_c Z 248) 0 n none = some r) : m_r 114 [.ref 131] (hp Z P L) (some (.int (nI r))) (hp Z P L) := by
  have := q_root (P := P) (L := L) hN hn
  rw [hq] at this
  exact this
theorem q_comes_p {Z : Nat → Nat → Int32} {P : Nat → Nat} {L n p : Nat} (hN : Z 132 3 = nI n) (hn : n < 60) {key value : Int32} (hpl : t_pl (q_c Z 8) key 0 n = p) : m_r 111 [.ref 131, .int key, .int value] (hp Z P L) none (hp (q_cm Z n p key value) P L) := by
  subst hpl
  exact q_comes hN hn
theorem q_ne6 {j : Nat} (h : j < 2 ^ 31) : ¬ nI j = -6 := fun z => absurd ((y_o_none (q := some j) (fun i hi => by cases hi; exact h)).mp z) (by simp)
theorem q_la_lt {Z : Nat → Nat → Int32} {n nd m : Nat} : ∀ (k i : Nat) (acc : Option Nat) (j : Nat), i + k = m → (∀ a, acc = some a → a < m) → q_la Z n nd i k acc = some j → j < m
  | 0, i, acc, j, hi, ha, h => ha j h
  | k + 1, i, acc, j, hi, ha, h => by
    rw [q_la] at h
    refine q_la_lt k (i + 1) _ j (by omega) (fun a h2 => ?_) h
    split at h2
    · cases h2; omega
    · exact ha a h2
theorem q_rt_lt {D : Nat → Int32} {m : Nat} : ∀ (k i : Nat) (acc : Option Nat) (j : Nat), i + k = m → (∀ a, acc = some a → a < m) → q_rt D i k acc = some j → j < m
  | 0, i, acc, j, hi, ha, h => ha j h
  | k + 1, i, acc, j, hi, ha, h => by
    rw [q_rt] at h
    refine q_rt_lt k (i + 1) _ j (by omega) (fun a h2 => ?_) h
    split at h2
    · cases h2; omega
    · exact ha a h2
def q_p2 (Z : Nat → Nat → Int32) (n p : Nat) : Int32 × (Nat → Nat → Int32) := match q_la Z n p 0 n none with
  | none => (0, Z)
  | some j => (q_w Z n j, q_re Z n j)
def q_pt (Z : Nat → Nat → Int32) (n : Nat) (key value : Int32) : Int32 × (Nat → Nat → Int32) := if y_nm key = true ∧ y_nm value = true then (match q_fd (q_c Z 8) key 0 n with
  | some j => (0, q_py (s_upd (s_upd Z 132 (68 + j) value) 132 (188 + j) 1) n j)
  | none => if n = 60 then (-4, Z) else q_p2 (q_py (q_cm Z n (t_pl (q_c Z 8) key 0 n) key value) (n + 1) (t_pl (q_c Z 8) key 0 n)) (n + 1) (t_pl (q_c Z 8) key 0 n)) else (-2, Z)
theorem q_put_k {Z : Nat → Nat → Int32} {P : Nat → Nat} {L n : Nat} (hN : Z 132 3 = nI n) (hn : n ≤ 60) {key value : Int32} (hk : y_nm key = false) : m_r 113 [.ref 131, .int key, .int value] (hp Z P L) (some (.int (q_pt Z n key value).1)) (hp (q_pt Z n key value).2 P L) := by
  refine m_of (ls := [.ref 131, .int key, .int value, s_no, s_no]) hk_113 rfl rfl rfl ?_
  refine e_go hk_113 1 (c := (1, [.ref 131, .int key, .int value, s_no, s_no], [.int key], hp Z P L)) rfl ?_
  refine e_call hk_113 (as := [.int key]) (rest := []) rfl rfl hk_94 rfl (Nat.le_of_ble_eq_true rfl) rfl q_key ?_
  show e_r 113 4 [.ref 131, .int key, .int value, s_no, s_no] [.int (y_b (y_nm key))] (hp Z P L) _ _
  refine e_go hk_113 1 (c := (if s_cnd .eq (y_b (y_nm key)) 0 = true then 14 else 7, [.ref 131, .int key, .int value, s_no, s_no], [], hp Z P L)) rfl ?_
  refine e_eq (a := 14) (b := 7) (x := y_b (y_nm key)) (y := 0) (fun hc4 => ?_) (fun hc4 => absurd (y_b0.mpr hk) hc4)
  refine e_go hk_113 1 (c := (16, [.ref 131, .int key, .int value, s_no, s_no], [.int ((-2))], hp Z P L)) rfl ?_
  exact e_ret hk_113 rfl rfl rfl (by rw [q_pt, if_neg (fun z => by rw [hk] at z; exact absurd z.1 (by decide))]) (by rw [q_pt, if_neg (fun z => by rw [hk] at z; exact absurd z.1 (by decide))])
theorem q_put_v {Z : Nat → Nat → Int32} {P : Nat → Nat} {L n : Nat} (hN : Z 132 3 = nI n) (hn : n ≤ 60) {key value : Int32} (hk : y_nm key = true) (hv : y_nm value = false) : m_r 113 [.ref 131, .int key, .int value] (hp Z P L) (some (.int (q_pt Z n key value).1)) (hp (q_pt Z n key value).2 P L) := by
  refine m_of (ls := [.ref 131, .int key, .int value, s_no, s_no]) hk_113 rfl rfl rfl ?_
  refine e_go hk_113 1 (c := (1, [.ref 131, .int key, .int value, s_no, s_no], [.int key], hp Z P L)) rfl ?_
  refine e_call hk_113 (as := [.int key]) (rest := []) rfl rfl hk_94 rfl (Nat.le_of_ble_eq_true rfl) rfl q_key ?_
  show e_r 113 4 [.ref 131, .int key, .int value, s_no, s_no] [.int (y_b (y_nm key))] (hp Z P L) _ _
  refine e_go hk_113 1 (c := (if s_cnd .eq (y_b (y_nm key)) 0 = true then 14 else 7, [.ref 131, .int key, .int value, s_no, s_no], [], hp Z P L)) rfl ?_
  refine e_eq (a := 14) (b := 7) (x := y_b (y_nm key)) (y := 0) (fun hc4 => absurd hc4 (y_b1.mpr hk)) (fun hc4 => ?_)
  refine e_go hk_113 1 (c := (8, [.ref 131, .int key, .int value, s_no, s_no], [.int value], hp Z P L)) rfl ?_
  refine e_call hk_113 (as := [.int value]) (rest := []) rfl rfl hk_94 rfl (Nat.le_of_ble_eq_true rfl) rfl q_key ?_
  show e_r 113 11 [.ref 131, .int key, .int value, s_no, s_no] [.int (y_b (y_nm value))] (hp Z P L) _ _
  refine e_go hk_113 1 (c := (if s_cnd .ne (y_b (y_nm value)) 0 = true then 17 else 14, [.ref 131, .int key, .int value, s_no, s_no], [], hp Z P L)) rfl ?_
  refine e_ne (a := 17) (b := 14) (x := y_b (y_nm value)) (y := 0) (fun hc11 => absurd (y_b0.mpr hv) hc11) (fun hc11 => ?_)
  refine e_go hk_113 1 (c := (16, [.ref 131, .int key, .int value, s_no, s_no], [.int ((-2))], hp Z P L)) rfl ?_
  exact e_ret hk_113 rfl rfl rfl (by rw [q_pt, if_neg (fun z => by rw [hv] at z; exact absurd z.2 (by decide))]) (by rw [q_pt, if_neg (fun z => by rw [hv] at z; exact absurd z.2 (by decide))])
theorem q_put_o {Z : Nat → Nat → Int32} {P : Nat → Nat} {L n : Nat} (hN : Z 132 3 = nI n) (hn : n ≤ 60) {key value : Int32} {j : Nat} (hk : y_nm key = true) (hv : y_nm value = true) (hq : q_fd (q_c Z 8) key 0 n = some j) : m_r 113 [.ref 131, .int key, .int value] (hp Z P L) (some (.int (q_pt Z n key value).1)) (hp (q_pt Z n key value).2 P L) := by
  have hj : j < n := by have := q_fd_lt hq; omega
  refine m_of (ls := [.ref 131, .int key, .int value, s_no, s_no]) hk_113 rfl rfl rfl ?_
  refine e_go hk_113 1 (c := (1, [.ref 131, .int key, .int value, s_no, s_no], [.int key], hp Z P L)) rfl ?_
  refine e_call hk_113 (as := [.int key]) (rest := []) rfl rfl hk_94 rfl (Nat.le_of_ble_eq_true rfl) rfl q_key ?_
  show e_r 113 4 [.ref 131, .int key, .int value, s_no, s_no] [.int (y_b (y_nm key))] (hp Z P L) _ _
  refine e_go hk_113 1 (c := (if s_cnd .eq (y_b (y_nm key)) 0 = true then 14 else 7, [.ref 131, .int key, .int value, s_no, s_no], [], hp Z P L)) rfl ?_
  refine e_eq (a := 14) (b := 7) (x := y_b (y_nm key)) (y := 0) (fun hc4 => absurd hc4 (y_b1.mpr hk)) (fun hc4 => ?_)
  refine e_go hk_113 1 (c := (8, [.ref 131, .int key, .int value, s_no, s_no], [.int value], hp Z P L)) rfl ?_
  refine e_call hk_113 (as := [.int value]) (rest := []) rfl rfl hk_94 rfl (Nat.le_of_ble_eq_true rfl) rfl q_key ?_
  show e_r 113 11 [.ref 131, .int key, .int value, s_no, s_no] [.int (y_b (y_nm value))] (hp Z P L) _ _
  refine e_go hk_113 1 (c := (if s_cnd .ne (y_b (y_nm value)) 0 = true then 17 else 14, [.ref 131, .int key, .int value, s_no, s_no], [], hp Z P L)) rfl ?_
  refine e_ne (a := 17) (b := 14) (x := y_b (y_nm value)) (y := 0) (fun hc11 => ?_) (fun hc11 => absurd hc11 (y_b1.mpr hv))
  refine e_go hk_113 2 (c := (19, [.ref 131, .int key, .int value, s_no, s_no], [.int key, .ref 131], hp Z P L)) rfl ?_
  refine e_call hk_113 (as := [.ref 131, .int key]) (rest := []) rfl rfl hk_96 rfl (Nat.le_of_ble_eq_true rfl) rfl (q_find_s hN hn hq) ?_
  show e_r 113 22 [.ref 131, .int key, .int value, s_no, s_no] [.int (nI j)] (hp Z P L) _ _
  refine e_go hk_113 4 (c := (if s_cnd .eq (nI j) ((-6)) = true then 57 else 29, [.ref 131, .int key, .int value, .int (nI j), s_no], [], hp Z P L)) rfl ?_
  refine e_eq (a := 57) (b := 29) (x := nI j) (y := (-6)) (fun hc26 => absurd hc26 (q_ne6 (by omega))) (fun hc26 => ?_)
  refine e_go hk_113 6 (c := (38, [.ref 131, .int key, .int value, .int (nI j), s_no], [.int value, .int (68 + (nI j)), .ref 132], hp Z P L)) rfl ?_
  rw [show (68 + (nI j)) = nI (68 + j) from (nI_add 68 j)]
  refine e_ast hk_113 (a := 132) (j := 68 + j) (n := 308) rfl rfl rfl (by decide) (by omega) (by decide) ?_
  show e_r 113 39 [.ref 131, .int key, .int value, .int (nI j), s_no] [] (hp (s_upd Z 132 (68 + j) value) P L) _ _
  refine e_go hk_113 6 (c := (49, [.ref 131, .int key, .int value, .int (nI j), s_no], [.int 1, .int (188 + (nI j)), .ref 132], hp (s_upd Z 132 (68 + j) value) P L)) rfl ?_
  rw [show (188 + (nI j)) = nI (188 + j) from (nI_add 188 j)]
  refine e_ast hk_113 (a := 132) (j := 188 + j) (n := 308) rfl rfl rfl (by decide) (by omega) (by decide) ?_
  show e_r 113 50 [.ref 131, .int key, .int value, .int (nI j), s_no] [] (hp (s_upd (s_upd Z 132 (68 + j) value) 132 (188 + j) 1) P L) _ _
  refine e_go hk_113 2 (c := (52, [.ref 131, .int key, .int value, .int (nI j), s_no], [.int (nI j), .ref 131], hp (s_upd (s_upd Z 132 (68 + j) value) 132 (188 + j) 1) P L)) rfl ?_
  refine e_call hk_113 (as := [.ref 131, .int (nI j)]) (rest := []) rfl rfl hk_109 rfl (Nat.le_of_ble_eq_true rfl) rfl (q_pays (nd := j) (n := n) (by rw [s_upd_c, if_neg (by omega), s_upd_c, if_neg (by omega)]; exact hN) hn hj) ?_
  show e_r 113 55 [.ref 131, .int key, .int value, .int (nI j), s_no] [] (hp ((q_py (s_upd (s_upd Z 132 (68 + j) value) 132 (188 + j) 1) n j)) P L) _ _
  refine e_go hk_113 1 (c := (56, [.ref 131, .int key, .int value, .int (nI j), s_no], [.int 0], hp ((q_py (s_upd (s_upd Z 132 (68 + j) value) 132 (188 + j) 1) n j)) P L)) rfl ?_
  exact e_ret hk_113 rfl rfl rfl (by rw [q_pt, if_pos ⟨hk, hv⟩, hq]) (by rw [q_pt, if_pos ⟨hk, hv⟩, hq])
theorem q_put_f {Z : Nat → Nat → Int32} {P : Nat → Nat} {L n : Nat} (hN : Z 132 3 = nI n) (hn : n ≤ 60) {key value : Int32} (hk : y_nm key = true) (hv : y_nm value = true) (hq : q_fd (q_c Z 8) key 0 n = none) (hn6 : n = 60) : m_r 113 [.ref 131, .int key, .int value] (hp Z P L) (some (.int (q_pt Z n key value).1)) (hp (q_pt Z n key value).2 P L) := by
  refine m_of (ls := [.ref 131, .int key, .int value, s_no, s_no]) hk_113 rfl rfl rfl ?_
  refine e_go hk_113 1 (c := (1, [.ref 131, .int key, .int value, s_no, s_no], [.int key], hp Z P L)) rfl ?_
  refine e_call hk_113 (as := [.int key]) (rest := []) rfl rfl hk_94 rfl (Nat.le_of_ble_eq_true rfl) rfl q_key ?_
  show e_r 113 4 [.ref 131, .int key, .int value, s_no, s_no] [.int (y_b (y_nm key))] (hp Z P L) _ _
  refine e_go hk_113 1 (c := (if s_cnd .eq (y_b (y_nm key)) 0 = true then 14 else 7, [.ref 131, .int key, .int value, s_no, s_no], [], hp Z P L)) rfl ?_
  refine e_eq (a := 14) (b := 7) (x := y_b (y_nm key)) (y := 0) (fun hc4 => absurd hc4 (y_b1.mpr hk)) (fun hc4 => ?_)
  refine e_go hk_113 1 (c := (8, [.ref 131, .int key, .int value, s_no, s_no], [.int value], hp Z P L)) rfl ?_
  refine e_call hk_113 (as := [.int value]) (rest := []) rfl rfl hk_94 rfl (Nat.le_of_ble_eq_true rfl) rfl q_key ?_
  show e_r 113 11 [.ref 131, .int key, .int value, s_no, s_no] [.int (y_b (y_nm value))] (hp Z P L) _ _
  refine e_go hk_113 1 (c := (if s_cnd .ne (y_b (y_nm value)) 0 = true then 17 else 14, [.ref 131, .int key, .int value, s_no, s_no], [], hp Z P L)) rfl ?_
  refine e_ne (a := 17) (b := 14) (x := y_b (y_nm value)) (y := 0) (fun hc11 => ?_) (fun hc11 => absurd hc11 (y_b1.mpr hv))
  refine e_go hk_113 2 (c := (19, [.ref 131, .int key, .int value, s_no, s_no], [.int key, .ref 131], hp Z P L)) rfl ?_
  refine e_call hk_113 (as := [.ref 131, .int key]) (rest := []) rfl rfl hk_96 rfl (Nat.le_of_ble_eq_true rfl) rfl (q_find_n hN hn hq) ?_
  show e_r 113 22 [.ref 131, .int key, .int value, s_no, s_no] [.int ((-6))] (hp Z P L) _ _
  refine e_go hk_113 4 (c := (if s_cnd .eq ((-6)) ((-6)) = true then 57 else 29, [.ref 131, .int key, .int value, .int ((-6)), s_no], [], hp Z P L)) rfl ?_
  refine e_eq (a := 57) (b := 29) (x := (-6)) (y := (-6)) (fun hc26 => ?_) (fun hc26 => absurd (rfl) hc26)
  refine e_go hk_113 3 (c := (62, [.ref 131, .int key, .int value, .int ((-6)), s_no], [.int 3, .ref 132], hp Z P L)) rfl ?_
  refine e_ald hk_113 (a := 132) (j := 3) (n := 308) rfl rfl rfl (by decide) (by decide) ?_
  show e_r 113 63 [.ref 131, .int key, .int value, .int ((-6)), s_no] [.int (Z 132 3)] (hp Z P L) _ _
  refine e_go hk_113 2 (c := (if s_cnd .ne (Z 132 3) 60 = true then 71 else 68, [.ref 131, .int key, .int value, .int ((-6)), s_no], [], hp Z P L)) rfl ?_
  refine e_ne (a := 71) (b := 68) (x := Z 132 3) (y := 60) (fun hc65 => absurd (by rw [hN, hn6]; rfl) hc65) (fun hc65 => ?_)
  refine e_go hk_113 1 (c := (70, [.ref 131, .int key, .int value, .int ((-6)), s_no], [.int ((-4))], hp Z P L)) rfl ?_
  exact e_ret hk_113 rfl rfl rfl (by rw [q_pt, if_pos ⟨hk, hv⟩, hq]; dsimp only; rw [if_pos hn6]) (by rw [q_pt, if_pos ⟨hk, hv⟩, hq]; dsimp only; rw [if_pos hn6])
theorem q_put_n {Z : Nat → Nat → Int32} {P : Nat → Nat} {L n : Nat} (hN : Z 132 3 = nI n) (hn : n ≤ 60) {key value : Int32} {p : Nat} (hk : y_nm key = true) (hv : y_nm value = true) (hq : q_fd (q_c Z 8) key 0 n = none) (hn6 : n < 60) (hpl : t_pl (q_c Z 8) key 0 n = p) (hla : q_la (q_py (q_cm Z n p key value) (n + 1) p) (n + 1) p 0 (n + 1) none = none) : m_r 113 [.ref 131, .int key, .int value] (hp Z P L) (some (.int (q_pt Z n key value).1)) (hp (q_pt Z n key value).2 P L) := by
  have hpn : p ≤ n := by have := (t_pl_le (q_c Z 8) key n 0).2; omega
  have hN2 : (q_py (q_cm Z n p key value) (n + 1) p) 132 3 = nI (n + 1) := by rw [q_py_x (by omega) (by omega)]; exact q_cm_3 hN
  refine m_of (ls := [.ref 131, .int key, .int value, s_no, s_no]) hk_113 rfl rfl rfl ?_
  refine e_go hk_113 1 (c := (1, [.ref 131, .int key, .int value, s_no, s_no], [.int key], hp Z P L)) rfl ?_
  refine e_call hk_113 (as := [.int key]) (rest := []) rfl rfl hk_94 rfl (Nat.le_of_ble_eq_true rfl) rfl q_key ?_
  show e_r 113 4 [.ref 131, .int key, .int value, s_no, s_no] [.int (y_b (y_nm key))] (hp Z P L) _ _
  refine e_go hk_113 1 (c := (if s_cnd .eq (y_b (y_nm key)) 0 = true then 14 else 7, [.ref 131, .int key, .int value, s_no, s_no], [], hp Z P L)) rfl ?_
  refine e_eq (a := 14) (b := 7) (x := y_b (y_nm key)) (y := 0) (fun hc4 => absurd hc4 (y_b1.mpr hk)) (fun hc4 => ?_)
  refine e_go hk_113 1 (c := (8, [.ref 131, .int key, .int value, s_no, s_no], [.int value], hp Z P L)) rfl ?_
  refine e_call hk_113 (as := [.int value]) (rest := []) rfl rfl hk_94 rfl (Nat.le_of_ble_eq_true rfl) rfl q_key ?_
  show e_r 113 11 [.ref 131, .int key, .int value, s_no, s_no] [.int (y_b (y_nm value))] (hp Z P L) _ _
  refine e_go hk_113 1 (c := (if s_cnd .ne (y_b (y_nm value)) 0 = true then 17 else 14, [.ref 131, .int key, .int value, s_no, s_no], [], hp Z P L)) rfl ?_
  refine e_ne (a := 17) (b := 14) (x := y_b (y_nm value)) (y := 0) (fun hc11 => ?_) (fun hc11 => absurd hc11 (y_b1.mpr hv))
  refine e_go hk_113 2 (c := (19, [.ref 131, .int key, .int value, s_no, s_no], [.int key, .ref 131], hp Z P L)) rfl ?_
  refine e_call hk_113 (as := [.ref 131, .int key]) (rest := []) rfl rfl hk_96 rfl (Nat.le_of_ble_eq_true rfl) rfl (q_find_n hN hn hq) ?_
  show e_r 113 22 [.ref 131, .int key, .int value, s_no, s_no] [.int ((-6))] (hp Z P L) _ _
  refine e_go hk_113 4 (c := (if s_cnd .eq ((-6)) ((-6)) = true then 57 else 29, [.ref 131, .int key, .int value, .int ((-6)), s_no], [], hp Z P L)) rfl ?_
  refine e_eq (a := 57) (b := 29) (x := (-6)) (y := (-6)) (fun hc26 => ?_) (fun hc26 => absurd (rfl) hc26)
  refine e_go hk_113 3 (c := (62, [.ref 131, .int key, .int value, .int ((-6)), s_no], [.int 3, .ref 132], hp Z P L)) rfl ?_
  refine e_ald hk_113 (a := 132) (j := 3) (n := 308) rfl rfl rfl (by decide) (by decide) ?_
  show e_r 113 63 [.ref 131, .int key, .int value, .int ((-6)), s_no] [.int (Z 132 3)] (hp Z P L) _ _
  refine e_go hk_113 2 (c := (if s_cnd .ne (Z 132 3) 60 = true then 71 else 68, [.ref 131, .int key, .int value, .int ((-6)), s_no], [], hp Z P L)) rfl ?_
  refine e_ne (a := 71) (b := 68) (x := Z 132 3) (y := 60) (fun hc65 => ?_) (fun hc65 => absurd hc65 (by rw [hN]; exact fun z => absurd ((y_eqI (a := n) (b := 60) (by omega) (by omega)).mp z) (by omega)))
  refine e_go hk_113 3 (c := (74, [.ref 131, .int key, .int value, .int ((-6)), s_no], [.int value, .int key, .ref 131], hp Z P L)) rfl ?_
  refine e_call hk_113 (as := [.ref 131, .int key, .int value]) (rest := []) rfl rfl hk_111 rfl (Nat.le_of_ble_eq_true rfl) rfl (q_comes_p hN hn6 hpl) ?_
  show e_r 113 77 [.ref 131, .int key, .int value, .int ((-6)), s_no] [] (hp ((q_cm Z n p key value)) P L) _ _
  refine e_go hk_113 3 (c := (80, [.ref 131, .int key, .int value, .int ((-6)), s_no], [.int key, .ref 131, .ref 131], hp ((q_cm Z n p key value)) P L)) rfl ?_
  refine e_call hk_113 (as := [.ref 131, .int key]) (rest := [.ref 131]) rfl rfl hk_96 rfl (Nat.le_of_ble_eq_true rfl) rfl (q_find_s (n := n + 1) (q_cm_3 hN) (by omega) (q_fd_cm hpn hn6 hq)) ?_
  show e_r 113 83 [.ref 131, .int key, .int value, .int ((-6)), s_no] [.int (nI p), .ref 131] (hp ((q_cm Z n p key value)) P L) _ _
  refine e_call hk_113 (as := [.ref 131, .int (nI p)]) (rest := []) rfl rfl hk_109 rfl (Nat.le_of_ble_eq_true rfl) rfl (q_pays (n := n + 1) (nd := p) (q_cm_3 hN) (by omega) (by omega)) ?_
  show e_r 113 86 [.ref 131, .int key, .int value, .int ((-6)), s_no] [] (hp ((q_py (q_cm Z n p key value) (n + 1) p)) P L) _ _
  refine e_go hk_113 3 (c := (89, [.ref 131, .int key, .int value, .int ((-6)), s_no], [.int key, .ref 131, .ref 131], hp ((q_py (q_cm Z n p key value) (n + 1) p)) P L)) rfl ?_
  refine e_call hk_113 (as := [.ref 131, .int key]) (rest := [.ref 131]) rfl rfl hk_96 rfl (Nat.le_of_ble_eq_true rfl) rfl (q_find_s (n := n + 1) hN2 (by omega) (q_fd_cm2 hpn hn6 hq)) ?_
  show e_r 113 92 [.ref 131, .int key, .int value, .int ((-6)), s_no] [.int (nI p), .ref 131] (hp ((q_py (q_cm Z n p key value) (n + 1) p)) P L) _ _
  refine e_call hk_113 (as := [.ref 131, .int (nI p)]) (rest := []) rfl rfl hk_112 rfl (Nat.le_of_ble_eq_true rfl) rfl (q_above_n (n := n + 1) hN2 (by omega) (by omega) hla) ?_
  show e_r 113 95 [.ref 131, .int key, .int value, .int ((-6)), s_no] [.int ((-6))] (hp ((q_py (q_cm Z n p key value) (n + 1) p)) P L) _ _
  refine e_go hk_113 4 (c := (if s_cnd .ne ((-6)) ((-6)) = true then 108 else 104, [.ref 131, .int key, .int value, .int ((-6)), .int ((-6))], [], hp ((q_py (q_cm Z n p key value) (n + 1) p)) P L)) rfl ?_
  refine e_ne (a := 108) (b := 104) (x := (-6)) (y := (-6)) (fun hc101 => absurd (rfl) hc101) (fun hc101 => ?_)
  refine e_go hk_113 2 (c := (114, [.ref 131, .int key, .int value, .int ((-6)), .int ((-6))], [.int 0], hp ((q_py (q_cm Z n p key value) (n + 1) p)) P L)) rfl ?_
  exact e_ret hk_113 rfl rfl rfl (by rw [q_pt, if_pos ⟨hk, hv⟩, hq]; dsimp only; rw [if_neg (by omega), hpl, q_p2, hla]) (by rw [q_pt, if_pos ⟨hk, hv⟩, hq]; dsimp only; rw [if_neg (by omega), hpl, q_p2, hla])
theorem q_put_s {Z : Nat → Nat → Int32} {P : Nat → Nat} {L n : Nat} (hN : Z 132 3 = nI n) (hn : n ≤ 60) {key value : Int32} {p j : Nat} (hk : y_nm key = true) (hv : y_nm value = true) (hq : q_fd (q_c Z 8) key 0 n = none) (hn6 : n < 60) (hpl : t_pl (q_c Z 8) key 0 n = p) (hla : q_la (q_py (q_cm Z n p key value) (n + 1) p) (n + 1) p 0 (n + 1) none = some j) : m_r 113 [.ref 131, .int key, .int value] (hp Z P L) (some (.int (q_pt Z n key value).1)) (hp (q_pt Z n key value).2 P L) := by
  have hpn : p ≤ n := by have := (t_pl_le (q_c Z 8) key n 0).2; omega
  have hN2 : (q_py (q_cm Z n p key value) (n + 1) p) 132 3 = nI (n + 1) := by rw [q_py_x (by omega) (by omega)]; exact q_cm_3 hN
  have hj : j < n + 1 := q_la_lt (n + 1) 0 none j (by omega) (fun a h => by cases h) hla
  refine m_of (ls := [.ref 131, .int key, .int value, s_no, s_no]) hk_113 rfl rfl rfl ?_
  refine e_go hk_113 1 (c := (1, [.ref 131, .int key, .int value, s_no, s_no], [.int key], hp Z P L)) rfl ?_
  refine e_call hk_113 (as := [.int key]) (rest := []) rfl rfl hk_94 rfl (Nat.le_of_ble_eq_true rfl) rfl q_key ?_
  show e_r 113 4 [.ref 131, .int key, .int value, s_no, s_no] [.int (y_b (y_nm key))] (hp Z P L) _ _
  refine e_go hk_113 1 (c := (if s_cnd .eq (y_b (y_nm key)) 0 = true then 14 else 7, [.ref 131, .int key, .int value, s_no, s_no], [], hp Z P L)) rfl ?_
  refine e_eq (a := 14) (b := 7) (x := y_b (y_nm key)) (y := 0) (fun hc4 => absurd hc4 (y_b1.mpr hk)) (fun hc4 => ?_)
  refine e_go hk_113 1 (c := (8, [.ref 131, .int key, .int value, s_no, s_no], [.int value], hp Z P L)) rfl ?_
  refine e_call hk_113 (as := [.int value]) (rest := []) rfl rfl hk_94 rfl (Nat.le_of_ble_eq_true rfl) rfl q_key ?_
  show e_r 113 11 [.ref 131, .int key, .int value, s_no, s_no] [.int (y_b (y_nm value))] (hp Z P L) _ _
  refine e_go hk_113 1 (c := (if s_cnd .ne (y_b (y_nm value)) 0 = true then 17 else 14, [.ref 131, .int key, .int value, s_no, s_no], [], hp Z P L)) rfl ?_
  refine e_ne (a := 17) (b := 14) (x := y_b (y_nm value)) (y := 0) (fun hc11 => ?_) (fun hc11 => absurd hc11 (y_b1.mpr hv))
  refine e_go hk_113 2 (c := (19, [.ref 131, .int key, .int value, s_no, s_no], [.int key, .ref 131], hp Z P L)) rfl ?_
  refine e_call hk_113 (as := [.ref 131, .int key]) (rest := []) rfl rfl hk_96 rfl (Nat.le_of_ble_eq_true rfl) rfl (q_find_n hN hn hq) ?_
  show e_r 113 22 [.ref 131, .int key, .int value, s_no, s_no] [.int ((-6))] (hp Z P L) _ _
  refine e_go hk_113 4 (c := (if s_cnd .eq ((-6)) ((-6)) = true then 57 else 29, [.ref 131, .int key, .int value, .int ((-6)), s_no], [], hp Z P L)) rfl ?_
  refine e_eq (a := 57) (b := 29) (x := (-6)) (y := (-6)) (fun hc26 => ?_) (fun hc26 => absurd (rfl) hc26)
  refine e_go hk_113 3 (c := (62, [.ref 131, .int key, .int value, .int ((-6)), s_no], [.int 3, .ref 132], hp Z P L)) rfl ?_
  refine e_ald hk_113 (a := 132) (j := 3) (n := 308) rfl rfl rfl (by decide) (by decide) ?_
  show e_r 113 63 [.ref 131, .int key, .int value, .int ((-6)), s_no] [.int (Z 132 3)] (hp Z P L) _ _
  refine e_go hk_113 2 (c := (if s_cnd .ne (Z 132 3) 60 = true then 71 else 68, [.ref 131, .int key, .int value, .int ((-6)), s_no], [], hp Z P L)) rfl ?_
  refine e_ne (a := 71) (b := 68) (x := Z 132 3) (y := 60) (fun hc65 => ?_) (fun hc65 => absurd hc65 (by rw [hN]; exact fun z => absurd ((y_eqI (a := n) (b := 60) (by omega) (by omega)).mp z) (by omega)))
  refine e_go hk_113 3 (c := (74, [.ref 131, .int key, .int value, .int ((-6)), s_no], [.int value, .int key, .ref 131], hp Z P L)) rfl ?_
  refine e_call hk_113 (as := [.ref 131, .int key, .int value]) (rest := []) rfl rfl hk_111 rfl (Nat.le_of_ble_eq_true rfl) rfl (q_comes_p hN hn6 hpl) ?_
  show e_r 113 77 [.ref 131, .int key, .int value, .int ((-6)), s_no] [] (hp ((q_cm Z n p key value)) P L) _ _
  refine e_go hk_113 3 (c := (80, [.ref 131, .int key, .int value, .int ((-6)), s_no], [.int key, .ref 131, .ref 131], hp ((q_cm Z n p key value)) P L)) rfl ?_
  refine e_call hk_113 (as := [.ref 131, .int key]) (rest := [.ref 131]) rfl rfl hk_96 rfl (Nat.le_of_ble_eq_true rfl) rfl (q_find_s (n := n + 1) (q_cm_3 hN) (by omega) (q_fd_cm hpn hn6 hq)) ?_
  show e_r 113 83 [.ref 131, .int key, .int value, .int ((-6)), s_no] [.int (nI p), .ref 131] (hp ((q_cm Z n p key value)) P L) _ _
  refine e_call hk_113 (as := [.ref 131, .int (nI p)]) (rest := []) rfl rfl hk_109 rfl (Nat.le_of_ble_eq_true rfl) rfl (q_pays (n := n + 1) (nd := p) (q_cm_3 hN) (by omega) (by omega)) ?_
  show e_r 113 86 [.ref 131, .int key, .int value, .int ((-6)), s_no] [] (hp ((q_py (q_cm Z n p key value) (n + 1) p)) P L) _ _
  refine e_go hk_113 3 (c := (89, [.ref 131, .int key, .int value, .int ((-6)), s_no], [.int key, .ref 131, .ref 131], hp ((q_py (q_cm Z n p key value) (n + 1) p)) P L)) rfl ?_
  refine e_call hk_113 (as := [.ref 131, .int key]) (rest := [.ref 131]) rfl rfl hk_96 rfl (Nat.le_of_ble_eq_true rfl) rfl (q_find_s (n := n + 1) hN2 (by omega) (q_fd_cm2 hpn hn6 hq)) ?_
  show e_r 113 92 [.ref 131, .int key, .int value, .int ((-6)), s_no] [.int (nI p), .ref 131] (hp ((q_py (q_cm Z n p key value) (n + 1) p)) P L) _ _
  refine e_call hk_113 (as := [.ref 131, .int (nI p)]) (rest := []) rfl rfl hk_112 rfl (Nat.le_of_ble_eq_true rfl) rfl (q_above_s (n := n + 1) hN2 (by omega) (by omega) hla) ?_
  show e_r 113 95 [.ref 131, .int key, .int value, .int ((-6)), s_no] [.int (nI j)] (hp ((q_py (q_cm Z n p key value) (n + 1) p)) P L) _ _
  refine e_go hk_113 4 (c := (if s_cnd .ne (nI j) ((-6)) = true then 108 else 104, [.ref 131, .int key, .int value, .int ((-6)), .int (nI j)], [], hp ((q_py (q_cm Z n p key value) (n + 1) p)) P L)) rfl ?_
  refine e_ne (a := 108) (b := 104) (x := nI j) (y := (-6)) (fun hc101 => ?_) (fun hc101 => absurd hc101 (q_ne6 (by omega)))
  refine e_go hk_113 2 (c := (111, [.ref 131, .int key, .int value, .int ((-6)), .int (nI j)], [.int (nI j), .ref 131], hp ((q_py (q_cm Z n p key value) (n + 1) p)) P L)) rfl ?_
  refine e_call hk_113 (as := [.ref 131, .int (nI j)]) (rest := []) rfl rfl hk_108 rfl (Nat.le_of_ble_eq_true rfl) rfl (q_reb (n := n + 1) hN2 (by omega) hj) ?_
  show e_r 113 114 [.ref 131, .int key, .int value, .int ((-6)), .int (nI j)] [.int (q_w (q_py (q_cm Z n p key value) (n + 1) p) (n + 1) j)] (hp ((q_re (q_py (q_cm Z n p key value) (n + 1) p) (n + 1) j)) P L) _ _
  exact e_ret hk_113 rfl rfl rfl (by rw [q_pt, if_pos ⟨hk, hv⟩, hq]; dsimp only; rw [if_neg (by omega), hpl, q_p2, hla]) (by rw [q_pt, if_pos ⟨hk, hv⟩, hq]; dsimp only; rw [if_neg (by omega), hpl, q_p2, hla])
theorem q_put {Z : Nat → Nat → Int32} {P : Nat → Nat} {L n : Nat} (hN : Z 132 3 = nI n) (hn : n ≤ 60) {key value : Int32} : m_r 113 [.ref 131, .int key, .int value] (hp Z P L) (some (.int (q_pt Z n key value).1)) (hp (q_pt Z n key value).2 P L) := by
  cases hk : y_nm key with
  | false => exact q_put_k hN hn hk
  | true =>
  cases hv : y_nm value with
  | false => exact q_put_v hN hn hk hv
  | true =>
  cases hq : q_fd (q_c Z 8) key 0 n with
  | some j => exact q_put_o hN hn hk hv hq
  | none =>
  by_cases hn6 : n = 60
  · exact q_put_f hN hn hk hv hq hn6
  · cases hla : q_la (q_py (q_cm Z n (t_pl (q_c Z 8) key 0 n) key value) (n + 1) (t_pl (q_c Z 8) key 0 n)) (n + 1) (t_pl (q_c Z 8) key 0 n) 0 (n + 1) none with
    | none => exact q_put_n hN hn hk hv hq (by omega) rfl hla
    | some j => exact q_put_s hN hn hk hv hq (by omega) rfl hla
def q_r2 (Z : Nat → Nat → Int32) (n r : Nat) : Int32 × (Nat → Nat → Int32) := if Z 132 1 * Z 132 3 < 100 * (Z 132 3 - t_sm (q_c Z 188) 0 n 0) then (q_w Z n r, q_re Z n r) else (0, Z)
def q_rm (Z : Nat → Nat → Int32) (n r : Nat) (key : Int32) : Int32 × (Nat → Nat → Int32) := if y_nm key = true then (match q_fd (q_c Z 8) key 0 n with
  | none => (-1, Z)
  | some j => if Z 132 (188 + j) = 0 then (-1, Z) else q_r2 (q_py (s_upd Z 132 (188 + j) 0) n j) n r) else (-2, Z)
theorem q_up_D {Z : Nat → Nat → Int32} {x : Nat} {v : Int32} (hx : x < 248) : q_c (s_upd Z 132 x v) 248 = q_c Z 248 := funext fun i => by show s_upd Z 132 x v 132 (248 + i) = _; rw [s_upd_c, if_neg (by omega)]
theorem q_rem_k {Z : Nat → Nat → Int32} {P : Nat → Nat} {L n : Nat} (hN : Z 132 3 = nI n) (hn : n ≤ 60) {key : Int32} {r : Nat} (hk : y_nm key = false) : m_r 116 [.ref 131, .int key] (hp Z P L) (some (.int (q_rm Z n r key).1)) (hp (q_rm Z n r key).2 P L) := by
  refine m_of (ls := [.ref 131, .int key, s_no]) hk_116 rfl rfl rfl ?_
  refine e_go hk_116 1 (c := (1, [.ref 131, .int key, s_no], [.int key], hp Z P L)) rfl ?_
  refine e_call hk_116 (as := [.int key]) (rest := []) rfl rfl hk_94 rfl (Nat.le_of_ble_eq_true rfl) rfl q_key ?_
  show e_r 116 4 [.ref 131, .int key, s_no] [.int (y_b (y_nm key))] (hp Z P L) _ _
  refine e_go hk_116 1 (c := (if s_cnd .ne (y_b (y_nm key)) 0 = true then 10 else 7, [.ref 131, .int key, s_no], [], hp Z P L)) rfl ?_
  refine e_ne (a := 10) (b := 7) (x := y_b (y_nm key)) (y := 0) (fun hc4 => absurd (y_b0.mpr hk) hc4) (fun hc4 => ?_)
  refine e_go hk_116 1 (c := (9, [.ref 131, .int key, s_no], [.int ((-2))], hp Z P L)) rfl ?_
  exact e_ret hk_116 rfl rfl rfl (by rw [q_rm, if_neg (fun z => by rw [hk] at z; exact absurd z (by decide))]) (by rw [q_rm, if_neg (fun z => by rw [hk] at z; exact absurd z (by decide))])
theorem q_rem_n {Z : Nat → Nat → Int32} {P : Nat → Nat} {L n : Nat} (hN : Z 132 3 = nI n) (hn : n ≤ 60) {key : Int32} {r : Nat} (hk : y_nm key = true) (hq : q_fd (q_c Z 8) key 0 n = none) : m_r 116 [.ref 131, .int key] (hp Z P L) (some (.int (q_rm Z n r key).1)) (hp (q_rm Z n r key).2 P L) := by
  refine m_of (ls := [.ref 131, .int key, s_no]) hk_116 rfl rfl rfl ?_
  refine e_go hk_116 1 (c := (1, [.ref 131, .int key, s_no], [.int key], hp Z P L)) rfl ?_
  refine e_call hk_116 (as := [.int key]) (rest := []) rfl rfl hk_94 rfl (Nat.le_of_ble_eq_true rfl) rfl q_key ?_
  show e_r 116 4 [.ref 131, .int key, s_no] [.int (y_b (y_nm key))] (hp Z P L) _ _
  refine e_go hk_116 1 (c := (if s_cnd .ne (y_b (y_nm key)) 0 = true then 10 else 7, [.ref 131, .int key, s_no], [], hp Z P L)) rfl ?_
  refine e_ne (a := 10) (b := 7) (x := y_b (y_nm key)) (y := 0) (fun hc4 => ?_) (fun hc4 => absurd hc4 (y_b1.mpr hk))
  refine e_go hk_116 2 (c := (12, [.ref 131, .int key, s_no], [.int key, .ref 131], hp Z P L)) rfl ?_
  refine e_call hk_116 (as := [.ref 131, .int key]) (rest := []) rfl rfl hk_96 rfl (Nat.le_of_ble_eq_true rfl) rfl (q_find_n hN hn hq) ?_
  show e_r 116 15 [.ref 131, .int key, s_no] [.int ((-6))] (hp Z P L) _ _
  refine e_go hk_116 4 (c := (if s_cnd .eq ((-6)) ((-6)) = true then 35 else 22, [.ref 131, .int key, .int ((-6))], [], hp Z P L)) rfl ?_
  refine e_eq (a := 35) (b := 22) (x := (-6)) (y := (-6)) (fun hc19 => ?_) (fun hc19 => absurd (rfl) hc19)
  refine e_go hk_116 1 (c := (36, [.ref 131, .int key, .int ((-6))], [.int ((-1))], hp Z P L)) rfl ?_
  exact e_ret hk_116 rfl rfl rfl (by rw [q_rm, if_pos hk, hq]) (by rw [q_rm, if_pos hk, hq])
theorem q_rem_s {Z : Nat → Nat → Int32} {P : Nat → Nat} {L n : Nat} (hN : Z 132 3 = nI n) (hn : n ≤ 60) {key : Int32} {r : Nat} {j : Nat} (hk : y_nm key = true) (hq : q_fd (q_c Z 8) key 0 n = some j) (hr : q_rt (q_c Z 248) 0 n none = some r) : m_r 116 [.ref 131, .int key] (hp Z P L) (some (.int (q_rm Z n r key).1)) (hp (q_rm Z n r key).2 P L) := by
  have hj : j < n := by have := q_fd_lt hq; omega
  have hN2 : (q_py (s_upd Z 132 (188 + j) 0) n j) 132 3 = nI n := by rw [q_py_x hn (by omega), s_upd_c, if_neg (by omega)]; exact hN
  have hrn : r < n := q_rt_lt n 0 none r (by omega) (fun a h => by cases h) hr
  refine m_of (ls := [.ref 131, .int key, s_no]) hk_116 rfl rfl rfl ?_
  refine e_go hk_116 1 (c := (1, [.ref 131, .int key, s_no], [.int key], hp Z P L)) rfl ?_
  refine e_call hk_116 (as := [.int key]) (rest := []) rfl rfl hk_94 rfl (Nat.le_of_ble_eq_true rfl) rfl q_key ?_
  show e_r 116 4 [.ref 131, .int key, s_no] [.int (y_b (y_nm key))] (hp Z P L) _ _
  refine e_go hk_116 1 (c := (if s_cnd .ne (y_b (y_nm key)) 0 = true then 10 else 7, [.ref 131, .int key, s_no], [], hp Z P L)) rfl ?_
  refine e_ne (a := 10) (b := 7) (x := y_b (y_nm key)) (y := 0) (fun hc4 => ?_) (fun hc4 => absurd hc4 (y_b1.mpr hk))
  refine e_go hk_116 2 (c := (12, [.ref 131, .int key, s_no], [.int key, .ref 131], hp Z P L)) rfl ?_
  refine e_call hk_116 (as := [.ref 131, .int key]) (rest := []) rfl rfl hk_96 rfl (Nat.le_of_ble_eq_true rfl) rfl (q_find_s hN hn hq) ?_
  show e_r 116 15 [.ref 131, .int key, s_no] [.int (nI j)] (hp Z P L) _ _
  refine e_go hk_116 4 (c := (if s_cnd .eq (nI j) ((-6)) = true then 35 else 22, [.ref 131, .int key, .int (nI j)], [], hp Z P L)) rfl ?_
  refine e_eq (a := 35) (b := 22) (x := nI j) (y := (-6)) (fun hc19 => absurd hc19 (q_ne6 (by omega))) (fun hc19 => ?_)
  refine e_go hk_116 5 (c := (31, [.ref 131, .int key, .int (nI j)], [.int (188 + (nI j)), .ref 132], hp Z P L)) rfl ?_
  rw [show (188 + (nI j)) = nI (188 + j) from (nI_add 188 j)]
  refine e_ald hk_116 (a := 132) (j := 188 + j) (n := 308) rfl rfl rfl (by omega) (by decide) ?_
  show e_r 116 32 [.ref 131, .int key, .int (nI j)] [.int (Z 132 (188 + j))] (hp Z P L) _ _
  refine e_go hk_116 1 (c := (if s_cnd .ne (Z 132 (188 + j)) 0 = true then 37 else 35, [.ref 131, .int key, .int (nI j)], [], hp Z P L)) rfl ?_
  refine e_ne (a := 37) (b := 35) (x := Z 132 (188 + j)) (y := 0) (fun hc32 => ?_) (fun hc32 => ?_)
  · skip
    refine e_go hk_116 6 (c := (47, [.ref 131, .int key, .int (nI j)], [.int 0, .int (188 + (nI j)), .ref 132], hp Z P L)) rfl ?_
    rw [show (188 + (nI j)) = nI (188 + j) from (nI_add 188 j)]
    refine e_ast hk_116 (a := 132) (j := 188 + j) (n := 308) rfl rfl rfl (by decide) (by omega) (by decide) ?_
    show e_r 116 48 [.ref 131, .int key, .int (nI j)] [] (hp (s_upd Z 132 (188 + j) 0) P L) _ _
    refine e_go hk_116 2 (c := (50, [.ref 131, .int key, .int (nI j)], [.int (nI j), .ref 131], hp (s_upd Z 132 (188 + j) 0) P L)) rfl ?_
    refine e_call hk_116 (as := [.ref 131, .int (nI j)]) (rest := []) rfl rfl hk_109 rfl (Nat.le_of_ble_eq_true rfl) rfl (q_pays (nd := j) (n := n) (by rw [s_upd_c, if_neg (by omega)]; exact hN) hn hj) ?_
    show e_r 116 53 [.ref 131, .int key, .int (nI j)] [] (hp ((q_py (s_upd Z 132 (188 + j) 0) n j)) P L) _ _
    refine e_go hk_116 4 (c := (60, [.ref 131, .int key, .int (nI j)], [.int 3, .ref 132, .int 100], hp ((q_py (s_upd Z 132 (188 + j) 0) n j)) P L)) rfl ?_
    refine e_ald hk_116 (a := 132) (j := 3) (n := 308) rfl rfl rfl (by decide) (by decide) ?_
    show e_r 116 61 [.ref 131, .int key, .int (nI j)] [.int (((q_py (s_upd Z 132 (188 + j) 0) n j)) 132 3), .int 100] (hp ((q_py (s_upd Z 132 (188 + j) 0) n j)) P L) _ _
    refine e_go hk_116 1 (c := (62, [.ref 131, .int key, .int (nI j)], [.ref 131, .int (((q_py (s_upd Z 132 (188 + j) 0) n j)) 132 3), .int 100], hp ((q_py (s_upd Z 132 (188 + j) 0) n j)) P L)) rfl ?_
    refine e_call hk_116 (as := [.ref 131]) (rest := [.int (((q_py (s_upd Z 132 (188 + j) 0) n j)) 132 3), .int 100]) rfl rfl hk_115 rfl (Nat.le_of_ble_eq_true rfl) rfl (q_fulls hN2 hn) ?_
    show e_r 116 65 [.ref 131, .int key, .int (nI j)] [.int (t_sm (q_c (q_py (s_upd Z 132 (188 + j) 0) n j) 188) 0 n 0), .int (((q_py (s_upd Z 132 (188 + j) 0) n j)) 132 3), .int 100] (hp ((q_py (s_upd Z 132 (188 + j) 0) n j)) P L) _ _
    refine e_go hk_116 5 (c := (72, [.ref 131, .int key, .int (nI j)], [.int 1, .ref 132, .int (100 * ((((q_py (s_upd Z 132 (188 + j) 0) n j)) 132 3) - (t_sm (q_c (q_py (s_upd Z 132 (188 + j) 0) n j) 188) 0 n 0)))], hp ((q_py (s_upd Z 132 (188 + j) 0) n j)) P L)) rfl ?_
    refine e_ald hk_116 (a := 132) (j := 1) (n := 308) rfl rfl rfl (by decide) (by decide) ?_
    show e_r 116 73 [.ref 131, .int key, .int (nI j)] [.int (((q_py (s_upd Z 132 (188 + j) 0) n j)) 132 1), .int (100 * ((((q_py (s_upd Z 132 (188 + j) 0) n j)) 132 3) - (t_sm (q_c (q_py (s_upd Z 132 (188 + j) 0) n j) 188) 0 n 0)))] (hp ((q_py (s_upd Z 132 (188 + j) 0) n j)) P L) _ _
    refine e_go hk_116 3 (c := (78, [.ref 131, .int key, .int (nI j)], [.int 3, .ref 132, .int (((q_py (s_upd Z 132 (188 + j) 0) n j)) 132 1), .int (100 * ((((q_py (s_upd Z 132 (188 + j) 0) n j)) 132 3) - (t_sm (q_c (q_py (s_upd Z 132 (188 + j) 0) n j) 188) 0 n 0)))], hp ((q_py (s_upd Z 132 (188 + j) 0) n j)) P L)) rfl ?_
    refine e_ald hk_116 (a := 132) (j := 3) (n := 308) rfl rfl rfl (by decide) (by decide) ?_
    show e_r 116 79 [.ref 131, .int key, .int (nI j)] [.int (((q_py (s_upd Z 132 (188 + j) 0) n j)) 132 3), .int (((q_py (s_upd Z 132 (188 + j) 0) n j)) 132 1), .int (100 * ((((q_py (s_upd Z 132 (188 + j) 0) n j)) 132 3) - (t_sm (q_c (q_py (s_upd Z 132 (188 + j) 0) n j) 188) 0 n 0)))] (hp ((q_py (s_upd Z 132 (188 + j) 0) n j)) P L) _ _
    refine e_go hk_116 2 (c := (if s_cnd .le (100 * ((((q_py (s_upd Z 132 (188 + j) 0) n j)) 132 3) - (t_sm (q_c (q_py (s_upd Z 132 (188 + j) 0) n j) 188) 0 n 0))) ((((q_py (s_upd Z 132 (188 + j) 0) n j)) 132 1) * (((q_py (s_upd Z 132 (188 + j) 0) n j)) 132 3)) = true then 94 else 83, [.ref 131, .int key, .int (nI j)], [], hp ((q_py (s_upd Z 132 (188 + j) 0) n j)) P L)) rfl ?_
    refine e_le (a := 94) (b := 83) (x := 100 * ((((q_py (s_upd Z 132 (188 + j) 0) n j)) 132 3) - (t_sm (q_c (q_py (s_upd Z 132 (188 + j) 0) n j) 188) 0 n 0))) (y := (((q_py (s_upd Z 132 (188 + j) 0) n j)) 132 1) * (((q_py (s_upd Z 132 (188 + j) 0) n j)) 132 3)) (fun hc80 => ?_) (fun hc80 => ?_)
    · skip
      refine e_go hk_116 1 (c := (95, [.ref 131, .int key, .int (nI j)], [.int 0], hp ((q_py (s_upd Z 132 (188 + j) 0) n j)) P L)) rfl ?_
      exact e_ret hk_116 rfl rfl rfl (by rw [q_rm, if_pos hk, hq]; dsimp only; rw [if_neg hc32, q_r2, if_neg (Int32.not_lt.mpr hc80)]) (by rw [q_rm, if_pos hk, hq]; dsimp only; rw [if_neg hc32, q_r2, if_neg (Int32.not_lt.mpr hc80)])
    · skip
      refine e_go hk_116 2 (c := (85, [.ref 131, .int key, .int (nI j)], [.ref 131, .ref 131], hp ((q_py (s_upd Z 132 (188 + j) 0) n j)) P L)) rfl ?_
      refine e_call hk_116 (as := [.ref 131]) (rest := [.ref 131]) rfl rfl hk_114 rfl (Nat.le_of_ble_eq_true rfl) rfl (q_root_s (r := r) hN2 hn (by rw [q_py_D hn, q_up_D (by omega)]; exact hr)) ?_
      show e_r 116 88 [.ref 131, .int key, .int (nI j)] [.int (nI r), .ref 131] (hp ((q_py (s_upd Z 132 (188 + j) 0) n j)) P L) _ _
      refine e_call hk_116 (as := [.ref 131, .int (nI r)]) (rest := []) rfl rfl hk_108 rfl (Nat.le_of_ble_eq_true rfl) rfl (q_reb (n := n) hN2 hn hrn) ?_
      show e_r 116 91 [.ref 131, .int key, .int (nI j)] [.int (q_w (q_py (s_upd Z 132 (188 + j) 0) n j) n r)] (hp ((q_re (q_py (s_upd Z 132 (188 + j) 0) n j) n r)) P L) _ _
      refine e_go hk_116 1 (c := (95, [.ref 131, .int key, .int (nI j)], [.int (q_w (q_py (s_upd Z 132 (188 + j) 0) n j) n r)], hp ((q_re (q_py (s_upd Z 132 (188 + j) 0) n j) n r)) P L)) rfl ?_
      exact e_ret hk_116 rfl rfl rfl (by rw [q_rm, if_pos hk, hq]; dsimp only; rw [if_neg hc32, q_r2, if_pos (Int32.not_le.mp hc80)]) (by rw [q_rm, if_pos hk, hq]; dsimp only; rw [if_neg hc32, q_r2, if_pos (Int32.not_le.mp hc80)])
  · skip
    refine e_go hk_116 1 (c := (36, [.ref 131, .int key, .int (nI j)], [.int ((-1))], hp Z P L)) rfl ?_
    exact e_ret hk_116 rfl rfl rfl (by rw [q_rm, if_pos hk, hq]; dsimp only; rw [if_pos hc32]) (by rw [q_rm, if_pos hk, hq]; dsimp only; rw [if_pos hc32])
theorem q_rem {Z : Nat → Nat → Int32} {P : Nat → Nat} {L n : Nat} (hN : Z 132 3 = nI n) (hn : n ≤ 60) {key : Int32} {r : Nat} (hr : 0 < n → q_rt (q_c Z 248) 0 n none = some r) : m_r 116 [.ref 131, .int key] (hp Z P L) (some (.int (q_rm Z n r key).1)) (hp (q_rm Z n r key).2 P L) := by
  cases hk : y_nm key with
  | false => exact q_rem_k hN hn hk
  | true =>
  cases hq : q_fd (q_c Z 8) key 0 n with
  | some j => exact q_rem_s hN hn hk hq (hr (by have := q_fd_lt hq; omega))
  | none => exact q_rem_n hN hn hk hq
def q_rd (Z : Nat → Nat → Int32) (n : Nat) (key : Int32) : Int32 × (Nat → Nat → Int32) := if y_nm key = true then (match q_fd (q_c Z 8) key 0 n with
  | none => (-1, Z)
  | some j => (q_w Z n j, q_re Z n j)) else (-2, Z)
theorem q_rbd_k {Z : Nat → Nat → Int32} {P : Nat → Nat} {L n : Nat} (hN : Z 132 3 = nI n) (hn : n ≤ 60) {key : Int32} (hk : y_nm key = false) : m_r 117 [.ref 131, .int key] (hp Z P L) (some (.int (q_rd Z n key).1)) (hp (q_rd Z n key).2 P L) := by
  refine m_of (ls := [.ref 131, .int key, s_no]) hk_117 rfl rfl rfl ?_
  refine e_go hk_117 1 (c := (1, [.ref 131, .int key, s_no], [.int key], hp Z P L)) rfl ?_
  refine e_call hk_117 (as := [.int key]) (rest := []) rfl rfl hk_94 rfl (Nat.le_of_ble_eq_true rfl) rfl q_key ?_
  show e_r 117 4 [.ref 131, .int key, s_no] [.int (y_b (y_nm key))] (hp Z P L) _ _
  refine e_go hk_117 1 (c := (if s_cnd .ne (y_b (y_nm key)) 0 = true then 10 else 7, [.ref 131, .int key, s_no], [], hp Z P L)) rfl ?_
  refine e_ne (a := 10) (b := 7) (x := y_b (y_nm key)) (y := 0) (fun hc4 => absurd (y_b0.mpr hk) hc4) (fun hc4 => ?_)
  refine e_go hk_117 1 (c := (9, [.ref 131, .int key, s_no], [.int ((-2))], hp Z P L)) rfl ?_
  exact e_ret hk_117 rfl rfl rfl (by rw [q_rd, if_neg (fun z => by rw [hk] at z; exact absurd z (by decide))]) (by rw [q_rd, if_neg (fun z => by rw [hk] at z; exact absurd z (by decide))])
theorem q_rbd_n {Z : Nat → Nat → Int32} {P : Nat → Nat} {L n : Nat} (hN : Z 132 3 = nI n) (hn : n ≤ 60) {key : Int32} (hk : y_nm key = true) (hq : q_fd (q_c Z 8) key 0 n = none) : m_r 117 [.ref 131, .int key] (hp Z P L) (some (.int (q_rd Z n key).1)) (hp (q_rd Z n key).2 P L) := by
  refine m_of (ls := [.ref 131, .int key, s_no]) hk_117 rfl rfl rfl ?_
  refine e_go hk_117 1 (c := (1, [.ref 131, .int key, s_no], [.int key], hp Z P L)) rfl ?_
  refine e_call hk_117 (as := [.int key]) (rest := []) rfl rfl hk_94 rfl (Nat.le_of_ble_eq_true rfl) rfl q_key ?_
  show e_r 117 4 [.ref 131, .int key, s_no] [.int (y_b (y_nm key))] (hp Z P L) _ _
  refine e_go hk_117 1 (c := (if s_cnd .ne (y_b (y_nm key)) 0 = true then 10 else 7, [.ref 131, .int key, s_no], [], hp Z P L)) rfl ?_
  refine e_ne (a := 10) (b := 7) (x := y_b (y_nm key)) (y := 0) (fun hc4 => ?_) (fun hc4 => absurd hc4 (y_b1.mpr hk))
  refine e_go hk_117 2 (c := (12, [.ref 131, .int key, s_no], [.int key, .ref 131], hp Z P L)) rfl ?_
  refine e_call hk_117 (as := [.ref 131, .int key]) (rest := []) rfl rfl hk_96 rfl (Nat.le_of_ble_eq_true rfl) rfl (q_find_n hN hn hq) ?_
  show e_r 117 15 [.ref 131, .int key, s_no] [.int ((-6))] (hp Z P L) _ _
  refine e_go hk_117 4 (c := (if s_cnd .ne ((-6)) ((-6)) = true then 26 else 22, [.ref 131, .int key, .int ((-6))], [], hp Z P L)) rfl ?_
  refine e_ne (a := 26) (b := 22) (x := (-6)) (y := (-6)) (fun hc19 => absurd (rfl) hc19) (fun hc19 => ?_)
  refine e_go hk_117 2 (c := (31, [.ref 131, .int key, .int ((-6))], [.int ((-1))], hp Z P L)) rfl ?_
  exact e_ret hk_117 rfl rfl rfl (by rw [q_rd, if_pos hk, hq]) (by rw [q_rd, if_pos hk, hq])
theorem q_rbd_s {Z : Nat → Nat → Int32} {P : Nat → Nat} {L n : Nat} (hN : Z 132 3 = nI n) (hn : n ≤ 60) {key : Int32} {j : Nat} (hk : y_nm key = true) (hq : q_fd (q_c Z 8) key 0 n = some j) : m_r 117 [.ref 131, .int key] (hp Z P L) (some (.int (q_rd Z n key).1)) (hp (q_rd Z n key).2 P L) := by
  have hj : j < n := by have := q_fd_lt hq; omega
  refine m_of (ls := [.ref 131, .int key, s_no]) hk_117 rfl rfl rfl ?_
  refine e_go hk_117 1 (c := (1, [.ref 131, .int key, s_no], [.int key], hp Z P L)) rfl ?_
  refine e_call hk_117 (as := [.int key]) (rest := []) rfl rfl hk_94 rfl (Nat.le_of_ble_eq_true rfl) rfl q_key ?_
  show e_r 117 4 [.ref 131, .int key, s_no] [.int (y_b (y_nm key))] (hp Z P L) _ _
  refine e_go hk_117 1 (c := (if s_cnd .ne (y_b (y_nm key)) 0 = true then 10 else 7, [.ref 131, .int key, s_no], [], hp Z P L)) rfl ?_
  refine e_ne (a := 10) (b := 7) (x := y_b (y_nm key)) (y := 0) (fun hc4 => ?_) (fun hc4 => absurd hc4 (y_b1.mpr hk))
  refine e_go hk_117 2 (c := (12, [.ref 131, .int key, s_no], [.int key, .ref 131], hp Z P L)) rfl ?_
  refine e_call hk_117 (as := [.ref 131, .int key]) (rest := []) rfl rfl hk_96 rfl (Nat.le_of_ble_eq_true rfl) rfl (q_find_s hN hn hq) ?_
  show e_r 117 15 [.ref 131, .int key, s_no] [.int (nI j)] (hp Z P L) _ _
  refine e_go hk_117 4 (c := (if s_cnd .ne (nI j) ((-6)) = true then 26 else 22, [.ref 131, .int key, .int (nI j)], [], hp Z P L)) rfl ?_
  refine e_ne (a := 26) (b := 22) (x := nI j) (y := (-6)) (fun hc19 => ?_) (fun hc19 => absurd hc19 (q_ne6 (by omega)))
  refine e_go hk_117 2 (c := (28, [.ref 131, .int key, .int (nI j)], [.int (nI j), .ref 131], hp Z P L)) rfl ?_
  refine e_call hk_117 (as := [.ref 131, .int (nI j)]) (rest := []) rfl rfl hk_108 rfl (Nat.le_of_ble_eq_true rfl) rfl (q_reb hN hn hj) ?_
  show e_r 117 31 [.ref 131, .int key, .int (nI j)] [.int (q_w Z n j)] (hp ((q_re Z n j)) P L) _ _
  exact e_ret hk_117 rfl rfl rfl (by rw [q_rd, if_pos hk, hq]) (by rw [q_rd, if_pos hk, hq])
theorem q_rbd {Z : Nat → Nat → Int32} {P : Nat → Nat} {L n : Nat} (hN : Z 132 3 = nI n) (hn : n ≤ 60) {key : Int32} : m_r 117 [.ref 131, .int key] (hp Z P L) (some (.int (q_rd Z n key).1)) (hp (q_rd Z n key).2 P L) := by
  cases hk : y_nm key with
  | false => exact q_rbd_k hN hn hk
  | true =>
  cases hq : q_fd (q_c Z 8) key 0 n with
  | some j => exact q_rbd_s hN hn hk hq
  | none => exact q_rbd_n hN hn hk hq
def q_sv (Z : Nat → Nat → Int32) (j : Nat) (lo hi v : Int32) : Int32 × (Nat → Nat → Int32) := if lo ≤ v ∧ v ≤ hi then (Z 132 j, s_upd Z 132 j v) else (-2, Z)
def q_ds (Z : Nat → Nat → Int32) (s v : Int32) : Int32 × (Nat → Nat → Int32) := if s = 0 then q_sv Z 0 55 95 v else if s = 1 then q_sv Z 1 10 90 v else if s = 2 then q_sv Z 2 0 9 v else (-2, Z)
theorem q_dset0 {Z : Nat → Nat → Int32} {P : Nat → Nat} {L : Nat} {v : Int32} : m_r 118 [.ref 131, .int 0, .int v] (hp Z P L) (some (.int (q_sv Z 0 55 95 v).1)) (hp (q_sv Z 0 55 95 v).2 P L) := by
  refine m_of (ls := [.ref 131, .int 0, .int v, s_no, s_no]) hk_118 rfl rfl rfl ?_
  refine e_go hk_118 2 (c := (if s_cnd .ne 0 0 = true then 18 else 4, [.ref 131, .int 0, .int v, s_no, s_no], [], hp Z P L)) rfl ?_
  refine e_ne (a := 18) (b := 4) (x := 0) (y := 0) (fun hc1 => absurd (rfl) hc1) (fun hc1 => ?_)
  refine e_go hk_118 4 (c := (12, [.ref 131, .int 0, .int v, s_no, s_no], [.long 95, .long 55, .long v.toInt64], hp Z P L)) rfl ?_
  refine e_call hk_118 (as := [.long v.toInt64, .long 55, .long 95]) (rest := []) rfl rfl hk_90 rfl (Nat.le_of_ble_eq_true rfl) rfl (q_in2 (x := v) (lo := 55) (hi := 95) rfl (by decide) (by decide)) ?_
  show e_r 118 15 [.ref 131, .int 0, .int v, s_no, s_no] [.int (y_b (decide (55 ≤ v ∧ v ≤ 95)))] (hp Z P L) _ _
  refine e_go hk_118 4 (c := (if s_cnd .ne (y_b (decide (55 ≤ v ∧ v ≤ 95))) 0 = true then 67 else 64, [.ref 131, .int 0, .int v, .int (y_b (decide (55 ≤ v ∧ v ≤ 95))), s_no], [], hp Z P L)) rfl ?_
  refine e_ne (a := 67) (b := 64) (x := y_b (decide (55 ≤ v ∧ v ≤ 95))) (y := 0) (fun hc61 => ?_) (fun hc61 => ?_)
  · skip
    rw [y_d1] at hc61
    refine e_go hk_118 3 (c := (72, [.ref 131, .int 0, .int v, .int (y_b (decide (55 ≤ v ∧ v ≤ 95))), s_no], [.int 0, .ref 132], hp Z P L)) rfl ?_
    refine e_ald hk_118 (a := 132) (j := 0) (n := 308) rfl rfl rfl (by decide) (by decide) ?_
    show e_r 118 73 [.ref 131, .int 0, .int v, .int (y_b (decide (55 ≤ v ∧ v ≤ 95))), s_no] [.int (Z 132 0)] (hp Z P L) _ _
    refine e_go hk_118 5 (c := (81, [.ref 131, .int 0, .int v, .int (y_b (decide (55 ≤ v ∧ v ≤ 95))), .int (Z 132 0)], [.int v, .int 0, .ref 132], hp Z P L)) rfl ?_
    refine e_ast hk_118 (a := 132) (j := 0) (n := 308) rfl rfl rfl (by decide) (by decide) (by decide) ?_
    show e_r 118 82 [.ref 131, .int 0, .int v, .int (y_b (decide (55 ≤ v ∧ v ≤ 95))), .int (Z 132 0)] [] (hp (s_upd Z 132 0 v) P L) _ _
    refine e_go hk_118 1 (c := (84, [.ref 131, .int 0, .int v, .int (y_b (decide (55 ≤ v ∧ v ≤ 95))), .int (Z 132 0)], [.int (Z 132 0)], hp (s_upd Z 132 0 v) P L)) rfl ?_
    exact e_ret hk_118 rfl rfl rfl (by rw [q_sv, if_pos hc61]) (by rw [q_sv, if_pos hc61])
  · skip
    rw [y_d0] at hc61
    refine e_go hk_118 1 (c := (66, [.ref 131, .int 0, .int v, .int (y_b (decide (55 ≤ v ∧ v ≤ 95))), s_no], [.int ((-2))], hp Z P L)) rfl ?_
    exact e_ret hk_118 rfl rfl rfl (by rw [q_sv, if_neg hc61]) (by rw [q_sv, if_neg hc61])
theorem q_dset1 {Z : Nat → Nat → Int32} {P : Nat → Nat} {L : Nat} {v : Int32} : m_r 118 [.ref 131, .int 1, .int v] (hp Z P L) (some (.int (q_sv Z 1 10 90 v).1)) (hp (q_sv Z 1 10 90 v).2 P L) := by
  refine m_of (ls := [.ref 131, .int 1, .int v, s_no, s_no]) hk_118 rfl rfl rfl ?_
  refine e_go hk_118 2 (c := (if s_cnd .ne 1 0 = true then 18 else 4, [.ref 131, .int 1, .int v, s_no, s_no], [], hp Z P L)) rfl ?_
  refine e_ne (a := 18) (b := 4) (x := 1) (y := 0) (fun hc1 => ?_) (fun hc1 => absurd hc1 (by decide))
  refine e_go hk_118 3 (c := (if s_cnd .ne 1 1 = true then 37 else 23, [.ref 131, .int 1, .int v, s_no, s_no], [], hp Z P L)) rfl ?_
  refine e_ne (a := 37) (b := 23) (x := 1) (y := 1) (fun hc20 => absurd (rfl) hc20) (fun hc20 => ?_)
  refine e_go hk_118 4 (c := (31, [.ref 131, .int 1, .int v, s_no, s_no], [.long 90, .long 10, .long v.toInt64], hp Z P L)) rfl ?_
  refine e_call hk_118 (as := [.long v.toInt64, .long 10, .long 90]) (rest := []) rfl rfl hk_90 rfl (Nat.le_of_ble_eq_true rfl) rfl (q_in2 (x := v) (lo := 10) (hi := 90) rfl (by decide) (by decide)) ?_
  show e_r 118 34 [.ref 131, .int 1, .int v, s_no, s_no] [.int (y_b (decide (10 ≤ v ∧ v ≤ 90)))] (hp Z P L) _ _
  refine e_go hk_118 4 (c := (if s_cnd .ne (y_b (decide (10 ≤ v ∧ v ≤ 90))) 0 = true then 67 else 64, [.ref 131, .int 1, .int v, .int (y_b (decide (10 ≤ v ∧ v ≤ 90))), s_no], [], hp Z P L)) rfl ?_
  refine e_ne (a := 67) (b := 64) (x := y_b (decide (10 ≤ v ∧ v ≤ 90))) (y := 0) (fun hc61 => ?_) (fun hc61 => ?_)
  · skip
    rw [y_d1] at hc61
    refine e_go hk_118 3 (c := (72, [.ref 131, .int 1, .int v, .int (y_b (decide (10 ≤ v ∧ v ≤ 90))), s_no], [.int 1, .ref 132], hp Z P L)) rfl ?_
    refine e_ald hk_118 (a := 132) (j := 1) (n := 308) rfl rfl rfl (by decide) (by decide) ?_
    show e_r 118 73 [.ref 131, .int 1, .int v, .int (y_b (decide (10 ≤ v ∧ v ≤ 90))), s_no] [.int (Z 132 1)] (hp Z P L) _ _
    refine e_go hk_118 5 (c := (81, [.ref 131, .int 1, .int v, .int (y_b (decide (10 ≤ v ∧ v ≤ 90))), .int (Z 132 1)], [.int v, .int 1, .ref 132], hp Z P L)) rfl ?_
    refine e_ast hk_118 (a := 132) (j := 1) (n := 308) rfl rfl rfl (by decide) (by decide) (by decide) ?_
    show e_r 118 82 [.ref 131, .int 1, .int v, .int (y_b (decide (10 ≤ v ∧ v ≤ 90))), .int (Z 132 1)] [] (hp (s_upd Z 132 1 v) P L) _ _
    refine e_go hk_118 1 (c := (84, [.ref 131, .int 1, .int v, .int (y_b (decide (10 ≤ v ∧ v ≤ 90))), .int (Z 132 1)], [.int (Z 132 1)], hp (s_upd Z 132 1 v) P L)) rfl ?_
    exact e_ret hk_118 rfl rfl rfl (by rw [q_sv, if_pos hc61]) (by rw [q_sv, if_pos hc61])
  · skip
    rw [y_d0] at hc61
    refine e_go hk_118 1 (c := (66, [.ref 131, .int 1, .int v, .int (y_b (decide (10 ≤ v ∧ v ≤ 90))), s_no], [.int ((-2))], hp Z P L)) rfl ?_
    exact e_ret hk_118 rfl rfl rfl (by rw [q_sv, if_neg hc61]) (by rw [q_sv, if_neg hc61])
theorem q_dset2 {Z : Nat → Nat → Int32} {P : Nat → Nat} {L : Nat} {v : Int32} : m_r 118 [.ref 131, .int 2, .int v] (hp Z P L) (some (.int (q_sv Z 2 0 9 v).1)) (hp (q_sv Z 2 0 9 v).2 P L) := by
  refine m_of (ls := [.ref 131, .int 2, .int v, s_no, s_no]) hk_118 rfl rfl rfl ?_
  refine e_go hk_118 2 (c := (if s_cnd .ne 2 0 = true then 18 else 4, [.ref 131, .int 2, .int v, s_no, s_no], [], hp Z P L)) rfl ?_
  refine e_ne (a := 18) (b := 4) (x := 2) (y := 0) (fun hc1 => ?_) (fun hc1 => absurd hc1 (by decide))
  refine e_go hk_118 3 (c := (if s_cnd .ne 2 1 = true then 37 else 23, [.ref 131, .int 2, .int v, s_no, s_no], [], hp Z P L)) rfl ?_
  refine e_ne (a := 37) (b := 23) (x := 2) (y := 1) (fun hc20 => ?_) (fun hc20 => absurd hc20 (by decide))
  refine e_go hk_118 3 (c := (if s_cnd .ne 2 2 = true then 58 else 42, [.ref 131, .int 2, .int v, s_no, s_no], [], hp Z P L)) rfl ?_
  refine e_ne (a := 58) (b := 42) (x := 2) (y := 2) (fun hc39 => absurd (rfl) hc39) (fun hc39 => ?_)
  refine e_go hk_118 4 (c := (48, [.ref 131, .int 2, .int v, s_no, s_no], [.long 9, .long 0, .long v.toInt64], hp Z P L)) rfl ?_
  refine e_call hk_118 (as := [.long v.toInt64, .long 0, .long 9]) (rest := []) rfl rfl hk_90 rfl (Nat.le_of_ble_eq_true rfl) rfl (q_in2 (x := v) (lo := 0) (hi := 9) rfl (by decide) (by decide)) ?_
  show e_r 118 51 [.ref 131, .int 2, .int v, s_no, s_no] [.int (y_b (decide (0 ≤ v ∧ v ≤ 9)))] (hp Z P L) _ _
  refine e_go hk_118 1 (c := (if s_cnd .eq (y_b (decide (0 ≤ v ∧ v ≤ 9))) 0 = true then 58 else 54, [.ref 131, .int 2, .int v, s_no, s_no], [], hp Z P L)) rfl ?_
  refine e_eq (a := 58) (b := 54) (x := y_b (decide (0 ≤ v ∧ v ≤ 9))) (y := 0) (fun hc51 => ?_) (fun hc51 => ?_)
  · skip
    rw [y_d0] at hc51
    refine e_go hk_118 4 (c := (if s_cnd .ne 0 0 = true then 67 else 64, [.ref 131, .int 2, .int v, .int 0, s_no], [], hp Z P L)) rfl ?_
    refine e_ne (a := 67) (b := 64) (x := 0) (y := 0) (fun hc61 => absurd (rfl) hc61) (fun hc61 => ?_)
    refine e_go hk_118 1 (c := (66, [.ref 131, .int 2, .int v, .int 0, s_no], [.int ((-2))], hp Z P L)) rfl ?_
    exact e_ret hk_118 rfl rfl rfl (by rw [q_sv, if_neg hc51]) (by rw [q_sv, if_neg hc51])
  · skip
    rw [y_d1] at hc51
    refine e_go hk_118 5 (c := (if s_cnd .ne 1 0 = true then 67 else 64, [.ref 131, .int 2, .int v, .int 1, s_no], [], hp Z P L)) rfl ?_
    refine e_ne (a := 67) (b := 64) (x := 1) (y := 0) (fun hc61 => ?_) (fun hc61 => absurd hc61 (by decide))
    refine e_go hk_118 3 (c := (72, [.ref 131, .int 2, .int v, .int 1, s_no], [.int 2, .ref 132], hp Z P L)) rfl ?_
    refine e_ald hk_118 (a := 132) (j := 2) (n := 308) rfl rfl rfl (by decide) (by decide) ?_
    show e_r 118 73 [.ref 131, .int 2, .int v, .int 1, s_no] [.int (Z 132 2)] (hp Z P L) _ _
    refine e_go hk_118 5 (c := (81, [.ref 131, .int 2, .int v, .int 1, .int (Z 132 2)], [.int v, .int 2, .ref 132], hp Z P L)) rfl ?_
    refine e_ast hk_118 (a := 132) (j := 2) (n := 308) rfl rfl rfl (by decide) (by decide) (by decide) ?_
    show e_r 118 82 [.ref 131, .int 2, .int v, .int 1, .int (Z 132 2)] [] (hp (s_upd Z 132 2 v) P L) _ _
    refine e_go hk_118 1 (c := (84, [.ref 131, .int 2, .int v, .int 1, .int (Z 132 2)], [.int (Z 132 2)], hp (s_upd Z 132 2 v) P L)) rfl ?_
    exact e_ret hk_118 rfl rfl rfl (by rw [q_sv, if_pos hc51]) (by rw [q_sv, if_pos hc51])
theorem q_dset_o {Z : Nat → Nat → Int32} {P : Nat → Nat} {L : Nat} {s v : Int32} (h0 : ¬ s = 0) (h1 : ¬ s = 1) (h2 : ¬ s = 2) : m_r 118 [.ref 131, .int s, .int v] (hp Z P L) (some (.int (-2))) (hp Z P L) := by
  refine m_of (ls := [.ref 131, .int s, .int v, s_no, s_no]) hk_118 rfl rfl rfl ?_
  refine e_go hk_118 2 (c := (if s_cnd .ne s 0 = true then 18 else 4, [.ref 131, .int s, .int v, s_no, s_no], [], hp Z P L)) rfl ?_
  refine e_ne (a := 18) (b := 4) (x := s) (y := 0) (fun hc1 => ?_) (fun hc1 => absurd hc1 (h0))
  refine e_go hk_118 3 (c := (if s_cnd .ne s 1 = true then 37 else 23, [.ref 131, .int s, .int v, s_no, s_no], [], hp Z P L)) rfl ?_
  refine e_ne (a := 37) (b := 23) (x := s) (y := 1) (fun hc20 => ?_) (fun hc20 => absurd hc20 (h1))
  refine e_go hk_118 3 (c := (if s_cnd .ne s 2 = true then 58 else 42, [.ref 131, .int s, .int v, s_no, s_no], [], hp Z P L)) rfl ?_
  refine e_ne (a := 58) (b := 42) (x := s) (y := 2) (fun hc39 => ?_) (fun hc39 => absurd hc39 (h2))
  refine e_go hk_118 4 (c := (if s_cnd .ne 0 0 = true then 67 else 64, [.ref 131, .int s, .int v, .int 0, s_no], [], hp Z P L)) rfl ?_
  refine e_ne (a := 67) (b := 64) (x := 0) (y := 0) (fun hc61 => absurd (rfl) hc61) (fun hc61 => ?_)
  refine e_go hk_118 1 (c := (66, [.ref 131, .int s, .int v, .int 0, s_no], [.int ((-2))], hp Z P L)) rfl ?_
  exact e_ret hk_118 rfl rfl rfl rfl rfl
theorem q_dset {Z : Nat → Nat → Int32} {P : Nat → Nat} {L : Nat} {s v : Int32} : m_r 118 [.ref 131, .int s, .int v] (hp Z P L) (some (.int (q_ds Z s v).1)) (hp (q_ds Z s v).2 P L) := by
  unfold q_ds
  by_cases h0 : s = 0
  · rw [if_pos h0, h0]; exact q_dset0
  · rw [if_neg h0]
    by_cases h1 : s = 1
    · rw [if_pos h1, h1]; exact q_dset1
    · rw [if_neg h1]
      by_cases h2 : s = 2
      · rw [if_pos h2, h2]; exact q_dset2
      · rw [if_neg h2]; exact q_dset_o h0 h1 h2
theorem q_c_set {Z Z2 : Nat → Nat → Int32} {P : Nat → Nat} {L m : Nat} {a b r : Int32} (hd : m_r 118 [.ref 131, .int a, .int b] (hp (q_kp Z) P L) (some (.int r)) (hp Z2 P L)) (hM : Z2 131 3 = nI m) (hm : m ≤ 6) : m_r 119 [.ref 131, .int a, .int b] (hp Z P L) (some (.int r)) (hp (q_chg Z2 m r) P L) := by
  refine m_of (ls := [.ref 131, .int a, .int b]) hk_119 rfl rfl rfl ?_
  refine e_go hk_119 1 (c := (1, [.ref 131, .int a, .int b], [.ref 131], hp Z P L)) rfl ?_
  refine e_call hk_119 (as := [.ref 131]) (rest := []) rfl rfl hk_91 rfl (Nat.le_of_ble_eq_true rfl) rfl q_keep ?_
  show e_r 119 4 [.ref 131, .int a, .int b] [] (hp ((q_kp Z)) P L) _ _
  refine e_go hk_119 4 (c := (8, [.ref 131, .int a, .int b], [.int b, .int a, .ref 131, .ref 131], hp ((q_kp Z)) P L)) rfl ?_
  refine e_call hk_119 (as := [.ref 131, .int a, .int b]) (rest := [.ref 131]) rfl rfl hk_118 rfl (Nat.le_of_ble_eq_true rfl) rfl hd ?_
  show e_r 119 11 [.ref 131, .int a, .int b] [.int r, .ref 131] (hp Z2 P L) _ _
  refine e_call hk_119 (as := [.ref 131, .int r]) (rest := []) rfl rfl hk_93 rfl (Nat.le_of_ble_eq_true rfl) rfl (q_chgd hM hm) ?_
  show e_r 119 14 [.ref 131, .int a, .int b] [.int r] (hp ((q_chg Z2 m r)) P L) _ _
  exact e_ret hk_119 rfl rfl rfl rfl rfl
theorem q_c_putin {Z Z2 : Nat → Nat → Int32} {P : Nat → Nat} {L m : Nat} {a b r : Int32} (hd : m_r 113 [.ref 131, .int a, .int b] (hp (q_kp Z) P L) (some (.int r)) (hp Z2 P L)) (hM : Z2 131 3 = nI m) (hm : m ≤ 6) : m_r 120 [.ref 131, .int a, .int b] (hp Z P L) (some (.int r)) (hp (q_chg Z2 m r) P L) := by
  refine m_of (ls := [.ref 131, .int a, .int b]) hk_120 rfl rfl rfl ?_
  refine e_go hk_120 1 (c := (1, [.ref 131, .int a, .int b], [.ref 131], hp Z P L)) rfl ?_
  refine e_call hk_120 (as := [.ref 131]) (rest := []) rfl rfl hk_91 rfl (Nat.le_of_ble_eq_true rfl) rfl q_keep ?_
  show e_r 120 4 [.ref 131, .int a, .int b] [] (hp ((q_kp Z)) P L) _ _
  refine e_go hk_120 4 (c := (8, [.ref 131, .int a, .int b], [.int b, .int a, .ref 131, .ref 131], hp ((q_kp Z)) P L)) rfl ?_
  refine e_call hk_120 (as := [.ref 131, .int a, .int b]) (rest := [.ref 131]) rfl rfl hk_113 rfl (Nat.le_of_ble_eq_true rfl) rfl hd ?_
  show e_r 120 11 [.ref 131, .int a, .int b] [.int r, .ref 131] (hp Z2 P L) _ _
  refine e_call hk_120 (as := [.ref 131, .int r]) (rest := []) rfl rfl hk_93 rfl (Nat.le_of_ble_eq_true rfl) rfl (q_chgd hM hm) ?_
  show e_r 120 14 [.ref 131, .int a, .int b] [.int r] (hp ((q_chg Z2 m r)) P L) _ _
  exact e_ret hk_120 rfl rfl rfl rfl rfl
theorem q_c_remove {Z Z2 : Nat → Nat → Int32} {P : Nat → Nat} {L m : Nat} {a r : Int32} (hd : m_r 116 [.ref 131, .int a] (hp (q_kp Z) P L) (some (.int r)) (hp Z2 P L)) (hM : Z2 131 3 = nI m) (hm : m ≤ 6) : m_r 121 [.ref 131, .int a] (hp Z P L) (some (.int r)) (hp (q_chg Z2 m r) P L) := by
  refine m_of (ls := [.ref 131, .int a]) hk_121 rfl rfl rfl ?_
  refine e_go hk_121 1 (c := (1, [.ref 131, .int a], [.ref 131], hp Z P L)) rfl ?_
  refine e_call hk_121 (as := [.ref 131]) (rest := []) rfl rfl hk_91 rfl (Nat.le_of_ble_eq_true rfl) rfl q_keep ?_
  show e_r 121 4 [.ref 131, .int a] [] (hp ((q_kp Z)) P L) _ _
  refine e_go hk_121 3 (c := (7, [.ref 131, .int a], [.int a, .ref 131, .ref 131], hp ((q_kp Z)) P L)) rfl ?_
  refine e_call hk_121 (as := [.ref 131, .int a]) (rest := [.ref 131]) rfl rfl hk_116 rfl (Nat.le_of_ble_eq_true rfl) rfl hd ?_
  show e_r 121 10 [.ref 131, .int a] [.int r, .ref 131] (hp Z2 P L) _ _
  refine e_call hk_121 (as := [.ref 131, .int r]) (rest := []) rfl rfl hk_93 rfl (Nat.le_of_ble_eq_true rfl) rfl (q_chgd hM hm) ?_
  show e_r 121 13 [.ref 131, .int a] [.int r] (hp ((q_chg Z2 m r)) P L) _ _
  exact e_ret hk_121 rfl rfl rfl rfl rfl
theorem q_c_rebuild {Z Z2 : Nat → Nat → Int32} {P : Nat → Nat} {L m : Nat} {a r : Int32} (hd : m_r 117 [.ref 131, .int a] (hp (q_kp Z) P L) (some (.int r)) (hp Z2 P L)) (hM : Z2 131 3 = nI m) (hm : m ≤ 6) : m_r 122 [.ref 131, .int a] (hp Z P L) (some (.int r)) (hp (q_chg Z2 m r) P L) := by
  refine m_of (ls := [.ref 131, .int a]) hk_122 rfl rfl rfl ?_
  refine e_go hk_122 1 (c := (1, [.ref 131, .int a], [.ref 131], hp Z P L)) rfl ?_
  refine e_call hk_122 (as := [.ref 131]) (rest := []) rfl rfl hk_91 rfl (Nat.le_of_ble_eq_true rfl) rfl q_keep ?_
  show e_r 122 4 [.ref 131, .int a] [] (hp ((q_kp Z)) P L) _ _
  refine e_go hk_122 3 (c := (7, [.ref 131, .int a], [.int a, .ref 131, .ref 131], hp ((q_kp Z)) P L)) rfl ?_
  refine e_call hk_122 (as := [.ref 131, .int a]) (rest := [.ref 131]) rfl rfl hk_117 rfl (Nat.le_of_ble_eq_true rfl) rfl hd ?_
  show e_r 122 10 [.ref 131, .int a] [.int r, .ref 131] (hp Z2 P L) _ _
  refine e_call hk_122 (as := [.ref 131, .int r]) (rest := []) rfl rfl hk_93 rfl (Nat.le_of_ble_eq_true rfl) rfl (q_chgd hM hm) ?_
  show e_r 122 13 [.ref 131, .int a] [.int r] (hp ((q_chg Z2 m r)) P L) _ _
  exact e_ret hk_122 rfl rfl rfl rfl rfl
