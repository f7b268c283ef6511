/-! The Model: frames, questions; printed by wip/whole/gen/mod4.py -/
/-- what the changes of the Model leave alone -/
def q_fr (Z Y : Nat → Nat → Int32) : Prop := (∀ c, c ≠ 132 → c ≠ 137 → c ≠ 138 → c ≠ 139 → Y c = Z c) ∧ (∀ x, 308 ≤ x → Y 132 x = Z 132 x)
theorem q_fr_r {Z : Nat → Nat → Int32} : q_fr Z Z := ⟨fun _ _ _ _ _ => rfl, fun _ _ => rfl⟩
theorem q_fr_t {A B C : Nat → Nat → Int32} (h1 : q_fr A B) (h2 : q_fr B C) : q_fr A C := ⟨fun c a b d e => (h2.1 c a b d e).trans (h1.1 c a b d e), fun x hx => (h2.2 x hx).trans (h1.2 x hx)⟩
theorem q_fr_u {Z Y : Nat → Nat → Int32} {k : Nat} {v : Int32} (h : q_fr Z Y) (hk : k < 308) : q_fr Z (s_upd Y 132 k v) := ⟨fun c a b d e => by rw [s_upd_o a]; exact h.1 c a b d e, fun x hx => by rw [s_upd_c, if_neg (by omega)]; exact h.2 x hx⟩
theorem q_fr_p {Z Y : Nat → Nat → Int32} {w : Nat} {a b l : Int32} (h : q_fr Z Y) : q_fr Z (q_pu Y w a b l) := by
  unfold q_pu
  exact ⟨fun c p q r s => by rw [s_upd_o s, s_upd_o r, s_upd_o q]; exact h.1 c p q r s, fun x hx => by rw [s_upd_o (by decide), s_upd_o (by decide), s_upd_o (by decide)]; exact h.2 x hx⟩
theorem q_fr_cy {Z Y : Nat → Nat → Int32} {a b : Nat} (h : q_fr Z Y) (ha : a < 308) : q_fr Z (q_cy Y a b) := q_fr_u h ha
theorem q_fr_c1 {Z Y : Nat → Nat → Int32} {p c : Nat} (h : q_fr Z Y) (hc : p + (c + 1) < 60) : q_fr Z (q_c1 Y p c) := q_fr_cy (q_fr_cy (q_fr_cy (q_fr_cy (q_fr_cy h (by omega)) (by omega)) (by omega)) (by omega)) (by omega)
theorem q_fr_t1 {Z Y : Nat → Nat → Int32} {i : Nat} (h : q_fr Z Y) (hi : i < 60) : q_fr Z (q_t1 Y i) := q_fr_cy (q_fr_cy (q_fr_cy (q_fr_cy (q_fr_cy h (by omega)) (by omega)) (by omega)) (by omega)) (by omega)
theorem q_fr_sh {p : Nat} : ∀ (c : Nat) (Z Y : Nat → Nat → Int32), q_fr Z Y → p + c < 60 → q_fr Z (q_sh p c Y)
  | 0, Z, Y, h, hc => h
  | c + 1, Z, Y, h, hc => by
    rw [q_sh]
    exact q_fr_sh c Z _ (q_fr_c1 h hc) (by omega)
theorem q_fr_cm {Z : Nat → Nat → Int32} {n p : Nat} {key value : Int32} (hp : p ≤ n) (hn : n < 60) : q_fr Z (q_cm Z n p key value) := q_fr_u (q_fr_u (q_fr_u (q_fr_u (q_fr_u (q_fr_u (q_fr_sh (n - p) Z Z q_fr_r (by omega)) (by omega)) (by omega)) (by omega)) (by omega)) (by omega)) (by omega)
theorem q_fr_pl {n nd : Nat} : ∀ (k i : Nat) (Z Y : Nat → Nat → Int32), q_fr Z Y → i + k ≤ 60 → q_fr Z (q_pl n nd i k Y)
  | 0, i, Z, Y, h, hc => h
  | k + 1, i, Z, Y, h, hc => by
    rw [q_pl]
    exact q_fr_pl k (i + 1) Z _ (q_fr_u h (by omega)) (by omega)
theorem q_fr_py {Z : Nat → Nat → Int32} {n nd : Nat} (hn : n ≤ 60) : q_fr Z (q_py Z n nd) := q_fr_pl n 0 Z Z q_fr_r (by omega)
theorem q_fr_tl : ∀ (k i : Nat) (Z Y : Nat → Nat → Int32), q_fr Z Y → i + k ≤ 60 → q_fr Z (q_tl k i Y)
  | 0, i, Z, Y, h, hc => h
  | k + 1, i, Z, Y, h, hc => by
    rw [q_tl]
    exact q_fr_tl k (i + 1) Z _ (q_fr_t1 h (by omega)) (by omega)
theorem q_fr_to {Z Y : Nat → Nat → Int32} {n j : Nat} (h : q_fr Z Y) (hn : n ≤ 60) (hj : j < n) : q_fr Z (q_to Y n j) := q_fr_tl (n - 1 - j) j Z _ (q_fr_u h (by omega)) (by omega)
theorem q_fr_rl {lo : Nat} : ∀ (c n e : Nat) (Z Y : Nat → Nat → Int32), q_fr Z Y → n ≤ 60 → lo + c ≤ n → q_fr Z (q_rl lo c n e Y).2
  | 0, n, e, Z, Y, h, hn, hc => h
  | c + 1, n, e, Z, Y, h, hn, hc => by
    rw [q_rl]
    split
    · exact q_fr_rl c (n - 1) (e - 1) Z _ (q_fr_to (q_fr_u h (by omega)) hn (by omega)) (by omega) (by omega)
    · exact q_fr_rl c n e Z _ (q_fr_u h (by omega)) hn (by omega)
theorem q_rl_e {lo : Nat} : ∀ (c n e : Nat) (Y : Nat → Nat → Int32), (q_rl lo c n e Y).1 ≤ e
  | 0, n, e, Y => Nat.le_refl _
  | c + 1, n, e, Y => by
    rw [q_rl]
    split
    · exact Nat.le_trans (q_rl_e c (n - 1) (e - 1) _) (Nat.sub_le _ _)
    · exact q_rl_e c n e _
theorem q_fr_ly : ∀ (f w a u : Nat) (l : Int32) (Z Y : Nat → Nat → Int32), q_fr Z Y → u ≤ 60 → q_fr Z (q_ly f w a u l Y)
  | 0, w, a, u, l, Z, Y, h, hu => h
  | f + 1, w, a, u, l, Z, Y, h, hu => by
    rw [q_ly]
    split
    · exact h
    next hau =>
      exact q_fr_ly f _ _ _ _ Z _ (q_fr_ly f _ _ _ _ Z _ (q_fr_p (q_fr_p (q_fr_u h (by omega)))) hu) (by omega)
theorem q_fr_lay {Z Y : Nat → Nat → Int32} {a u : Nat} {l : Int32} (h : q_fr Z Y) (hu : u ≤ 60) : q_fr Z (q_lay Y a u l) := q_fr_ly 60 0 a u l Z _ (q_fr_p h) hu
theorem q_fr_re {Z Y : Nat → Nat → Int32} {n j : Nat} (h : q_fr Z Y) (hn : n ≤ 60) (hj : j < n) : q_fr Z (q_re Y n j) := by
  have hHH := q_HH Y hj
  have hLL := q_LL Y j
  refine q_fr_lay (q_fr_rl _ _ _ Z _ ?_ hn (by omega)) (Nat.le_trans (q_rl_e _ _ _ _) (by omega))
  exact q_fr_u (q_fr_u (q_fr_u (q_fr_u h (by omega)) (by omega)) (by omega)) (by omega)
theorem q_fr_p2 {Z Y : Nat → Nat → Int32} {n p : Nat} (h : q_fr Z Y) (hn : n ≤ 60) : q_fr Z (q_p2 Y n p).2 := by
  unfold q_p2
  split
  · exact h
  next j hj => exact q_fr_re h hn (q_la_lt n 0 none j (by omega) (fun a h => by cases h) hj)
theorem q_fr_pt {Z : Nat → Nat → Int32} {n : Nat} {key value : Int32} (hn : n ≤ 60) : q_fr Z (q_pt Z n key value).2 := by
  unfold q_pt
  split
  · split
    next j hj =>
      have := q_fd_lt hj
      exact q_fr_t (q_fr_u (q_fr_u q_fr_r (by omega)) (by omega)) (q_fr_py hn)
    next hj =>
      split
      · exact q_fr_r
      next h6 =>
        have := (t_pl_le (q_c Z 8) key n 0).2
        exact q_fr_p2 (q_fr_t (q_fr_cm (by omega) (by omega)) (q_fr_py (by omega))) (by omega)
  · exact q_fr_r
theorem q_fr_rm {Z : Nat → Nat → Int32} {n r : Nat} {key : Int32} (hn : n ≤ 60) (hr : 0 < n → r < n) : q_fr Z (q_rm Z n r key).2 := by
  unfold q_rm
  split
  · split
    · exact q_fr_r
    next j hj =>
      have := q_fd_lt hj
      split
      · exact q_fr_r
      · unfold q_r2
        have h := q_fr_t (q_fr_u (v := 0) (q_fr_r (Z := Z)) (show 188 + j < 308 by omega)) (q_fr_py (nd := j) hn)
        split
        · exact q_fr_re h hn (hr (by omega))
        · exact h
  · exact q_fr_r
theorem q_fr_rd {Z : Nat → Nat → Int32} {n : Nat} {key : Int32} (hn : n ≤ 60) : q_fr Z (q_rd Z n key).2 := by
  unfold q_rd
  split
  · split
    · exact q_fr_r
    next j hj =>
      have := q_fd_lt hj
      exact q_fr_re q_fr_r hn (by omega)
  · exact q_fr_r
theorem q_fr_sv {Z : Nat → Nat → Int32} {j : Nat} {lo hi v : Int32} (hj : j < 308) : q_fr Z (q_sv Z j lo hi v).2 := by
  unfold q_sv
  split
  · exact q_fr_u q_fr_r hj
  · exact q_fr_r
theorem q_fr_ds {Z : Nat → Nat → Int32} {s v : Int32} : q_fr Z (q_ds Z s v).2 := by
  unfold q_ds
  split
  · exact q_fr_sv (by decide)
  · split
    · exact q_fr_sv (by decide)
    · split
      · exact q_fr_sv (by decide)
      · exact q_fr_r
/-! what the Model keeps and gives back -/
theorem q_cl_no {a b : Nat} {fa fb : Nat → Nat} : ∀ (k i : Nat) (Z : Nat → Nat → Int32) (y : Nat), (∀ x, i ≤ x → fb x ≠ y) → q_cl a b fa fb k i Z b y = Z b y
  | 0, i, Z, y, h => rfl
  | k + 1, i, Z, y, h => by rw [q_cl, q_cl_no k (i + 1) _ y (fun x hx => h x (by omega)), s_upd_c, if_neg (fun z => h i (Nat.le_refl _) z.2.symm)]
theorem q_cl_nu {a b : Nat} {fa fb : Nat → Nat} : ∀ (k i : Nat) (Z : Nat → Nat → Int32) (y : Nat), (∀ x, i ≤ x → x < i + k → fb x ≠ y) → q_cl a b fa fb k i Z b y = Z b y
  | 0, i, Z, y, h => rfl
  | k + 1, i, Z, y, h => by rw [q_cl, q_cl_nu k (i + 1) _ y (fun x hx h2 => h x (by omega) (by omega)), s_upd_c, if_neg (fun z => h i (Nat.le_refl _) (by omega) z.2.symm)]
theorem q_cl_get {a b : Nat} {fa fb : Nat → Nat} (hab : a ≠ b) (hf : ∀ i j, fb i = fb j → i = j) : ∀ (k i : Nat) (Z : Nat → Nat → Int32) (x : Nat), i ≤ x → x < i + k → q_cl a b fa fb k i Z b (fb x) = Z a (fa x)
  | 0, i, Z, x, h1, h2 => by omega
  | k + 1, i, Z, x, h1, h2 => by
    rw [q_cl]
    by_cases hx : x = i
    · rw [hx, q_cl_no k (i + 1) _ _ (fun y hy => fun z => by have := hf _ _ z; omega), s_upd_c, if_pos ⟨rfl, rfl⟩]
    · rw [q_cl_get hab hf k (i + 1) _ x (by omega) (by omega), s_upd_o hab]
theorem q_kp_o {Z : Nat → Nat → Int32} {c : Nat} (h : c ≠ 133) : q_kp Z c = Z c := q_cl_o h _ _ _
theorem q_kp_x {Z : Nat → Nat → Int32} {x : Nat} (h : x < 308) : q_kp Z 133 x = Z 132 x := q_cl_get (fb := q_id) (fa := q_id) (by decide) (fun _ _ z => z) 308 0 Z x (Nat.zero_le _) (by omega)
theorem q_gb_o {Z : Nat → Nat → Int32} {c : Nat} (h : c ≠ 132) : q_gb Z c = Z c := q_cl_o h _ _ _
theorem q_gb_x {Z : Nat → Nat → Int32} {x : Nat} (h : x < 308) : q_gb Z 132 x = Z 133 x := q_cl_get (fb := q_id) (fa := q_id) (by decide) (fun _ _ z => z) 308 0 Z x (Nat.zero_le _) (by omega)
theorem q_gb_y {Z : Nat → Nat → Int32} {x : Nat} (h : 308 ≤ x) : q_gb Z 132 x = Z 132 x := q_cl_nu 308 0 Z x (fun y _ hy z => by have : y = x := z; omega)
/-- what a trial of putIn leaves -/
def q_wz (Z : Nat → Nat → Int32) (n : Nat) (key : Int32) : Nat → Nat → Int32 := q_gb (q_pt (q_kp Z) n key 0).2
theorem q_wz_A {Z : Nat → Nat → Int32} {n : Nat} {key : Int32} (hn : n ≤ 60) : q_wz Z n key 132 = Z 132 := by
  funext x
  have hf := q_fr_pt (Z := q_kp Z) (key := key) (value := 0) hn
  rcases Nat.lt_or_ge x 308 with h | h
  · rw [q_wz, q_gb_x h, hf.1 133 (by decide) (by decide) (by decide) (by decide), q_kp_x h]
  · rw [q_wz, q_gb_y h, hf.2 x h, q_kp_o (by decide)]
theorem q_wz_o {Z : Nat → Nat → Int32} {n c : Nat} {key : Int32} (hn : n ≤ 60) (hc : c < 133 ∨ 139 < c ∨ (133 < c ∧ c < 137)) : q_wz Z n key c = Z c := by
  by_cases h2 : c = 132
  · rw [h2, q_wz_A hn]
  · have hf := q_fr_pt (Z := q_kp Z) (key := key) (value := 0) hn
    rw [q_wz, q_gb_o h2, hf.1 c h2 (by omega) (by omega) (by omega), q_kp_o (by omega)]
/-! a trial's answer hangs on the cell 132 alone -/
section A
variable {Z Y : Nat → Nat → Int32}
theorem q_aC (h : Z 132 = Y 132) (b : Nat) : q_c Z b = q_c Y b := by funext i; exact congrFun h (b + i)
theorem q_au {k : Nat} {v w : Int32} (h : Z 132 = Y 132) (hv : v = w) : s_upd Z 132 k v 132 = s_upd Y 132 k w 132 := by
  funext x
  rw [s_upd_c, s_upd_c, h, hv]
theorem q_acy {a b : Nat} (h : Z 132 = Y 132) : q_cy Z a b 132 = q_cy Y a b 132 := q_au h (congrFun h b)
theorem q_ac1 {p c : Nat} (h : Z 132 = Y 132) : q_c1 Z p c 132 = q_c1 Y p c 132 := q_acy (q_acy (q_acy (q_acy (q_acy h))))
end A
theorem q_ash {p : Nat} : ∀ (c : Nat) (Z Y : Nat → Nat → Int32), Z 132 = Y 132 → q_sh p c Z 132 = q_sh p c Y 132
  | 0, Z, Y, h => h
  | c + 1, Z, Y, h => q_ash c _ _ (q_ac1 h)
theorem q_acm {Z Y : Nat → Nat → Int32} {n p : Nat} {key value : Int32} (h : Z 132 = Y 132) : q_cm Z n p key value 132 = q_cm Y n p key value 132 := by
  unfold q_cm q_cw
  have hs := q_ash (p := p) (n - p) Z Y h
  rw [q_aC h]
  exact q_au (q_au (q_au (q_au (q_au (q_au hs (by rw [hs])) rfl) rfl) rfl) rfl) rfl
theorem q_aL {Z Y : Nat → Nat → Int32} {j : Nat} (h : Z 132 = Y 132) : q_L Z j = q_L Y j := by
  show t_lo (q_c Z 248) (q_c Z 248 j) j = t_lo (q_c Y 248) (q_c Y 248 j) j
  rw [q_aC h]
theorem q_aH {Z Y : Nat → Nat → Int32} {n j : Nat} (h : Z 132 = Y 132) : q_H Z n j = q_H Y n j := by
  show t_hi (q_c Z 248) (q_c Z 248 j) j (n - 1 - j) = t_hi (q_c Y 248) (q_c Y 248 j) j (n - 1 - j)
  rw [q_aC h]
theorem q_aw {Z Y : Nat → Nat → Int32} {n j : Nat} (h : Z 132 = Y 132) : q_w Z n j = q_w Y n j := by
  unfold q_w
  rw [q_aL h, q_aH h]
theorem q_aU {Z Y : Nat → Nat → Int32} {n i a : Nat} (h : Z 132 = Y 132) : q_u Z n i a = q_u Y n i a := by
  unfold q_u
  rw [q_aL h, q_aH h]
theorem q_aln {Z Y : Nat → Nat → Int32} {n j : Nat} (h : Z 132 = Y 132) : q_ln Z n j = q_ln Y n j := by
  unfold q_ln q_hv
  rw [q_aL h, q_aH h, q_aw h, h]
theorem q_apl {n nd : Nat} : ∀ (k i : Nat) (Z Y : Nat → Nat → Int32), Z 132 = Y 132 → q_pl n nd i k Z 132 = q_pl n nd i k Y 132
  | 0, i, Z, Y, h => h
  | k + 1, i, Z, Y, h => q_apl k (i + 1) _ _ (q_au h (by rw [q_aU h, h]))
theorem q_ala {n nd : Nat} {Z Y : Nat → Nat → Int32} (h : Z 132 = Y 132) : ∀ (k i : Nat) (acc : Option Nat), q_la Z n nd i k acc = q_la Y n nd i k acc
  | 0, i, acc => rfl
  | k + 1, i, acc => by rw [q_la, q_la, q_aU h, q_aln h, q_aC h, q_ala h k]
theorem q_ap2 {n p : Nat} {Z Y : Nat → Nat → Int32} (h : Z 132 = Y 132) : (q_p2 Z n p).1 = (q_p2 Y n p).1 := by
  unfold q_p2
  rw [q_ala h]
  split
  · rfl
  · exact q_aw h
theorem q_apt {n : Nat} {key value : Int32} {Z Y : Nat → Nat → Int32} (h : Z 132 = Y 132) : (q_pt Z n key value).1 = (q_pt Y n key value).1 := by
  unfold q_pt
  rw [q_aC h]
  split
  · split
    · rfl
    · split
      · rfl
      · exact q_ap2 (q_apl _ _ _ _ (q_acm h))
  · rfl
def q_val (Z : Nat → Nat → Int32) (n : Nat) (key : Int32) : Int32 := if y_nm key = true then (match q_fd (q_c Z 8) key 0 n with
  | none => -6
  | some j => if Z 132 (188 + j) = 0 then -6 else Z 132 (68 + j)) else -2
theorem q_val_k {Z : Nat → Nat → Int32} {P : Nat → Nat} {L n : Nat} (hN : Z 132 3 = nI n) (hn : n ≤ 60) {key : Int32} (hk : y_nm key = false) : m_r 123 [.ref 131, .int key] (hp Z P L) (some (.int (q_val Z n key))) (hp Z P L) := by
  refine m_of (ls := [.ref 131, .int key, s_no]) hk_123 rfl rfl rfl ?_
  refine e_go hk_123 1 (c := (1, [.ref 131, .int key, s_no], [.int key], hp Z P L)) rfl ?_
  refine e_call hk_123 (as := [.int key]) (rest := []) rfl rfl hk_94 rfl (Nat.le_of_ble_eq_true rfl) rfl q_key ?_
  show e_r 123 4 [.ref 131, .int key, s_no] [.int (y_b (y_nm key))] (hp Z P L) _ _
  refine e_go hk_123 1 (c := (if s_cnd .ne (y_b (y_nm key)) 0 = true then 10 else 7, [.ref 131, .int key, s_no], [], hp Z P L)) rfl ?_
  refine e_ne (a := 10) (b := 7) (x := y_b (y_nm key)) (y := 0) (fun hc4 => absurd (y_b0.mpr hk) hc4) (fun hc4 => ?_)
  refine e_go hk_123 1 (c := (9, [.ref 131, .int key, s_no], [.int ((-2))], hp Z P L)) rfl ?_
  exact e_ret hk_123 rfl rfl rfl (by rw [q_val, if_neg (fun z => by rw [hk] at z; exact absurd z (by decide))]) rfl
theorem q_val_n {Z : Nat → Nat → Int32} {P : Nat → Nat} {L n : Nat} (hN : Z 132 3 = nI n) (hn : n ≤ 60) {key : Int32} (hk : y_nm key = true) (hq : q_fd (q_c Z 8) key 0 n = none) : m_r 123 [.ref 131, .int key] (hp Z P L) (some (.int (q_val Z n key))) (hp Z P L) := by
  refine m_of (ls := [.ref 131, .int key, s_no]) hk_123 rfl rfl rfl ?_
  refine e_go hk_123 1 (c := (1, [.ref 131, .int key, s_no], [.int key], hp Z P L)) rfl ?_
  refine e_call hk_123 (as := [.int key]) (rest := []) rfl rfl hk_94 rfl (Nat.le_of_ble_eq_true rfl) rfl q_key ?_
  show e_r 123 4 [.ref 131, .int key, s_no] [.int (y_b (y_nm key))] (hp Z P L) _ _
  refine e_go hk_123 1 (c := (if s_cnd .ne (y_b (y_nm key)) 0 = true then 10 else 7, [.ref 131, .int key, s_no], [], hp Z P L)) rfl ?_
  refine e_ne (a := 10) (b := 7) (x := y_b (y_nm key)) (y := 0) (fun hc4 => ?_) (fun hc4 => absurd hc4 (y_b1.mpr hk))
  refine e_go hk_123 2 (c := (12, [.ref 131, .int key, s_no], [.int key, .ref 131], hp Z P L)) rfl ?_
  refine e_call hk_123 (as := [.ref 131, .int key]) (rest := []) rfl rfl hk_96 rfl (Nat.le_of_ble_eq_true rfl) rfl (q_find_n hN hn hq) ?_
  show e_r 123 15 [.ref 131, .int key, s_no] [.int ((-6))] (hp Z P L) _ _
  refine e_go hk_123 4 (c := (if s_cnd .eq ((-6)) ((-6)) = true then 35 else 22, [.ref 131, .int key, .int ((-6))], [], hp Z P L)) rfl ?_
  refine e_eq (a := 35) (b := 22) (x := (-6)) (y := (-6)) (fun hc19 => ?_) (fun hc19 => absurd (rfl) hc19)
  refine e_go hk_123 2 (c := (49, [.ref 131, .int key, .int ((-6))], [.int ((-6))], hp Z P L)) rfl ?_
  exact e_ret hk_123 rfl rfl rfl (by rw [q_val, if_pos hk, hq]) rfl
theorem q_val_s {Z : Nat → Nat → Int32} {P : Nat → Nat} {L n : Nat} (hN : Z 132 3 = nI n) (hn : n ≤ 60) {key : Int32} {j : Nat} (hk : y_nm key = true) (hq : q_fd (q_c Z 8) key 0 n = some j) : m_r 123 [.ref 131, .int key] (hp Z P L) (some (.int (q_val Z n key))) (hp Z P L) := by
  have hj : j < n := by have := q_fd_lt hq; omega
  refine m_of (ls := [.ref 131, .int key, s_no]) hk_123 rfl rfl rfl ?_
  refine e_go hk_123 1 (c := (1, [.ref 131, .int key, s_no], [.int key], hp Z P L)) rfl ?_
  refine e_call hk_123 (as := [.int key]) (rest := []) rfl rfl hk_94 rfl (Nat.le_of_ble_eq_true rfl) rfl q_key ?_
  show e_r 123 4 [.ref 131, .int key, s_no] [.int (y_b (y_nm key))] (hp Z P L) _ _
  refine e_go hk_123 1 (c := (if s_cnd .ne (y_b (y_nm key)) 0 = true then 10 else 7, [.ref 131, .int key, s_no], [], hp Z P L)) rfl ?_
  refine e_ne (a := 10) (b := 7) (x := y_b (y_nm key)) (y := 0) (fun hc4 => ?_) (fun hc4 => absurd hc4 (y_b1.mpr hk))
  refine e_go hk_123 2 (c := (12, [.ref 131, .int key, s_no], [.int key, .ref 131], hp Z P L)) rfl ?_
  refine e_call hk_123 (as := [.ref 131, .int key]) (rest := []) rfl rfl hk_96 rfl (Nat.le_of_ble_eq_true rfl) rfl (q_find_s hN hn hq) ?_
  show e_r 123 15 [.ref 131, .int key, s_no] [.int (nI j)] (hp Z P L) _ _
  refine e_go hk_123 4 (c := (if s_cnd .eq (nI j) ((-6)) = true then 35 else 22, [.ref 131, .int key, .int (nI j)], [], hp Z P L)) rfl ?_
  refine e_eq (a := 35) (b := 22) (x := nI j) (y := (-6)) (fun hc19 => absurd hc19 (q_ne6 (by omega))) (fun hc19 => ?_)
  refine e_go hk_123 5 (c := (31, [.ref 131, .int key, .int (nI j)], [.int (188 + (nI j)), .ref 132], hp Z P L)) rfl ?_
  rw [show (188 + (nI j)) = nI (188 + j) from (nI_add 188 j)]
  refine e_ald hk_123 (a := 132) (j := 188 + j) (n := 308) rfl rfl rfl (by omega) (by decide) ?_
  show e_r 123 32 [.ref 131, .int key, .int (nI j)] [.int (Z 132 (188 + j))] (hp Z P L) _ _
  refine e_go hk_123 1 (c := (if s_cnd .ne (Z 132 (188 + j)) 0 = true then 40 else 35, [.ref 131, .int key, .int (nI j)], [], hp Z P L)) rfl ?_
  refine e_ne (a := 40) (b := 35) (x := Z 132 (188 + j)) (y := 0) (fun hc32 => ?_) (fun hc32 => ?_)
  · skip
    refine e_go hk_123 5 (c := (48, [.ref 131, .int key, .int (nI j)], [.int (68 + (nI j)), .ref 132], hp Z P L)) rfl ?_
    rw [show (68 + (nI j)) = nI (68 + j) from (nI_add 68 j)]
    refine e_ald hk_123 (a := 132) (j := 68 + j) (n := 308) rfl rfl rfl (by omega) (by decide) ?_
    show e_r 123 49 [.ref 131, .int key, .int (nI j)] [.int (Z 132 (68 + j))] (hp Z P L) _ _
    exact e_ret hk_123 rfl rfl rfl (by rw [q_val, if_pos hk, hq]; dsimp only; rw [if_neg hc32]) rfl
  · skip
    refine e_go hk_123 2 (c := (49, [.ref 131, .int key, .int (nI j)], [.int ((-6))], hp Z P L)) rfl ?_
    exact e_ret hk_123 rfl rfl rfl (by rw [q_val, if_pos hk, hq]; dsimp only; rw [if_pos hc32]) rfl
theorem q_cval {Z : Nat → Nat → Int32} {P : Nat → Nat} {L n : Nat} (hN : Z 132 3 = nI n) (hn : n ≤ 60) {key : Int32} : m_r 123 [.ref 131, .int key] (hp Z P L) (some (.int (q_val Z n key))) (hp Z P L) := by
  cases hk : y_nm key with
  | false => exact q_val_k hN hn hk
  | true =>
  cases hq : q_fd (q_c Z 8) key 0 n with
  | some j => exact q_val_s hN hn hk hq
  | none => exact q_val_n hN hn hk hq
def q_abt (Z : Nat → Nat → Int32) (n j : Nat) : Nat → Int32
  | 0 => q_ky Z (q_fd (q_c Z 248) (q_c Z 248 j + 1) (q_L Z j) (j - q_L Z j))
  | 1 => q_ky Z (q_fd (q_c Z 248) (q_c Z 248 j + 1) (j + 1) (q_H Z n j - j))
  | 2 => q_w Z n j
  | 3 => q_c Z 248 j
  | 4 => q_c Z 128 j
  | 5 => q_c Z 188 j
  | 6 => t_sm (q_c Z 188) (q_L Z j) (q_H Z n j + 1 - q_L Z j) 0
  | 7 => y_b (q_ln Z n j)
  | _ => t_mx (q_c Z 248) (q_L Z j) (q_H Z n j + 1 - q_L Z j) (-6) - q_c Z 248 j
def q_node (Z : Nat → Nat → Int32) (n : Nat) (key : Int32) (k : Nat) : Int32 := if y_nm key = true then (match q_fd (q_c Z 8) key 0 n with
  | none => -1
  | some j => q_abt Z n j k) else -2
theorem q_abt0 {Z : Nat → Nat → Int32} {P : Nat → Nat} {L n : Nat} (hN : Z 132 3 = nI n) (hn : n ≤ 60) {j : Nat} (hj : j < n) : m_r 126 [.ref 131, .int (nI j), .int 0] (hp Z P L) (some (.int (q_abt Z n j 0))) (hp Z P L) := by
  have hLL := q_LL Z j
  have hHH := q_HH Z hj
  refine m_of (ls := [.ref 131, .int (nI j), .int 0]) hk_126 rfl rfl rfl ?_
  refine e_go hk_126 6 (c := (52, [.ref 131, .int (nI j), .int 0], [.int 0, .int (nI j), .ref 131, .ref 131], hp Z P L)) rfl ?_
  refine e_call hk_126 (as := [.ref 131, .int (nI j), .int 0]) (rest := [.ref 131]) rfl rfl hk_101 rfl (Nat.le_of_ble_eq_true rfl) rfl (q_child0 hN hn hj) ?_
  show e_r 126 55 [.ref 131, .int (nI j), .int 0] [.int (y_o (q_fd (q_c Z 248) (q_c Z 248 j + 1) (q_L Z j) (j - q_L Z j))), .ref 131] (hp Z P L) _ _
  refine e_call hk_126 (as := [.ref 131, .int (y_o (q_fd (q_c Z 248) (q_c Z 248 j + 1) (q_L Z j) (j - q_L Z j)))]) (rest := []) rfl rfl hk_124 rfl (Nat.le_of_ble_eq_true rfl) rfl (q_keyof (q := (q_fd (q_c Z 248) (q_c Z 248 j + 1) (q_L Z j) (j - q_L Z j))) (fun i hi => by have := q_fd_lt hi; omega)) ?_
  show e_r 126 58 [.ref 131, .int (nI j), .int 0] [.int (q_ky Z (q_fd (q_c Z 248) (q_c Z 248 j + 1) (q_L Z j) (j - q_L Z j)))] (hp Z P L) _ _
  exact e_ret hk_126 rfl rfl rfl rfl rfl
theorem q_node0_k {Z : Nat → Nat → Int32} {P : Nat → Nat} {L n : Nat} (hN : Z 132 3 = nI n) (hn : n ≤ 60) {key : Int32} (hk : y_nm key = false) : m_r 127 [.ref 131, .int key, .int 0] (hp Z P L) (some (.int (q_node Z n key 0))) (hp Z P L) := by
  refine m_of (ls := [.ref 131, .int key, .int 0, s_no]) hk_127 rfl rfl rfl ?_
  refine e_go hk_127 1 (c := (1, [.ref 131, .int key, .int 0, s_no], [.int key], hp Z P L)) rfl ?_
  refine e_call hk_127 (as := [.int key]) (rest := []) rfl rfl hk_94 rfl (Nat.le_of_ble_eq_true rfl) rfl q_key ?_
  show e_r 127 4 [.ref 131, .int key, .int 0, s_no] [.int (y_b (y_nm key))] (hp Z P L) _ _
  refine e_go hk_127 1 (c := (if s_cnd .eq (y_b (y_nm key)) 0 = true then 19 else 7, [.ref 131, .int key, .int 0, s_no], [], hp Z P L)) rfl ?_
  refine e_eq (a := 19) (b := 7) (x := y_b (y_nm key)) (y := 0) (fun hc4 => ?_) (fun hc4 => absurd (y_b0.mpr hk) hc4)
  refine e_go hk_127 1 (c := (21, [.ref 131, .int key, .int 0, s_no], [.int ((-2))], hp Z P L)) rfl ?_
  exact e_ret hk_127 rfl rfl rfl (by rw [q_node, if_neg (fun z => by rw [hk] at z; exact absurd z (by decide))]) rfl
theorem q_node0_n {Z : Nat → Nat → Int32} {P : Nat → Nat} {L n : Nat} (hN : Z 132 3 = nI n) (hn : n ≤ 60) {key : Int32} (hk : y_nm key = true) (hq : q_fd (q_c Z 8) key 0 n = none) : m_r 127 [.ref 131, .int key, .int 0] (hp Z P L) (some (.int (q_node Z n key 0))) (hp Z P L) := by
  refine m_of (ls := [.ref 131, .int key, .int 0, s_no]) hk_127 rfl rfl rfl ?_
  refine e_go hk_127 1 (c := (1, [.ref 131, .int key, .int 0, s_no], [.int key], hp Z P L)) rfl ?_
  refine e_call hk_127 (as := [.int key]) (rest := []) rfl rfl hk_94 rfl (Nat.le_of_ble_eq_true rfl) rfl q_key ?_
  show e_r 127 4 [.ref 131, .int key, .int 0, s_no] [.int (y_b (y_nm key))] (hp Z P L) _ _
  refine e_go hk_127 1 (c := (if s_cnd .eq (y_b (y_nm key)) 0 = true then 19 else 7, [.ref 131, .int key, .int 0, s_no], [], hp Z P L)) rfl ?_
  refine e_eq (a := 19) (b := 7) (x := y_b (y_nm key)) (y := 0) (fun hc4 => absurd hc4 (y_b1.mpr hk)) (fun hc4 => ?_)
  refine e_go hk_127 4 (c := (13, [.ref 131, .int key, .int 0, s_no], [.long 8, .long 0, .long ((0 : Int32).toInt64)], hp Z P L)) rfl ?_
  refine e_call hk_127 (as := [.long ((0 : Int32).toInt64), .long 0, .long 8]) (rest := []) rfl rfl hk_90 rfl (Nat.le_of_ble_eq_true rfl) rfl (q_in2 (x := 0) (lo := 0) (hi := 8) (by decide) (by decide) (by decide)) ?_
  show e_r 127 16 [.ref 131, .int key, .int 0, s_no] [.int (y_b (decide (0 ≤ 0 ∧ 0 ≤ 8)))] (hp Z P L) _ _
  refine e_go hk_127 1 (c := (if s_cnd .ne (y_b (decide (0 ≤ 0 ∧ 0 ≤ 8))) 0 = true then 22 else 19, [.ref 131, .int key, .int 0, s_no], [], hp Z P L)) rfl ?_
  refine e_ne (a := 22) (b := 19) (x := y_b (decide (0 ≤ 0 ∧ 0 ≤ 8))) (y := 0) (fun hc16 => ?_) (fun hc16 => absurd hc16 (by decide))
  refine e_go hk_127 2 (c := (24, [.ref 131, .int key, .int 0, s_no], [.int key, .ref 131], hp Z P L)) rfl ?_
  refine e_call hk_127 (as := [.ref 131, .int key]) (rest := []) rfl rfl hk_96 rfl (Nat.le_of_ble_eq_true rfl) rfl (q_find_n hN hn hq) ?_
  show e_r 127 27 [.ref 131, .int key, .int 0, s_no] [.int ((-6))] (hp Z P L) _ _
  refine e_go hk_127 4 (c := (if s_cnd .ne ((-6)) ((-6)) = true then 38 else 34, [.ref 131, .int key, .int 0, .int ((-6))], [], hp Z P L)) rfl ?_
  refine e_ne (a := 38) (b := 34) (x := (-6)) (y := (-6)) (fun hc31 => absurd (rfl) hc31) (fun hc31 => ?_)
  refine e_go hk_127 2 (c := (44, [.ref 131, .int key, .int 0, .int ((-6))], [.int ((-1))], hp Z P L)) rfl ?_
  exact e_ret hk_127 rfl rfl rfl (by rw [q_node, if_pos hk, hq]) rfl
theorem q_node0_s {Z : Nat → Nat → Int32} {P : Nat → Nat} {L n : Nat} (hN : Z 132 3 = nI n) (hn : n ≤ 60) {key : Int32} {j : Nat} (hk : y_nm key = true) (hq : q_fd (q_c Z 8) key 0 n = some j) : m_r 127 [.ref 131, .int key, .int 0] (hp Z P L) (some (.int (q_node Z n key 0))) (hp Z P L) := by
  have hj : j < n := by have := q_fd_lt hq; omega
  refine m_of (ls := [.ref 131, .int key, .int 0, s_no]) hk_127 rfl rfl rfl ?_
  refine e_go hk_127 1 (c := (1, [.ref 131, .int key, .int 0, s_no], [.int key], hp Z P L)) rfl ?_
  refine e_call hk_127 (as := [.int key]) (rest := []) rfl rfl hk_94 rfl (Nat.le_of_ble_eq_true rfl) rfl q_key ?_
  show e_r 127 4 [.ref 131, .int key, .int 0, s_no] [.int (y_b (y_nm key))] (hp Z P L) _ _
  refine e_go hk_127 1 (c := (if s_cnd .eq (y_b (y_nm key)) 0 = true then 19 else 7, [.ref 131, .int key, .int 0, s_no], [], hp Z P L)) rfl ?_
  refine e_eq (a := 19) (b := 7) (x := y_b (y_nm key)) (y := 0) (fun hc4 => absurd hc4 (y_b1.mpr hk)) (fun hc4 => ?_)
  refine e_go hk_127 4 (c := (13, [.ref 131, .int key, .int 0, s_no], [.long 8, .long 0, .long ((0 : Int32).toInt64)], hp Z P L)) rfl ?_
  refine e_call hk_127 (as := [.long ((0 : Int32).toInt64), .long 0, .long 8]) (rest := []) rfl rfl hk_90 rfl (Nat.le_of_ble_eq_true rfl) rfl (q_in2 (x := 0) (lo := 0) (hi := 8) (by decide) (by decide) (by decide)) ?_
  show e_r 127 16 [.ref 131, .int key, .int 0, s_no] [.int (y_b (decide (0 ≤ 0 ∧ 0 ≤ 8)))] (hp Z P L) _ _
  refine e_go hk_127 1 (c := (if s_cnd .ne (y_b (decide (0 ≤ 0 ∧ 0 ≤ 8))) 0 = true then 22 else 19, [.ref 131, .int key, .int 0, s_no], [], hp Z P L)) rfl ?_
  refine e_ne (a := 22) (b := 19) (x := y_b (decide (0 ≤ 0 ∧ 0 ≤ 8))) (y := 0) (fun hc16 => ?_) (fun hc16 => absurd hc16 (by decide))
  refine e_go hk_127 2 (c := (24, [.ref 131, .int key, .int 0, s_no], [.int key, .ref 131], hp Z P L)) rfl ?_
  refine e_call hk_127 (as := [.ref 131, .int key]) (rest := []) rfl rfl hk_96 rfl (Nat.le_of_ble_eq_true rfl) rfl (q_find_s hN hn hq) ?_
  show e_r 127 27 [.ref 131, .int key, .int 0, s_no] [.int (nI j)] (hp Z P L) _ _
  refine e_go hk_127 4 (c := (if s_cnd .ne (nI j) ((-6)) = true then 38 else 34, [.ref 131, .int key, .int 0, .int (nI j)], [], hp Z P L)) rfl ?_
  refine e_ne (a := 38) (b := 34) (x := nI j) (y := (-6)) (fun hc31 => ?_) (fun hc31 => absurd hc31 (q_ne6 (by omega)))
  refine e_go hk_127 3 (c := (41, [.ref 131, .int key, .int 0, .int (nI j)], [.int 0, .int (nI j), .ref 131], hp Z P L)) rfl ?_
  refine e_call hk_127 (as := [.ref 131, .int (nI j), .int 0]) (rest := []) rfl rfl hk_126 rfl (Nat.le_of_ble_eq_true rfl) rfl (q_abt0 hN hn hj) ?_
  show e_r 127 44 [.ref 131, .int key, .int 0, .int (nI j)] [.int (q_abt Z n j 0)] (hp Z P L) _ _
  exact e_ret hk_127 rfl rfl rfl (by rw [q_node, if_pos hk, hq]) rfl
theorem q_cnode0 {Z : Nat → Nat → Int32} {P : Nat → Nat} {L n : Nat} (hN : Z 132 3 = nI n) (hn : n ≤ 60) {key : Int32} : m_r 127 [.ref 131, .int key, .int 0] (hp Z P L) (some (.int (q_node Z n key 0))) (hp Z P L) := by
  cases hk : y_nm key with
  | false => exact q_node0_k hN hn hk
  | true =>
  cases hq : q_fd (q_c Z 8) key 0 n with
  | some j => exact q_node0_s hN hn hk hq
  | none => exact q_node0_n hN hn hk hq
theorem q_abt1 {Z : Nat → Nat → Int32} {P : Nat → Nat} {L n : Nat} (hN : Z 132 3 = nI n) (hn : n ≤ 60) {j : Nat} (hj : j < n) : m_r 126 [.ref 131, .int (nI j), .int 1] (hp Z P L) (some (.int (q_abt Z n j 1))) (hp Z P L) := by
  have hLL := q_LL Z j
  have hHH := q_HH Z hj
  refine m_of (ls := [.ref 131, .int (nI j), .int 1]) hk_126 rfl rfl rfl ?_
  refine e_go hk_126 6 (c := (52, [.ref 131, .int (nI j), .int 1], [.int 1, .int (nI j), .ref 131, .ref 131], hp Z P L)) rfl ?_
  refine e_call hk_126 (as := [.ref 131, .int (nI j), .int 1]) (rest := [.ref 131]) rfl rfl hk_101 rfl (Nat.le_of_ble_eq_true rfl) rfl (q_child1 hN hn hj) ?_
  show e_r 126 55 [.ref 131, .int (nI j), .int 1] [.int (y_o (q_fd (q_c Z 248) (q_c Z 248 j + 1) (j + 1) (q_H Z n j - j))), .ref 131] (hp Z P L) _ _
  refine e_call hk_126 (as := [.ref 131, .int (y_o (q_fd (q_c Z 248) (q_c Z 248 j + 1) (j + 1) (q_H Z n j - j)))]) (rest := []) rfl rfl hk_124 rfl (Nat.le_of_ble_eq_true rfl) rfl (q_keyof (q := (q_fd (q_c Z 248) (q_c Z 248 j + 1) (j + 1) (q_H Z n j - j))) (fun i hi => by have := q_fd_lt hi; omega)) ?_
  show e_r 126 58 [.ref 131, .int (nI j), .int 1] [.int (q_ky Z (q_fd (q_c Z 248) (q_c Z 248 j + 1) (j + 1) (q_H Z n j - j)))] (hp Z P L) _ _
  exact e_ret hk_126 rfl rfl rfl rfl rfl
theorem q_node1_k {Z : Nat → Nat → Int32} {P : Nat → Nat} {L n : Nat} (hN : Z 132 3 = nI n) (hn : n ≤ 60) {key : Int32} (hk : y_nm key = false) : m_r 127 [.ref 131, .int key, .int 1] (hp Z P L) (some (.int (q_node Z n key 1))) (hp Z P L) := by
  refine m_of (ls := [.ref 131, .int key, .int 1, s_no]) hk_127 rfl rfl rfl ?_
  refine e_go hk_127 1 (c := (1, [.ref 131, .int key, .int 1, s_no], [.int key], hp Z P L)) rfl ?_
  refine e_call hk_127 (as := [.int key]) (rest := []) rfl rfl hk_94 rfl (Nat.le_of_ble_eq_true rfl) rfl q_key ?_
  show e_r 127 4 [.ref 131, .int key, .int 1, s_no] [.int (y_b (y_nm key))] (hp Z P L) _ _
  refine e_go hk_127 1 (c := (if s_cnd .eq (y_b (y_nm key)) 0 = true then 19 else 7, [.ref 131, .int key, .int 1, s_no], [], hp Z P L)) rfl ?_
  refine e_eq (a := 19) (b := 7) (x := y_b (y_nm key)) (y := 0) (fun hc4 => ?_) (fun hc4 => absurd (y_b0.mpr hk) hc4)
  refine e_go hk_127 1 (c := (21, [.ref 131, .int key, .int 1, s_no], [.int ((-2))], hp Z P L)) rfl ?_
  exact e_ret hk_127 rfl rfl rfl (by rw [q_node, if_neg (fun z => by rw [hk] at z; exact absurd z (by decide))]) rfl
theorem q_node1_n {Z : Nat → Nat → Int32} {P : Nat → Nat} {L n : Nat} (hN : Z 132 3 = nI n) (hn : n ≤ 60) {key : Int32} (hk : y_nm key = true) (hq : q_fd (q_c Z 8) key 0 n = none) : m_r 127 [.ref 131, .int key, .int 1] (hp Z P L) (some (.int (q_node Z n key 1))) (hp Z P L) := by
  refine m_of (ls := [.ref 131, .int key, .int 1, s_no]) hk_127 rfl rfl rfl ?_
  refine e_go hk_127 1 (c := (1, [.ref 131, .int key, .int 1, s_no], [.int key], hp Z P L)) rfl ?_
  refine e_call hk_127 (as := [.int key]) (rest := []) rfl rfl hk_94 rfl (Nat.le_of_ble_eq_true rfl) rfl q_key ?_
  show e_r 127 4 [.ref 131, .int key, .int 1, s_no] [.int (y_b (y_nm key))] (hp Z P L) _ _
  refine e_go hk_127 1 (c := (if s_cnd .eq (y_b (y_nm key)) 0 = true then 19 else 7, [.ref 131, .int key, .int 1, s_no], [], hp Z P L)) rfl ?_
  refine e_eq (a := 19) (b := 7) (x := y_b (y_nm key)) (y := 0) (fun hc4 => absurd hc4 (y_b1.mpr hk)) (fun hc4 => ?_)
  refine e_go hk_127 4 (c := (13, [.ref 131, .int key, .int 1, s_no], [.long 8, .long 0, .long ((1 : Int32).toInt64)], hp Z P L)) rfl ?_
  refine e_call hk_127 (as := [.long ((1 : Int32).toInt64), .long 0, .long 8]) (rest := []) rfl rfl hk_90 rfl (Nat.le_of_ble_eq_true rfl) rfl (q_in2 (x := 1) (lo := 0) (hi := 8) (by decide) (by decide) (by decide)) ?_
  show e_r 127 16 [.ref 131, .int key, .int 1, s_no] [.int (y_b (decide (0 ≤ 1 ∧ 1 ≤ 8)))] (hp Z P L) _ _
  refine e_go hk_127 1 (c := (if s_cnd .ne (y_b (decide (0 ≤ 1 ∧ 1 ≤ 8))) 0 = true then 22 else 19, [.ref 131, .int key, .int 1, s_no], [], hp Z P L)) rfl ?_
  refine e_ne (a := 22) (b := 19) (x := y_b (decide (0 ≤ 1 ∧ 1 ≤ 8))) (y := 0) (fun hc16 => ?_) (fun hc16 => absurd hc16 (by decide))
  refine e_go hk_127 2 (c := (24, [.ref 131, .int key, .int 1, s_no], [.int key, .ref 131], hp Z P L)) rfl ?_
  refine e_call hk_127 (as := [.ref 131, .int key]) (rest := []) rfl rfl hk_96 rfl (Nat.le_of_ble_eq_true rfl) rfl (q_find_n hN hn hq) ?_
  show e_r 127 27 [.ref 131, .int key, .int 1, s_no] [.int ((-6))] (hp Z P L) _ _
  refine e_go hk_127 4 (c := (if s_cnd .ne ((-6)) ((-6)) = true then 38 else 34, [.ref 131, .int key, .int 1, .int ((-6))], [], hp Z P L)) rfl ?_
  refine e_ne (a := 38) (b := 34) (x := (-6)) (y := (-6)) (fun hc31 => absurd (rfl) hc31) (fun hc31 => ?_)
  refine e_go hk_127 2 (c := (44, [.ref 131, .int key, .int 1, .int ((-6))], [.int ((-1))], hp Z P L)) rfl ?_
  exact e_ret hk_127 rfl rfl rfl (by rw [q_node, if_pos hk, hq]) rfl
theorem q_node1_s {Z : Nat → Nat → Int32} {P : Nat → Nat} {L n : Nat} (hN : Z 132 3 = nI n) (hn : n ≤ 60) {key : Int32} {j : Nat} (hk : y_nm key = true) (hq : q_fd (q_c Z 8) key 0 n = some j) : m_r 127 [.ref 131, .int key, .int 1] (hp Z P L) (some (.int (q_node Z n key 1))) (hp Z P L) := by
  have hj : j < n := by have := q_fd_lt hq; omega
  refine m_of (ls := [.ref 131, .int key, .int 1, s_no]) hk_127 rfl rfl rfl ?_
  refine e_go hk_127 1 (c := (1, [.ref 131, .int key, .int 1, s_no], [.int key], hp Z P L)) rfl ?_
  refine e_call hk_127 (as := [.int key]) (rest := []) rfl rfl hk_94 rfl (Nat.le_of_ble_eq_true rfl) rfl q_key ?_
  show e_r 127 4 [.ref 131, .int key, .int 1, s_no] [.int (y_b (y_nm key))] (hp Z P L) _ _
  refine e_go hk_127 1 (c := (if s_cnd .eq (y_b (y_nm key)) 0 = true then 19 else 7, [.ref 131, .int key, .int 1, s_no], [], hp Z P L)) rfl ?_
  refine e_eq (a := 19) (b := 7) (x := y_b (y_nm key)) (y := 0) (fun hc4 => absurd hc4 (y_b1.mpr hk)) (fun hc4 => ?_)
  refine e_go hk_127 4 (c := (13, [.ref 131, .int key, .int 1, s_no], [.long 8, .long 0, .long ((1 : Int32).toInt64)], hp Z P L)) rfl ?_
  refine e_call hk_127 (as := [.long ((1 : Int32).toInt64), .long 0, .long 8]) (rest := []) rfl rfl hk_90 rfl (Nat.le_of_ble_eq_true rfl) rfl (q_in2 (x := 1) (lo := 0) (hi := 8) (by decide) (by decide) (by decide)) ?_
  show e_r 127 16 [.ref 131, .int key, .int 1, s_no] [.int (y_b (decide (0 ≤ 1 ∧ 1 ≤ 8)))] (hp Z P L) _ _
  refine e_go hk_127 1 (c := (if s_cnd .ne (y_b (decide (0 ≤ 1 ∧ 1 ≤ 8))) 0 = true then 22 else 19, [.ref 131, .int key, .int 1, s_no], [], hp Z P L)) rfl ?_
  refine e_ne (a := 22) (b := 19) (x := y_b (decide (0 ≤ 1 ∧ 1 ≤ 8))) (y := 0) (fun hc16 => ?_) (fun hc16 => absurd hc16 (by decide))
  refine e_go hk_127 2 (c := (24, [.ref 131, .int key, .int 1, s_no], [.int key, .ref 131], hp Z P L)) rfl ?_
  refine e_call hk_127 (as := [.ref 131, .int key]) (rest := []) rfl rfl hk_96 rfl (Nat.le_of_ble_eq_true rfl) rfl (q_find_s hN hn hq) ?_
  show e_r 127 27 [.ref 131, .int key, .int 1, s_no] [.int (nI j)] (hp Z P L) _ _
  refine e_go hk_127 4 (c := (if s_cnd .ne (nI j) ((-6)) = true then 38 else 34, [.ref 131, .int key, .int 1, .int (nI j)], [], hp Z P L)) rfl ?_
  refine e_ne (a := 38) (b := 34) (x := nI j) (y := (-6)) (fun hc31 => ?_) (fun hc31 => absurd hc31 (q_ne6 (by omega)))
  refine e_go hk_127 3 (c := (41, [.ref 131, .int key, .int 1, .int (nI j)], [.int 1, .int (nI j), .ref 131], hp Z P L)) rfl ?_
  refine e_call hk_127 (as := [.ref 131, .int (nI j), .int 1]) (rest := []) rfl rfl hk_126 rfl (Nat.le_of_ble_eq_true rfl) rfl (q_abt1 hN hn hj) ?_
  show e_r 127 44 [.ref 131, .int key, .int 1, .int (nI j)] [.int (q_abt Z n j 1)] (hp Z P L) _ _
  exact e_ret hk_127 rfl rfl rfl (by rw [q_node, if_pos hk, hq]) rfl
theorem q_cnode1 {Z : Nat → Nat → Int32} {P : Nat → Nat} {L n : Nat} (hN : Z 132 3 = nI n) (hn : n ≤ 60) {key : Int32} : m_r 127 [.ref 131, .int key, .int 1] (hp Z P L) (some (.int (q_node Z n key 1))) (hp Z P L) := by
  cases hk : y_nm key with
  | false => exact q_node1_k hN hn hk
  | true =>
  cases hq : q_fd (q_c Z 8) key 0 n with
  | some j => exact q_node1_s hN hn hk hq
  | none => exact q_node1_n hN hn hk hq
theorem q_abt2 {Z : Nat → Nat → Int32} {P : Nat → Nat} {L n : Nat} (hN : Z 132 3 = nI n) (hn : n ≤ 60) {j : Nat} (hj : j < n) : m_r 126 [.ref 131, .int (nI j), .int 2] (hp Z P L) (some (.int (q_abt Z n j 2))) (hp Z P L) := by
  have hLL := q_LL Z j
  have hHH := q_HH Z hj
  refine m_of (ls := [.ref 131, .int (nI j), .int 2]) hk_126 rfl rfl rfl ?_
  refine e_go hk_126 4 (c := (61, [.ref 131, .int (nI j), .int 2], [.int (nI j), .ref 131], hp Z P L)) rfl ?_
  refine e_call hk_126 (as := [.ref 131, .int (nI j)]) (rest := []) rfl rfl hk_99 rfl (Nat.le_of_ble_eq_true rfl) rfl (q_weight hN hn (j := j) hj) ?_
  show e_r 126 64 [.ref 131, .int (nI j), .int 2] [.int (q_w Z n j)] (hp Z P L) _ _
  exact e_ret hk_126 rfl rfl rfl rfl rfl
theorem q_node2_k {Z : Nat → Nat → Int32} {P : Nat → Nat} {L n : Nat} (hN : Z 132 3 = nI n) (hn : n ≤ 60) {key : Int32} (hk : y_nm key = false) : m_r 127 [.ref 131, .int key, .int 2] (hp Z P L) (some (.int (q_node Z n key 2))) (hp Z P L) := by
  refine m_of (ls := [.ref 131, .int key, .int 2, s_no]) hk_127 rfl rfl rfl ?_
  refine e_go hk_127 1 (c := (1, [.ref 131, .int key, .int 2, s_no], [.int key], hp Z P L)) rfl ?_
  refine e_call hk_127 (as := [.int key]) (rest := []) rfl rfl hk_94 rfl (Nat.le_of_ble_eq_true rfl) rfl q_key ?_
  show e_r 127 4 [.ref 131, .int key, .int 2, s_no] [.int (y_b (y_nm key))] (hp Z P L) _ _
  refine e_go hk_127 1 (c := (if s_cnd .eq (y_b (y_nm key)) 0 = true then 19 else 7, [.ref 131, .int key, .int 2, s_no], [], hp Z P L)) rfl ?_
  refine e_eq (a := 19) (b := 7) (x := y_b (y_nm key)) (y := 0) (fun hc4 => ?_) (fun hc4 => absurd (y_b0.mpr hk) hc4)
  refine e_go hk_127 1 (c := (21, [.ref 131, .int key, .int 2, s_no], [.int ((-2))], hp Z P L)) rfl ?_
  exact e_ret hk_127 rfl rfl rfl (by rw [q_node, if_neg (fun z => by rw [hk] at z; exact absurd z (by decide))]) rfl
theorem q_node2_n {Z : Nat → Nat → Int32} {P : Nat → Nat} {L n : Nat} (hN : Z 132 3 = nI n) (hn : n ≤ 60) {key : Int32} (hk : y_nm key = true) (hq : q_fd (q_c Z 8) key 0 n = none) : m_r 127 [.ref 131, .int key, .int 2] (hp Z P L) (some (.int (q_node Z n key 2))) (hp Z P L) := by
  refine m_of (ls := [.ref 131, .int key, .int 2, s_no]) hk_127 rfl rfl rfl ?_
  refine e_go hk_127 1 (c := (1, [.ref 131, .int key, .int 2, s_no], [.int key], hp Z P L)) rfl ?_
  refine e_call hk_127 (as := [.int key]) (rest := []) rfl rfl hk_94 rfl (Nat.le_of_ble_eq_true rfl) rfl q_key ?_
  show e_r 127 4 [.ref 131, .int key, .int 2, s_no] [.int (y_b (y_nm key))] (hp Z P L) _ _
  refine e_go hk_127 1 (c := (if s_cnd .eq (y_b (y_nm key)) 0 = true then 19 else 7, [.ref 131, .int key, .int 2, s_no], [], hp Z P L)) rfl ?_
  refine e_eq (a := 19) (b := 7) (x := y_b (y_nm key)) (y := 0) (fun hc4 => absurd hc4 (y_b1.mpr hk)) (fun hc4 => ?_)
  refine e_go hk_127 4 (c := (13, [.ref 131, .int key, .int 2, s_no], [.long 8, .long 0, .long ((2 : Int32).toInt64)], hp Z P L)) rfl ?_
  refine e_call hk_127 (as := [.long ((2 : Int32).toInt64), .long 0, .long 8]) (rest := []) rfl rfl hk_90 rfl (Nat.le_of_ble_eq_true rfl) rfl (q_in2 (x := 2) (lo := 0) (hi := 8) (by decide) (by decide) (by decide)) ?_
  show e_r 127 16 [.ref 131, .int key, .int 2, s_no] [.int (y_b (decide (0 ≤ 2 ∧ 2 ≤ 8)))] (hp Z P L) _ _
  refine e_go hk_127 1 (c := (if s_cnd .ne (y_b (decide (0 ≤ 2 ∧ 2 ≤ 8))) 0 = true then 22 else 19, [.ref 131, .int key, .int 2, s_no], [], hp Z P L)) rfl ?_
  refine e_ne (a := 22) (b := 19) (x := y_b (decide (0 ≤ 2 ∧ 2 ≤ 8))) (y := 0) (fun hc16 => ?_) (fun hc16 => absurd hc16 (by decide))
  refine e_go hk_127 2 (c := (24, [.ref 131, .int key, .int 2, s_no], [.int key, .ref 131], hp Z P L)) rfl ?_
  refine e_call hk_127 (as := [.ref 131, .int key]) (rest := []) rfl rfl hk_96 rfl (Nat.le_of_ble_eq_true rfl) rfl (q_find_n hN hn hq) ?_
  show e_r 127 27 [.ref 131, .int key, .int 2, s_no] [.int ((-6))] (hp Z P L) _ _
  refine e_go hk_127 4 (c := (if s_cnd .ne ((-6)) ((-6)) = true then 38 else 34, [.ref 131, .int key, .int 2, .int ((-6))], [], hp Z P L)) rfl ?_
  refine e_ne (a := 38) (b := 34) (x := (-6)) (y := (-6)) (fun hc31 => absurd (rfl) hc31) (fun hc31 => ?_)
  refine e_go hk_127 2 (c := (44, [.ref 131, .int key, .int 2, .int ((-6))], [.int ((-1))], hp Z P L)) rfl ?_
  exact e_ret hk_127 rfl rfl rfl (by rw [q_node, if_pos hk, hq]) rfl
theorem q_node2_s {Z : Nat → Nat → Int32} {P : Nat → Nat} {L n : Nat} (hN : Z 132 3 = nI n) (hn : n ≤ 60) {key : Int32} {j : Nat} (hk : y_nm key = true) (hq : q_fd (q_c Z 8) key 0 n = some j) : m_r 127 [.ref 131, .int key, .int 2] (hp Z P L) (some (.int (q_node Z n key 2))) (hp Z P L) := by
  have hj : j < n := by have := q_fd_lt hq; omega
  refine m_of (ls := [.ref 131, .int key, .int 2, s_no]) hk_127 rfl rfl rfl ?_
  refine e_go hk_127 1 (c := (1, [.ref 131, .int key, .int 2, s_no], [.int key], hp Z P L)) rfl ?_
  refine e_call hk_127 (as := [.int key]) (rest := []) rfl rfl hk_94 rfl (Nat.le_of_ble_eq_true rfl) rfl q_key ?_
  show e_r 127 4 [.ref 131, .int key, .int 2, s_no] [.int (y_b (y_nm key))] (hp Z P L) _ _
  refine e_go hk_127 1 (c := (if s_cnd .eq (y_b (y_nm key)) 0 = true then 19 else 7, [.ref 131, .int key, .int 2, s_no], [], hp Z P L)) rfl ?_
  refine e_eq (a := 19) (b := 7) (x := y_b (y_nm key)) (y := 0) (fun hc4 => absurd hc4 (y_b1.mpr hk)) (fun hc4 => ?_)
  refine e_go hk_127 4 (c := (13, [.ref 131, .int key, .int 2, s_no], [.long 8, .long 0, .long ((2 : Int32).toInt64)], hp Z P L)) rfl ?_
  refine e_call hk_127 (as := [.long ((2 : Int32).toInt64), .long 0, .long 8]) (rest := []) rfl rfl hk_90 rfl (Nat.le_of_ble_eq_true rfl) rfl (q_in2 (x := 2) (lo := 0) (hi := 8) (by decide) (by decide) (by decide)) ?_
  show e_r 127 16 [.ref 131, .int key, .int 2, s_no] [.int (y_b (decide (0 ≤ 2 ∧ 2 ≤ 8)))] (hp Z P L) _ _
  refine e_go hk_127 1 (c := (if s_cnd .ne (y_b (decide (0 ≤ 2 ∧ 2 ≤ 8))) 0 = true then 22 else 19, [.ref 131, .int key, .int 2, s_no], [], hp Z P L)) rfl ?_
  refine e_ne (a := 22) (b := 19) (x := y_b (decide (0 ≤ 2 ∧ 2 ≤ 8))) (y := 0) (fun hc16 => ?_) (fun hc16 => absurd hc16 (by decide))
  refine e_go hk_127 2 (c := (24, [.ref 131, .int key, .int 2, s_no], [.int key, .ref 131], hp Z P L)) rfl ?_
  refine e_call hk_127 (as := [.ref 131, .int key]) (rest := []) rfl rfl hk_96 rfl (Nat.le_of_ble_eq_true rfl) rfl (q_find_s hN hn hq) ?_
  show e_r 127 27 [.ref 131, .int key, .int 2, s_no] [.int (nI j)] (hp Z P L) _ _
  refine e_go hk_127 4 (c := (if s_cnd .ne (nI j) ((-6)) = true then 38 else 34, [.ref 131, .int key, .int 2, .int (nI j)], [], hp Z P L)) rfl ?_
  refine e_ne (a := 38) (b := 34) (x := nI j) (y := (-6)) (fun hc31 => ?_) (fun hc31 => absurd hc31 (q_ne6 (by omega)))
  refine e_go hk_127 3 (c := (41, [.ref 131, .int key, .int 2, .int (nI j)], [.int 2, .int (nI j), .ref 131], hp Z P L)) rfl ?_
  refine e_call hk_127 (as := [.ref 131, .int (nI j), .int 2]) (rest := []) rfl rfl hk_126 rfl (Nat.le_of_ble_eq_true rfl) rfl (q_abt2 hN hn hj) ?_
  show e_r 127 44 [.ref 131, .int key, .int 2, .int (nI j)] [.int (q_abt Z n j 2)] (hp Z P L) _ _
  exact e_ret hk_127 rfl rfl rfl (by rw [q_node, if_pos hk, hq]) rfl
theorem q_cnode2 {Z : Nat → Nat → Int32} {P : Nat → Nat} {L n : Nat} (hN : Z 132 3 = nI n) (hn : n ≤ 60) {key : Int32} : m_r 127 [.ref 131, .int key, .int 2] (hp Z P L) (some (.int (q_node Z n key 2))) (hp Z P L) := by
  cases hk : y_nm key with
  | false => exact q_node2_k hN hn hk
  | true =>
  cases hq : q_fd (q_c Z 8) key 0 n with
  | some j => exact q_node2_s hN hn hk hq
  | none => exact q_node2_n hN hn hk hq
theorem q_abt3 {Z : Nat → Nat → Int32} {P : Nat → Nat} {L n : Nat} (hN : Z 132 3 = nI n) (hn : n ≤ 60) {j : Nat} (hj : j < n) : m_r 126 [.ref 131, .int (nI j), .int 3] (hp Z P L) (some (.int (q_abt Z n j 3))) (hp Z P L) := by
  have hLL := q_LL Z j
  have hHH := q_HH Z hj
  refine m_of (ls := [.ref 131, .int (nI j), .int 3]) hk_126 rfl rfl rfl ?_
  refine e_go hk_126 4 (c := (67, [.ref 131, .int (nI j), .int 3], [.int (nI j), .ref 131], hp Z P L)) rfl ?_
  refine e_call hk_126 (as := [.ref 131, .int (nI j)]) (rest := []) rfl rfl hk_95 rfl (Nat.le_of_ble_eq_true rfl) rfl (q_dep (j := j) (by omega)) ?_
  show e_r 126 70 [.ref 131, .int (nI j), .int 3] [.int (q_c Z 248 j)] (hp Z P L) _ _
  exact e_ret hk_126 rfl rfl rfl rfl rfl
theorem q_node3_k {Z : Nat → Nat → Int32} {P : Nat → Nat} {L n : Nat} (hN : Z 132 3 = nI n) (hn : n ≤ 60) {key : Int32} (hk : y_nm key = false) : m_r 127 [.ref 131, .int key, .int 3] (hp Z P L) (some (.int (q_node Z n key 3))) (hp Z P L) := by
  refine m_of (ls := [.ref 131, .int key, .int 3, s_no]) hk_127 rfl rfl rfl ?_
  refine e_go hk_127 1 (c := (1, [.ref 131, .int key, .int 3, s_no], [.int key], hp Z P L)) rfl ?_
  refine e_call hk_127 (as := [.int key]) (rest := []) rfl rfl hk_94 rfl (Nat.le_of_ble_eq_true rfl) rfl q_key ?_
  show e_r 127 4 [.ref 131, .int key, .int 3, s_no] [.int (y_b (y_nm key))] (hp Z P L) _ _
  refine e_go hk_127 1 (c := (if s_cnd .eq (y_b (y_nm key)) 0 = true then 19 else 7, [.ref 131, .int key, .int 3, s_no], [], hp Z P L)) rfl ?_
  refine e_eq (a := 19) (b := 7) (x := y_b (y_nm key)) (y := 0) (fun hc4 => ?_) (fun hc4 => absurd (y_b0.mpr hk) hc4)
  refine e_go hk_127 1 (c := (21, [.ref 131, .int key, .int 3, s_no], [.int ((-2))], hp Z P L)) rfl ?_
  exact e_ret hk_127 rfl rfl rfl (by rw [q_node, if_neg (fun z => by rw [hk] at z; exact absurd z (by decide))]) rfl
theorem q_node3_n {Z : Nat → Nat → Int32} {P : Nat → Nat} {L n : Nat} (hN : Z 132 3 = nI n) (hn : n ≤ 60) {key : Int32} (hk : y_nm key = true) (hq : q_fd (q_c Z 8) key 0 n = none) : m_r 127 [.ref 131, .int key, .int 3] (hp Z P L) (some (.int (q_node Z n key 3))) (hp Z P L) := by
  refine m_of (ls := [.ref 131, .int key, .int 3, s_no]) hk_127 rfl rfl rfl ?_
  refine e_go hk_127 1 (c := (1, [.ref 131, .int key, .int 3, s_no], [.int key], hp Z P L)) rfl ?_
  refine e_call hk_127 (as := [.int key]) (rest := []) rfl rfl hk_94 rfl (Nat.le_of_ble_eq_true rfl) rfl q_key ?_
  show e_r 127 4 [.ref 131, .int key, .int 3, s_no] [.int (y_b (y_nm key))] (hp Z P L) _ _
  refine e_go hk_127 1 (c := (if s_cnd .eq (y_b (y_nm key)) 0 = true then 19 else 7, [.ref 131, .int key, .int 3, s_no], [], hp Z P L)) rfl ?_
  refine e_eq (a := 19) (b := 7) (x := y_b (y_nm key)) (y := 0) (fun hc4 => absurd hc4 (y_b1.mpr hk)) (fun hc4 => ?_)
  refine e_go hk_127 4 (c := (13, [.ref 131, .int key, .int 3, s_no], [.long 8, .long 0, .long ((3 : Int32).toInt64)], hp Z P L)) rfl ?_
  refine e_call hk_127 (as := [.long ((3 : Int32).toInt64), .long 0, .long 8]) (rest := []) rfl rfl hk_90 rfl (Nat.le_of_ble_eq_true rfl) rfl (q_in2 (x := 3) (lo := 0) (hi := 8) (by decide) (by decide) (by decide)) ?_
  show e_r 127 16 [.ref 131, .int key, .int 3, s_no] [.int (y_b (decide (0 ≤ 3 ∧ 3 ≤ 8)))] (hp Z P L) _ _
  refine e_go hk_127 1 (c := (if s_cnd .ne (y_b (decide (0 ≤ 3 ∧ 3 ≤ 8))) 0 = true then 22 else 19, [.ref 131, .int key, .int 3, s_no], [], hp Z P L)) rfl ?_
  refine e_ne (a := 22) (b := 19) (x := y_b (decide (0 ≤ 3 ∧ 3 ≤ 8))) (y := 0) (fun hc16 => ?_) (fun hc16 => absurd hc16 (by decide))
  refine e_go hk_127 2 (c := (24, [.ref 131, .int key, .int 3, s_no], [.int key, .ref 131], hp Z P L)) rfl ?_
  refine e_call hk_127 (as := [.ref 131, .int key]) (rest := []) rfl rfl hk_96 rfl (Nat.le_of_ble_eq_true rfl) rfl (q_find_n hN hn hq) ?_
  show e_r 127 27 [.ref 131, .int key, .int 3, s_no] [.int ((-6))] (hp Z P L) _ _
  refine e_go hk_127 4 (c := (if s_cnd .ne ((-6)) ((-6)) = true then 38 else 34, [.ref 131, .int key, .int 3, .int ((-6))], [], hp Z P L)) rfl ?_
  refine e_ne (a := 38) (b := 34) (x := (-6)) (y := (-6)) (fun hc31 => absurd (rfl) hc31) (fun hc31 => ?_)
  refine e_go hk_127 2 (c := (44, [.ref 131, .int key, .int 3, .int ((-6))], [.int ((-1))], hp Z P L)) rfl ?_
  exact e_ret hk_127 rfl rfl rfl (by rw [q_node, if_pos hk, hq]) rfl
theorem q_node3_s {Z : Nat → Nat → Int32} {P : Nat → Nat} {L n : Nat} (hN : Z 132 3 = nI n) (hn : n ≤ 60) {key : Int32} {j : Nat} (hk : y_nm key = true) (hq : q_fd (q_c Z 8) key 0 n = some j) : m_r 127 [.ref 131, .int key, .int 3] (hp Z P L) (some (.int (q_node Z n key 3))) (hp Z P L) := by
  have hj : j < n := by have := q_fd_lt hq; omega
  refine m_of (ls := [.ref 131, .int key, .int 3, s_no]) hk_127 rfl rfl rfl ?_
  refine e_go hk_127 1 (c := (1, [.ref 131, .int key, .int 3, s_no], [.int key], hp Z P L)) rfl ?_
  refine e_call hk_127 (as := [.int key]) (rest := []) rfl rfl hk_94 rfl (Nat.le_of_ble_eq_true rfl) rfl q_key ?_
  show e_r 127 4 [.ref 131, .int key, .int 3, s_no] [.int (y_b (y_nm key))] (hp Z P L) _ _
  refine e_go hk_127 1 (c := (if s_cnd .eq (y_b (y_nm key)) 0 = true then 19 else 7, [.ref 131, .int key, .int 3, s_no], [], hp Z P L)) rfl ?_
  refine e_eq (a := 19) (b := 7) (x := y_b (y_nm key)) (y := 0) (fun hc4 => absurd hc4 (y_b1.mpr hk)) (fun hc4 => ?_)
  refine e_go hk_127 4 (c := (13, [.ref 131, .int key, .int 3, s_no], [.long 8, .long 0, .long ((3 : Int32).toInt64)], hp Z P L)) rfl ?_
  refine e_call hk_127 (as := [.long ((3 : Int32).toInt64), .long 0, .long 8]) (rest := []) rfl rfl hk_90 rfl (Nat.le_of_ble_eq_true rfl) rfl (q_in2 (x := 3) (lo := 0) (hi := 8) (by decide) (by decide) (by decide)) ?_
  show e_r 127 16 [.ref 131, .int key, .int 3, s_no] [.int (y_b (decide (0 ≤ 3 ∧ 3 ≤ 8)))] (hp Z P L) _ _
  refine e_go hk_127 1 (c := (if s_cnd .ne (y_b (decide (0 ≤ 3 ∧ 3 ≤ 8))) 0 = true then 22 else 19, [.ref 131, .int key, .int 3, s_no], [], hp Z P L)) rfl ?_
  refine e_ne (a := 22) (b := 19) (x := y_b (decide (0 ≤ 3 ∧ 3 ≤ 8))) (y := 0) (fun hc16 => ?_) (fun hc16 => absurd hc16 (by decide))
  refine e_go hk_127 2 (c := (24, [.ref 131, .int key, .int 3, s_no], [.int key, .ref 131], hp Z P L)) rfl ?_
  refine e_call hk_127 (as := [.ref 131, .int key]) (rest := []) rfl rfl hk_96 rfl (Nat.le_of_ble_eq_true rfl) rfl (q_find_s hN hn hq) ?_
  show e_r 127 27 [.ref 131, .int key, .int 3, s_no] [.int (nI j)] (hp Z P L) _ _
  refine e_go hk_127 4 (c := (if s_cnd .ne (nI j) ((-6)) = true then 38 else 34, [.ref 131, .int key, .int 3, .int (nI j)], [], hp Z P L)) rfl ?_
  refine e_ne (a := 38) (b := 34) (x := nI j) (y := (-6)) (fun hc31 => ?_) (fun hc31 => absurd hc31 (q_ne6 (by omega)))
  refine e_go hk_127 3 (c := (41, [.ref 131, .int key, .int 3, .int (nI j)], [.int 3, .int (nI j), .ref 131], hp Z P L)) rfl ?_
  refine e_call hk_127 (as := [.ref 131, .int (nI j), .int 3]) (rest := []) rfl rfl hk_126 rfl (Nat.le_of_ble_eq_true rfl) rfl (q_abt3 hN hn hj) ?_
  show e_r 127 44 [.ref 131, .int key, .int 3, .int (nI j)] [.int (q_abt Z n j 3)] (hp Z P L) _ _
  exact e_ret hk_127 rfl rfl rfl (by rw [q_node, if_pos hk, hq]) rfl
theorem q_cnode3 {Z : Nat → Nat → Int32} {P : Nat → Nat} {L n : Nat} (hN : Z 132 3 = nI n) (hn : n ≤ 60) {key : Int32} : m_r 127 [.ref 131, .int key, .int 3] (hp Z P L) (some (.int (q_node Z n key 3))) (hp Z P L) := by
  cases hk : y_nm key with
  | false => exact q_node3_k hN hn hk
  | true =>
  cases hq : q_fd (q_c Z 8) key 0 n with
  | some j => exact q_node3_s hN hn hk hq
  | none => exact q_node3_n hN hn hk hq
theorem q_abt4 {Z : Nat → Nat → Int32} {P : Nat → Nat} {L n : Nat} (hN : Z 132 3 = nI n) (hn : n ≤ 60) {j : Nat} (hj : j < n) : m_r 126 [.ref 131, .int (nI j), .int 4] (hp Z P L) (some (.int (q_abt Z n j 4))) (hp Z P L) := by
  have hLL := q_LL Z j
  have hHH := q_HH Z hj
  refine m_of (ls := [.ref 131, .int (nI j), .int 4]) hk_126 rfl rfl rfl ?_
  refine e_go hk_126 7 (c := (80, [.ref 131, .int (nI j), .int 4], [.int (128 + (nI j)), .ref 132], hp Z P L)) rfl ?_
  rw [show (128 + (nI j)) = nI (128 + j) from (nI_add 128 j)]
  refine e_ald hk_126 (a := 132) (j := 128 + j) (n := 308) rfl rfl rfl (by omega) (by decide) ?_
  show e_r 126 81 [.ref 131, .int (nI j), .int 4] [.int (Z 132 (128 + j))] (hp Z P L) _ _
  exact e_ret hk_126 rfl rfl rfl rfl rfl
theorem q_node4_k {Z : Nat → Nat → Int32} {P : Nat → Nat} {L n : Nat} (hN : Z 132 3 = nI n) (hn : n ≤ 60) {key : Int32} (hk : y_nm key = false) : m_r 127 [.ref 131, .int key, .int 4] (hp Z P L) (some (.int (q_node Z n key 4))) (hp Z P L) := by
  refine m_of (ls := [.ref 131, .int key, .int 4, s_no]) hk_127 rfl rfl rfl ?_
  refine e_go hk_127 1 (c := (1, [.ref 131, .int key, .int 4, s_no], [.int key], hp Z P L)) rfl ?_
  refine e_call hk_127 (as := [.int key]) (rest := []) rfl rfl hk_94 rfl (Nat.le_of_ble_eq_true rfl) rfl q_key ?_
  show e_r 127 4 [.ref 131, .int key, .int 4, s_no] [.int (y_b (y_nm key))] (hp Z P L) _ _
  refine e_go hk_127 1 (c := (if s_cnd .eq (y_b (y_nm key)) 0 = true then 19 else 7, [.ref 131, .int key, .int 4, s_no], [], hp Z P L)) rfl ?_
  refine e_eq (a := 19) (b := 7) (x := y_b (y_nm key)) (y := 0) (fun hc4 => ?_) (fun hc4 => absurd (y_b0.mpr hk) hc4)
  refine e_go hk_127 1 (c := (21, [.ref 131, .int key, .int 4, s_no], [.int ((-2))], hp Z P L)) rfl ?_
  exact e_ret hk_127 rfl rfl rfl (by rw [q_node, if_neg (fun z => by rw [hk] at z; exact absurd z (by decide))]) rfl
theorem q_node4_n {Z : Nat → Nat → Int32} {P : Nat → Nat} {L n : Nat} (hN : Z 132 3 = nI n) (hn : n ≤ 60) {key : Int32} (hk : y_nm key = true) (hq : q_fd (q_c Z 8) key 0 n = none) : m_r 127 [.ref 131, .int key, .int 4] (hp Z P L) (some (.int (q_node Z n key 4))) (hp Z P L) := by
  refine m_of (ls := [.ref 131, .int key, .int 4, s_no]) hk_127 rfl rfl rfl ?_
  refine e_go hk_127 1 (c := (1, [.ref 131, .int key, .int 4, s_no], [.int key], hp Z P L)) rfl ?_
  refine e_call hk_127 (as := [.int key]) (rest := []) rfl rfl hk_94 rfl (Nat.le_of_ble_eq_true rfl) rfl q_key ?_
  show e_r 127 4 [.ref 131, .int key, .int 4, s_no] [.int (y_b (y_nm key))] (hp Z P L) _ _
  refine e_go hk_127 1 (c := (if s_cnd .eq (y_b (y_nm key)) 0 = true then 19 else 7, [.ref 131, .int key, .int 4, s_no], [], hp Z P L)) rfl ?_
  refine e_eq (a := 19) (b := 7) (x := y_b (y_nm key)) (y := 0) (fun hc4 => absurd hc4 (y_b1.mpr hk)) (fun hc4 => ?_)
  refine e_go hk_127 4 (c := (13, [.ref 131, .int key, .int 4, s_no], [.long 8, .long 0, .long ((4 : Int32).toInt64)], hp Z P L)) rfl ?_
  refine e_call hk_127 (as := [.long ((4 : Int32).toInt64), .long 0, .long 8]) (rest := []) rfl rfl hk_90 rfl (Nat.le_of_ble_eq_true rfl) rfl (q_in2 (x := 4) (lo := 0) (hi := 8) (by decide) (by decide) (by decide)) ?_
  show e_r 127 16 [.ref 131, .int key, .int 4, s_no] [.int (y_b (decide (0 ≤ 4 ∧ 4 ≤ 8)))] (hp Z P L) _ _
  refine e_go hk_127 1 (c := (if s_cnd .ne (y_b (decide (0 ≤ 4 ∧ 4 ≤ 8))) 0 = true then 22 else 19, [.ref 131, .int key, .int 4, s_no], [], hp Z P L)) rfl ?_
  refine e_ne (a := 22) (b := 19) (x := y_b (decide (0 ≤ 4 ∧ 4 ≤ 8))) (y := 0) (fun hc16 => ?_) (fun hc16 => absurd hc16 (by decide))
  refine e_go hk_127 2 (c := (24, [.ref 131, .int key, .int 4, s_no], [.int key, .ref 131], hp Z P L)) rfl ?_
  refine e_call hk_127 (as := [.ref 131, .int key]) (rest := []) rfl rfl hk_96 rfl (Nat.le_of_ble_eq_true rfl) rfl (q_find_n hN hn hq) ?_
  show e_r 127 27 [.ref 131, .int key, .int 4, s_no] [.int ((-6))] (hp Z P L) _ _
  refine e_go hk_127 4 (c := (if s_cnd .ne ((-6)) ((-6)) = true then 38 else 34, [.ref 131, .int key, .int 4, .int ((-6))], [], hp Z P L)) rfl ?_
  refine e_ne (a := 38) (b := 34) (x := (-6)) (y := (-6)) (fun hc31 => absurd (rfl) hc31) (fun hc31 => ?_)
  refine e_go hk_127 2 (c := (44, [.ref 131, .int key, .int 4, .int ((-6))], [.int ((-1))], hp Z P L)) rfl ?_
  exact e_ret hk_127 rfl rfl rfl (by rw [q_node, if_pos hk, hq]) rfl
theorem q_node4_s {Z : Nat → Nat → Int32} {P : Nat → Nat} {L n : Nat} (hN : Z 132 3 = nI n) (hn : n ≤ 60) {key : Int32} {j : Nat} (hk : y_nm key = true) (hq : q_fd (q_c Z 8) key 0 n = some j) : m_r 127 [.ref 131, .int key, .int 4] (hp Z P L) (some (.int (q_node Z n key 4))) (hp Z P L) := by
  have hj : j < n := by have := q_fd_lt hq; omega
  refine m_of (ls := [.ref 131, .int key, .int 4, s_no]) hk_127 rfl rfl rfl ?_
  refine e_go hk_127 1 (c := (1, [.ref 131, .int key, .int 4, s_no], [.int key], hp Z P L)) rfl ?_
  refine e_call hk_127 (as := [.int key]) (rest := []) rfl rfl hk_94 rfl (Nat.le_of_ble_eq_true rfl) rfl q_key ?_
  show e_r 127 4 [.ref 131, .int key, .int 4, s_no] [.int (y_b (y_nm key))] (hp Z P L) _ _
  refine e_go hk_127 1 (c := (if s_cnd .eq (y_b (y_nm key)) 0 = true then 19 else 7, [.ref 131, .int key, .int 4, s_no], [], hp Z P L)) rfl ?_
  refine e_eq (a := 19) (b := 7) (x := y_b (y_nm key)) (y := 0) (fun hc4 => absurd hc4 (y_b1.mpr hk)) (fun hc4 => ?_)
  refine e_go hk_127 4 (c := (13, [.ref 131, .int key, .int 4, s_no], [.long 8, .long 0, .long ((4 : Int32).toInt64)], hp Z P L)) rfl ?_
  refine e_call hk_127 (as := [.long ((4 : Int32).toInt64), .long 0, .long 8]) (rest := []) rfl rfl hk_90 rfl (Nat.le_of_ble_eq_true rfl) rfl (q_in2 (x := 4) (lo := 0) (hi := 8) (by decide) (by decide) (by decide)) ?_
  show e_r 127 16 [.ref 131, .int key, .int 4, s_no] [.int (y_b (decide (0 ≤ 4 ∧ 4 ≤ 8)))] (hp Z P L) _ _
  refine e_go hk_127 1 (c := (if s_cnd .ne (y_b (decide (0 ≤ 4 ∧ 4 ≤ 8))) 0 = true then 22 else 19, [.ref 131, .int key, .int 4, s_no], [], hp Z P L)) rfl ?_
  refine e_ne (a := 22) (b := 19) (x := y_b (decide (0 ≤ 4 ∧ 4 ≤ 8))) (y := 0) (fun hc16 => ?_) (fun hc16 => absurd hc16 (by decide))
  refine e_go hk_127 2 (c := (24, [.ref 131, .int key, .int 4, s_no], [.int key, .ref 131], hp Z P L)) rfl ?_
  refine e_call hk_127 (as := [.ref 131, .int key]) (rest := []) rfl rfl hk_96 rfl (Nat.le_of_ble_eq_true rfl) rfl (q_find_s hN hn hq) ?_
  show e_r 127 27 [.ref 131, .int key, .int 4, s_no] [.int (nI j)] (hp Z P L) _ _
  refine e_go hk_127 4 (c := (if s_cnd .ne (nI j) ((-6)) = true then 38 else 34, [.ref 131, .int key, .int 4, .int (nI j)], [], hp Z P L)) rfl ?_
  refine e_ne (a := 38) (b := 34) (x := nI j) (y := (-6)) (fun hc31 => ?_) (fun hc31 => absurd hc31 (q_ne6 (by omega)))
  refine e_go hk_127 3 (c := (41, [.ref 131, .int key, .int 4, .int (nI j)], [.int 4, .int (nI j), .ref 131], hp Z P L)) rfl ?_
  refine e_call hk_127 (as := [.ref 131, .int (nI j), .int 4]) (rest := []) rfl rfl hk_126 rfl (Nat.le_of_ble_eq_true rfl) rfl (q_abt4 hN hn hj) ?_
  show e_r 127 44 [.ref 131, .int key, .int 4, .int (nI j)] [.int (q_abt Z n j 4)] (hp Z P L) _ _
  exact e_ret hk_127 rfl rfl rfl (by rw [q_node, if_pos hk, hq]) rfl
theorem q_cnode4 {Z : Nat → Nat → Int32} {P : Nat → Nat} {L n : Nat} (hN : Z 132 3 = nI n) (hn : n ≤ 60) {key : Int32} : m_r 127 [.ref 131, .int key, .int 4] (hp Z P L) (some (.int (q_node Z n key 4))) (hp Z P L) := by
  cases hk : y_nm key with
  | false => exact q_node4_k hN hn hk
  | true =>
  cases hq : q_fd (q_c Z 8) key 0 n with
  | some j => exact q_node4_s hN hn hk hq
  | none => exact q_node4_n hN hn hk hq
theorem q_abt5 {Z : Nat → Nat → Int32} {P : Nat → Nat} {L n : Nat} (hN : Z 132 3 = nI n) (hn : n ≤ 60) {j : Nat} (hj : j < n) : m_r 126 [.ref 131, .int (nI j), .int 5] (hp Z P L) (some (.int (q_abt Z n j 5))) (hp Z P L) := by
  have hLL := q_LL Z j
  have hHH := q_HH Z hj
  refine m_of (ls := [.ref 131, .int (nI j), .int 5]) hk_126 rfl rfl rfl ?_
  refine e_go hk_126 7 (c := (91, [.ref 131, .int (nI j), .int 5], [.int (188 + (nI j)), .ref 132], hp Z P L)) rfl ?_
  rw [show (188 + (nI j)) = nI (188 + j) from (nI_add 188 j)]
  refine e_ald hk_126 (a := 132) (j := 188 + j) (n := 308) rfl rfl rfl (by omega) (by decide) ?_
  show e_r 126 92 [.ref 131, .int (nI j), .int 5] [.int (Z 132 (188 + j))] (hp Z P L) _ _
  exact e_ret hk_126 rfl rfl rfl rfl rfl
theorem q_node5_k {Z : Nat → Nat → Int32} {P : Nat → Nat} {L n : Nat} (hN : Z 132 3 = nI n) (hn : n ≤ 60) {key : Int32} (hk : y_nm key = false) : m_r 127 [.ref 131, .int key, .int 5] (hp Z P L) (some (.int (q_node Z n key 5))) (hp Z P L) := by
  refine m_of (ls := [.ref 131, .int key, .int 5, s_no]) hk_127 rfl rfl rfl ?_
  refine e_go hk_127 1 (c := (1, [.ref 131, .int key, .int 5, s_no], [.int key], hp Z P L)) rfl ?_
  refine e_call hk_127 (as := [.int key]) (rest := []) rfl rfl hk_94 rfl (Nat.le_of_ble_eq_true rfl) rfl q_key ?_
  show e_r 127 4 [.ref 131, .int key, .int 5, s_no] [.int (y_b (y_nm key))] (hp Z P L) _ _
  refine e_go hk_127 1 (c := (if s_cnd .eq (y_b (y_nm key)) 0 = true then 19 else 7, [.ref 131, .int key, .int 5, s_no], [], hp Z P L)) rfl ?_
  refine e_eq (a := 19) (b := 7) (x := y_b (y_nm key)) (y := 0) (fun hc4 => ?_) (fun hc4 => absurd (y_b0.mpr hk) hc4)
  refine e_go hk_127 1 (c := (21, [.ref 131, .int key, .int 5, s_no], [.int ((-2))], hp Z P L)) rfl ?_
  exact e_ret hk_127 rfl rfl rfl (by rw [q_node, if_neg (fun z => by rw [hk] at z; exact absurd z (by decide))]) rfl
theorem q_node5_n {Z : Nat → Nat → Int32} {P : Nat → Nat} {L n : Nat} (hN : Z 132 3 = nI n) (hn : n ≤ 60) {key : Int32} (hk : y_nm key = true) (hq : q_fd (q_c Z 8) key 0 n = none) : m_r 127 [.ref 131, .int key, .int 5] (hp Z P L) (some (.int (q_node Z n key 5))) (hp Z P L) := by
  refine m_of (ls := [.ref 131, .int key, .int 5, s_no]) hk_127 rfl rfl rfl ?_
  refine e_go hk_127 1 (c := (1, [.ref 131, .int key, .int 5, s_no], [.int key], hp Z P L)) rfl ?_
  refine e_call hk_127 (as := [.int key]) (rest := []) rfl rfl hk_94 rfl (Nat.le_of_ble_eq_true rfl) rfl q_key ?_
  show e_r 127 4 [.ref 131, .int key, .int 5, s_no] [.int (y_b (y_nm key))] (hp Z P L) _ _
  refine e_go hk_127 1 (c := (if s_cnd .eq (y_b (y_nm key)) 0 = true then 19 else 7, [.ref 131, .int key, .int 5, s_no], [], hp Z P L)) rfl ?_
  refine e_eq (a := 19) (b := 7) (x := y_b (y_nm key)) (y := 0) (fun hc4 => absurd hc4 (y_b1.mpr hk)) (fun hc4 => ?_)
  refine e_go hk_127 4 (c := (13, [.ref 131, .int key, .int 5, s_no], [.long 8, .long 0, .long ((5 : Int32).toInt64)], hp Z P L)) rfl ?_
  refine e_call hk_127 (as := [.long ((5 : Int32).toInt64), .long 0, .long 8]) (rest := []) rfl rfl hk_90 rfl (Nat.le_of_ble_eq_true rfl) rfl (q_in2 (x := 5) (lo := 0) (hi := 8) (by decide) (by decide) (by decide)) ?_
  show e_r 127 16 [.ref 131, .int key, .int 5, s_no] [.int (y_b (decide (0 ≤ 5 ∧ 5 ≤ 8)))] (hp Z P L) _ _
  refine e_go hk_127 1 (c := (if s_cnd .ne (y_b (decide (0 ≤ 5 ∧ 5 ≤ 8))) 0 = true then 22 else 19, [.ref 131, .int key, .int 5, s_no], [], hp Z P L)) rfl ?_
  refine e_ne (a := 22) (b := 19) (x := y_b (decide (0 ≤ 5 ∧ 5 ≤ 8))) (y := 0) (fun hc16 => ?_) (fun hc16 => absurd hc16 (by decide))
  refine e_go hk_127 2 (c := (24, [.ref 131, .int key, .int 5, s_no], [.int key, .ref 131], hp Z P L)) rfl ?_
  refine e_call hk_127 (as := [.ref 131, .int key]) (rest := []) rfl rfl hk_96 rfl (Nat.le_of_ble_eq_true rfl) rfl (q_find_n hN hn hq) ?_
  show e_r 127 27 [.ref 131, .int key, .int 5, s_no] [.int ((-6))] (hp Z P L) _ _
  refine e_go hk_127 4 (c := (if s_cnd .ne ((-6)) ((-6)) = true then 38 else 34, [.ref 131, .int key, .int 5, .int ((-6))], [], hp Z P L)) rfl ?_
  refine e_ne (a := 38) (b := 34) (x := (-6)) (y := (-6)) (fun hc31 => absurd (rfl) hc31) (fun hc31 => ?_)
  refine e_go hk_127 2 (c := (44, [.ref 131, .int key, .int 5, .int ((-6))], [.int ((-1))], hp Z P L)) rfl ?_
  exact e_ret hk_127 rfl rfl rfl (by rw [q_node, if_pos hk, hq]) rfl
theorem q_node5_s {Z : Nat → Nat → Int32} {P : Nat → Nat} {L n : Nat} (hN : Z 132 3 = nI n) (hn : n ≤ 60) {key : Int32} {j : Nat} (hk : y_nm key = true) (hq : q_fd (q_c Z 8) key 0 n = some j) : m_r 127 [.ref 131, .int key, .int 5] (hp Z P L) (some (.int (q_node Z n key 5))) (hp Z P L) := by
  have hj : j < n := by have := q_fd_lt hq; omega
  refine m_of (ls := [.ref 131, .int key, .int 5, s_no]) hk_127 rfl rfl rfl ?_
  refine e_go hk_127 1 (c := (1, [.ref 131, .int key, .int 5, s_no], [.int key], hp Z P L)) rfl ?_
  refine e_call hk_127 (as := [.int key]) (rest := []) rfl rfl hk_94 rfl (Nat.le_of_ble_eq_true rfl) rfl q_key ?_
  show e_r 127 4 [.ref 131, .int key, .int 5, s_no] [.int (y_b (y_nm key))] (hp Z P L) _ _
  refine e_go hk_127 1 (c := (if s_cnd .eq (y_b (y_nm key)) 0 = true then 19 else 7, [.ref 131, .int key, .int 5, s_no], [], hp Z P L)) rfl ?_
  refine e_eq (a := 19) (b := 7) (x := y_b (y_nm key)) (y := 0) (fun hc4 => absurd hc4 (y_b1.mpr hk)) (fun hc4 => ?_)
  refine e_go hk_127 4 (c := (13, [.ref 131, .int key, .int 5, s_no], [.long 8, .long 0, .long ((5 : Int32).toInt64)], hp Z P L)) rfl ?_
  refine e_call hk_127 (as := [.long ((5 : Int32).toInt64), .long 0, .long 8]) (rest := []) rfl rfl hk_90 rfl (Nat.le_of_ble_eq_true rfl) rfl (q_in2 (x := 5) (lo := 0) (hi := 8) (by decide) (by decide) (by decide)) ?_
  show e_r 127 16 [.ref 131, .int key, .int 5, s_no] [.int (y_b (decide (0 ≤ 5 ∧ 5 ≤ 8)))] (hp Z P L) _ _
  refine e_go hk_127 1 (c := (if s_cnd .ne (y_b (decide (0 ≤ 5 ∧ 5 ≤ 8))) 0 = true then 22 else 19, [.ref 131, .int key, .int 5, s_no], [], hp Z P L)) rfl ?_
  refine e_ne (a := 22) (b := 19) (x := y_b (decide (0 ≤ 5 ∧ 5 ≤ 8))) (y := 0) (fun hc16 => ?_) (fun hc16 => absurd hc16 (by decide))
  refine e_go hk_127 2 (c := (24, [.ref 131, .int key, .int 5, s_no], [.int key, .ref 131], hp Z P L)) rfl ?_
  refine e_call hk_127 (as := [.ref 131, .int key]) (rest := []) rfl rfl hk_96 rfl (Nat.le_of_ble_eq_true rfl) rfl (q_find_s hN hn hq) ?_
  show e_r 127 27 [.ref 131, .int key, .int 5, s_no] [.int (nI j)] (hp Z P L) _ _
  refine e_go hk_127 4 (c := (if s_cnd .ne (nI j) ((-6)) = true then 38 else 34, [.ref 131, .int key, .int 5, .int (nI j)], [], hp Z P L)) rfl ?_
  refine e_ne (a := 38) (b := 34) (x := nI j) (y := (-6)) (fun hc31 => ?_) (fun hc31 => absurd hc31 (q_ne6 (by omega)))
  refine e_go hk_127 3 (c := (41, [.ref 131, .int key, .int 5, .int (nI j)], [.int 5, .int (nI j), .ref 131], hp Z P L)) rfl ?_
  refine e_call hk_127 (as := [.ref 131, .int (nI j), .int 5]) (rest := []) rfl rfl hk_126 rfl (Nat.le_of_ble_eq_true rfl) rfl (q_abt5 hN hn hj) ?_
  show e_r 127 44 [.ref 131, .int key, .int 5, .int (nI j)] [.int (q_abt Z n j 5)] (hp Z P L) _ _
  exact e_ret hk_127 rfl rfl rfl (by rw [q_node, if_pos hk, hq]) rfl
theorem q_cnode5 {Z : Nat → Nat → Int32} {P : Nat → Nat} {L n : Nat} (hN : Z 132 3 = nI n) (hn : n ≤ 60) {key : Int32} : m_r 127 [.ref 131, .int key, .int 5] (hp Z P L) (some (.int (q_node Z n key 5))) (hp Z P L) := by
  cases hk : y_nm key with
  | false => exact q_node5_k hN hn hk
  | true =>
  cases hq : q_fd (q_c Z 8) key 0 n with
  | some j => exact q_node5_s hN hn hk hq
  | none => exact q_node5_n hN hn hk hq
theorem q_abt6 {Z : Nat → Nat → Int32} {P : Nat → Nat} {L n : Nat} (hN : Z 132 3 = nI n) (hn : n ≤ 60) {j : Nat} (hj : j < n) : m_r 126 [.ref 131, .int (nI j), .int 6] (hp Z P L) (some (.int (q_abt Z n j 6))) (hp Z P L) := by
  have hLL := q_LL Z j
  have hHH := q_HH Z hj
  refine m_of (ls := [.ref 131, .int (nI j), .int 6]) hk_126 rfl rfl rfl ?_
  refine e_go hk_126 6 (c := (99, [.ref 131, .int (nI j), .int 6], [.int (nI j), .ref 131, .int 188, .ref 131], hp Z P L)) rfl ?_
  refine e_call hk_126 (as := [.ref 131, .int (nI j)]) (rest := [.int 188, .ref 131]) rfl rfl hk_97 rfl (Nat.le_of_ble_eq_true rfl) rfl (q_first (j := j) (by omega)) ?_
  show e_r 126 102 [.ref 131, .int (nI j), .int 6] [.int (nI (q_L Z j)), .int 188, .ref 131] (hp Z P L) _ _
  refine e_go hk_126 2 (c := (104, [.ref 131, .int (nI j), .int 6], [.int (nI j), .ref 131, .int (nI (q_L Z j)), .int 188, .ref 131], hp Z P L)) rfl ?_
  refine e_call hk_126 (as := [.ref 131, .int (nI j)]) (rest := [.int (nI (q_L Z j)), .int 188, .ref 131]) rfl rfl hk_98 rfl (Nat.le_of_ble_eq_true rfl) rfl (q_last hN hn (j := j) (by omega)) ?_
  show e_r 126 107 [.ref 131, .int (nI j), .int 6] [.int (nI (q_H Z n j)), .int (nI (q_L Z j)), .int 188, .ref 131] (hp Z P L) _ _
  refine e_call hk_126 (as := [.ref 131, .int 188, .int (nI (q_L Z j)), .int (nI (q_H Z n j))]) (rest := []) rfl rfl hk_105 rfl (Nat.le_of_ble_eq_true rfl) rfl (q_sumof (b := 188) (l := q_L Z j) (u := q_H Z n j + 1) (by decide) (by omega) (by omega) (nI_pred _).symm) ?_
  show e_r 126 110 [.ref 131, .int (nI j), .int 6] [.int (t_sm (q_c Z 188) (q_L Z j) (q_H Z n j + 1 - q_L Z j) 0)] (hp Z P L) _ _
  exact e_ret hk_126 rfl rfl rfl rfl rfl
theorem q_node6_k {Z : Nat → Nat → Int32} {P : Nat → Nat} {L n : Nat} (hN : Z 132 3 = nI n) (hn : n ≤ 60) {key : Int32} (hk : y_nm key = false) : m_r 127 [.ref 131, .int key, .int 6] (hp Z P L) (some (.int (q_node Z n key 6))) (hp Z P L) := by
  refine m_of (ls := [.ref 131, .int key, .int 6, s_no]) hk_127 rfl rfl rfl ?_
  refine e_go hk_127 1 (c := (1, [.ref 131, .int key, .int 6, s_no], [.int key], hp Z P L)) rfl ?_
  refine e_call hk_127 (as := [.int key]) (rest := []) rfl rfl hk_94 rfl (Nat.le_of_ble_eq_true rfl) rfl q_key ?_
  show e_r 127 4 [.ref 131, .int key, .int 6, s_no] [.int (y_b (y_nm key))] (hp Z P L) _ _
  refine e_go hk_127 1 (c := (if s_cnd .eq (y_b (y_nm key)) 0 = true then 19 else 7, [.ref 131, .int key, .int 6, s_no], [], hp Z P L)) rfl ?_
  refine e_eq (a := 19) (b := 7) (x := y_b (y_nm key)) (y := 0) (fun hc4 => ?_) (fun hc4 => absurd (y_b0.mpr hk) hc4)
  refine e_go hk_127 1 (c := (21, [.ref 131, .int key, .int 6, s_no], [.int ((-2))], hp Z P L)) rfl ?_
  exact e_ret hk_127 rfl rfl rfl (by rw [q_node, if_neg (fun z => by rw [hk] at z; exact absurd z (by decide))]) rfl
theorem q_node6_n {Z : Nat → Nat → Int32} {P : Nat → Nat} {L n : Nat} (hN : Z 132 3 = nI n) (hn : n ≤ 60) {key : Int32} (hk : y_nm key = true) (hq : q_fd (q_c Z 8) key 0 n = none) : m_r 127 [.ref 131, .int key, .int 6] (hp Z P L) (some (.int (q_node Z n key 6))) (hp Z P L) := by
  refine m_of (ls := [.ref 131, .int key, .int 6, s_no]) hk_127 rfl rfl rfl ?_
  refine e_go hk_127 1 (c := (1, [.ref 131, .int key, .int 6, s_no], [.int key], hp Z P L)) rfl ?_
  refine e_call hk_127 (as := [.int key]) (rest := []) rfl rfl hk_94 rfl (Nat.le_of_ble_eq_true rfl) rfl q_key ?_
  show e_r 127 4 [.ref 131, .int key, .int 6, s_no] [.int (y_b (y_nm key))] (hp Z P L) _ _
  refine e_go hk_127 1 (c := (if s_cnd .eq (y_b (y_nm key)) 0 = true then 19 else 7, [.ref 131, .int key, .int 6, s_no], [], hp Z P L)) rfl ?_
  refine e_eq (a := 19) (b := 7) (x := y_b (y_nm key)) (y := 0) (fun hc4 => absurd hc4 (y_b1.mpr hk)) (fun hc4 => ?_)
  refine e_go hk_127 4 (c := (13, [.ref 131, .int key, .int 6, s_no], [.long 8, .long 0, .long ((6 : Int32).toInt64)], hp Z P L)) rfl ?_
  refine e_call hk_127 (as := [.long ((6 : Int32).toInt64), .long 0, .long 8]) (rest := []) rfl rfl hk_90 rfl (Nat.le_of_ble_eq_true rfl) rfl (q_in2 (x := 6) (lo := 0) (hi := 8) (by decide) (by decide) (by decide)) ?_
  show e_r 127 16 [.ref 131, .int key, .int 6, s_no] [.int (y_b (decide (0 ≤ 6 ∧ 6 ≤ 8)))] (hp Z P L) _ _
  refine e_go hk_127 1 (c := (if s_cnd .ne (y_b (decide (0 ≤ 6 ∧ 6 ≤ 8))) 0 = true then 22 else 19, [.ref 131, .int key, .int 6, s_no], [], hp Z P L)) rfl ?_
  refine e_ne (a := 22) (b := 19) (x := y_b (decide (0 ≤ 6 ∧ 6 ≤ 8))) (y := 0) (fun hc16 => ?_) (fun hc16 => absurd hc16 (by decide))
  refine e_go hk_127 2 (c := (24, [.ref 131, .int key, .int 6, s_no], [.int key, .ref 131], hp Z P L)) rfl ?_
  refine e_call hk_127 (as := [.ref 131, .int key]) (rest := []) rfl rfl hk_96 rfl (Nat.le_of_ble_eq_true rfl) rfl (q_find_n hN hn hq) ?_
  show e_r 127 27 [.ref 131, .int key, .int 6, s_no] [.int ((-6))] (hp Z P L) _ _
  refine e_go hk_127 4 (c := (if s_cnd .ne ((-6)) ((-6)) = true then 38 else 34, [.ref 131, .int key, .int 6, .int ((-6))], [], hp Z P L)) rfl ?_
  refine e_ne (a := 38) (b := 34) (x := (-6)) (y := (-6)) (fun hc31 => absurd (rfl) hc31) (fun hc31 => ?_)
  refine e_go hk_127 2 (c := (44, [.ref 131, .int key, .int 6, .int ((-6))], [.int ((-1))], hp Z P L)) rfl ?_
  exact e_ret hk_127 rfl rfl rfl (by rw [q_node, if_pos hk, hq]) rfl
theorem q_node6_s {Z : Nat → Nat → Int32} {P : Nat → Nat} {L n : Nat} (hN : Z 132 3 = nI n) (hn : n ≤ 60) {key : Int32} {j : Nat} (hk : y_nm key = true) (hq : q_fd (q_c Z 8) key 0 n = some j) : m_r 127 [.ref 131, .int key, .int 6] (hp Z P L) (some (.int (q_node Z n key 6))) (hp Z P L) := by
  have hj : j < n := by have := q_fd_lt hq; omega
  refine m_of (ls := [.ref 131, .int key, .int 6, s_no]) hk_127 rfl rfl rfl ?_
  refine e_go hk_127 1 (c := (1, [.ref 131, .int key, .int 6, s_no], [.int key], hp Z P L)) rfl ?_
  refine e_call hk_127 (as := [.int key]) (rest := []) rfl rfl hk_94 rfl (Nat.le_of_ble_eq_true rfl) rfl q_key ?_
  show e_r 127 4 [.ref 131, .int key, .int 6, s_no] [.int (y_b (y_nm key))] (hp Z P L) _ _
  refine e_go hk_127 1 (c := (if s_cnd .eq (y_b (y_nm key)) 0 = true then 19 else 7, [.ref 131, .int key, .int 6, s_no], [], hp Z P L)) rfl ?_
  refine e_eq (a := 19) (b := 7) (x := y_b (y_nm key)) (y := 0) (fun hc4 => absurd hc4 (y_b1.mpr hk)) (fun hc4 => ?_)
  refine e_go hk_127 4 (c := (13, [.ref 131, .int key, .int 6, s_no], [.long 8, .long 0, .long ((6 : Int32).toInt64)], hp Z P L)) rfl ?_
  refine e_call hk_127 (as := [.long ((6 : Int32).toInt64), .long 0, .long 8]) (rest := []) rfl rfl hk_90 rfl (Nat.le_of_ble_eq_true rfl) rfl (q_in2 (x := 6) (lo := 0) (hi := 8) (by decide) (by decide) (by decide)) ?_
  show e_r 127 16 [.ref 131, .int key, .int 6, s_no] [.int (y_b (decide (0 ≤ 6 ∧ 6 ≤ 8)))] (hp Z P L) _ _
  refine e_go hk_127 1 (c := (if s_cnd .ne (y_b (decide (0 ≤ 6 ∧ 6 ≤ 8))) 0 = true then 22 else 19, [.ref 131, .int key, .int 6, s_no], [], hp Z P L)) rfl ?_
  refine e_ne (a := 22) (b := 19) (x := y_b (decide (0 ≤ 6 ∧ 6 ≤ 8))) (y := 0) (fun hc16 => ?_) (fun hc16 => absurd hc16 (by decide))
  refine e_go hk_127 2 (c := (24, [.ref 131, .int key, .int 6, s_no], [.int key, .ref 131], hp Z P L)) rfl ?_
  refine e_call hk_127 (as := [.ref 131, .int key]) (rest := []) rfl rfl hk_96 rfl (Nat.le_of_ble_eq_true rfl) rfl (q_find_s hN hn hq) ?_
  show e_r 127 27 [.ref 131, .int key, .int 6, s_no] [.int (nI j)] (hp Z P L) _ _
  refine e_go hk_127 4 (c := (if s_cnd .ne (nI j) ((-6)) = true then 38 else 34, [.ref 131, .int key, .int 6, .int (nI j)], [], hp Z P L)) rfl ?_
  refine e_ne (a := 38) (b := 34) (x := nI j) (y := (-6)) (fun hc31 => ?_) (fun hc31 => absurd hc31 (q_ne6 (by omega)))
  refine e_go hk_127 3 (c := (41, [.ref 131, .int key, .int 6, .int (nI j)], [.int 6, .int (nI j), .ref 131], hp Z P L)) rfl ?_
  refine e_call hk_127 (as := [.ref 131, .int (nI j), .int 6]) (rest := []) rfl rfl hk_126 rfl (Nat.le_of_ble_eq_true rfl) rfl (q_abt6 hN hn hj) ?_
  show e_r 127 44 [.ref 131, .int key, .int 6, .int (nI j)] [.int (q_abt Z n j 6)] (hp Z P L) _ _
  exact e_ret hk_127 rfl rfl rfl (by rw [q_node, if_pos hk, hq]) rfl
theorem q_cnode6 {Z : Nat → Nat → Int32} {P : Nat → Nat} {L n : Nat} (hN : Z 132 3 = nI n) (hn : n ≤ 60) {key : Int32} : m_r 127 [.ref 131, .int key, .int 6] (hp Z P L) (some (.int (q_node Z n key 6))) (hp Z P L) := by
  cases hk : y_nm key with
  | false => exact q_node6_k hN hn hk
  | true =>
  cases hq : q_fd (q_c Z 8) key 0 n with
  | some j => exact q_node6_s hN hn hk hq
  | none => exact q_node6_n hN hn hk hq
theorem q_abt7 {Z : Nat → Nat → Int32} {P : Nat → Nat} {L n : Nat} (hN : Z 132 3 = nI n) (hn : n ≤ 60) {j : Nat} (hj : j < n) : m_r 126 [.ref 131, .int (nI j), .int 7] (hp Z P L) (some (.int (q_abt Z n j 7))) (hp Z P L) := by
  have hLL := q_LL Z j
  have hHH := q_HH Z hj
  refine m_of (ls := [.ref 131, .int (nI j), .int 7]) hk_126 rfl rfl rfl ?_
  refine e_go hk_126 4 (c := (113, [.ref 131, .int (nI j), .int 7], [.int (nI j), .ref 131], hp Z P L)) rfl ?_
  refine e_call hk_126 (as := [.ref 131, .int (nI j)]) (rest := []) rfl rfl hk_104 rfl (Nat.le_of_ble_eq_true rfl) rfl (q_leans hN hn (j := j) hj) ?_
  show e_r 126 116 [.ref 131, .int (nI j), .int 7] [.int (y_b (q_ln Z n j))] (hp Z P L) _ _
  refine e_go hk_126 1 (c := (if s_cnd .eq (y_b (q_ln Z n j)) 0 = true then 123 else 119, [.ref 131, .int (nI j), .int 7], [], hp Z P L)) rfl ?_
  refine e_eq (a := 123) (b := 119) (x := y_b (q_ln Z n j)) (y := 0) (fun hc116 => ?_) (fun hc116 => ?_)
  · skip
    rw [y_b0] at hc116
    refine e_go hk_126 1 (c := (124, [.ref 131, .int (nI j), .int 7], [.int 0], hp Z P L)) rfl ?_
    exact e_ret hk_126 rfl rfl rfl (by rw [q_abt, hc116]; rfl) rfl
  · skip
    rw [y_b1] at hc116
    refine e_go hk_126 2 (c := (124, [.ref 131, .int (nI j), .int 7], [.int 1], hp Z P L)) rfl ?_
    exact e_ret hk_126 rfl rfl rfl (by rw [q_abt, hc116]; rfl) rfl
theorem q_node7_k {Z : Nat → Nat → Int32} {P : Nat → Nat} {L n : Nat} (hN : Z 132 3 = nI n) (hn : n ≤ 60) {key : Int32} (hk : y_nm key = false) : m_r 127 [.ref 131, .int key, .int 7] (hp Z P L) (some (.int (q_node Z n key 7))) (hp Z P L) := by
  refine m_of (ls := [.ref 131, .int key, .int 7, s_no]) hk_127 rfl rfl rfl ?_
  refine e_go hk_127 1 (c := (1, [.ref 131, .int key, .int 7, s_no], [.int key], hp Z P L)) rfl ?_
  refine e_call hk_127 (as := [.int key]) (rest := []) rfl rfl hk_94 rfl (Nat.le_of_ble_eq_true rfl) rfl q_key ?_
  show e_r 127 4 [.ref 131, .int key, .int 7, s_no] [.int (y_b (y_nm key))] (hp Z P L) _ _
  refine e_go hk_127 1 (c := (if s_cnd .eq (y_b (y_nm key)) 0 = true then 19 else 7, [.ref 131, .int key, .int 7, s_no], [], hp Z P L)) rfl ?_
  refine e_eq (a := 19) (b := 7) (x := y_b (y_nm key)) (y := 0) (fun hc4 => ?_) (fun hc4 => absurd (y_b0.mpr hk) hc4)
  refine e_go hk_127 1 (c := (21, [.ref 131, .int key, .int 7, s_no], [.int ((-2))], hp Z P L)) rfl ?_
  exact e_ret hk_127 rfl rfl rfl (by rw [q_node, if_neg (fun z => by rw [hk] at z; exact absurd z (by decide))]) rfl
theorem q_node7_n {Z : Nat → Nat → Int32} {P : Nat → Nat} {L n : Nat} (hN : Z 132 3 = nI n) (hn : n ≤ 60) {key : Int32} (hk : y_nm key = true) (hq : q_fd (q_c Z 8) key 0 n = none) : m_r 127 [.ref 131, .int key, .int 7] (hp Z P L) (some (.int (q_node Z n key 7))) (hp Z P L) := by
  refine m_of (ls := [.ref 131, .int key, .int 7, s_no]) hk_127 rfl rfl rfl ?_
  refine e_go hk_127 1 (c := (1, [.ref 131, .int key, .int 7, s_no], [.int key], hp Z P L)) rfl ?_
  refine e_call hk_127 (as := [.int key]) (rest := []) rfl rfl hk_94 rfl (Nat.le_of_ble_eq_true rfl) rfl q_key ?_
  show e_r 127 4 [.ref 131, .int key, .int 7, s_no] [.int (y_b (y_nm key))] (hp Z P L) _ _
  refine e_go hk_127 1 (c := (if s_cnd .eq (y_b (y_nm key)) 0 = true then 19 else 7, [.ref 131, .int key, .int 7, s_no], [], hp Z P L)) rfl ?_
  refine e_eq (a := 19) (b := 7) (x := y_b (y_nm key)) (y := 0) (fun hc4 => absurd hc4 (y_b1.mpr hk)) (fun hc4 => ?_)
  refine e_go hk_127 4 (c := (13, [.ref 131, .int key, .int 7, s_no], [.long 8, .long 0, .long ((7 : Int32).toInt64)], hp Z P L)) rfl ?_
  refine e_call hk_127 (as := [.long ((7 : Int32).toInt64), .long 0, .long 8]) (rest := []) rfl rfl hk_90 rfl (Nat.le_of_ble_eq_true rfl) rfl (q_in2 (x := 7) (lo := 0) (hi := 8) (by decide) (by decide) (by decide)) ?_
  show e_r 127 16 [.ref 131, .int key, .int 7, s_no] [.int (y_b (decide (0 ≤ 7 ∧ 7 ≤ 8)))] (hp Z P L) _ _
  refine e_go hk_127 1 (c := (if s_cnd .ne (y_b (decide (0 ≤ 7 ∧ 7 ≤ 8))) 0 = true then 22 else 19, [.ref 131, .int key, .int 7, s_no], [], hp Z P L)) rfl ?_
  refine e_ne (a := 22) (b := 19) (x := y_b (decide (0 ≤ 7 ∧ 7 ≤ 8))) (y := 0) (fun hc16 => ?_) (fun hc16 => absurd hc16 (by decide))
  refine e_go hk_127 2 (c := (24, [.ref 131, .int key, .int 7, s_no], [.int key, .ref 131], hp Z P L)) rfl ?_
  refine e_call hk_127 (as := [.ref 131, .int key]) (rest := []) rfl rfl hk_96 rfl (Nat.le_of_ble_eq_true rfl) rfl (q_find_n hN hn hq) ?_
  show e_r 127 27 [.ref 131, .int key, .int 7, s_no] [.int ((-6))] (hp Z P L) _ _
  refine e_go hk_127 4 (c := (if s_cnd .ne ((-6)) ((-6)) = true then 38 else 34, [.ref 131, .int key, .int 7, .int ((-6))], [], hp Z P L)) rfl ?_
  refine e_ne (a := 38) (b := 34) (x := (-6)) (y := (-6)) (fun hc31 => absurd (rfl) hc31) (fun hc31 => ?_)
  refine e_go hk_127 2 (c := (44, [.ref 131, .int key, .int 7, .int ((-6))], [.int ((-1))], hp Z P L)) rfl ?_
  exact e_ret hk_127 rfl rfl rfl (by rw [q_node, if_pos hk, hq]) rfl
theorem q_node7_s {Z : Nat → Nat → Int32} {P : Nat → Nat} {L n : Nat} (hN : Z 132 3 = nI n) (hn : n ≤ 60) {key : Int32} {j : Nat} (hk : y_nm key = true) (hq : q_fd (q_c Z 8) key 0 n = some j) : m_r 127 [.ref 131, .int key, .int 7] (hp Z P L) (some (.int (q_node Z n key 7))) (hp Z P L) := by
  have hj : j < n := by have := q_fd_lt hq; omega
  refine m_of (ls := [.ref 131, .int key, .int 7, s_no]) hk_127 rfl rfl rfl ?_
  refine e_go hk_127 1 (c := (1, [.ref 131, .int key, .int 7, s_no], [.int key], hp Z P L)) rfl ?_
  refine e_call hk_127 (as := [.int key]) (rest := []) rfl rfl hk_94 rfl (Nat.le_of_ble_eq_true rfl) rfl q_key ?_
  show e_r 127 4 [.ref 131, .int key, .int 7, s_no] [.int (y_b (y_nm key))] (hp Z P L) _ _
  refine e_go hk_127 1 (c := (if s_cnd .eq (y_b (y_nm key)) 0 = true then 19 else 7, [.ref 131, .int key, .int 7, s_no], [], hp Z P L)) rfl ?_
  refine e_eq (a := 19) (b := 7) (x := y_b (y_nm key)) (y := 0) (fun hc4 => absurd hc4 (y_b1.mpr hk)) (fun hc4 => ?_)
  refine e_go hk_127 4 (c := (13, [.ref 131, .int key, .int 7, s_no], [.long 8, .long 0, .long ((7 : Int32).toInt64)], hp Z P L)) rfl ?_
  refine e_call hk_127 (as := [.long ((7 : Int32).toInt64), .long 0, .long 8]) (rest := []) rfl rfl hk_90 rfl (Nat.le_of_ble_eq_true rfl) rfl (q_in2 (x := 7) (lo := 0) (hi := 8) (by decide) (by decide) (by decide)) ?_
  show e_r 127 16 [.ref 131, .int key, .int 7, s_no] [.int (y_b (decide (0 ≤ 7 ∧ 7 ≤ 8)))] (hp Z P L) _ _
  refine e_go hk_127 1 (c := (if s_cnd .ne (y_b (decide (0 ≤ 7 ∧ 7 ≤ 8))) 0 = true then 22 else 19, [.ref 131, .int key, .int 7, s_no], [], hp Z P L)) rfl ?_
  refine e_ne (a := 22) (b := 19) (x := y_b (decide (0 ≤ 7 ∧ 7 ≤ 8))) (y := 0) (fun hc16 => ?_) (fun hc16 => absurd hc16 (by decide))
  refine e_go hk_127 2 (c := (24, [.ref 131, .int key, .int 7, s_no], [.int key, .ref 131], hp Z P L)) rfl ?_
  refine e_call hk_127 (as := [.ref 131, .int key]) (rest := []) rfl rfl hk_96 rfl (Nat.le_of_ble_eq_true rfl) rfl (q_find_s hN hn hq) ?_
  show e_r 127 27 [.ref 131, .int key, .int 7, s_no] [.int (nI j)] (hp Z P L) _ _
  refine e_go hk_127 4 (c := (if s_cnd .ne (nI j) ((-6)) = true then 38 else 34, [.ref 131, .int key, .int 7, .int (nI j)], [], hp Z P L)) rfl ?_
  refine e_ne (a := 38) (b := 34) (x := nI j) (y := (-6)) (fun hc31 => ?_) (fun hc31 => absurd hc31 (q_ne6 (by omega)))
  refine e_go hk_127 3 (c := (41, [.ref 131, .int key, .int 7, .int (nI j)], [.int 7, .int (nI j), .ref 131], hp Z P L)) rfl ?_
  refine e_call hk_127 (as := [.ref 131, .int (nI j), .int 7]) (rest := []) rfl rfl hk_126 rfl (Nat.le_of_ble_eq_true rfl) rfl (q_abt7 hN hn hj) ?_
  show e_r 127 44 [.ref 131, .int key, .int 7, .int (nI j)] [.int (q_abt Z n j 7)] (hp Z P L) _ _
  exact e_ret hk_127 rfl rfl rfl (by rw [q_node, if_pos hk, hq]) rfl
theorem q_cnode7 {Z : Nat → Nat → Int32} {P : Nat → Nat} {L n : Nat} (hN : Z 132 3 = nI n) (hn : n ≤ 60) {key : Int32} : m_r 127 [.ref 131, .int key, .int 7] (hp Z P L) (some (.int (q_node Z n key 7))) (hp Z P L) := by
  cases hk : y_nm key with
  | false => exact q_node7_k hN hn hk
  | true =>
  cases hq : q_fd (q_c Z 8) key 0 n with
  | some j => exact q_node7_s hN hn hk hq
  | none => exact q_node7_n hN hn hk hq
theorem q_abt8 {Z : Nat → Nat → Int32} {P : Nat → Nat} {L n : Nat} (hN : Z 132 3 = nI n) (hn : n ≤ 60) {j : Nat} (hj : j < n) : m_r 126 [.ref 131, .int (nI j), .int 8] (hp Z P L) (some (.int (q_abt Z n j 8))) (hp Z P L) := by
  have hLL := q_LL Z j
  have hHH := q_HH Z hj
  refine m_of (ls := [.ref 131, .int (nI j), .int 8]) hk_126 rfl rfl rfl ?_
  refine e_go hk_126 5 (c := (128, [.ref 131, .int (nI j), .int 8], [.int (nI j), .ref 131, .ref 131], hp Z P L)) rfl ?_
  refine e_call hk_126 (as := [.ref 131, .int (nI j)]) (rest := [.ref 131]) rfl rfl hk_97 rfl (Nat.le_of_ble_eq_true rfl) rfl (q_first (j := j) (by omega)) ?_
  show e_r 126 131 [.ref 131, .int (nI j), .int 8] [.int (nI (q_L Z j)), .ref 131] (hp Z P L) _ _
  refine e_go hk_126 2 (c := (133, [.ref 131, .int (nI j), .int 8], [.int (nI j), .ref 131, .int (nI (q_L Z j)), .ref 131], hp Z P L)) rfl ?_
  refine e_call hk_126 (as := [.ref 131, .int (nI j)]) (rest := [.int (nI (q_L Z j)), .ref 131]) rfl rfl hk_98 rfl (Nat.le_of_ble_eq_true rfl) rfl (q_last hN hn (j := j) (by omega)) ?_
  show e_r 126 136 [.ref 131, .int (nI j), .int 8] [.int (nI (q_H Z n j)), .int (nI (q_L Z j)), .ref 131] (hp Z P L) _ _
  refine e_call hk_126 (as := [.ref 131, .int (nI (q_L Z j)), .int (nI (q_H Z n j))]) (rest := []) rfl rfl hk_125 rfl (Nat.le_of_ble_eq_true rfl) rfl (q_deep (l := q_L Z j) (u := q_H Z n j + 1) (by omega) (by omega) (nI_pred _).symm) ?_
  show e_r 126 139 [.ref 131, .int (nI j), .int 8] [.int (t_mx (q_c Z 248) (q_L Z j) (q_H Z n j + 1 - q_L Z j) (-6))] (hp Z P L) _ _
  refine e_go hk_126 2 (c := (141, [.ref 131, .int (nI j), .int 8], [.int (nI j), .ref 131, .int (t_mx (q_c Z 248) (q_L Z j) (q_H Z n j + 1 - q_L Z j) (-6))], hp Z P L)) rfl ?_
  refine e_call hk_126 (as := [.ref 131, .int (nI j)]) (rest := [.int (t_mx (q_c Z 248) (q_L Z j) (q_H Z n j + 1 - q_L Z j) (-6))]) rfl rfl hk_95 rfl (Nat.le_of_ble_eq_true rfl) rfl (q_dep (j := j) (by omega)) ?_
  show e_r 126 144 [.ref 131, .int (nI j), .int 8] [.int (q_c Z 248 j), .int (t_mx (q_c Z 248) (q_L Z j) (q_H Z n j + 1 - q_L Z j) (-6))] (hp Z P L) _ _
  refine e_go hk_126 1 (c := (145, [.ref 131, .int (nI j), .int 8], [.int ((t_mx (q_c Z 248) (q_L Z j) (q_H Z n j + 1 - q_L Z j) (-6)) - (q_c Z 248 j))], hp Z P L)) rfl ?_
  exact e_ret hk_126 rfl rfl rfl rfl rfl
theorem q_node8_k {Z : Nat → Nat → Int32} {P : Nat → Nat} {L n : Nat} (hN : Z 132 3 = nI n) (hn : n ≤ 60) {key : Int32} (hk : y_nm key = false) : m_r 127 [.ref 131, .int key, .int 8] (hp Z P L) (some (.int (q_node Z n key 8))) (hp Z P L) := by
  refine m_of (ls := [.ref 131, .int key, .int 8, s_no]) hk_127 rfl rfl rfl ?_
  refine e_go hk_127 1 (c := (1, [.ref 131, .int key, .int 8, s_no], [.int key], hp Z P L)) rfl ?_
  refine e_call hk_127 (as := [.int key]) (rest := []) rfl rfl hk_94 rfl (Nat.le_of_ble_eq_true rfl) rfl q_key ?_
  show e_r 127 4 [.ref 131, .int key, .int 8, s_no] [.int (y_b (y_nm key))] (hp Z P L) _ _
  refine e_go hk_127 1 (c := (if s_cnd .eq (y_b (y_nm key)) 0 = true then 19 else 7, [.ref 131, .int key, .int 8, s_no], [], hp Z P L)) rfl ?_
  refine e_eq (a := 19) (b := 7) (x := y_b (y_nm key)) (y := 0) (fun hc4 => ?_) (fun hc4 => absurd (y_b0.mpr hk) hc4)
  refine e_go hk_127 1 (c := (21, [.ref 131, .int key, .int 8, s_no], [.int ((-2))], hp Z P L)) rfl ?_
  exact e_ret hk_127 rfl rfl rfl (by rw [q_node, if_neg (fun z => by rw [hk] at z; exact absurd z (by decide))]) rfl
theorem q_node8_n {Z : Nat → Nat → Int32} {P : Nat → Nat} {L n : Nat} (hN : Z 132 3 = nI n) (hn : n ≤ 60) {key : Int32} (hk : y_nm key = true) (hq : q_fd (q_c Z 8) key 0 n = none) : m_r 127 [.ref 131, .int key, .int 8] (hp Z P L) (some (.int (q_node Z n key 8))) (hp Z P L) := by
  refine m_of (ls := [.ref 131, .int key, .int 8, s_no]) hk_127 rfl rfl rfl ?_
  refine e_go hk_127 1 (c := (1, [.ref 131, .int key, .int 8, s_no], [.int key], hp Z P L)) rfl ?_
  refine e_call hk_127 (as := [.int key]) (rest := []) rfl rfl hk_94 rfl (Nat.le_of_ble_eq_true rfl) rfl q_key ?_
  show e_r 127 4 [.ref 131, .int key, .int 8, s_no] [.int (y_b (y_nm key))] (hp Z P L) _ _
  refine e_go hk_127 1 (c := (if s_cnd .eq (y_b (y_nm key)) 0 = true then 19 else 7, [.ref 131, .int key, .int 8, s_no], [], hp Z P L)) rfl ?_
  refine e_eq (a := 19) (b := 7) (x := y_b (y_nm key)) (y := 0) (fun hc4 => absurd hc4 (y_b1.mpr hk)) (fun hc4 => ?_)
  refine e_go hk_127 4 (c := (13, [.ref 131, .int key, .int 8, s_no], [.long 8, .long 0, .long ((8 : Int32).toInt64)], hp Z P L)) rfl ?_
  refine e_call hk_127 (as := [.long ((8 : Int32).toInt64), .long 0, .long 8]) (rest := []) rfl rfl hk_90 rfl (Nat.le_of_ble_eq_true rfl) rfl (q_in2 (x := 8) (lo := 0) (hi := 8) (by decide) (by decide) (by decide)) ?_
  show e_r 127 16 [.ref 131, .int key, .int 8, s_no] [.int (y_b (decide (0 ≤ 8 ∧ 8 ≤ 8)))] (hp Z P L) _ _
  refine e_go hk_127 1 (c := (if s_cnd .ne (y_b (decide (0 ≤ 8 ∧ 8 ≤ 8))) 0 = true then 22 else 19, [.ref 131, .int key, .int 8, s_no], [], hp Z P L)) rfl ?_
  refine e_ne (a := 22) (b := 19) (x := y_b (decide (0 ≤ 8 ∧ 8 ≤ 8))) (y := 0) (fun hc16 => ?_) (fun hc16 => absurd hc16 (by decide))
  refine e_go hk_127 2 (c := (24, [.ref 131, .int key, .int 8, s_no], [.int key, .ref 131], hp Z P L)) rfl ?_
  refine e_call hk_127 (as := [.ref 131, .int key]) (rest := []) rfl rfl hk_96 rfl (Nat.le_of_ble_eq_true rfl) rfl (q_find_n hN hn hq) ?_
  show e_r 127 27 [.ref 131, .int key, .int 8, s_no] [.int ((-6))] (hp Z P L) _ _
  refine e_go hk_127 4 (c := (if s_cnd .ne ((-6)) ((-6)) = true then 38 else 34, [.ref 131, .int key, .int 8, .int ((-6))], [], hp Z P L)) rfl ?_
  refine e_ne (a := 38) (b := 34) (x := (-6)) (y := (-6)) (fun hc31 => absurd (rfl) hc31) (fun hc31 => ?_)
  refine e_go hk_127 2 (c := (44, [.ref 131, .int key, .int 8, .int ((-6))], [.int ((-1))], hp Z P L)) rfl ?_
  exact e_ret hk_127 rfl rfl rfl (by rw [q_node, if_pos hk, hq]) rfl
theorem q_node8_s {Z : Nat → Nat → Int32} {P : Nat → Nat} {L n : Nat} (hN : Z 132 3 = nI n) (hn : n ≤ 60) {key : Int32} {j : Nat} (hk : y_nm key = true) (hq : q_fd (q_c Z 8) key 0 n = some j) : m_r 127 [.ref 131, .int key, .int 8] (hp Z P L) (some (.int (q_node Z n key 8))) (hp Z P L) := by
  have hj : j < n := by have := q_fd_lt hq; omega
  refine m_of (ls := [.ref 131, .int key, .int 8, s_no]) hk_127 rfl rfl rfl ?_
  refine e_go hk_127 1 (c := (1, [.ref 131, .int key, .int 8, s_no], [.int key], hp Z P L)) rfl ?_
  refine e_call hk_127 (as := [.int key]) (rest := []) rfl rfl hk_94 rfl (Nat.le_of_ble_eq_true rfl) rfl q_key ?_
  show e_r 127 4 [.ref 131, .int key, .int 8, s_no] [.int (y_b (y_nm key))] (hp Z P L) _ _
  refine e_go hk_127 1 (c := (if s_cnd .eq (y_b (y_nm key)) 0 = true then 19 else 7, [.ref 131, .int key, .int 8, s_no], [], hp Z P L)) rfl ?_
  refine e_eq (a := 19) (b := 7) (x := y_b (y_nm key)) (y := 0) (fun hc4 => absurd hc4 (y_b1.mpr hk)) (fun hc4 => ?_)
  refine e_go hk_127 4 (c := (13, [.ref 131, .int key, .int 8, s_no], [.long 8, .long 0, .long ((8 : Int32).toInt64)], hp Z P L)) rfl ?_
  refine e_call hk_127 (as := [.long ((8 : Int32).toInt64), .long 0, .long 8]) (rest := []) rfl rfl hk_90 rfl (Nat.le_of_ble_eq_true rfl) rfl (q_in2 (x := 8) (lo := 0) (hi := 8) (by decide) (by decide) (by decide)) ?_
  show e_r 127 16 [.ref 131, .int key, .int 8, s_no] [.int (y_b (decide (0 ≤ 8 ∧ 8 ≤ 8)))] (hp Z P L) _ _
  refine e_go hk_127 1 (c := (if s_cnd .ne (y_b (decide (0 ≤ 8 ∧ 8 ≤ 8))) 0 = true then 22 else 19, [.ref 131, .int key, .int 8, s_no], [], hp Z P L)) rfl ?_
  refine e_ne (a := 22) (b := 19) (x := y_b (decide (0 ≤ 8 ∧ 8 ≤ 8))) (y := 0) (fun hc16 => ?_) (fun hc16 => absurd hc16 (by decide))
  refine e_go hk_127 2 (c := (24, [.ref 131, .int key, .int 8, s_no], [.int key, .ref 131], hp Z P L)) rfl ?_
  refine e_call hk_127 (as := [.ref 131, .int key]) (rest := []) rfl rfl hk_96 rfl (Nat.le_of_ble_eq_true rfl) rfl (q_find_s hN hn hq) ?_
  show e_r 127 27 [.ref 131, .int key, .int 8, s_no] [.int (nI j)] (hp Z P L) _ _
  refine e_go hk_127 4 (c := (if s_cnd .ne (nI j) ((-6)) = true then 38 else 34, [.ref 131, .int key, .int 8, .int (nI j)], [], hp Z P L)) rfl ?_
  refine e_ne (a := 38) (b := 34) (x := nI j) (y := (-6)) (fun hc31 => ?_) (fun hc31 => absurd hc31 (q_ne6 (by omega)))
  refine e_go hk_127 3 (c := (41, [.ref 131, .int key, .int 8, .int (nI j)], [.int 8, .int (nI j), .ref 131], hp Z P L)) rfl ?_
  refine e_call hk_127 (as := [.ref 131, .int (nI j), .int 8]) (rest := []) rfl rfl hk_126 rfl (Nat.le_of_ble_eq_true rfl) rfl (q_abt8 hN hn hj) ?_
  show e_r 127 44 [.ref 131, .int key, .int 8, .int (nI j)] [.int (q_abt Z n j 8)] (hp Z P L) _ _
  exact e_ret hk_127 rfl rfl rfl (by rw [q_node, if_pos hk, hq]) rfl
theorem q_cnode8 {Z : Nat → Nat → Int32} {P : Nat → Nat} {L n : Nat} (hN : Z 132 3 = nI n) (hn : n ≤ 60) {key : Int32} : m_r 127 [.ref 131, .int key, .int 8] (hp Z P L) (some (.int (q_node Z n key 8))) (hp Z P L) := by
  cases hk : y_nm key with
  | false => exact q_node8_k hN hn hk
  | true =>
  cases hq : q_fd (q_c Z 8) key 0 n with
  | some j => exact q_node8_s hN hn hk hq
  | none => exact q_node8_n hN hn hk hq
theorem q_cnode_no {Z : Nat → Nat → Int32} {P : Nat → Nat} {L : Nat} {key k : Int32} (hk2 : k < 0 ∨ 8 < k) : m_r 127 [.ref 131, .int key, .int k] (hp Z P L) (some (.int (-2))) (hp Z P L) := by
  refine m_of (ls := [.ref 131, .int key, .int k, s_no]) hk_127 rfl rfl rfl ?_
  refine e_go hk_127 1 (c := (1, [.ref 131, .int key, .int k, s_no], [.int key], hp Z P L)) rfl ?_
  refine e_call hk_127 (as := [.int key]) (rest := []) rfl rfl hk_94 rfl (Nat.le_of_ble_eq_true rfl) rfl q_key ?_
  show e_r 127 4 [.ref 131, .int key, .int k, s_no] [.int (y_b (y_nm key))] (hp Z P L) _ _
  refine e_go hk_127 1 (c := (if s_cnd .eq (y_b (y_nm key)) 0 = true then 19 else 7, [.ref 131, .int key, .int k, s_no], [], hp Z P L)) rfl ?_
  refine e_eq (a := 19) (b := 7) (x := y_b (y_nm key)) (y := 0) (fun hc4 => ?_) (fun hc4 => ?_)
  · skip
    refine e_go hk_127 1 (c := (21, [.ref 131, .int key, .int k, s_no], [.int ((-2))], hp Z P L)) rfl ?_
    exact e_ret hk_127 rfl rfl rfl rfl rfl
  · skip
    refine e_go hk_127 4 (c := (13, [.ref 131, .int key, .int k, s_no], [.long 8, .long 0, .long k.toInt64], hp Z P L)) rfl ?_
    refine e_call hk_127 (as := [.long k.toInt64, .long 0, .long 8]) (rest := []) rfl rfl hk_90 rfl (Nat.le_of_ble_eq_true rfl) rfl (q_in2 (x := k) (lo := 0) (hi := 8) rfl (by decide) (by decide)) ?_
    show e_r 127 16 [.ref 131, .int key, .int k, s_no] [.int (y_b (decide (0 ≤ k ∧ k ≤ 8)))] (hp Z P L) _ _
    refine e_go hk_127 1 (c := (if s_cnd .ne (y_b (decide (0 ≤ k ∧ k ≤ 8))) 0 = true then 22 else 19, [.ref 131, .int key, .int k, s_no], [], hp Z P L)) rfl ?_
    refine e_ne (a := 22) (b := 19) (x := y_b (decide (0 ≤ k ∧ k ≤ 8))) (y := 0) (fun hc16 => absurd (y_d0.mpr (fun z => hk2.elim (fun a => absurd z.1 (Int32.not_le.mpr a)) (fun a => absurd z.2 (Int32.not_le.mpr a)))) hc16) (fun hc16 => ?_)
    refine e_go hk_127 1 (c := (21, [.ref 131, .int key, .int k, s_no], [.int ((-2))], hp Z P L)) rfl ?_
    exact e_ret hk_127 rfl rfl rfl rfl rfl
def q_count (Z : Nat → Nat → Int32) (n : Nat) : Nat → Int32
  | 0 => Z 132 3
  | 1 => t_sm (q_c Z 188) 0 n 0
  | 2 => q_ky Z (q_rt (q_c Z 248) 0 n none)
  | 3 => t_mx (q_c Z 248) 0 n (-6)
  | 4 => Z 132 4
  | 5 => Z 132 5 + 1000000
  | 6 => t_sm (q_c Z 128) 0 n 0
  | 7 => Z 132 6
  | 8 => Z 132 7
  | 9 => q_lnc Z n 0 n 0
  | 10 => Z 132 0
  | 11 => Z 132 1
  | 12 => Z 132 2
  | 13 => Z 131 10
  | _ => Z 131 3
theorem e_tsd {k pc : Nat} {r : sM} {cn : Option Nat} {ls rest : List Value} {h h2 : sHp} {v : Option Value} (hk : s_T k = some (r, cn)) {e : sE} {d lo hi : Int} {ps : Array Int} {x : Int32} (hat : s_at (s_cd r) pc = some e) (hi2 : e.2.1 = .tableswitch d lo hi ps) (ho : x.toInt < lo ∨ hi < x.toInt) (kk : e_r k d.toNat ls rest h v h2) : e_r k pc ls (.int x :: rest) h v h2 := by
  refine e_step (c := (d.toNat, ls, rest, h)) hk hat (by rw [hi2]; rfl) (by rw [hi2]; rfl) ?_ kk
  rw [hi2]
  dsimp only [s_x]
  rw [if_pos ho]
theorem q_count0 {Z : Nat → Nat → Int32} {P : Nat → Nat} {L n : Nat} (hN : Z 132 3 = nI n) (hn : n ≤ 60) : m_r 129 [.ref 131, .int 0] (hp Z P L) (some (.int (q_count Z n 0))) (hp Z P L) := by
  refine m_of (ls := [.ref 131, .int 0]) hk_129 rfl rfl rfl ?_
  refine e_go hk_129 4 (c := (8, [.ref 131, .int 0], [.long 12, .long 10, .long ((0 : Int32).toInt64)], hp Z P L)) rfl ?_
  refine e_call hk_129 (as := [.long ((0 : Int32).toInt64), .long 10, .long 12]) (rest := []) rfl rfl hk_90 rfl (Nat.le_of_ble_eq_true rfl) rfl (q_in2 (x := 0) (lo := 10) (hi := 12) (by decide) (by decide) (by decide)) ?_
  show e_r 129 11 [.ref 131, .int 0] [.int (y_b (decide (10 ≤ 0 ∧ 0 ≤ 12)))] (hp Z P L) _ _
  refine e_go hk_129 1 (c := (if s_cnd .eq (y_b (decide (10 ≤ 0 ∧ 0 ≤ 12))) 0 = true then 24 else 14, [.ref 131, .int 0], [], hp Z P L)) rfl ?_
  refine e_eq (a := 24) (b := 14) (x := y_b (decide (10 ≤ 0 ∧ 0 ≤ 12))) (y := 0) (fun hc11 => ?_) (fun hc11 => absurd (by decide) hc11)
  refine e_go hk_129 5 (c := (105, [.ref 131, .int 0], [.int 3, .ref 132], hp Z P L)) rfl ?_
  refine e_ald hk_129 (a := 132) (j := 3) (n := 308) rfl rfl rfl (by decide) (by decide) ?_
  show e_r 129 106 [.ref 131, .int 0] [.int (Z 132 3)] (hp Z P L) _ _
  exact e_ret hk_129 rfl rfl rfl rfl rfl
theorem q_count1 {Z : Nat → Nat → Int32} {P : Nat → Nat} {L n : Nat} (hN : Z 132 3 = nI n) (hn : n ≤ 60) : m_r 129 [.ref 131, .int 1] (hp Z P L) (some (.int (q_count Z n 1))) (hp Z P L) := by
  refine m_of (ls := [.ref 131, .int 1]) hk_129 rfl rfl rfl ?_
  refine e_go hk_129 4 (c := (8, [.ref 131, .int 1], [.long 12, .long 10, .long ((1 : Int32).toInt64)], hp Z P L)) rfl ?_
  refine e_call hk_129 (as := [.long ((1 : Int32).toInt64), .long 10, .long 12]) (rest := []) rfl rfl hk_90 rfl (Nat.le_of_ble_eq_true rfl) rfl (q_in2 (x := 1) (lo := 10) (hi := 12) (by decide) (by decide) (by decide)) ?_
  show e_r 129 11 [.ref 131, .int 1] [.int (y_b (decide (10 ≤ 1 ∧ 1 ≤ 12)))] (hp Z P L) _ _
  refine e_go hk_129 1 (c := (if s_cnd .eq (y_b (decide (10 ≤ 1 ∧ 1 ≤ 12))) 0 = true then 24 else 14, [.ref 131, .int 1], [], hp Z P L)) rfl ?_
  refine e_eq (a := 24) (b := 14) (x := y_b (decide (10 ≤ 1 ∧ 1 ≤ 12))) (y := 0) (fun hc11 => ?_) (fun hc11 => absurd (by decide) hc11)
  refine e_go hk_129 3 (c := (108, [.ref 131, .int 1], [.ref 131], hp Z P L)) rfl ?_
  refine e_call hk_129 (as := [.ref 131]) (rest := []) rfl rfl hk_115 rfl (Nat.le_of_ble_eq_true rfl) rfl (q_fulls hN hn) ?_
  show e_r 129 111 [.ref 131, .int 1] [.int (t_sm (q_c Z 188) 0 n 0)] (hp Z P L) _ _
  exact e_ret hk_129 rfl rfl rfl rfl rfl
theorem q_count2 {Z : Nat → Nat → Int32} {P : Nat → Nat} {L n : Nat} (hN : Z 132 3 = nI n) (hn : n ≤ 60) : m_r 129 [.ref 131, .int 2] (hp Z P L) (some (.int (q_count Z n 2))) (hp Z P L) := by
  refine m_of (ls := [.ref 131, .int 2]) hk_129 rfl rfl rfl ?_
  refine e_go hk_129 4 (c := (8, [.ref 131, .int 2], [.long 12, .long 10, .long ((2 : Int32).toInt64)], hp Z P L)) rfl ?_
  refine e_call hk_129 (as := [.long ((2 : Int32).toInt64), .long 10, .long 12]) (rest := []) rfl rfl hk_90 rfl (Nat.le_of_ble_eq_true rfl) rfl (q_in2 (x := 2) (lo := 10) (hi := 12) (by decide) (by decide) (by decide)) ?_
  show e_r 129 11 [.ref 131, .int 2] [.int (y_b (decide (10 ≤ 2 ∧ 2 ≤ 12)))] (hp Z P L) _ _
  refine e_go hk_129 1 (c := (if s_cnd .eq (y_b (decide (10 ≤ 2 ∧ 2 ≤ 12))) 0 = true then 24 else 14, [.ref 131, .int 2], [], hp Z P L)) rfl ?_
  refine e_eq (a := 24) (b := 14) (x := y_b (decide (10 ≤ 2 ∧ 2 ≤ 12))) (y := 0) (fun hc11 => ?_) (fun hc11 => absurd (by decide) hc11)
  refine e_go hk_129 4 (c := (114, [.ref 131, .int 2], [.ref 131, .ref 131], hp Z P L)) rfl ?_
  refine e_call hk_129 (as := [.ref 131]) (rest := [.ref 131]) rfl rfl hk_114 rfl (Nat.le_of_ble_eq_true rfl) rfl (q_root hN hn) ?_
  show e_r 129 117 [.ref 131, .int 2] [.int (y_o (q_rt (q_c Z 248) 0 n none)), .ref 131] (hp Z P L) _ _
  refine e_call hk_129 (as := [.ref 131, .int (y_o (q_rt (q_c Z 248) 0 n none))]) (rest := []) rfl rfl hk_124 rfl (Nat.le_of_ble_eq_true rfl) rfl (q_keyof (q := q_rt (q_c Z 248) 0 n none) (fun i hi => by have := q_rt_lt (m := n) n 0 none i (by omega) (fun a h => by cases h) hi; omega)) ?_
  show e_r 129 120 [.ref 131, .int 2] [.int (q_ky Z (q_rt (q_c Z 248) 0 n none))] (hp Z P L) _ _
  exact e_ret hk_129 rfl rfl rfl rfl rfl
theorem q_count3 {Z : Nat → Nat → Int32} {P : Nat → Nat} {L n : Nat} (hN : Z 132 3 = nI n) (hn : n ≤ 60) : m_r 129 [.ref 131, .int 3] (hp Z P L) (some (.int (q_count Z n 3))) (hp Z P L) := by
  refine m_of (ls := [.ref 131, .int 3]) hk_129 rfl rfl rfl ?_
  refine e_go hk_129 4 (c := (8, [.ref 131, .int 3], [.long 12, .long 10, .long ((3 : Int32).toInt64)], hp Z P L)) rfl ?_
  refine e_call hk_129 (as := [.long ((3 : Int32).toInt64), .long 10, .long 12]) (rest := []) rfl rfl hk_90 rfl (Nat.le_of_ble_eq_true rfl) rfl (q_in2 (x := 3) (lo := 10) (hi := 12) (by decide) (by decide) (by decide)) ?_
  show e_r 129 11 [.ref 131, .int 3] [.int (y_b (decide (10 ≤ 3 ∧ 3 ≤ 12)))] (hp Z P L) _ _
  refine e_go hk_129 1 (c := (if s_cnd .eq (y_b (decide (10 ≤ 3 ∧ 3 ≤ 12))) 0 = true then 24 else 14, [.ref 131, .int 3], [], hp Z P L)) rfl ?_
  refine e_eq (a := 24) (b := 14) (x := y_b (decide (10 ≤ 3 ∧ 3 ≤ 12))) (y := 0) (fun hc11 => ?_) (fun hc11 => absurd (by decide) hc11)
  refine e_go hk_129 7 (c := (128, [.ref 131, .int 3], [.int 3, .ref 132, .int 0, .ref 131], hp Z P L)) rfl ?_
  refine e_ald hk_129 (a := 132) (j := 3) (n := 308) rfl rfl rfl (by decide) (by decide) ?_
  show e_r 129 129 [.ref 131, .int 3] [.int (Z 132 3), .int 0, .ref 131] (hp Z P L) _ _
  refine e_go hk_129 2 (c := (131, [.ref 131, .int 3], [.int ((Z 132 3) - 1), .int 0, .ref 131], hp Z P L)) rfl ?_
  refine e_call hk_129 (as := [.ref 131, .int 0, .int ((Z 132 3) - 1)]) (rest := []) rfl rfl hk_125 rfl (Nat.le_of_ble_eq_true rfl) rfl (q_deep (l := 0) (u := n) hn (Nat.zero_le _) (by rw [hN])) ?_
  show e_r 129 134 [.ref 131, .int 3] [.int (t_mx (q_c Z 248) 0 (n - 0) (-6))] (hp Z P L) _ _
  exact e_ret hk_129 rfl rfl rfl rfl rfl
theorem q_count4 {Z : Nat → Nat → Int32} {P : Nat → Nat} {L n : Nat} (hN : Z 132 3 = nI n) (hn : n ≤ 60) : m_r 129 [.ref 131, .int 4] (hp Z P L) (some (.int (q_count Z n 4))) (hp Z P L) := by
  refine m_of (ls := [.ref 131, .int 4]) hk_129 rfl rfl rfl ?_
  refine e_go hk_129 4 (c := (8, [.ref 131, .int 4], [.long 12, .long 10, .long ((4 : Int32).toInt64)], hp Z P L)) rfl ?_
  refine e_call hk_129 (as := [.long ((4 : Int32).toInt64), .long 10, .long 12]) (rest := []) rfl rfl hk_90 rfl (Nat.le_of_ble_eq_true rfl) rfl (q_in2 (x := 4) (lo := 10) (hi := 12) (by decide) (by decide) (by decide)) ?_
  show e_r 129 11 [.ref 131, .int 4] [.int (y_b (decide (10 ≤ 4 ∧ 4 ≤ 12)))] (hp Z P L) _ _
  refine e_go hk_129 1 (c := (if s_cnd .eq (y_b (decide (10 ≤ 4 ∧ 4 ≤ 12))) 0 = true then 24 else 14, [.ref 131, .int 4], [], hp Z P L)) rfl ?_
  refine e_eq (a := 24) (b := 14) (x := y_b (decide (10 ≤ 4 ∧ 4 ≤ 12))) (y := 0) (fun hc11 => ?_) (fun hc11 => absurd (by decide) hc11)
  refine e_go hk_129 5 (c := (140, [.ref 131, .int 4], [.int 4, .ref 132], hp Z P L)) rfl ?_
  refine e_ald hk_129 (a := 132) (j := 4) (n := 308) rfl rfl rfl (by decide) (by decide) ?_
  show e_r 129 141 [.ref 131, .int 4] [.int (Z 132 4)] (hp Z P L) _ _
  exact e_ret hk_129 rfl rfl rfl rfl rfl
theorem q_count5 {Z : Nat → Nat → Int32} {P : Nat → Nat} {L n : Nat} (hN : Z 132 3 = nI n) (hn : n ≤ 60) : m_r 129 [.ref 131, .int 5] (hp Z P L) (some (.int (q_count Z n 5))) (hp Z P L) := by
  refine m_of (ls := [.ref 131, .int 5]) hk_129 rfl rfl rfl ?_
  refine e_go hk_129 4 (c := (8, [.ref 131, .int 5], [.long 12, .long 10, .long ((5 : Int32).toInt64)], hp Z P L)) rfl ?_
  refine e_call hk_129 (as := [.long ((5 : Int32).toInt64), .long 10, .long 12]) (rest := []) rfl rfl hk_90 rfl (Nat.le_of_ble_eq_true rfl) rfl (q_in2 (x := 5) (lo := 10) (hi := 12) (by decide) (by decide) (by decide)) ?_
  show e_r 129 11 [.ref 131, .int 5] [.int (y_b (decide (10 ≤ 5 ∧ 5 ≤ 12)))] (hp Z P L) _ _
  refine e_go hk_129 1 (c := (if s_cnd .eq (y_b (decide (10 ≤ 5 ∧ 5 ≤ 12))) 0 = true then 24 else 14, [.ref 131, .int 5], [], hp Z P L)) rfl ?_
  refine e_eq (a := 24) (b := 14) (x := y_b (decide (10 ≤ 5 ∧ 5 ≤ 12))) (y := 0) (fun hc11 => ?_) (fun hc11 => absurd (by decide) hc11)
  refine e_go hk_129 5 (c := (147, [.ref 131, .int 5], [.int 5, .ref 132], hp Z P L)) rfl ?_
  refine e_ald hk_129 (a := 132) (j := 5) (n := 308) rfl rfl rfl (by decide) (by decide) ?_
  show e_r 129 148 [.ref 131, .int 5] [.int (Z 132 5)] (hp Z P L) _ _
  refine e_go hk_129 2 (c := (151, [.ref 131, .int 5], [.int ((Z 132 5) + 1000000)], hp Z P L)) rfl ?_
  exact e_ret hk_129 rfl rfl rfl rfl rfl
theorem q_count6 {Z : Nat → Nat → Int32} {P : Nat → Nat} {L n : Nat} (hN : Z 132 3 = nI n) (hn : n ≤ 60) : m_r 129 [.ref 131, .int 6] (hp Z P L) (some (.int (q_count Z n 6))) (hp Z P L) := by
  refine m_of (ls := [.ref 131, .int 6]) hk_129 rfl rfl rfl ?_
  refine e_go hk_129 4 (c := (8, [.ref 131, .int 6], [.long 12, .long 10, .long ((6 : Int32).toInt64)], hp Z P L)) rfl ?_
  refine e_call hk_129 (as := [.long ((6 : Int32).toInt64), .long 10, .long 12]) (rest := []) rfl rfl hk_90 rfl (Nat.le_of_ble_eq_true rfl) rfl (q_in2 (x := 6) (lo := 10) (hi := 12) (by decide) (by decide) (by decide)) ?_
  show e_r 129 11 [.ref 131, .int 6] [.int (y_b (decide (10 ≤ 6 ∧ 6 ≤ 12)))] (hp Z P L) _ _
  refine e_go hk_129 1 (c := (if s_cnd .eq (y_b (decide (10 ≤ 6 ∧ 6 ≤ 12))) 0 = true then 24 else 14, [.ref 131, .int 6], [], hp Z P L)) rfl ?_
  refine e_eq (a := 24) (b := 14) (x := y_b (decide (10 ≤ 6 ∧ 6 ≤ 12))) (y := 0) (fun hc11 => ?_) (fun hc11 => absurd (by decide) hc11)
  refine e_go hk_129 8 (c := (162, [.ref 131, .int 6], [.int 3, .ref 132, .int 0, .int 128, .ref 131], hp Z P L)) rfl ?_
  refine e_ald hk_129 (a := 132) (j := 3) (n := 308) rfl rfl rfl (by decide) (by decide) ?_
  show e_r 129 163 [.ref 131, .int 6] [.int (Z 132 3), .int 0, .int 128, .ref 131] (hp Z P L) _ _
  refine e_go hk_129 2 (c := (165, [.ref 131, .int 6], [.int ((Z 132 3) - 1), .int 0, .int 128, .ref 131], hp Z P L)) rfl ?_
  refine e_call hk_129 (as := [.ref 131, .int 128, .int 0, .int ((Z 132 3) - 1)]) (rest := []) rfl rfl hk_105 rfl (Nat.le_of_ble_eq_true rfl) rfl (q_sumof (b := 128) (l := 0) (u := n) (by decide) hn (Nat.zero_le _) (by rw [hN])) ?_
  show e_r 129 168 [.ref 131, .int 6] [.int (t_sm (q_c Z 128) 0 (n - 0) 0)] (hp Z P L) _ _
  exact e_ret hk_129 rfl rfl rfl rfl rfl
theorem q_count7 {Z : Nat → Nat → Int32} {P : Nat → Nat} {L n : Nat} (hN : Z 132 3 = nI n) (hn : n ≤ 60) : m_r 129 [.ref 131, .int 7] (hp Z P L) (some (.int (q_count Z n 7))) (hp Z P L) := by
  refine m_of (ls := [.ref 131, .int 7]) hk_129 rfl rfl rfl ?_
  refine e_go hk_129 4 (c := (8, [.ref 131, .int 7], [.long 12, .long 10, .long ((7 : Int32).toInt64)], hp Z P L)) rfl ?_
  refine e_call hk_129 (as := [.long ((7 : Int32).toInt64), .long 10, .long 12]) (rest := []) rfl rfl hk_90 rfl (Nat.le_of_ble_eq_true rfl) rfl (q_in2 (x := 7) (lo := 10) (hi := 12) (by decide) (by decide) (by decide)) ?_
  show e_r 129 11 [.ref 131, .int 7] [.int (y_b (decide (10 ≤ 7 ∧ 7 ≤ 12)))] (hp Z P L) _ _
  refine e_go hk_129 1 (c := (if s_cnd .eq (y_b (decide (10 ≤ 7 ∧ 7 ≤ 12))) 0 = true then 24 else 14, [.ref 131, .int 7], [], hp Z P L)) rfl ?_
  refine e_eq (a := 24) (b := 14) (x := y_b (decide (10 ≤ 7 ∧ 7 ≤ 12))) (y := 0) (fun hc11 => ?_) (fun hc11 => absurd (by decide) hc11)
  refine e_go hk_129 5 (c := (175, [.ref 131, .int 7], [.int 6, .ref 132], hp Z P L)) rfl ?_
  refine e_ald hk_129 (a := 132) (j := 6) (n := 308) rfl rfl rfl (by decide) (by decide) ?_
  show e_r 129 176 [.ref 131, .int 7] [.int (Z 132 6)] (hp Z P L) _ _
  exact e_ret hk_129 rfl rfl rfl rfl rfl
theorem q_count8 {Z : Nat → Nat → Int32} {P : Nat → Nat} {L n : Nat} (hN : Z 132 3 = nI n) (hn : n ≤ 60) : m_r 129 [.ref 131, .int 8] (hp Z P L) (some (.int (q_count Z n 8))) (hp Z P L) := by
  refine m_of (ls := [.ref 131, .int 8]) hk_129 rfl rfl rfl ?_
  refine e_go hk_129 4 (c := (8, [.ref 131, .int 8], [.long 12, .long 10, .long ((8 : Int32).toInt64)], hp Z P L)) rfl ?_
  refine e_call hk_129 (as := [.long ((8 : Int32).toInt64), .long 10, .long 12]) (rest := []) rfl rfl hk_90 rfl (Nat.le_of_ble_eq_true rfl) rfl (q_in2 (x := 8) (lo := 10) (hi := 12) (by decide) (by decide) (by decide)) ?_
  show e_r 129 11 [.ref 131, .int 8] [.int (y_b (decide (10 ≤ 8 ∧ 8 ≤ 12)))] (hp Z P L) _ _
  refine e_go hk_129 1 (c := (if s_cnd .eq (y_b (decide (10 ≤ 8 ∧ 8 ≤ 12))) 0 = true then 24 else 14, [.ref 131, .int 8], [], hp Z P L)) rfl ?_
  refine e_eq (a := 24) (b := 14) (x := y_b (decide (10 ≤ 8 ∧ 8 ≤ 12))) (y := 0) (fun hc11 => ?_) (fun hc11 => absurd (by decide) hc11)
  refine e_go hk_129 5 (c := (183, [.ref 131, .int 8], [.int 7, .ref 132], hp Z P L)) rfl ?_
  refine e_ald hk_129 (a := 132) (j := 7) (n := 308) rfl rfl rfl (by decide) (by decide) ?_
  show e_r 129 184 [.ref 131, .int 8] [.int (Z 132 7)] (hp Z P L) _ _
  exact e_ret hk_129 rfl rfl rfl rfl rfl
theorem q_count9 {Z : Nat → Nat → Int32} {P : Nat → Nat} {L n : Nat} (hN : Z 132 3 = nI n) (hn : n ≤ 60) : m_r 129 [.ref 131, .int 9] (hp Z P L) (some (.int (q_count Z n 9))) (hp Z P L) := by
  refine m_of (ls := [.ref 131, .int 9]) hk_129 rfl rfl rfl ?_
  refine e_go hk_129 4 (c := (8, [.ref 131, .int 9], [.long 12, .long 10, .long ((9 : Int32).toInt64)], hp Z P L)) rfl ?_
  refine e_call hk_129 (as := [.long ((9 : Int32).toInt64), .long 10, .long 12]) (rest := []) rfl rfl hk_90 rfl (Nat.le_of_ble_eq_true rfl) rfl (q_in2 (x := 9) (lo := 10) (hi := 12) (by decide) (by decide) (by decide)) ?_
  show e_r 129 11 [.ref 131, .int 9] [.int (y_b (decide (10 ≤ 9 ∧ 9 ≤ 12)))] (hp Z P L) _ _
  refine e_go hk_129 1 (c := (if s_cnd .eq (y_b (decide (10 ≤ 9 ∧ 9 ≤ 12))) 0 = true then 24 else 14, [.ref 131, .int 9], [], hp Z P L)) rfl ?_
  refine e_eq (a := 24) (b := 14) (x := y_b (decide (10 ≤ 9 ∧ 9 ≤ 12))) (y := 0) (fun hc11 => ?_) (fun hc11 => absurd (by decide) hc11)
  refine e_go hk_129 3 (c := (186, [.ref 131, .int 9], [.ref 131], hp Z P L)) rfl ?_
  refine e_call hk_129 (as := [.ref 131]) (rest := []) rfl rfl hk_128 rfl (Nat.le_of_ble_eq_true rfl) rfl (q_lnodes hN hn) ?_
  show e_r 129 189 [.ref 131, .int 9] [.int (q_lnc Z n 0 n 0)] (hp Z P L) _ _
  exact e_ret hk_129 rfl rfl rfl rfl rfl
theorem q_count10 {Z : Nat → Nat → Int32} {P : Nat → Nat} {L n : Nat} (hN : Z 132 3 = nI n) (hn : n ≤ 60) : m_r 129 [.ref 131, .int 10] (hp Z P L) (some (.int (q_count Z n 10))) (hp Z P L) := by
  refine m_of (ls := [.ref 131, .int 10]) hk_129 rfl rfl rfl ?_
  refine e_go hk_129 4 (c := (8, [.ref 131, .int 10], [.long 12, .long 10, .long ((10 : Int32).toInt64)], hp Z P L)) rfl ?_
  refine e_call hk_129 (as := [.long ((10 : Int32).toInt64), .long 10, .long 12]) (rest := []) rfl rfl hk_90 rfl (Nat.le_of_ble_eq_true rfl) rfl (q_in2 (x := 10) (lo := 10) (hi := 12) (by decide) (by decide) (by decide)) ?_
  show e_r 129 11 [.ref 131, .int 10] [.int (y_b (decide (10 ≤ 10 ∧ 10 ≤ 12)))] (hp Z P L) _ _
  refine e_go hk_129 1 (c := (if s_cnd .eq (y_b (decide (10 ≤ 10 ∧ 10 ≤ 12))) 0 = true then 24 else 14, [.ref 131, .int 10], [], hp Z P L)) rfl ?_
  refine e_eq (a := 24) (b := 14) (x := y_b (decide (10 ≤ 10 ∧ 10 ≤ 12))) (y := 0) (fun hc11 => absurd hc11 (by decide)) (fun hc11 => ?_)
  refine e_go hk_129 5 (c := (22, [.ref 131, .int 10], [.int (10 - 10), .ref 132], hp Z P L)) rfl ?_
  rw [show (10 - 10) = nI 0 from (by decide)]
  refine e_ald hk_129 (a := 132) (j := 0) (n := 308) rfl rfl rfl (by decide) (by decide) ?_
  show e_r 129 23 [.ref 131, .int 10] [.int (Z 132 0)] (hp Z P L) _ _
  exact e_ret hk_129 rfl rfl rfl rfl rfl
theorem q_count11 {Z : Nat → Nat → Int32} {P : Nat → Nat} {L n : Nat} (hN : Z 132 3 = nI n) (hn : n ≤ 60) : m_r 129 [.ref 131, .int 11] (hp Z P L) (some (.int (q_count Z n 11))) (hp Z P L) := by
  refine m_of (ls := [.ref 131, .int 11]) hk_129 rfl rfl rfl ?_
  refine e_go hk_129 4 (c := (8, [.ref 131, .int 11], [.long 12, .long 10, .long ((11 : Int32).toInt64)], hp Z P L)) rfl ?_
  refine e_call hk_129 (as := [.long ((11 : Int32).toInt64), .long 10, .long 12]) (rest := []) rfl rfl hk_90 rfl (Nat.le_of_ble_eq_true rfl) rfl (q_in2 (x := 11) (lo := 10) (hi := 12) (by decide) (by decide) (by decide)) ?_
  show e_r 129 11 [.ref 131, .int 11] [.int (y_b (decide (10 ≤ 11 ∧ 11 ≤ 12)))] (hp Z P L) _ _
  refine e_go hk_129 1 (c := (if s_cnd .eq (y_b (decide (10 ≤ 11 ∧ 11 ≤ 12))) 0 = true then 24 else 14, [.ref 131, .int 11], [], hp Z P L)) rfl ?_
  refine e_eq (a := 24) (b := 14) (x := y_b (decide (10 ≤ 11 ∧ 11 ≤ 12))) (y := 0) (fun hc11 => absurd hc11 (by decide)) (fun hc11 => ?_)
  refine e_go hk_129 5 (c := (22, [.ref 131, .int 11], [.int (11 - 10), .ref 132], hp Z P L)) rfl ?_
  rw [show (11 - 10) = nI 1 from (by decide)]
  refine e_ald hk_129 (a := 132) (j := 1) (n := 308) rfl rfl rfl (by decide) (by decide) ?_
  show e_r 129 23 [.ref 131, .int 11] [.int (Z 132 1)] (hp Z P L) _ _
  exact e_ret hk_129 rfl rfl rfl rfl rfl
theorem q_count12 {Z : Nat → Nat → Int32} {P : Nat → Nat} {L n : Nat} (hN : Z 132 3 = nI n) (hn : n ≤ 60) : m_r 129 [.ref 131, .int 12] (hp Z P L) (some (.int (q_count Z n 12))) (hp Z P L) := by
  refine m_of (ls := [.ref 131, .int 12]) hk_129 rfl rfl rfl ?_
  refine e_go hk_129 4 (c := (8, [.ref 131, .int 12], [.long 12, .long 10, .long ((12 : Int32).toInt64)], hp Z P L)) rfl ?_
  refine e_call hk_129 (as := [.long ((12 : Int32).toInt64), .long 10, .long 12]) (rest := []) rfl rfl hk_90 rfl (Nat.le_of_ble_eq_true rfl) rfl (q_in2 (x := 12) (lo := 10) (hi := 12) (by decide) (by decide) (by decide)) ?_
  show e_r 129 11 [.ref 131, .int 12] [.int (y_b (decide (10 ≤ 12 ∧ 12 ≤ 12)))] (hp Z P L) _ _
  refine e_go hk_129 1 (c := (if s_cnd .eq (y_b (decide (10 ≤ 12 ∧ 12 ≤ 12))) 0 = true then 24 else 14, [.ref 131, .int 12], [], hp Z P L)) rfl ?_
  refine e_eq (a := 24) (b := 14) (x := y_b (decide (10 ≤ 12 ∧ 12 ≤ 12))) (y := 0) (fun hc11 => absurd hc11 (by decide)) (fun hc11 => ?_)
  refine e_go hk_129 5 (c := (22, [.ref 131, .int 12], [.int (12 - 10), .ref 132], hp Z P L)) rfl ?_
  rw [show (12 - 10) = nI 2 from (by decide)]
  refine e_ald hk_129 (a := 132) (j := 2) (n := 308) rfl rfl rfl (by decide) (by decide) ?_
  show e_r 129 23 [.ref 131, .int 12] [.int (Z 132 2)] (hp Z P L) _ _
  exact e_ret hk_129 rfl rfl rfl rfl rfl
theorem q_count13 {Z : Nat → Nat → Int32} {P : Nat → Nat} {L n : Nat} (hN : Z 132 3 = nI n) (hn : n ≤ 60) : m_r 129 [.ref 131, .int 13] (hp Z P L) (some (.int (q_count Z n 13))) (hp Z P L) := by
  refine m_of (ls := [.ref 131, .int 13]) hk_129 rfl rfl rfl ?_
  refine e_go hk_129 4 (c := (8, [.ref 131, .int 13], [.long 12, .long 10, .long ((13 : Int32).toInt64)], hp Z P L)) rfl ?_
  refine e_call hk_129 (as := [.long ((13 : Int32).toInt64), .long 10, .long 12]) (rest := []) rfl rfl hk_90 rfl (Nat.le_of_ble_eq_true rfl) rfl (q_in2 (x := 13) (lo := 10) (hi := 12) (by decide) (by decide) (by decide)) ?_
  show e_r 129 11 [.ref 131, .int 13] [.int (y_b (decide (10 ≤ 13 ∧ 13 ≤ 12)))] (hp Z P L) _ _
  refine e_go hk_129 1 (c := (if s_cnd .eq (y_b (decide (10 ≤ 13 ∧ 13 ≤ 12))) 0 = true then 24 else 14, [.ref 131, .int 13], [], hp Z P L)) rfl ?_
  refine e_eq (a := 24) (b := 14) (x := y_b (decide (10 ≤ 13 ∧ 13 ≤ 12))) (y := 0) (fun hc11 => ?_) (fun hc11 => absurd (by decide) hc11)
  refine e_go hk_129 4 (c := (194, [.ref 131, .int 13], [.int (Z 131 10)], hp Z P L)) rfl ?_
  exact e_ret hk_129 rfl rfl rfl rfl rfl
theorem q_count14 {Z : Nat → Nat → Int32} {P : Nat → Nat} {L n : Nat} (hN : Z 132 3 = nI n) (hn : n ≤ 60) : m_r 129 [.ref 131, .int 14] (hp Z P L) (some (.int (q_count Z n 14))) (hp Z P L) := by
  refine m_of (ls := [.ref 131, .int 14]) hk_129 rfl rfl rfl ?_
  refine e_go hk_129 4 (c := (8, [.ref 131, .int 14], [.long 12, .long 10, .long ((14 : Int32).toInt64)], hp Z P L)) rfl ?_
  refine e_call hk_129 (as := [.long ((14 : Int32).toInt64), .long 10, .long 12]) (rest := []) rfl rfl hk_90 rfl (Nat.le_of_ble_eq_true rfl) rfl (q_in2 (x := 14) (lo := 10) (hi := 12) (by decide) (by decide) (by decide)) ?_
  show e_r 129 11 [.ref 131, .int 14] [.int (y_b (decide (10 ≤ 14 ∧ 14 ≤ 12)))] (hp Z P L) _ _
  refine e_go hk_129 1 (c := (if s_cnd .eq (y_b (decide (10 ≤ 14 ∧ 14 ≤ 12))) 0 = true then 24 else 14, [.ref 131, .int 14], [], hp Z P L)) rfl ?_
  refine e_eq (a := 24) (b := 14) (x := y_b (decide (10 ≤ 14 ∧ 14 ≤ 12))) (y := 0) (fun hc11 => ?_) (fun hc11 => absurd (by decide) hc11)
  refine e_go hk_129 4 (c := (199, [.ref 131, .int 14], [.int (Z 131 3)], hp Z P L)) rfl ?_
  exact e_ret hk_129 rfl rfl rfl rfl rfl
theorem q_cnt_e {Z : Nat → Nat → Int32} {P : Nat → Nat} {L : Nat} {k : Int32} : e_r 129 200 [.ref 131, .int k] [] (hp Z P L) (some (.int (-2))) (hp Z P L) := by
  refine e_go hk_129 1 (c := (202, [.ref 131, .int k], [.int ((-2))], hp Z P L)) rfl ?_
  exact e_ret hk_129 rfl rfl rfl rfl rfl
theorem q_count_no {Z : Nat → Nat → Int32} {P : Nat → Nat} {L : Nat} {k : Int32} (hk2 : k < 0 ∨ 14 < k) : m_r 129 [.ref 131, .int k] (hp Z P L) (some (.int (-2))) (hp Z P L) := by
  refine m_of (ls := [.ref 131, .int k]) hk_129 rfl rfl rfl ?_
  refine e_go hk_129 4 (c := (8, [.ref 131, .int k], [.long 12, .long 10, .long k.toInt64], hp Z P L)) rfl ?_
  refine e_call hk_129 (as := [.long k.toInt64, .long 10, .long 12]) (rest := []) rfl rfl hk_90 rfl (Nat.le_of_ble_eq_true rfl) rfl (q_in2 (x := k) (lo := 10) (hi := 12) rfl (by decide) (by decide)) ?_
  show e_r 129 11 [.ref 131, .int k] [.int (y_b (decide (10 ≤ k ∧ k ≤ 12)))] (hp Z P L) _ _
  refine e_go hk_129 1 (c := (if s_cnd .eq (y_b (decide (10 ≤ k ∧ k ≤ 12))) 0 = true then 24 else 14, [.ref 131, .int k], [], hp Z P L)) rfl ?_
  refine e_eq (a := 24) (b := 14) (x := y_b (decide (10 ≤ k ∧ k ≤ 12))) (y := 0) (fun hc11 => ?_) (fun hc11 => absurd (y_d0.mpr (fun z => hk2.elim (fun a => absurd (Int32.le_trans z.1 (Int32.le_of_lt a)) (by decide)) (fun a => absurd (Int32.le_trans (Int32.le_of_lt a) z.2) (by decide)))) hc11)
  refine e_go hk_129 1 (c := (25, [.ref 131, .int k], [.int k], hp Z P L)) rfl ?_
  refine e_tsd hk_129 rfl rfl (hk2.elim (fun a => Or.inl (Int32.lt_iff_toInt_lt.mp a)) (fun a => Or.inr (Int32.lt_iff_toInt_lt.mp a))) ?_
  exact q_cnt_e
def q_rank (Z : Nat → Nat → Int32) (n : Nat) (key : Int32) : Int32 := if y_nm key = true then q_bl (q_c Z 8) (q_c Z 188) key 0 n 0 else -2
theorem q_crank {Z : Nat → Nat → Int32} {P : Nat → Nat} {L n : Nat} (hN : Z 132 3 = nI n) (hn : n ≤ 60) {key : Int32} : m_r 133 [.ref 131, .int key] (hp Z P L) (some (.int (q_rank Z n key))) (hp Z P L) := by
  refine m_of (ls := [.ref 131, .int key]) hk_133 rfl rfl rfl ?_
  refine e_go hk_133 1 (c := (1, [.ref 131, .int key], [.int key], hp Z P L)) rfl ?_
  refine e_call hk_133 (as := [.int key]) (rest := []) rfl rfl hk_94 rfl (Nat.le_of_ble_eq_true rfl) rfl q_key ?_
  show e_r 133 4 [.ref 131, .int key] [.int (y_b (y_nm key))] (hp Z P L) _ _
  refine e_go hk_133 1 (c := (if s_cnd .eq (y_b (y_nm key)) 0 = true then 15 else 7, [.ref 131, .int key], [], hp Z P L)) rfl ?_
  refine e_eq (a := 15) (b := 7) (x := y_b (y_nm key)) (y := 0) (fun hc4 => ?_) (fun hc4 => ?_)
  · skip
    rw [y_b0] at hc4
    refine e_go hk_133 1 (c := (17, [.ref 131, .int key], [.int ((-2))], hp Z P L)) rfl ?_
    exact e_ret hk_133 rfl rfl rfl (by rw [q_rank, if_neg (fun z => by rw [hc4] at z; exact absurd z (by decide))]) rfl
  · skip
    rw [y_b1] at hc4
    refine e_go hk_133 2 (c := (9, [.ref 131, .int key], [.int key, .ref 131], hp Z P L)) rfl ?_
    refine e_call hk_133 (as := [.ref 131, .int key]) (rest := []) rfl rfl hk_132 rfl (Nat.le_of_ble_eq_true rfl) rfl (q_below hN hn) ?_
    show e_r 133 12 [.ref 131, .int key] [.int (q_bl (q_c Z 8) (q_c Z 188) key 0 n 0)] (hp Z P L) _ _
    refine e_go hk_133 1 (c := (17, [.ref 131, .int key], [.int (q_bl (q_c Z 8) (q_c Z 188) key 0 n 0)], hp Z P L)) rfl ?_
    exact e_ret hk_133 rfl rfl rfl (by rw [q_rank, if_pos hc4]) rfl
def q_kc (Z : Nat → Nat → Int32) (n : Nat) (k : Int32) : Bool := decide ((0 : Int64) ≤ k.toInt64 ∧ k.toInt64 ≤ (t_sm (q_c Z 188) 0 n 0).toInt64 - 1)
def q_kth (Z : Nat → Nat → Int32) (n : Nat) (k : Int32) : Int32 := if q_kc Z n k = true then q_ka (q_c Z 8) (q_c Z 188) 0 n k else -1
theorem q_ckth {Z : Nat → Nat → Int32} {P : Nat → Nat} {L n : Nat} (hN : Z 132 3 = nI n) (hn : n ≤ 60) {k : Int32} : m_r 135 [.ref 131, .int k] (hp Z P L) (some (.int (q_kth Z n k))) (hp Z P L) := by
  refine m_of (ls := [.ref 131, .int k]) hk_135 rfl rfl rfl ?_
  refine e_go hk_135 4 (c := (4, [.ref 131, .int k], [.ref 131, .long 0, .long k.toInt64], hp Z P L)) rfl ?_
  refine e_call hk_135 (as := [.ref 131]) (rest := [.long 0, .long k.toInt64]) rfl rfl hk_115 rfl (Nat.le_of_ble_eq_true rfl) rfl (q_fulls hN hn) ?_
  show e_r 135 7 [.ref 131, .int k] [.int (t_sm (q_c Z 188) 0 n 0), .long 0, .long k.toInt64] (hp Z P L) _ _
  refine e_go hk_135 3 (c := (10, [.ref 131, .int k], [.long (((t_sm (q_c Z 188) 0 n 0).toInt64) - 1), .long 0, .long k.toInt64], hp Z P L)) rfl ?_
  refine e_call hk_135 (as := [.long k.toInt64, .long 0, .long (((t_sm (q_c Z 188) 0 n 0).toInt64) - 1)]) (rest := []) rfl rfl hk_90 rfl (Nat.le_of_ble_eq_true rfl) rfl q_in ?_
  show e_r 135 13 [.ref 131, .int k] [.int (y_b (q_kc Z n k))] (hp Z P L) _ _
  refine e_go hk_135 1 (c := (if s_cnd .eq (y_b (q_kc Z n k)) 0 = true then 24 else 16, [.ref 131, .int k], [], hp Z P L)) rfl ?_
  refine e_eq (a := 24) (b := 16) (x := y_b (q_kc Z n k)) (y := 0) (fun hc13 => ?_) (fun hc13 => ?_)
  · skip
    rw [y_b0] at hc13
    refine e_go hk_135 1 (c := (25, [.ref 131, .int k], [.int ((-1))], hp Z P L)) rfl ?_
    exact e_ret hk_135 rfl rfl rfl (by rw [q_kth, if_neg (fun z => by rw [hc13] at z; exact absurd z (by decide))]) rfl
  · skip
    rw [y_b1] at hc13
    refine e_go hk_135 2 (c := (18, [.ref 131, .int k], [.int k, .ref 131], hp Z P L)) rfl ?_
    refine e_call hk_135 (as := [.ref 131, .int k]) (rest := []) rfl rfl hk_134 rfl (Nat.le_of_ble_eq_true rfl) rfl (q_kat hN hn) ?_
    show e_r 135 21 [.ref 131, .int k] [.int (q_ka (q_c Z 8) (q_c Z 188) 0 n k)] (hp Z P L) _ _
    refine e_go hk_135 1 (c := (25, [.ref 131, .int k], [.int (q_ka (q_c Z 8) (q_c Z 188) 0 n k)], hp Z P L)) rfl ?_
    exact e_ret hk_135 rfl rfl rfl (by rw [q_kth, if_pos hc13]) rfl
def q_nb0 (Z : Nat → Nat → Int32) (n : Nat) (key : Int32) : Int32 := if q_bl (q_c Z 8) (q_c Z 188) key 0 n 0 = 0 then -6 else q_ka (q_c Z 8) (q_c Z 188) 0 n (q_bl (q_c Z 8) (q_c Z 188) key 0 n 0 - 1)
def q_nb1 (Z : Nat → Nat → Int32) (n : Nat) (key : Int32) : Int32 := q_ka (q_c Z 8) (q_c Z 188) 0 n (if q_ka (q_c Z 8) (q_c Z 188) 0 n (q_bl (q_c Z 8) (q_c Z 188) key 0 n 0) = key then q_bl (q_c Z 8) (q_c Z 188) key 0 n 0 + 1 else q_bl (q_c Z 8) (q_c Z 188) key 0 n 0)
theorem q_cnb0 {Z : Nat → Nat → Int32} {P : Nat → Nat} {L n : Nat} (hN : Z 132 3 = nI n) (hn : n ≤ 60) {key : Int32} (hk : y_nm key = true) : m_r 136 [.ref 131, .int key, .int 0] (hp Z P L) (some (.int (q_nb0 Z n key))) (hp Z P L) := by
  refine m_of (ls := [.ref 131, .int key, .int 0, s_no]) hk_136 rfl rfl rfl ?_
  refine e_go hk_136 1 (c := (1, [.ref 131, .int key, .int 0, s_no], [.int key], hp Z P L)) rfl ?_
  refine e_call hk_136 (as := [.int key]) (rest := []) rfl rfl hk_94 rfl (Nat.le_of_ble_eq_true rfl) rfl q_key ?_
  show e_r 136 4 [.ref 131, .int key, .int 0, s_no] [.int (y_b (y_nm key))] (hp Z P L) _ _
  refine e_go hk_136 1 (c := (if s_cnd .eq (y_b (y_nm key)) 0 = true then 17 else 7, [.ref 131, .int key, .int 0, s_no], [], hp Z P L)) rfl ?_
  refine e_eq (a := 17) (b := 7) (x := y_b (y_nm key)) (y := 0) (fun hc4 => absurd hc4 (y_b1.mpr hk)) (fun hc4 => ?_)
  refine e_go hk_136 4 (c := (11, [.ref 131, .int key, .int 0, s_no], [.long 1, .long 0, .long ((0 : Int32).toInt64)], hp Z P L)) rfl ?_
  refine e_call hk_136 (as := [.long ((0 : Int32).toInt64), .long 0, .long 1]) (rest := []) rfl rfl hk_90 rfl (Nat.le_of_ble_eq_true rfl) rfl (q_in2 (x := 0) (lo := 0) (hi := 1) (by decide) (by decide) (by decide)) ?_
  show e_r 136 14 [.ref 131, .int key, .int 0, s_no] [.int (y_b (decide (0 ≤ 0 ∧ 0 ≤ 1)))] (hp Z P L) _ _
  refine e_go hk_136 1 (c := (if s_cnd .ne (y_b (decide (0 ≤ 0 ∧ 0 ≤ 1))) 0 = true then 20 else 17, [.ref 131, .int key, .int 0, s_no], [], hp Z P L)) rfl ?_
  refine e_ne (a := 20) (b := 17) (x := y_b (decide (0 ≤ 0 ∧ 0 ≤ 1))) (y := 0) (fun hc14 => ?_) (fun hc14 => absurd hc14 (by decide))
  refine e_go hk_136 2 (c := (22, [.ref 131, .int key, .int 0, s_no], [.int key, .ref 131], hp Z P L)) rfl ?_
  refine e_call hk_136 (as := [.ref 131, .int key]) (rest := []) rfl rfl hk_132 rfl (Nat.le_of_ble_eq_true rfl) rfl (q_below hN hn) ?_
  show e_r 136 25 [.ref 131, .int key, .int 0, s_no] [.int (q_bl (q_c Z 8) (q_c Z 188) key 0 n 0)] (hp Z P L) _ _
  refine e_go hk_136 3 (c := (if s_cnd .ne 0 0 = true then 47 else 30, [.ref 131, .int key, .int 0, .int (q_bl (q_c Z 8) (q_c Z 188) key 0 n 0)], [], hp Z P L)) rfl ?_
  refine e_ne (a := 47) (b := 30) (x := 0) (y := 0) (fun hc27 => absurd (rfl) hc27) (fun hc27 => ?_)
  refine e_go hk_136 2 (c := (if s_cnd .ne (q_bl (q_c Z 8) (q_c Z 188) key 0 n 0) 0 = true then 39 else 34, [.ref 131, .int key, .int 0, .int (q_bl (q_c Z 8) (q_c Z 188) key 0 n 0)], [], hp Z P L)) rfl ?_
  refine e_ne (a := 39) (b := 34) (x := q_bl (q_c Z 8) (q_c Z 188) key 0 n 0) (y := 0) (fun hc31 => ?_) (fun hc31 => ?_)
  · skip
    refine e_go hk_136 4 (c := (43, [.ref 131, .int key, .int 0, .int (q_bl (q_c Z 8) (q_c Z 188) key 0 n 0)], [.int ((q_bl (q_c Z 8) (q_c Z 188) key 0 n 0) - 1), .ref 131], hp Z P L)) rfl ?_
    refine e_call hk_136 (as := [.ref 131, .int ((q_bl (q_c Z 8) (q_c Z 188) key 0 n 0) - 1)]) (rest := []) rfl rfl hk_134 rfl (Nat.le_of_ble_eq_true rfl) rfl (q_kat hN hn) ?_
    show e_r 136 46 [.ref 131, .int key, .int 0, .int (q_bl (q_c Z 8) (q_c Z 188) key 0 n 0)] [.int (q_ka (q_c Z 8) (q_c Z 188) 0 n ((q_bl (q_c Z 8) (q_c Z 188) key 0 n 0) - 1))] (hp Z P L) _ _
    exact e_ret hk_136 rfl rfl rfl (by rw [q_nb0, if_neg hc31]) rfl
  · skip
    refine e_go hk_136 2 (c := (46, [.ref 131, .int key, .int 0, .int (q_bl (q_c Z 8) (q_c Z 188) key 0 n 0)], [.int ((-6))], hp Z P L)) rfl ?_
    exact e_ret hk_136 rfl rfl rfl (by rw [q_nb0, if_pos hc31]) rfl
theorem q_cnb1 {Z : Nat → Nat → Int32} {P : Nat → Nat} {L n : Nat} (hN : Z 132 3 = nI n) (hn : n ≤ 60) {key : Int32} (hk : y_nm key = true) : m_r 136 [.ref 131, .int key, .int 1] (hp Z P L) (some (.int (q_nb1 Z n key))) (hp Z P L) := by
  refine m_of (ls := [.ref 131, .int key, .int 1, s_no]) hk_136 rfl rfl rfl ?_
  refine e_go hk_136 1 (c := (1, [.ref 131, .int key, .int 1, s_no], [.int key], hp Z P L)) rfl ?_
  refine e_call hk_136 (as := [.int key]) (rest := []) rfl rfl hk_94 rfl (Nat.le_of_ble_eq_true rfl) rfl q_key ?_
  show e_r 136 4 [.ref 131, .int key, .int 1, s_no] [.int (y_b (y_nm key))] (hp Z P L) _ _
  refine e_go hk_136 1 (c := (if s_cnd .eq (y_b (y_nm key)) 0 = true then 17 else 7, [.ref 131, .int key, .int 1, s_no], [], hp Z P L)) rfl ?_
  refine e_eq (a := 17) (b := 7) (x := y_b (y_nm key)) (y := 0) (fun hc4 => absurd hc4 (y_b1.mpr hk)) (fun hc4 => ?_)
  refine e_go hk_136 4 (c := (11, [.ref 131, .int key, .int 1, s_no], [.long 1, .long 0, .long ((1 : Int32).toInt64)], hp Z P L)) rfl ?_
  refine e_call hk_136 (as := [.long ((1 : Int32).toInt64), .long 0, .long 1]) (rest := []) rfl rfl hk_90 rfl (Nat.le_of_ble_eq_true rfl) rfl (q_in2 (x := 1) (lo := 0) (hi := 1) (by decide) (by decide) (by decide)) ?_
  show e_r 136 14 [.ref 131, .int key, .int 1, s_no] [.int (y_b (decide (0 ≤ 1 ∧ 1 ≤ 1)))] (hp Z P L) _ _
  refine e_go hk_136 1 (c := (if s_cnd .ne (y_b (decide (0 ≤ 1 ∧ 1 ≤ 1))) 0 = true then 20 else 17, [.ref 131, .int key, .int 1, s_no], [], hp Z P L)) rfl ?_
  refine e_ne (a := 20) (b := 17) (x := y_b (decide (0 ≤ 1 ∧ 1 ≤ 1))) (y := 0) (fun hc14 => ?_) (fun hc14 => absurd hc14 (by decide))
  refine e_go hk_136 2 (c := (22, [.ref 131, .int key, .int 1, s_no], [.int key, .ref 131], hp Z P L)) rfl ?_
  refine e_call hk_136 (as := [.ref 131, .int key]) (rest := []) rfl rfl hk_132 rfl (Nat.le_of_ble_eq_true rfl) rfl (q_below hN hn) ?_
  show e_r 136 25 [.ref 131, .int key, .int 1, s_no] [.int (q_bl (q_c Z 8) (q_c Z 188) key 0 n 0)] (hp Z P L) _ _
  refine e_go hk_136 3 (c := (if s_cnd .ne 1 0 = true then 47 else 30, [.ref 131, .int key, .int 1, .int (q_bl (q_c Z 8) (q_c Z 188) key 0 n 0)], [], hp Z P L)) rfl ?_
  refine e_ne (a := 47) (b := 30) (x := 1) (y := 0) (fun hc27 => ?_) (fun hc27 => absurd hc27 (by decide))
  refine e_go hk_136 3 (c := (50, [.ref 131, .int key, .int 1, .int (q_bl (q_c Z 8) (q_c Z 188) key 0 n 0)], [.int (q_bl (q_c Z 8) (q_c Z 188) key 0 n 0), .ref 131, .ref 131], hp Z P L)) rfl ?_
  refine e_call hk_136 (as := [.ref 131, .int (q_bl (q_c Z 8) (q_c Z 188) key 0 n 0)]) (rest := [.ref 131]) rfl rfl hk_134 rfl (Nat.le_of_ble_eq_true rfl) rfl (q_kat hN hn) ?_
  show e_r 136 53 [.ref 131, .int key, .int 1, .int (q_bl (q_c Z 8) (q_c Z 188) key 0 n 0)] [.int (q_ka (q_c Z 8) (q_c Z 188) 0 n (q_bl (q_c Z 8) (q_c Z 188) key 0 n 0)), .ref 131] (hp Z P L) _ _
  refine e_go hk_136 2 (c := (if s_cnd .ne (q_ka (q_c Z 8) (q_c Z 188) 0 n (q_bl (q_c Z 8) (q_c Z 188) key 0 n 0)) key = true then 63 else 57, [.ref 131, .int key, .int 1, .int (q_bl (q_c Z 8) (q_c Z 188) key 0 n 0)], [.ref 131], hp Z P L)) rfl ?_
  refine e_ne (a := 63) (b := 57) (x := q_ka (q_c Z 8) (q_c Z 188) 0 n (q_bl (q_c Z 8) (q_c Z 188) key 0 n 0)) (y := key) (fun hc54 => ?_) (fun hc54 => ?_)
  · skip
    refine e_go hk_136 1 (c := (64, [.ref 131, .int key, .int 1, .int (q_bl (q_c Z 8) (q_c Z 188) key 0 n 0)], [.int (q_bl (q_c Z 8) (q_c Z 188) key 0 n 0), .ref 131], hp Z P L)) rfl ?_
    refine e_call hk_136 (as := [.ref 131, .int (q_bl (q_c Z 8) (q_c Z 188) key 0 n 0)]) (rest := []) rfl rfl hk_134 rfl (Nat.le_of_ble_eq_true rfl) rfl (q_kat hN hn) ?_
    show e_r 136 67 [.ref 131, .int key, .int 1, .int (q_bl (q_c Z 8) (q_c Z 188) key 0 n 0)] [.int (q_ka (q_c Z 8) (q_c Z 188) 0 n (q_bl (q_c Z 8) (q_c Z 188) key 0 n 0))] (hp Z P L) _ _
    exact e_ret hk_136 rfl rfl rfl (by rw [q_nb1, if_neg hc54]) rfl
  · skip
    refine e_go hk_136 4 (c := (64, [.ref 131, .int key, .int 1, .int (q_bl (q_c Z 8) (q_c Z 188) key 0 n 0)], [.int ((q_bl (q_c Z 8) (q_c Z 188) key 0 n 0) + 1), .ref 131], hp Z P L)) rfl ?_
    refine e_call hk_136 (as := [.ref 131, .int ((q_bl (q_c Z 8) (q_c Z 188) key 0 n 0) + 1)]) (rest := []) rfl rfl hk_134 rfl (Nat.le_of_ble_eq_true rfl) rfl (q_kat hN hn) ?_
    show e_r 136 67 [.ref 131, .int key, .int 1, .int (q_bl (q_c Z 8) (q_c Z 188) key 0 n 0)] [.int (q_ka (q_c Z 8) (q_c Z 188) 0 n ((q_bl (q_c Z 8) (q_c Z 188) key 0 n 0) + 1))] (hp Z P L) _ _
    exact e_ret hk_136 rfl rfl rfl (by rw [q_nb1, if_pos hc54]) rfl
theorem q_cnb_k {Z : Nat → Nat → Int32} {P : Nat → Nat} {L : Nat} {key what : Int32} (hk : y_nm key = false) : m_r 136 [.ref 131, .int key, .int what] (hp Z P L) (some (.int (-2))) (hp Z P L) := by
  refine m_of (ls := [.ref 131, .int key, .int what, s_no]) hk_136 rfl rfl rfl ?_
  refine e_go hk_136 1 (c := (1, [.ref 131, .int key, .int what, s_no], [.int key], hp Z P L)) rfl ?_
  refine e_call hk_136 (as := [.int key]) (rest := []) rfl rfl hk_94 rfl (Nat.le_of_ble_eq_true rfl) rfl q_key ?_
  show e_r 136 4 [.ref 131, .int key, .int what, s_no] [.int (y_b (y_nm key))] (hp Z P L) _ _
  refine e_go hk_136 1 (c := (if s_cnd .eq (y_b (y_nm key)) 0 = true then 17 else 7, [.ref 131, .int key, .int what, s_no], [], hp Z P L)) rfl ?_
  refine e_eq (a := 17) (b := 7) (x := y_b (y_nm key)) (y := 0) (fun hc4 => ?_) (fun hc4 => absurd (y_b0.mpr hk) hc4)
  refine e_go hk_136 1 (c := (19, [.ref 131, .int key, .int what, s_no], [.int ((-2))], hp Z P L)) rfl ?_
  exact e_ret hk_136 rfl rfl rfl rfl rfl
theorem q_cnb_w {Z : Nat → Nat → Int32} {P : Nat → Nat} {L : Nat} {key what : Int32} (h0 : ¬ (0 ≤ what ∧ what ≤ 1)) : m_r 136 [.ref 131, .int key, .int what] (hp Z P L) (some (.int (-2))) (hp Z P L) := by
  refine m_of (ls := [.ref 131, .int key, .int what, s_no]) hk_136 rfl rfl rfl ?_
  refine e_go hk_136 1 (c := (1, [.ref 131, .int key, .int what, s_no], [.int key], hp Z P L)) rfl ?_
  refine e_call hk_136 (as := [.int key]) (rest := []) rfl rfl hk_94 rfl (Nat.le_of_ble_eq_true rfl) rfl q_key ?_
  show e_r 136 4 [.ref 131, .int key, .int what, s_no] [.int (y_b (y_nm key))] (hp Z P L) _ _
  refine e_go hk_136 1 (c := (if s_cnd .eq (y_b (y_nm key)) 0 = true then 17 else 7, [.ref 131, .int key, .int what, s_no], [], hp Z P L)) rfl ?_
  refine e_eq (a := 17) (b := 7) (x := y_b (y_nm key)) (y := 0) (fun hc4 => ?_) (fun hc4 => ?_)
  · skip
    refine e_go hk_136 1 (c := (19, [.ref 131, .int key, .int what, s_no], [.int ((-2))], hp Z P L)) rfl ?_
    exact e_ret hk_136 rfl rfl rfl rfl rfl
  · skip
    refine e_go hk_136 4 (c := (11, [.ref 131, .int key, .int what, s_no], [.long 1, .long 0, .long what.toInt64], hp Z P L)) rfl ?_
    refine e_call hk_136 (as := [.long what.toInt64, .long 0, .long 1]) (rest := []) rfl rfl hk_90 rfl (Nat.le_of_ble_eq_true rfl) rfl (q_in2 (x := what) (lo := 0) (hi := 1) rfl (by decide) (by decide)) ?_
    show e_r 136 14 [.ref 131, .int key, .int what, s_no] [.int (y_b (decide (0 ≤ what ∧ what ≤ 1)))] (hp Z P L) _ _
    refine e_go hk_136 1 (c := (if s_cnd .ne (y_b (decide (0 ≤ what ∧ what ≤ 1))) 0 = true then 20 else 17, [.ref 131, .int key, .int what, s_no], [], hp Z P L)) rfl ?_
    refine e_ne (a := 20) (b := 17) (x := y_b (decide (0 ≤ what ∧ what ≤ 1))) (y := 0) (fun hc14 => absurd (y_d0.mpr h0) hc14) (fun hc14 => ?_)
    refine e_go hk_136 1 (c := (19, [.ref 131, .int key, .int what, s_no], [.int ((-2))], hp Z P L)) rfl ?_
    exact e_ret hk_136 rfl rfl rfl rfl rfl
def q_su (Z : Nat → Nat → Int32) (lo hi : Int32) : Nat → Nat → Int32 → Int32
  | _, 0, acc => acc
  | i, k + 1, acc => q_su Z lo hi (i + 1) k (acc + (if Z 132 (188 + i) = 1 ∧ lo ≤ Z 132 (8 + i) ∧ Z 132 (8 + i) ≤ hi then Z 132 (68 + i) else 0))
def q_sum (Z : Nat → Nat → Int32) (n : Nat) (lo hi : Int32) : Int32 := if y_nm lo = true ∧ lo ≤ hi ∧ hi ≤ 999 then q_su Z lo hi 0 n 0 else -2
theorem q_sum_m {Z : Nat → Nat → Int32} {P : Nat → Nat} {L n : Nat} (hN : Z 132 3 = nI n) (hn : n ≤ 60) {lo hi : Int32} : ∀ (k i : Nat) (a : Int32), i + k = n → e_r 137 28 [.ref 131, .int lo, .int hi, .int a, .int (nI i)] [] (hp Z P L) (some (.int (q_su Z lo hi i k a))) (hp Z P L)
  | 0, i, a, hi2 => by
    refine e_go hk_137 4 (c := (35, [.ref 131, .int lo, .int hi, .int a, .int (nI i)], [.int 3, .ref 132, .int (nI i)], hp Z P L)) rfl ?_
    refine e_ald hk_137 (a := 132) (j := 3) (n := 308) rfl rfl rfl (by decide) (by decide) ?_
    show e_r 137 36 [.ref 131, .int lo, .int hi, .int a, .int (nI i)] [.int (Z 132 3), .int (nI i)] (hp Z P L) _ _
    refine e_go hk_137 1 (c := (if s_cnd .ge (nI i) (Z 132 3) = true then 98 else 39, [.ref 131, .int lo, .int hi, .int a, .int (nI i)], [], hp Z P L)) rfl ?_
    refine e_ge (a := 98) (b := 39) (x := nI i) (y := Z 132 3) (fun hc36 => ?_) (fun hc36 => absurd (by rw [hN]; exact (y_le (by omega) (by omega)).mpr (by omega)) hc36)
    refine e_go hk_137 1 (c := (99, [.ref 131, .int lo, .int hi, .int a, .int (nI i)], [.int a], hp Z P L)) rfl ?_
    exact e_ret hk_137 rfl rfl rfl rfl rfl
  | k + 1, i, a, hi2 => by
    refine e_go hk_137 4 (c := (35, [.ref 131, .int lo, .int hi, .int a, .int (nI i)], [.int 3, .ref 132, .int (nI i)], hp Z P L)) rfl ?_
    refine e_ald hk_137 (a := 132) (j := 3) (n := 308) rfl rfl rfl (by decide) (by decide) ?_
    show e_r 137 36 [.ref 131, .int lo, .int hi, .int a, .int (nI i)] [.int (Z 132 3), .int (nI i)] (hp Z P L) _ _
    refine e_go hk_137 1 (c := (if s_cnd .ge (nI i) (Z 132 3) = true then 98 else 39, [.ref 131, .int lo, .int hi, .int a, .int (nI i)], [], hp Z P L)) rfl ?_
    refine e_ge (a := 98) (b := 39) (x := nI i) (y := Z 132 3) (fun hc36 => absurd hc36 (by rw [hN]; exact nI_ge (by omega) (by omega))) (fun hc36 => ?_)
    refine e_go hk_137 6 (c := (50, [.ref 131, .int lo, .int hi, .int a, .int (nI i)], [.int (188 + (nI i)), .ref 132, .int a], hp Z P L)) rfl ?_
    rw [show (188 + (nI i)) = nI (188 + i) from (nI_add 188 i)]
    refine e_ald hk_137 (a := 132) (j := 188 + i) (n := 308) rfl rfl rfl (by omega) (by decide) ?_
    show e_r 137 51 [.ref 131, .int lo, .int hi, .int a, .int (nI i)] [.int (Z 132 (188 + i)), .int a] (hp Z P L) _ _
    refine e_go hk_137 2 (c := (if s_cnd .ne (Z 132 (188 + i)) 1 = true then 89 else 55, [.ref 131, .int lo, .int hi, .int a, .int (nI i)], [.int a], hp Z P L)) rfl ?_
    refine e_ne (a := 89) (b := 55) (x := Z 132 (188 + i)) (y := 1) (fun hc52 => ?_) (fun hc52 => ?_)
    · skip
      refine e_go hk_137 5 (c := (28, [.ref 131, .int lo, .int hi, .int (a + 0), .int ((nI i) + 1)], [], hp Z P L)) rfl ?_
      rw [nI_1, q_su, if_neg (fun z => hc52 z.1)]
      exact q_sum_m hN hn k (i + 1) _ (by omega)
    · skip
      refine e_go hk_137 5 (c := (64, [.ref 131, .int lo, .int hi, .int a, .int (nI i)], [.int (8 + (nI i)), .ref 132, .int a], hp Z P L)) rfl ?_
      rw [show (8 + (nI i)) = nI (8 + i) from (nI_add 8 i)]
      refine e_ald hk_137 (a := 132) (j := 8 + i) (n := 308) rfl rfl rfl (by omega) (by decide) ?_
      show e_r 137 65 [.ref 131, .int lo, .int hi, .int a, .int (nI i)] [.int (Z 132 (8 + i)), .int a] (hp Z P L) _ _
      refine e_go hk_137 5 (c := (70, [.ref 131, .int lo, .int hi, .int a, .int (nI i)], [.long hi.toInt64, .long lo.toInt64, .long ((Z 132 (8 + i)).toInt64), .int a], hp Z P L)) rfl ?_
      refine e_call hk_137 (as := [.long ((Z 132 (8 + i)).toInt64), .long lo.toInt64, .long hi.toInt64]) (rest := [.int a]) rfl rfl hk_90 rfl (Nat.le_of_ble_eq_true rfl) rfl (q_in2 (x := Z 132 (8 + i)) (lo := lo) (hi := hi) rfl rfl rfl) ?_
      show e_r 137 73 [.ref 131, .int lo, .int hi, .int a, .int (nI i)] [.int (y_b (decide (lo ≤ Z 132 (8 + i) ∧ Z 132 (8 + i) ≤ hi))), .int a] (hp Z P L) _ _
      refine e_go hk_137 1 (c := (if s_cnd .eq (y_b (decide (lo ≤ Z 132 (8 + i) ∧ Z 132 (8 + i) ≤ hi))) 0 = true then 89 else 76, [.ref 131, .int lo, .int hi, .int a, .int (nI i)], [.int a], hp Z P L)) rfl ?_
      refine e_eq (a := 89) (b := 76) (x := y_b (decide (lo ≤ Z 132 (8 + i) ∧ Z 132 (8 + i) ≤ hi))) (y := 0) (fun hc73 => ?_) (fun hc73 => ?_)
      · skip
        rw [y_d0] at hc73
        refine e_go hk_137 5 (c := (28, [.ref 131, .int lo, .int hi, .int (a + 0), .int ((nI i) + 1)], [], hp Z P L)) rfl ?_
        rw [nI_1, q_su, if_neg (fun z => hc73 z.2)]
        exact q_sum_m hN hn k (i + 1) _ (by omega)
      · skip
        rw [y_d1] at hc73
        refine e_go hk_137 5 (c := (85, [.ref 131, .int lo, .int hi, .int a, .int (nI i)], [.int (68 + (nI i)), .ref 132, .int a], hp Z P L)) rfl ?_
        rw [show (68 + (nI i)) = nI (68 + i) from (nI_add 68 i)]
        refine e_ald hk_137 (a := 132) (j := 68 + i) (n := 308) rfl rfl rfl (by omega) (by decide) ?_
        show e_r 137 86 [.ref 131, .int lo, .int hi, .int a, .int (nI i)] [.int (Z 132 (68 + i)), .int a] (hp Z P L) _ _
        refine e_go hk_137 5 (c := (28, [.ref 131, .int lo, .int hi, .int (a + (Z 132 (68 + i))), .int ((nI i) + 1)], [], hp Z P L)) rfl ?_
        rw [nI_1, q_su, if_pos ⟨hc52, hc73⟩]
        exact q_sum_m hN hn k (i + 1) _ (by omega)
theorem q_csum {Z : Nat → Nat → Int32} {P : Nat → Nat} {L n : Nat} (hN : Z 132 3 = nI n) (hn : n ≤ 60) {lo hi : Int32} : m_r 137 [.ref 131, .int lo, .int hi] (hp Z P L) (some (.int (q_sum Z n lo hi))) (hp Z P L) := by
  refine m_of (ls := [.ref 131, .int lo, .int hi, s_no, s_no]) hk_137 rfl rfl rfl ?_
  refine e_go hk_137 1 (c := (1, [.ref 131, .int lo, .int hi, s_no, s_no], [.int lo], hp Z P L)) rfl ?_
  refine e_call hk_137 (as := [.int lo]) (rest := []) rfl rfl hk_94 rfl (Nat.le_of_ble_eq_true rfl) rfl q_key ?_
  show e_r 137 4 [.ref 131, .int lo, .int hi, s_no, s_no] [.int (y_b (y_nm lo))] (hp Z P L) _ _
  refine e_go hk_137 1 (c := (if s_cnd .eq (y_b (y_nm lo)) 0 = true then 20 else 7, [.ref 131, .int lo, .int hi, s_no, s_no], [], hp Z P L)) rfl ?_
  refine e_eq (a := 20) (b := 7) (x := y_b (y_nm lo)) (y := 0) (fun hc4 => ?_) (fun hc4 => ?_)
  · skip
    rw [y_b0] at hc4
    refine e_go hk_137 1 (c := (22, [.ref 131, .int lo, .int hi, s_no, s_no], [.int ((-2))], hp Z P L)) rfl ?_
    exact e_ret hk_137 rfl rfl rfl (by rw [q_sum, if_neg (fun z => by rw [hc4] at z; exact absurd z.1 (by decide))]) rfl
  · skip
    rw [y_b1] at hc4
    refine e_go hk_137 5 (c := (14, [.ref 131, .int lo, .int hi, s_no, s_no], [.long 999, .long lo.toInt64, .long hi.toInt64], hp Z P L)) rfl ?_
    refine e_call hk_137 (as := [.long hi.toInt64, .long lo.toInt64, .long 999]) (rest := []) rfl rfl hk_90 rfl (Nat.le_of_ble_eq_true rfl) rfl (q_in2 (x := hi) (lo := lo) (hi := 999) rfl rfl (by decide)) ?_
    show e_r 137 17 [.ref 131, .int lo, .int hi, s_no, s_no] [.int (y_b (decide (lo ≤ hi ∧ hi ≤ 999)))] (hp Z P L) _ _
    refine e_go hk_137 1 (c := (if s_cnd .ne (y_b (decide (lo ≤ hi ∧ hi ≤ 999))) 0 = true then 23 else 20, [.ref 131, .int lo, .int hi, s_no, s_no], [], hp Z P L)) rfl ?_
    refine e_ne (a := 23) (b := 20) (x := y_b (decide (lo ≤ hi ∧ hi ≤ 999))) (y := 0) (fun hc17 => ?_) (fun hc17 => ?_)
    · skip
      rw [y_d1] at hc17
      refine e_go hk_137 4 (c := (28, [.ref 131, .int lo, .int hi, .int 0, .int 0], [], hp Z P L)) rfl ?_
      rw [q_sum, if_pos ⟨hc4, hc17⟩]
      exact q_sum_m hN hn n 0 0 (by omega)
    · skip
      rw [y_d0] at hc17
      refine e_go hk_137 1 (c := (22, [.ref 131, .int lo, .int hi, s_no, s_no], [.int ((-2))], hp Z P L)) rfl ?_
      exact e_ret hk_137 rfl rfl rfl (by rw [q_sum, if_neg (fun z => hc17 z.2)]) rfl
theorem q_wcost {Z : Nat → Nat → Int32} {P : Nat → Nat} {L n : Nat} (hN : Z 132 3 = nI n) (hn : n ≤ 60) {key : Int32} : m_r 138 [.ref 131, .int key] (hp Z P L) (some (.int (q_pt (q_kp Z) n key 0).1)) (hp (q_wz Z n key) P L) := by
  refine m_of (ls := [.ref 131, .int key, s_no]) hk_138 rfl rfl rfl ?_
  refine e_go hk_138 1 (c := (1, [.ref 131, .int key, s_no], [.ref 131], hp Z P L)) rfl ?_
  refine e_call hk_138 (as := [.ref 131]) (rest := []) rfl rfl hk_91 rfl (Nat.le_of_ble_eq_true rfl) rfl q_keep ?_
  show e_r 138 4 [.ref 131, .int key, s_no] [] (hp ((q_kp Z)) P L) _ _
  refine e_go hk_138 3 (c := (7, [.ref 131, .int key, s_no], [.int 0, .int key, .ref 131], hp ((q_kp Z)) P L)) rfl ?_
  refine e_call hk_138 (as := [.ref 131, .int key, .int 0]) (rest := []) rfl rfl hk_113 rfl (Nat.le_of_ble_eq_true rfl) rfl (q_put (n := n) (by rw [q_kp_o (by decide)]; exact hN) hn) ?_
  show e_r 138 10 [.ref 131, .int key, s_no] [.int ((q_pt (q_kp Z) n key 0).1)] (hp ((q_pt (q_kp Z) n key 0).2) P L) _ _
  refine e_go hk_138 2 (c := (12, [.ref 131, .int key, .int ((q_pt (q_kp Z) n key 0).1)], [.ref 131], hp ((q_pt (q_kp Z) n key 0).2) P L)) rfl ?_
  refine e_call hk_138 (as := [.ref 131]) (rest := []) rfl rfl hk_92 rfl (Nat.le_of_ble_eq_true rfl) rfl q_give ?_
  show e_r 138 15 [.ref 131, .int key, .int ((q_pt (q_kp Z) n key 0).1)] [] (hp ((q_gb (q_pt (q_kp Z) n key 0).2)) P L) _ _
  refine e_go hk_138 1 (c := (16, [.ref 131, .int key, .int ((q_pt (q_kp Z) n key 0).1)], [.int ((q_pt (q_kp Z) n key 0).1)], hp ((q_gb (q_pt (q_kp Z) n key 0).2)) P L)) rfl ?_
  exact e_ret hk_138 rfl rfl rfl rfl rfl
theorem q_kpA {Z : Nat → Nat → Int32} : q_kp Z 132 = Z 132 := q_kp_o (by decide)
def q_cost (Z : Nat → Nat → Int32) (n i : Nat) : Int32 := (q_pt Z n (nI i) 0).1
theorem q_cost_eq {Z Y : Nat → Nat → Int32} {n i : Nat} (h : Y 132 = Z 132) : (q_pt (q_kp Y) n (nI i) 0).1 = q_cost Z n i := q_apt (q_kpA.trans h)
def q_wo (C : Nat → Int32) : Nat → Nat → Int32 → Int32 → Int32 × Int32
  | _, 0, b, m => (b, m)
  | i, k + 1, b, m => if m < C i then q_wo C (i + 1) k (nI i) (C i) else q_wo C (i + 1) k b m
def q_wzs (n : Nat) : Nat → Nat → (Nat → Nat → Int32) → Nat → Nat → Int32
  | _, 0, Z => Z
  | i, k + 1, Z => q_wzs n (i + 1) k (q_wz Z n (nI i))
theorem q_wzs_o {n c : Nat} (hn : n ≤ 60) (hc : c < 133 ∨ 139 < c ∨ (133 < c ∧ c < 137)) : ∀ (k i : Nat) (Z : Nat → Nat → Int32), q_wzs n i k Z c = Z c
  | 0, i, Z => rfl
  | k + 1, i, Z => by rw [q_wzs, q_wzs_o hn hc k, q_wz_o hn hc]
def q_pk (what : Int32) (q : Int32 × Int32) : Int32 := if what = 0 then q.1 else q.2
theorem y_toInt_le {k c : Nat} (hk : k < 2 ^ 31) (hc : c < 2 ^ 31) : nI c < nI k ↔ c < k := y_lt hc hk
theorem q_wcost2 {Z : Nat → Nat → Int32} {P : Nat → Nat} {L n : Nat} (hN : Z 132 3 = nI n) (hn : n ≤ 60) {Y : Nat → Nat → Int32} {i : Nat} (hA : Y 132 = Z 132) : m_r 138 [.ref 131, .int (nI i)] (hp Y P L) (some (.int (q_cost Z n i))) (hp (q_wz Y n (nI i)) P L) := by
  have := q_wcost (Z := Y) (P := P) (L := L) (n := n) (key := nI i) (by rw [hA]; exact hN) hn
  rw [q_cost_eq hA] at this
  exact this
theorem q_worst_l {Z : Nat → Nat → Int32} {P : Nat → Nat} {L n : Nat} (hN : Z 132 3 = nI n) (hn : n ≤ 60) {what : Int32} : ∀ (k i : Nat) (b m : Int32) (y5 : Value) (Y : Nat → Nat → Int32), Y 132 = Z 132 → i + k = 1000 → e_r 139 34 [.ref 131, .int what, .int b, .int m, .int (nI i), y5] [] (hp Y P L) (some (.int (q_pk what (q_wo (q_cost Z n) i k b m)))) (hp (q_wzs n i k Y) P L)
  | 0, i, b, m, y5, Y, hA, hi => by
    refine e_go hk_139 3 (c := (if s_cnd .gt (nI i) 999 = true then 82 else 42, [.ref 131, .int what, .int b, .int m, .int (nI i), y5], [], hp Y P L)) rfl ?_
    refine e_gt (a := 82) (b := 42) (x := nI i) (y := 999) (fun hc39 => ?_) (fun hc39 => absurd ((y_lt (a := 999) (b := i) (by omega) (by omega)).mpr (by omega)) hc39)
    refine e_go hk_139 2 (c := (if s_cnd .ne what 0 = true then 90 else 86, [.ref 131, .int what, .int b, .int m, .int (nI i), y5], [], hp Y P L)) rfl ?_
    refine e_ne (a := 90) (b := 86) (x := what) (y := 0) (fun hc83 => ?_) (fun hc83 => ?_)
    · skip
      refine e_go hk_139 1 (c := (91, [.ref 131, .int what, .int b, .int m, .int (nI i), y5], [.int m], hp Y P L)) rfl ?_
      exact e_ret hk_139 rfl rfl rfl (by rw [q_pk, if_neg hc83]; rfl) rfl
    · skip
      refine e_go hk_139 2 (c := (91, [.ref 131, .int what, .int b, .int m, .int (nI i), y5], [.int b], hp Y P L)) rfl ?_
      exact e_ret hk_139 rfl rfl rfl (by rw [q_pk, if_pos hc83]; rfl) rfl
  | k + 1, i, b, m, y5, Y, hA, hi => by
    refine e_go hk_139 3 (c := (if s_cnd .gt (nI i) 999 = true then 82 else 42, [.ref 131, .int what, .int b, .int m, .int (nI i), y5], [], hp Y P L)) rfl ?_
    refine e_gt (a := 82) (b := 42) (x := nI i) (y := 999) (fun hc39 => absurd hc39 (fun z => absurd ((y_lt (a := 999) (b := i) (by omega) (by omega)).mp z) (by omega))) (fun hc39 => ?_)
    refine e_go hk_139 2 (c := (45, [.ref 131, .int what, .int b, .int m, .int (nI i), y5], [.int (nI i), .ref 131], hp Y P L)) rfl ?_
    refine e_call hk_139 (as := [.ref 131, .int (nI i)]) (rest := []) rfl rfl hk_138 rfl (Nat.le_of_ble_eq_true rfl) rfl (q_wcost2 hN hn hA) ?_
    show e_r 139 48 [.ref 131, .int what, .int b, .int m, .int (nI i), y5] [.int (q_cost Z n i)] (hp ((q_wz Y n (nI i))) P L) _ _
    refine e_go hk_139 4 (c := (if s_cnd .le (q_cost Z n i) m = true then 61 else 56, [.ref 131, .int what, .int b, .int m, .int (nI i), .int (q_cost Z n i)], [], hp ((q_wz Y n (nI i))) P L)) rfl ?_
    refine e_le (a := 61) (b := 56) (x := q_cost Z n i) (y := m) (fun hc53 => ?_) (fun hc53 => ?_)
    · skip
      refine e_go hk_139 5 (c := (if s_cnd .le (q_cost Z n i) m = true then 74 else 69, [.ref 131, .int what, .int b, .int m, .int (nI i), .int (q_cost Z n i)], [], hp ((q_wz Y n (nI i))) P L)) rfl ?_
      refine e_le (a := 74) (b := 69) (x := q_cost Z n i) (y := m) (fun hc66 => ?_) (fun hc66 => ?_)
      · skip
        refine e_go hk_139 4 (c := (34, [.ref 131, .int what, .int b, .int m, .int ((nI i) + 1), .int (q_cost Z n i)], [], hp ((q_wz Y n (nI i))) P L)) rfl ?_
        rw [nI_1, q_wo, if_neg (Int32.not_lt.mpr hc53), q_wzs]
        exact q_worst_l hN hn k (i + 1) b m _ _ (by rw [q_wz_A hn]; exact hA) (by omega)
      · skip
        refine e_go hk_139 5 (c := (34, [.ref 131, .int what, .int b, .int (q_cost Z n i), .int ((nI i) + 1), .int (q_cost Z n i)], [], hp ((q_wz Y n (nI i))) P L)) rfl ?_
        exact absurd (Int32.not_le.mp hc66) (Int32.not_lt.mpr hc53)
    · skip
      refine e_go hk_139 6 (c := (if s_cnd .le (q_cost Z n i) m = true then 74 else 69, [.ref 131, .int what, .int (nI i), .int m, .int (nI i), .int (q_cost Z n i)], [], hp ((q_wz Y n (nI i))) P L)) rfl ?_
      refine e_le (a := 74) (b := 69) (x := q_cost Z n i) (y := m) (fun hc66 => ?_) (fun hc66 => ?_)
      · skip
        refine e_go hk_139 4 (c := (34, [.ref 131, .int what, .int (nI i), .int m, .int ((nI i) + 1), .int (q_cost Z n i)], [], hp ((q_wz Y n (nI i))) P L)) rfl ?_
        exact absurd (Int32.not_le.mp hc53) (Int32.not_lt.mpr hc66)
      · skip
        refine e_go hk_139 5 (c := (34, [.ref 131, .int what, .int (nI i), .int (q_cost Z n i), .int ((nI i) + 1), .int (q_cost Z n i)], [], hp ((q_wz Y n (nI i))) P L)) rfl ?_
        rw [nI_1, q_wo, if_pos (Int32.not_le.mp hc53), q_wzs]
        exact q_worst_l hN hn k (i + 1) (nI i) (q_cost Z n i) _ _ (by rw [q_wz_A hn]; exact hA) (by omega)
theorem q_cworst {Z : Nat → Nat → Int32} {P : Nat → Nat} {L n : Nat} (hN : Z 132 3 = nI n) (hn : n ≤ 60) {what : Int32} (hw : 0 ≤ what ∧ what ≤ 1) (hn6 : n < 60) : m_r 139 [.ref 131, .int what] (hp Z P L) (some (.int (q_pk what (q_wo (q_cost Z n) 0 1000 0 0)))) (hp (q_wzs n 0 1000 Z) P L) := by
  refine m_of (ls := [.ref 131, .int what, s_no, s_no, s_no, s_no]) hk_139 rfl rfl rfl ?_
  refine e_go hk_139 4 (c := (4, [.ref 131, .int what, s_no, s_no, s_no, s_no], [.long 1, .long 0, .long what.toInt64], hp Z P L)) rfl ?_
  refine e_call hk_139 (as := [.long what.toInt64, .long 0, .long 1]) (rest := []) rfl rfl hk_90 rfl (Nat.le_of_ble_eq_true rfl) rfl (q_in2 (x := what) (lo := 0) (hi := 1) rfl (by decide) (by decide)) ?_
  show e_r 139 7 [.ref 131, .int what, s_no, s_no, s_no, s_no] [.int (y_b (decide (0 ≤ what ∧ what ≤ 1)))] (hp Z P L) _ _
  refine e_go hk_139 1 (c := (if s_cnd .ne (y_b (decide (0 ≤ what ∧ what ≤ 1))) 0 = true then 13 else 10, [.ref 131, .int what, s_no, s_no, s_no, s_no], [], hp Z P L)) rfl ?_
  refine e_ne (a := 13) (b := 10) (x := y_b (decide (0 ≤ what ∧ what ≤ 1))) (y := 0) (fun hc7 => ?_) (fun hc7 => absurd hc7 (y_d1.mpr hw))
  refine e_go hk_139 3 (c := (18, [.ref 131, .int what, s_no, s_no, s_no, s_no], [.int 3, .ref 132], hp Z P L)) rfl ?_
  refine e_ald hk_139 (a := 132) (j := 3) (n := 308) rfl rfl rfl (by decide) (by decide) ?_
  show e_r 139 19 [.ref 131, .int what, s_no, s_no, s_no, s_no] [.int (Z 132 3)] (hp Z P L) _ _
  refine e_go hk_139 2 (c := (if s_cnd .ne (Z 132 3) 60 = true then 27 else 24, [.ref 131, .int what, s_no, s_no, s_no, s_no], [], hp Z P L)) rfl ?_
  refine e_ne (a := 27) (b := 24) (x := Z 132 3) (y := 60) (fun hc21 => ?_) (fun hc21 => absurd hc21 (by rw [hN]; exact fun z => absurd ((y_eqI (a := n) (b := 60) (by omega) (by omega)).mp z) (by omega)))
  refine e_go hk_139 6 (c := (34, [.ref 131, .int what, .int 0, .int 0, .int 0, s_no], [], hp Z P L)) rfl ?_
  exact q_worst_l hN hn 1000 0 0 0 _ Z rfl (by omega)
theorem q_cworst_f {Z : Nat → Nat → Int32} {P : Nat → Nat} {L n : Nat} (hN : Z 132 3 = nI n) (hn : n ≤ 60) {what : Int32} (hw : 0 ≤ what ∧ what ≤ 1) (hn6 : n = 60) : m_r 139 [.ref 131, .int what] (hp Z P L) (some (.int (-4))) (hp Z P L) := by
  refine m_of (ls := [.ref 131, .int what, s_no, s_no, s_no, s_no]) hk_139 rfl rfl rfl ?_
  refine e_go hk_139 4 (c := (4, [.ref 131, .int what, s_no, s_no, s_no, s_no], [.long 1, .long 0, .long what.toInt64], hp Z P L)) rfl ?_
  refine e_call hk_139 (as := [.long what.toInt64, .long 0, .long 1]) (rest := []) rfl rfl hk_90 rfl (Nat.le_of_ble_eq_true rfl) rfl (q_in2 (x := what) (lo := 0) (hi := 1) rfl (by decide) (by decide)) ?_
  show e_r 139 7 [.ref 131, .int what, s_no, s_no, s_no, s_no] [.int (y_b (decide (0 ≤ what ∧ what ≤ 1)))] (hp Z P L) _ _
  refine e_go hk_139 1 (c := (if s_cnd .ne (y_b (decide (0 ≤ what ∧ what ≤ 1))) 0 = true then 13 else 10, [.ref 131, .int what, s_no, s_no, s_no, s_no], [], hp Z P L)) rfl ?_
  refine e_ne (a := 13) (b := 10) (x := y_b (decide (0 ≤ what ∧ what ≤ 1))) (y := 0) (fun hc7 => ?_) (fun hc7 => absurd hc7 (y_d1.mpr hw))
  refine e_go hk_139 3 (c := (18, [.ref 131, .int what, s_no, s_no, s_no, s_no], [.int 3, .ref 132], hp Z P L)) rfl ?_
  refine e_ald hk_139 (a := 132) (j := 3) (n := 308) rfl rfl rfl (by decide) (by decide) ?_
  show e_r 139 19 [.ref 131, .int what, s_no, s_no, s_no, s_no] [.int (Z 132 3)] (hp Z P L) _ _
  refine e_go hk_139 2 (c := (if s_cnd .ne (Z 132 3) 60 = true then 27 else 24, [.ref 131, .int what, s_no, s_no, s_no, s_no], [], hp Z P L)) rfl ?_
  refine e_ne (a := 27) (b := 24) (x := Z 132 3) (y := 60) (fun hc21 => absurd (by rw [hN, hn6]; rfl) hc21) (fun hc21 => ?_)
  refine e_go hk_139 1 (c := (26, [.ref 131, .int what, s_no, s_no, s_no, s_no], [.int ((-4))], hp Z P L)) rfl ?_
  exact e_ret hk_139 rfl rfl rfl rfl rfl
theorem q_cworst_w {Z : Nat → Nat → Int32} {P : Nat → Nat} {L : Nat} {what : Int32} (hw : ¬ (0 ≤ what ∧ what ≤ 1)) : m_r 139 [.ref 131, .int what] (hp Z P L) (some (.int (-2))) (hp Z P L) := by
  refine m_of (ls := [.ref 131, .int what, s_no, s_no, s_no, s_no]) hk_139 rfl rfl rfl ?_
  refine e_go hk_139 4 (c := (4, [.ref 131, .int what, s_no, s_no, s_no, s_no], [.long 1, .long 0, .long what.toInt64], hp Z P L)) rfl ?_
  refine e_call hk_139 (as := [.long what.toInt64, .long 0, .long 1]) (rest := []) rfl rfl hk_90 rfl (Nat.le_of_ble_eq_true rfl) rfl (q_in2 (x := what) (lo := 0) (hi := 1) rfl (by decide) (by decide)) ?_
  show e_r 139 7 [.ref 131, .int what, s_no, s_no, s_no, s_no] [.int (y_b (decide (0 ≤ what ∧ what ≤ 1)))] (hp Z P L) _ _
  refine e_go hk_139 1 (c := (if s_cnd .ne (y_b (decide (0 ≤ what ∧ what ≤ 1))) 0 = true then 13 else 10, [.ref 131, .int what, s_no, s_no, s_no, s_no], [], hp Z P L)) rfl ?_
  refine e_ne (a := 13) (b := 10) (x := y_b (decide (0 ≤ what ∧ what ≤ 1))) (y := 0) (fun hc7 => absurd (y_d0.mpr hw) hc7) (fun hc7 => ?_)
  refine e_go hk_139 1 (c := (12, [.ref 131, .int what, s_no, s_no, s_no, s_no], [.int ((-2))], hp Z P L)) rfl ?_
  exact e_ret hk_139 rfl rfl rfl rfl rfl
