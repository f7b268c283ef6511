/-! putIn, remove, rebuild are the same in both (by hand) -/
theorem t_pl_spec {K : Nat → Int32} {key : Int32} : ∀ (k i : Nat), (∀ x, i ≤ x → x < t_pl K key i k → K x < key) ∧ (t_pl K key i k < i + k → ¬ K (t_pl K key i k) < key)
  | 0, i => by
    rw [t_pl]
    exact ⟨fun x a b => by omega, fun h => by omega⟩
  | k + 1, i => by
    rw [t_pl]
    by_cases h : K i < key
    · rw [if_pos h]
      obtain ⟨h1, h2⟩ := t_pl_spec (K := K) (key := key) k (i + 1)
      refine ⟨fun x a b => ?_, fun g => h2 (by omega)⟩
      by_cases hx : x = i
      · rw [hx]; exact h
      · exact h1 x (by omega) b
    · rw [if_neg h]
      exact ⟨fun x a b => by omega, fun _ => h⟩
theorem q_fd_non {K : Nat → Int32} {key : Int32} : ∀ (k i : Nat), (∀ x, i ≤ x → x < i + k → ¬ K x = key) → q_fd K key i k = none
  | 0, i, h => rfl
  | k + 1, i, h => by rw [q_fd, if_neg (h i (Nat.le_refl _) (by omega)), q_fd_non k (i + 1) (fun x a b => h x (by omega) (by omega))]
theorem Int32_ne_lt {a b : Int32} (h : a < b) : ¬ a = b := fun z => by rw [z] at h; exact Int32.lt_irrefl h
theorem nd_fd0 {K : Nat → Int32} {n : Nat} {key : Int32} (hs : ∀ i j, i < j → j < n → K i < K j) : t_nd K n key = q_fd K key 0 n := by
  obtain ⟨h1, h2⟩ := t_pl_spec (K := K) (key := key) n 0
  have hle := (t_pl_le K key n 0).2
  unfold t_nd
  generalize t_pl K key 0 n = p at *
  by_cases hc : p < n ∧ K p = key
  · rw [if_pos hc, q_fd_some hc.2 n 0 (Nat.zero_le _) (by omega) (fun x a b => Int32_ne_lt (h1 x a b))]
  · rw [if_neg hc, q_fd_non n 0 (fun x a b z => ?_)]
    rcases Nat.lt_trichotomy x p with y | y | y
    · exact Int32_ne_lt (h1 x a y) z
    · rw [y] at z b
      exact hc ⟨by omega, z⟩
    · have h3 := h2 (by omega)
      have h4 := hs p x y (by omega)
      rw [z] at h4
      exact h3 h4
theorem t_wl_congr {D E : Nat → Int32} {lean : Int32} {p : Nat} : ∀ (k d l u : Nat), (∀ i, l ≤ i → i < u → E i = D i) → t_wl E lean p k d l u = t_wl D lean p k d l u
  | 0, d, l, u, h => rfl
  | k + 1, d, l, u, h => by
    rw [t_wl, t_wl]
    by_cases hul : u ≤ l
    · rw [if_pos hul, if_pos hul]
    · rw [if_neg hul, if_neg hul]
      dsimp only
      have ht := t_tp_le D (nI d) (u - 1 - l) l
      rw [t_tp_congr (u - 1 - l) l (fun i a b => h i a (by omega))]
      rw [t_wl_congr k (d + 1) l _ (fun i a b => h i a (by omega)), t_wl_congr k (d + 1) _ u (fun i a b => h i (by omega) b)]
theorem q_rt_eq {D : Nat → Int32} {t : Nat} : ∀ (k i : Nat) (acc : Option Nat), (∀ x, i ≤ x → x < i + k → (D x = 0 ↔ x = t)) → q_rt D i k acc = if i ≤ t ∧ t < i + k then some t else acc
  | 0, i, acc, h => by rw [if_neg (by omega)]; rfl
  | k + 1, i, acc, h => by
    rw [q_rt, q_rt_eq k (i + 1) _ (fun x a b => h x (by omega) (by omega))]
    by_cases hi : i = t
    · rw [if_neg (by omega), if_pos ((h i (Nat.le_refl _) (by omega)).mpr hi), if_pos (by omega), hi]
    · rw [if_neg (fun z => hi ((h i (Nat.le_refl _) (by omega)).mp z))]
      by_cases hc : i + 1 ≤ t ∧ t < i + 1 + k
      · rw [if_pos hc, if_pos (by omega)]
      · rw [if_neg hc, if_neg (by omega)]
theorem root_eq {D : Nat → Int32} {n : Nat} (h : DT D 0 0 n) (hn : n ≤ 60) (h0 : 0 < n) : q_rt D 0 n none = some (t_tp D 0 0 (n - 1 - 0)) ∧ t_tp D 0 0 (n - 1 - 0) < n ∧ D (t_tp D 0 0 (n - 1 - 0)) = 0 := by
  obtain ⟨t, q0, q1, q2, q3, q4, q5, q6⟩ := CT_top (CT_root h hn) h0
  have q0 : t_tp D 0 0 (n - 1 - 0) = t := q0
  rw [q0, q_rt_eq (t := t) n 0 none (fun x a b => ?_), if_pos (by omega)]
  · exact ⟨rfl, q2, q3⟩
  · constructor
    · intro z
      by_cases hx : x = t
      · exact hx
      · exact absurd z.symm (Int32_ne_lt (q6 x a (by omega) hx))
    · intro z
      rw [z]
      exact q3
section CHG
variable {Z Y : Nat → Nat → Int32} {n : Nat}
theorem K_key (hT : K_T Z 5 (Y 132) n) (hI : K_I (Y 132) n) {key : Int32} : t_nd (Z 9) n key = q_fd (q_c Y 8) key 0 n := by
  rw [nd_fd0 (fun i j a b => by
    have h := hI.2.2.1 i j a b
    rw [(hT.2.2.2 i (by omega)).1, (hT.2.2.2 j b).1] at h
    exact h)]
  exact q_fd_congr n 0 (fun i a b => (hT.2.2.2 i (by omega)).1.symm)
theorem K_pl (hT : K_T Z 5 (Y 132) n) {key : Int32} : t_pl (Z 9) key 0 n = t_pl (q_c Y 8) key 0 n := t_pl_congr n 0 (fun i a b => (hT.2.2.2 i (by omega)).1.symm)
theorem K_DT (hI : K_I (Y 132) n) : DT (q_c Y 248) 0 0 n := hI.2.2.2.2.2
/-- paying on the way to place p -/
theorem pay_eq (hT : K_T Z 5 (Y 132) n) (hI : K_I (Y 132) n) {p : Nat} (hp : p < n) : K_T (t_py p 60 0 0 n Z) 5 (q_py Y n p 132) n ∧ K_I (q_py Y n p 132) n := by
  have hn := hI.1
  have hDT := K_DT hI
  have hDe : ∀ i, i < n → Z 15 i = q_c Y 248 i := K_D hT
  have hDTZ : DT (Z 15) 0 0 n := DT_congr hDT (fun i _ b => hDe i b)
  have ho : ∀ c, c ≠ 13 → t_py p 60 0 0 n Z c = Z c := fun c h => t_py_o h _ _ _ _ _
  have hx : ∀ x, (x < 128 ∨ 188 ≤ x) → q_py Y n p 132 x = Y 132 x := fun x h => q_py_x hn h
  have h13 : ∀ i, i < n → q_py Y n p 132 (128 + i) = t_py p 60 0 0 n Z 13 i := fun i hi => by
    have hc := hT.2.2.2 i hi
    rw [py_eff (D := Z 15) 60 0 0 n Z rfl (CT_root hDTZ hn) (by omega) (Nat.zero_le _) hp i, q_py, q_pl_eff (D := q_c Y 248) n 0 Y rfl (by omega) i (by omega), dL_congr hDe hi, dH_congr hDe hi, hc.2.2.1, hT.2.2.1.2.2]
    have : (0 ≤ i ∧ i < 0 + n ∧ dL (q_c Y 248) i ≤ p ∧ p ≤ dH (q_c Y 248) n i) ↔ (0 ≤ i ∧ i < n ∧ dL (q_c Y 248) i ≤ p ∧ p ≤ dH (q_c Y 248) n i) := by rw [Nat.zero_add]
    by_cases hq : 0 ≤ i ∧ i < n ∧ dL (q_c Y 248) i ≤ p ∧ p ≤ dH (q_c Y 248) n i
    · rw [if_pos hq, if_pos (this.mpr hq)]
    · rw [if_neg hq, if_neg (fun z => hq (this.mp z))]
  obtain ⟨⟨a1, a2⟩, ⟨a3, a4, a5, a6⟩, ⟨a7, a8, a9⟩, a10⟩ := hT
  have e5 : t_py p 60 0 0 n Z 5 = Z 5 := ho 5 (by decide)
  have e7 : t_py p 60 0 0 n Z (5 + 2) = Z (5 + 2) := ho 7 (by decide)
  refine ⟨⟨⟨by rw [e5]; exact a1, by rw [hx 3 (by decide)]; exact a2⟩, ⟨by rw [hx 4 (by decide), e5]; exact a3, by rw [hx 5 (by decide), e5]; exact a4, by rw [hx 6 (by decide), e5]; exact a5, by rw [hx 7 (by decide), e5]; exact a6⟩, ⟨by rw [hx 0 (by decide), e7]; exact a7, by rw [hx 1 (by decide), e7]; exact a8, by rw [hx 2 (by decide), e7]; exact a9⟩, fun i hi => ?_⟩, ?_⟩
  · have hc := a10 i hi
    refine ⟨?_, ?_, h13 i hi, ?_, ?_⟩
    · rw [hx _ (by omega), show t_py p 60 0 0 n Z (5 + 4) = Z 9 from ho 9 (by decide)]; exact hc.1
    · rw [hx _ (by omega), show t_py p 60 0 0 n Z (5 + 6) = Z 11 from ho 11 (by decide)]; exact hc.2.1
    · rw [hx _ (by omega), show t_py p 60 0 0 n Z (5 + 12) = Z 17 from ho 17 (by decide)]; exact hc.2.2.2.1
    · rw [hx _ (by omega), show t_py p 60 0 0 n Z (5 + 10) = Z 15 from ho 15 (by decide)]; exact hc.2.2.2.2
  · obtain ⟨b1, b2, b3, b4, b5, b6⟩ := hI
    refine ⟨b1, fun i hi => by rw [hx _ (by omega)]; exact b2 i hi, fun i j h1 h2 => by rw [hx _ (by omega), hx _ (by omega)]; exact b3 i j h1 h2, fun i hi => by rw [hx _ (by omega)]; exact b4 i hi, by rw [hx 0 (by decide), hx 1 (by decide), hx 2 (by decide)]; exact b5, DT_congr b6 (fun i _ hi => hx _ (by omega))⟩
theorem s_upd_ne {a k c i : Nat} {x : Int32} (h : ¬ (c = a ∧ i = k)) : s_upd Z a k x c i = Z c i := by rw [s_upd_c, if_neg h]
/-- value and fullness of one node -/
theorem set_eq (hT : K_T Z 5 (Y 132) n) (hI : K_I (Y 132) n) {j : Nat} {v f : Int32} (hj : j < n) (hf : f = 0 ∨ f = 1) : K_T (s_upd (s_upd Z 11 j v) 17 j f) 5 (s_upd (s_upd Y 132 (68 + j) v) 132 (188 + j) f 132) n ∧ K_I (s_upd (s_upd Y 132 (68 + j) v) 132 (188 + j) f 132) n := by
  have hn := hI.1
  have hx : ∀ x, x ≠ 68 + j → x ≠ 188 + j → s_upd (s_upd Y 132 (68 + j) v) 132 (188 + j) f 132 x = Y 132 x := fun x h1 h2 => by rw [s_upd_ne (fun z => h2 z.2), s_upd_ne (fun z => h1 z.2)]
  have hz : ∀ c i, (c ≠ 11 ∧ c ≠ 17) → s_upd (s_upd Z 11 j v) 17 j f c i = Z c i := fun c i h => by rw [s_upd_ne (fun z => h.2 z.1), s_upd_ne (fun z => h.1 z.1)]
  obtain ⟨⟨a1, a2⟩, ⟨a3, a4, a5, a6⟩, ⟨a7, a8, a9⟩, a10⟩ := hT
  have h17 : ∀ i, i < n → s_upd (s_upd Y 132 (68 + j) v) 132 (188 + j) f 132 (188 + i) = if i = j then f else Y 132 (188 + i) := fun i hi => by
    by_cases h : i = j
    · rw [if_pos h, h, s_upd_c, if_pos ⟨rfl, rfl⟩]
    · rw [if_neg h, hx _ (by omega) (by omega)]
  refine ⟨⟨⟨by rw [hz 5 _ (by decide)]; exact a1, by rw [hx 3 (by omega) (by omega)]; exact a2⟩, ⟨by rw [hx 4 (by omega) (by omega), hz 5 _ (by decide)]; exact a3, by rw [hx 5 (by omega) (by omega), hz 5 _ (by decide)]; exact a4, by rw [hx 6 (by omega) (by omega), hz 5 _ (by decide)]; exact a5, by rw [hx 7 (by omega) (by omega), hz 5 _ (by decide)]; exact a6⟩, ⟨by rw [hx 0 (by omega) (by omega), hz (5 + 2) _ (by decide)]; exact a7, by rw [hx 1 (by omega) (by omega), hz (5 + 2) _ (by decide)]; exact a8, by rw [hx 2 (by omega) (by omega), hz (5 + 2) _ (by decide)]; exact a9⟩, fun i hi => ?_⟩, ?_⟩
  · have hc := a10 i hi
    refine ⟨?_, ?_, ?_, ?_, ?_⟩
    · rw [hx _ (by omega) (by omega), hz (5 + 4) _ (by decide)]; exact hc.1
    · by_cases h : i = j
      · rw [h, s_upd_ne (by omega), s_upd_c, if_pos ⟨rfl, rfl⟩]
        show v = s_upd (s_upd Z 11 j v) 17 j f 11 j
        rw [s_upd_ne (by omega), s_upd_c, if_pos ⟨rfl, rfl⟩]
      · rw [hx _ (by omega) (by omega)]
        show Y 132 (68 + i) = s_upd (s_upd Z 11 j v) 17 j f 11 i
        rw [s_upd_ne (by omega), s_upd_ne (by omega)]
        exact hc.2.1
    · rw [hx _ (by omega) (by omega), hz (5 + 8) _ (by decide)]; exact hc.2.2.1
    · rw [h17 i hi]
      show _ = s_upd (s_upd Z 11 j v) 17 j f 17 i
      by_cases h : i = j
      · rw [if_pos h, h, s_upd_c, if_pos ⟨rfl, rfl⟩]
      · rw [if_neg h, s_upd_ne (by omega), s_upd_ne (by omega)]
        exact hc.2.2.2.1
    · rw [hx _ (by omega) (by omega), hz (5 + 10) _ (by decide)]; exact hc.2.2.2.2
  · obtain ⟨b1, b2, b3, b4, b5, b6⟩ := hI
    refine ⟨b1, fun i hi => by rw [hx _ (by omega) (by omega)]; exact b2 i hi, fun i j h1 h2 => by rw [hx _ (by omega) (by omega), hx _ (by omega) (by omega)]; exact b3 i j h1 h2, fun i hi => ?_, by rw [hx 0 (by omega) (by omega), hx 1 (by omega) (by omega), hx 2 (by omega) (by omega)]; exact b5, DT_congr b6 (fun i _ hi => hx _ (by omega) (by omega))⟩
    rw [h17 i hi]
    by_cases h : i = j
    · rw [if_pos h]; exact hf
    · rw [if_neg h]; exact b4 i hi
theorem s_upd_self {a k : Nat} : s_upd Z a k (Z a k) = Z := by
  funext c i
  rw [s_upd_c]
  by_cases h : c = a ∧ i = k
  · rw [if_pos h, h.1, h.2]
  · rw [if_neg h]
/-- a new node -/
theorem new_eq (hT : K_T Z 5 (Y 132) n) (hI : K_I (Y 132) n) {key value : Int32} (hn : n < 60) (hk : 0 ≤ key ∧ key ≤ 999) (hq : q_fd (q_c Y 8) key 0 n = none) {p : Nat} (hpl : t_pl (q_c Y 8) key 0 n = p) : K_T (t_mk Z n p key value) 5 (q_cm Y n p key value 132) (n + 1) ∧ K_I (q_cm Y n p key value 132) (n + 1) ∧ d_in (q_c Y 248) (q_c (q_cm Y n p key value) 248) n p := by
  obtain ⟨p1, p2⟩ := t_pl_spec (K := q_c Y 8) (key := key) n 0
  have hp : p ≤ n := by have := (t_pl_le (q_c Y 8) key n 0).2; omega
  rw [hpl] at p1 p2
  obtain ⟨⟨a1, a2⟩, ⟨a3, a4, a5, a6⟩, ⟨a7, a8, a9⟩, a10⟩ := id hT
  have hlo : ∀ x, x < 8 → x ≠ 3 → q_cm Y n p key value 132 x = Y 132 x := fun x h1 h2 => q_cm_lo h1 h2
  have h5 : ∀ s, s ≠ 6 → t_mk Z n p key value 5 s = Z 5 s := fun s hs => by
    unfold t_mk t_mt
    rw [s_upd_ne (by omega), s_upd_ne (by omega), s_upd_ne (by omega), s_upd_ne (by omega), s_upd_ne (by omega), s_upd_ne (by omega), t_sh_o t_cl5]
  have h7 : t_mk Z n p key value (5 + 2) = Z (5 + 2) := t_mk_o (by unfold t_cl; omega) (by decide)
  have hg := fun (i : Nat) (hi : i ≤ n) (b : Nat) (hb : q_cb b) => q_cm_get (Z := Y) (n := n) (p := p) (i := i) (key := key) (value := value) hb hp hn hi
  have hz := fun (i : Nat) (hi : i ≤ n) (c : Nat) (hc : t_cl c) => t_mk_get (Z := Z) (n := n) (p := p) (i := i) (key := key) (value := value) hp hi c hc
  have c8 : q_cb 8 := Or.inl rfl
  have c68 : q_cb 68 := Or.inr (Or.inl rfl)
  have c128 : q_cb 128 := Or.inr (Or.inr (Or.inl rfl))
  have c188 : q_cb 188 := Or.inr (Or.inr (Or.inr (Or.inl rfl)))
  have c248 : q_cb 248 := Or.inr (Or.inr (Or.inr (Or.inr rfl)))
  have hdep : y_mx (t_bf (Z 15) p) (t_bh (Z 15) n p) = y_mx (t_bf (q_c Y 248) p) (t_bh (q_c Y 248) n p) := by
    have e1 : t_bf (Z 15) p = t_bf (q_c Y 248) p := by
      cases p with
      | zero => rfl
      | succ q => exact K_D hT q (by omega)
    have e2 : t_bh (Z 15) n p = t_bh (q_c Y 248) n p := by
      unfold t_bh
      by_cases h : p < n
      · rw [if_pos h, if_pos h, K_D hT p h]
      · rw [if_neg h, if_neg h]
    rw [e1, e2]
  have hin : d_in (q_c Y 248) (q_c (q_cm Y n p key value) 248) n p := by
    refine ⟨fun i hi => ?_, fun i h1 h2 => ?_, ?_⟩
    · show q_cm Y n p key value 132 (248 + i) = Y 132 (248 + i)
      rw [hg i (by omega) 248 c248, if_pos hi]
    · show q_cm Y n p key value 132 (248 + (i + 1)) = Y 132 (248 + i)
      rw [hg (i + 1) (by omega) 248 c248, if_neg (by omega), if_neg (by omega), Nat.add_sub_cancel]
    · show q_cm Y n p key value 132 (248 + p) = _
      rw [hg p hp 248 c248, if_neg (by omega), if_pos rfl]
      rfl
  have hDT := K_DT hI
  have hne := q_fd_none n 0 hq
  refine ⟨⟨⟨t_mk_N a1, q_cm_3 a2⟩, ⟨by rw [hlo 4 (by decide) (by decide), h5 7 (by decide)]; exact a3, by rw [hlo 5 (by decide) (by decide), h5 8 (by decide)]; exact a4, by rw [hlo 6 (by decide) (by decide), h5 9 (by decide)]; exact a5, by rw [hlo 7 (by decide) (by decide), h5 10 (by decide)]; exact a6⟩, ⟨by rw [hlo 0 (by decide) (by decide), h7]; exact a7, by rw [hlo 1 (by decide) (by decide), h7]; exact a8, by rw [hlo 2 (by decide) (by decide), h7]; exact a9⟩, fun i hi => ?_⟩, ⟨by omega, fun i hi => ?_, fun i j hij hj => ?_, fun i hi => ?_, ?_, ?_⟩, hin⟩
  · refine ⟨?_, ?_, ?_, ?_, ?_⟩
    · rw [hg i (by omega) 8 c8, show t_mk Z n p key value (5 + 4) i = _ from hz i (by omega) 9 (Or.inl rfl)]
      by_cases h1 : i < p
      · rw [if_pos h1, if_pos h1]; exact (a10 i (by omega)).1
      · by_cases h2 : i = p
        · rw [if_neg h1, if_neg h1, if_pos h2, if_pos h2]; rfl
        · rw [if_neg h1, if_neg h1, if_neg h2, if_neg h2]; exact (a10 (i - 1) (by omega)).1
    · rw [hg i (by omega) 68 c68, show t_mk Z n p key value (5 + 6) i = _ from hz i (by omega) 11 (Or.inr (Or.inl rfl))]
      by_cases h1 : i < p
      · rw [if_pos h1, if_pos h1]; exact (a10 i (by omega)).2.1
      · by_cases h2 : i = p
        · rw [if_neg h1, if_neg h1, if_pos h2, if_pos h2]; rfl
        · rw [if_neg h1, if_neg h1, if_neg h2, if_neg h2]; exact (a10 (i - 1) (by omega)).2.1
    · rw [hg i (by omega) 128 c128, show t_mk Z n p key value (5 + 8) i = _ from hz i (by omega) 13 (Or.inr (Or.inr (Or.inl rfl)))]
      by_cases h1 : i < p
      · rw [if_pos h1, if_pos h1]; exact (a10 i (by omega)).2.2.1
      · by_cases h2 : i = p
        · rw [if_neg h1, if_neg h1, if_pos h2, if_pos h2]; rfl
        · rw [if_neg h1, if_neg h1, if_neg h2, if_neg h2]; exact (a10 (i - 1) (by omega)).2.2.1
    · rw [hg i (by omega) 188 c188, show t_mk Z n p key value (5 + 12) i = _ from hz i (by omega) 17 (Or.inr (Or.inr (Or.inr (Or.inr rfl))))]
      by_cases h1 : i < p
      · rw [if_pos h1, if_pos h1]; exact (a10 i (by omega)).2.2.2.1
      · by_cases h2 : i = p
        · rw [if_neg h1, if_neg h1, if_pos h2, if_pos h2]; rfl
        · rw [if_neg h1, if_neg h1, if_neg h2, if_neg h2]; exact (a10 (i - 1) (by omega)).2.2.2.1
    · rw [hg i (by omega) 248 c248, show t_mk Z n p key value (5 + 10) i = _ from hz i (by omega) 15 (Or.inr (Or.inr (Or.inr (Or.inl rfl))))]
      by_cases h1 : i < p
      · rw [if_pos h1, if_pos h1]; exact (a10 i (by omega)).2.2.2.2
      · by_cases h2 : i = p
        · rw [if_neg h1, if_neg h1, if_pos h2, if_pos h2, hdep]; rfl
        · rw [if_neg h1, if_neg h1, if_neg h2, if_neg h2]; exact (a10 (i - 1) (by omega)).2.2.2.2
  · rw [hg i (by omega) 8 c8]
    by_cases h1 : i < p
    · rw [if_pos h1]; exact hI.2.1 i (by omega)
    · by_cases h2 : i = p
      · rw [if_neg h1, if_pos h2]; exact hk
      · rw [if_neg h1, if_neg h2]; exact hI.2.1 (i - 1) (by omega)
  · rw [hg i (by omega) 8 c8, hg j (by omega) 8 c8]
    have hgt : ∀ x, p ≤ x → x < n → key < Y 132 (8 + x) := fun x h1 h2 => by
      have h3 : ¬ Y 132 (8 + p) < key := p2 (by omega)
      have h4 : ¬ Y 132 (8 + p) = key := hne p (Nat.zero_le _) (by omega)
      have h5 : key < Y 132 (8 + p) := by
        rw [Int32.lt_iff_toInt_lt] at h3 ⊢
        have h6 : (Y 132 (8 + p)).toInt ≠ key.toInt := fun z => h4 (Int32.toInt_inj.mp z)
        omega
      by_cases hx : x = p
      · rw [hx]; exact h5
      · exact Int32.lt_trans h5 (hI.2.2.1 p x (by omega) h2)
    by_cases h1 : j < p
    · rw [if_pos (show i < p by omega), if_pos h1]; exact hI.2.2.1 i j hij (by omega)
    · by_cases h2 : j = p
      · rw [if_pos (show i < p by omega), if_neg h1, if_pos h2]; exact p1 i (Nat.zero_le _) (by omega)
      · rw [if_neg h1, if_neg h2]
        by_cases h3 : i < p
        · rw [if_pos h3]; exact Int32.lt_trans (p1 i (Nat.zero_le _) h3) (hgt (j - 1) (by omega) (by omega))
        · by_cases h4 : i = p
          · rw [if_neg h3, if_pos h4]; exact hgt (j - 1) (by omega) (by omega)
          · rw [if_neg h3, if_neg h4]; exact hI.2.2.1 (i - 1) (j - 1) (by omega) (by omega)
  · rw [hg i (by omega) 188 c188]
    by_cases h1 : i < p
    · rw [if_pos h1]; exact hI.2.2.2.1 i (by omega)
    · by_cases h2 : i = p
      · rw [if_neg h1, if_pos h2]; exact Or.inr rfl
      · rw [if_neg h1, if_neg h2]; exact hI.2.2.2.1 (i - 1) (by omega)
  · rw [hlo 0 (by decide) (by decide), hlo 1 (by decide) (by decide), hlo 2 (by decide) (by decide)]
    exact hI.2.2.2.2.1
  · exact DT_ins hin n 0 0 n (by omega) (CT_root hDT (by omega)) (Nat.zero_le _) hp
end CHG
theorem q_w_pos {Y : Nat → Nat → Int32} {n j : Nat} (hn : n ≤ 60) (hj : j < n) : ¬ q_w Y n j < 0 := by
  have h1 := q_LL Y j
  have h2 := q_HH Y hj
  unfold q_w
  rw [nI_sub (by omega), nI_1]
  exact nI_pos (by omega)
theorem d_in_py {Y : Nat → Nat → Int32} {n p q : Nat} {D : Nat → Int32} (hn : n < 60) (h : d_in D (q_c Y 248) n p) : d_in D (q_c (q_py Y (n + 1) q) 248) n p := by
  rw [q_py_D (by omega)]
  exact h
theorem put_eq {Z Y : Nat → Nat → Int32} {n : Nat} (hT : K_T Z 5 (Y 132) n) (hI : K_I (Y 132) n) {key value : Int32} (hk : y_nm key = true) (hv : y_nm value = true) :
    (t_rm Z n key = false ∧ q_pt Y n key value = (-4, Y)) ∨ (t_rm Z n key = true ∧ (t_en Z n key value).1 = (q_pt Y n key value).1 ∧ t_cs Z n key = (q_pt Y n key value).1 ∧ ¬ (q_pt Y n key value).1 < 0 ∧ ∃ n2, K_T (t_en Z n key value).2 5 ((q_pt Y n key value).2 132) n2 ∧ K_I ((q_pt Y n key value).2 132) n2) := by
  have hn := hI.1
  have hkk : 0 ≤ key ∧ key ≤ 999 := of_decide_eq_true hk
  unfold q_pt t_en t_cs
  rw [if_pos ⟨hk, hv⟩]
  unfold t_rm
  rw [K_key hT hI]
  cases hq : q_fd (q_c Y 8) key 0 n with
  | some j =>
    have hj : j < n := by have := q_fd_lt hq; omega
    right
    dsimp only
    rw [show (decide (n < 60) || (some j).isSome) = true from by rw [Option.isSome_some, Bool.or_true], if_neg (by decide)]
    have h1 := set_eq hT hI (v := value) hj (Or.inr rfl)
    have h2 := pay_eq h1.1 h1.2 hj
    exact ⟨rfl, rfl, rfl, by show ¬ (0 : Int32) < 0; decide, n, h2.1, h2.2⟩
  | none =>
    dsimp only
    by_cases h60 : n = 60
    · left
      rw [if_pos h60, decide_eq_false (by omega)]
      exact ⟨rfl, rfl⟩
    · right
      have hn2 : n < 60 := by omega
      rw [if_neg h60, decide_eq_true hn2, Bool.true_or, if_neg (by decide), K_pl hT]
      have hplle := (t_pl_le (q_c Y 8) key n 0).2
      obtain ⟨m1, m2, m3⟩ := new_eq hT hI (value := value) hn2 hkk hq rfl
      generalize t_pl (q_c Y 8) key 0 n = p at *
      obtain ⟨y1, y2⟩ := pay_eq m1 m2 (p := p) (by omega)
      have m4 := d_in_py (q := p) hn2 m3
      have hlean : q_py (q_cm Y n p key value) (n + 1) p 132 0 = Z 7 0 := by
        rw [q_py_x (by omega) (by omega), q_cm_lo (by decide) (by decide)]
        exact hT.2.2.1.1
      have hwl : t_wl (Z 15) (Z 7 0) p 60 0 0 n = t_wl (q_c Y 248) (Z 7 0) p 60 0 0 n := t_wl_congr 60 0 0 n (fun i _ a => K_D hT i a)
      have hla := q_la_wp (Z := q_py (q_cm Y n p key value) (n + 1) p) (n := n + 1) (p := p) (K_DT y2) (by omega) (by omega)
      have h0 : 0 ≤ Z 7 0 := by
        have := hI.2.2.2.2.1.1
        rw [hT.2.2.1.1] at this
        exact this
      obtain ⟨r1, r2⟩ := wl_wp h0 m4 60 0 0 n (by omega) (CT_root (K_DT hI) hn) (CT_root (K_DT y2) (by omega)) (Nat.zero_le _) (by omega)
      rw [hlean] at hla
      rw [hwl]
      unfold q_p2
      rw [hla]
      generalize hEg : q_py (q_cm Y n p key value) (n + 1) p = E at *
      generalize t_py p 60 0 0 (n + 1) (t_mk Z n p key value) = C at *
      cases hw : t_wl (q_c Y 248) (Z 7 0) p 60 0 0 n with
      | none =>
        rw [r1 hw]
        exact ⟨rfl, rfl, rfl, by show ¬ (0 : Int32) < 0; decide, n + 1, y1, y2⟩
      | some j =>
        obtain ⟨s1, s2, s3⟩ := r2 j hw
        rw [s2]
        dsimp only
        have hj2 : (if j < p then j else j + 1) < n + 1 := by split <;> omega
        generalize (if j < p then j else j + 1) = j2 at *
        refine ⟨rfl, reb_w y1 hj2, ?_, q_w_pos (by omega) hj2, reb_eq y1 y2 hj2⟩
        rw [show t_H Z n j = dH (q_c Y 248) n j from dH_congr (K_D hT) s1, show t_L Z j = dL (q_c Y 248) j from dL_congr (K_D hT) s1, ← s3]
        rfl
theorem rem_eq {Z Y : Nat → Nat → Int32} {n r : Nat} (hT : K_T Z 5 (Y 132) n) (hI : K_I (Y 132) n) {key : Int32} (hk : y_nm key = true) (hr : 0 < n → q_rt (q_c Y 248) 0 n none = some r) :
    (t_fn (Z 9) (Z 17) n key = none ∧ q_rm Y n r key = (-1, Y)) ∨ (¬ t_fn (Z 9) (Z 17) n key = none ∧ (t_hl Z n key).1 = (q_rm Y n r key).1 ∧ ¬ (q_rm Y n r key).1 < 0 ∧ ∃ n2, K_T (t_hl Z n key).2 5 ((q_rm Y n r key).2 132) n2 ∧ K_I ((q_rm Y n r key).2 132) n2) := by
  have hn := hI.1
  unfold q_rm t_hl t_fn
  rw [if_pos hk, K_key hT hI]
  cases hq : q_fd (q_c Y 8) key 0 n with
  | none => exact Or.inl ⟨rfl, rfl⟩
  | some j =>
    have hj : j < n := by have := q_fd_lt hq; omega
    dsimp only
    have hF : Y 132 (188 + j) = Z 17 j := (hT.2.2.2 j hj).2.2.2.1
    rcases hI.2.2.2.1 j hj with h0 | h1
    · left
      rw [if_pos h0, if_neg (by rw [← hF, h0]; decide)]
      exact ⟨rfl, rfl⟩
    · right
      have hz : Z 17 j = 1 := by rw [← hF]; exact h1
      have hy : ¬ Y 132 (188 + j) = 0 := by rw [h1]; decide
      rw [if_pos hz, if_neg hy]
      refine ⟨by simp, ?_⟩
      dsimp only
      have e1 := set_eq hT hI (v := Z 11 j) hj (Or.inl rfl : (0 : Int32) = 0 ∨ (0 : Int32) = 1)
      rw [s_upd_self, show s_upd Y 132 (68 + j) (Z 11 j) = Y from by rw [show Z 11 j = Y 132 (68 + j) from (hT.2.2.2 j hj).2.1.symm, s_upd_self]] at e1
      obtain ⟨y1, y2⟩ := pay_eq e1.1 e1.2 hj
      have hr2 : q_rt (q_c (q_py (s_upd Y 132 (188 + j) 0) n j) 248) 0 n none = some r := by
        rw [q_py_D hn, q_up_D (by omega)]
        exact hr (by omega)
      generalize t_py j 60 0 0 n (s_upd Z 17 j 0) = C at *
      generalize q_py (s_upd Y 132 (188 + j) 0) n j = E at *
      obtain ⟨g1, g2, g3⟩ := root_eq (K_DT y2) hn (by omega)
      rw [g1] at hr2
      have hrt : t_tp (C 15) 0 0 (n - 1 - 0) = r := by
        rw [t_tp_congr (D := q_c E 248) _ _ (fun i a b => K_D y1 i (by omega))]
        exact Option.some.inj hr2
      have hrn : r < n := by rw [← Option.some.inj hr2]; exact g2
      unfold t_h2 q_r2
      rw [hrt, y1.1.2, ← y1.2.2.1.2.1, t_sm_congr (f := C 17) (g := q_c E 188) n 0 0 (fun i a b => (y1.2.2.2 i (by omega)).2.2.2.1.symm)]
      by_cases hc : E 132 1 * nI n < 100 * (nI n - t_sm (q_c E 188) 0 n 0)
      · rw [if_pos hc, if_pos hc]
        exact ⟨reb_w y1 hrn, q_w_pos hn hrn, reb_eq y1 y2 hrn⟩
      · rw [if_neg hc, if_neg hc]
        exact ⟨rfl, by show ¬ (0 : Int32) < 0; decide, n, y1, y2⟩
theorem rbd_eq {Z Y : Nat → Nat → Int32} {n : Nat} (hT : K_T Z 5 (Y 132) n) (hI : K_I (Y 132) n) {key : Int32} (hk : y_nm key = true) :
    (t_nd (Z 9) n key = none ∧ q_rd Y n key = (-1, Y)) ∨ (¬ t_nd (Z 9) n key = none ∧ (t_lk Z n key).1 = (q_rd Y n key).1 ∧ ¬ (q_rd Y n key).1 < 0 ∧ ∃ n2, K_T (t_lk Z n key).2 5 ((q_rd Y n key).2 132) n2 ∧ K_I ((q_rd Y n key).2 132) n2) := by
  unfold q_rd t_lk
  rw [if_pos hk, K_key hT hI]
  cases hq : q_fd (q_c Y 8) key 0 n with
  | none => exact Or.inl ⟨rfl, rfl⟩
  | some j =>
    have hj : j < n := by have := q_fd_lt hq; omega
    exact Or.inr ⟨by simp, reb_w hT hj, q_w_pos hI.1 hj, reb_eq hT hI hj⟩
