/-! Paying, one node, a new node; what the changes leave (by hand) -/
theorem t_pl_at {K : Nat → Int32} {key : Int32} {n i : Nat} (hi : i ≤ n) (h1 : ∀ y, y < i → K y < key) (h2 : i < n → ¬ K i < key) : t_pl K key 0 n = i := by
  obtain ⟨p1, p2⟩ := t_pl_spec (K := K) (key := key) n 0
  have hle := (t_pl_le K key n 0).2
  rcases Nat.lt_trichotomy (t_pl K key 0 n) i with z | z | z
  · exact absurd (h1 _ z) (p2 (by omega))
  · exact z
  · exact absurd (p1 i (Nat.zero_le _) z) (h2 (by omega))
theorem nd_at {K : Nat → Int32} {n x : Nat} (hs : ∀ i j, i < j → j < n → K i < K j) (hx : x < n) : t_nd K n (K x) = some x := by
  have hp : t_pl K (K x) 0 n = x := t_pl_at (by omega) (fun y hy => hs y x hy hx) (fun _ => Int32.lt_irrefl)
  unfold t_nd
  rw [hp, if_pos ⟨hx, rfl⟩]
theorem nd_non {K : Nat → Int32} {n : Nat} {key : Int32} (hs : ∀ i j, i < j → j < n → K i < K j) (h : t_nd K n key = none) : ∀ x, x < n → ¬ K x = key := by
  intro x hx e
  subst e
  rw [nd_at hs hx] at h
  cases h
theorem val_in {Z : Nat → Nat → Int32} {n : Nat} {key v : Int32} (hJ : K_J Z n) (hk : y_nm key = true) (h : k_in Z n key v) : c_val Z n key = v := by
  obtain ⟨i, hi, e1, e2, e3⟩ := h
  subst e1
  unfold c_val t_fn
  rw [if_pos hk, nd_at hJ.2.2.2.1 hi]
  dsimp only
  rw [if_pos e2]
  exact e3
theorem fn_in {Z : Nat → Nat → Int32} {n j : Nat} {key : Int32} (h : t_fn (Z 9) (Z 17) n key = some j) : k_in Z n key (Z 11 j) := ⟨j, (t_fn_lt h).1, (t_fn_lt h).2.1, (t_fn_lt h).2.2, rfl⟩
theorem val_out {Z : Nat → Nat → Int32} {n : Nat} {key : Int32} (hk : y_nm key = true) (h : ∀ v, ¬ k_in Z n key v) : c_val Z n key = -6 := by
  unfold c_val
  rw [if_pos hk]
  cases hq : t_fn (Z 9) (Z 17) n key with
  | none => rfl
  | some j => exact absurd (fn_in hq) (h _)
theorem y_ne6 {v : Int32} (h : 0 ≤ v ∧ v ≤ 999) : ¬ v = -6 := by
  intro e
  rw [e] at h
  exact absurd h.1 (by decide)
theorem in_val {Z : Nat → Nat → Int32} {n : Nat} {key v : Int32} (hJ : K_J Z n) (h : k_in Z n key v) : ¬ v = -6 := by
  obtain ⟨i, hi, e1, e2, e3⟩ := h
  rw [← e3]
  exact y_ne6 (hJ.2.2.2.2.2.1 i hi)
theorem fn_none {Z : Nat → Nat → Int32} {n : Nat} {key : Int32} (hJ : K_J Z n) (h : t_fn (Z 9) (Z 17) n key = none) : ∀ v, ¬ k_in Z n key v := by
  rintro v ⟨i, hi, e1, e2, e3⟩
  subst e1
  unfold t_fn at h
  rw [nd_at hJ.2.2.2.1 hi] at h
  dsimp only at h
  rw [if_pos e2] at h
  cases h
theorem py_J {Z : Nat → Nat → Int32} {n p q : Nat} (hJ : K_J Z n) (hp : p < n) (hq : Z 7 2 = nI q) : ∃ cnt, 1 ≤ cnt ∧ cnt ≤ n ∧ t_sm (t_py p 60 0 0 n Z 13) 0 n 0 = t_sm (Z 13) 0 n 0 + nI (cnt * q) := by
  obtain ⟨hN, hn, hk, hs, hF, hv, hD⟩ := hJ
  have h := py_eff (n := n) (p := p) (D := Z 15) 60 0 0 n Z rfl (CT_root hD hn) (by omega) (Nat.zero_le _) hp
  obtain ⟨M, hM⟩ : ∃ M : Nat → Bool, ∀ i, M i = decide (dL (Z 15) i ≤ p ∧ p ≤ dH (Z 15) n i) := ⟨_, fun _ => rfl⟩
  have hg : ∀ i, i < n → t_py p 60 0 0 n Z 13 i = Z 13 i + (if M i = true then nI q else 0) := fun i hi => by
    rw [h i, hq, hM]
    by_cases hc : dL (Z 15) i ≤ p ∧ p ≤ dH (Z 15) n i
    · rw [if_pos ⟨Nat.zero_le _, hi, hc⟩, if_pos (decide_eq_true hc)]
    · rw [if_neg (fun z => hc z.2.2), if_neg (by rw [decide_eq_false hc]; decide)]
  refine ⟨d_n M 0 n, ?_, d_n_le _ _, ?_⟩
  · have hMp : M p = true := by
      rw [hM]
      exact decide_eq_true ⟨t_lo_le _ _ _, (t_hi_le _ _ _ _).1⟩
    have := d_n_pos (M := M) hp hMp
    omega
  · rw [t_sm_plus (f := Z 13) (g := fun i => if M i = true then nI q else 0) n 0 (fun i _ b => hg i (by omega)), t_sm_ind (p := q) (M := M) (f := fun i => if M i = true then nI q else 0) n 0 (fun i _ _ => rfl)]
theorem t_sm_at {f g : Nat → Int32} {n j : Nat} (hj : j < n) (h : ∀ i, i < n → i ≠ j → g i = f i) : t_sm g 0 n 0 + f j = t_sm f 0 n 0 + g j := by
  have e : ∀ u : Nat → Int32, t_sm u 0 n 0 = t_sm u 0 j 0 + (u j + t_sm u (j + 1) (n - (j + 1)) 0) := fun u => by
    have h := t_sm_add (f := u) j (n - (j + 1) + 1) 0
    rw [show j + (n - (j + 1) + 1) = n by omega, Nat.zero_add, t_sm_one] at h
    exact h
  rw [e g, e f, t_sm_congr (f := g) (g := f) j 0 0 (fun i _ b => h i (by omega) (by omega)), t_sm_congr (f := g) (g := f) (n - (j + 1)) (j + 1) 0 (fun i a b => h i (by omega) (by omega))]
  ac_rfl
theorem t_sm_move {f g : Nat → Int32} : ∀ (k i : Nat), (∀ x, i ≤ x → x < i + k → g (x + 1) = f x) → t_sm g (i + 1) k 0 = t_sm f i k 0
  | 0, i, h => rfl
  | k + 1, i, h => by rw [t_sm_one, t_sm_one, t_sm_move k (i + 1) (fun x a b => h x (by omega) (by omega)), h i (Nat.le_refl _) (by omega)]
/-- a sum with one more place -/
theorem t_sm_ins {f g : Nat → Int32} {n p : Nat} (hp : p ≤ n) (h1 : ∀ i, i < p → g i = f i) (h2 : ∀ i, p ≤ i → i < n → g (i + 1) = f i) : t_sm g 0 (n + 1) 0 = t_sm f 0 n 0 + g p := by
  have a := t_sm_add (f := g) p (n - p + 1) 0
  have b := t_sm_add (f := f) p (n - p) 0
  rw [show p + (n - p + 1) = n + 1 by omega, Nat.zero_add, t_sm_one (k := n - p) (i := p), t_sm_move (f := f) (n - p) p (fun x c d => h2 x c (by omega)), t_sm_congr (f := g) (g := f) p 0 0 (fun j _ d => h1 j (by omega))] at a
  rw [show p + (n - p) = n by omega, Nat.zero_add] at b
  rw [a, b]
  ac_rfl
theorem mk_J {Z : Nat → Nat → Int32} {n p : Nat} {key value : Int32} (hJ : K_J Z n) (h60 : n < 60) (hk : 0 ≤ key ∧ key ≤ 999) (hv : 0 ≤ value ∧ value ≤ 999) (hq : t_nd (Z 9) n key = none) (hp : t_pl (Z 9) key 0 n = p) :
    p ≤ n ∧ K_J (t_mk Z n p key value) (n + 1) ∧ d_in (Z 15) (t_mk Z n p key value 15) n p ∧ t_sm (t_mk Z n p key value 13) 0 (n + 1) 0 = t_sm (Z 13) 0 n 0 ∧ t_sm (t_mk Z n p key value 17) 0 (n + 1) 0 = t_sm (Z 17) 0 n 0 + 1 ∧ k_in (t_mk Z n p key value) (n + 1) key value ∧ (∀ s, s ≠ 6 → t_mk Z n p key value 5 s = Z 5 s) ∧ t_mk Z n p key value 7 = Z 7 := by
  obtain ⟨hN, hn, hkr, hs, hF, hvr, hD⟩ := hJ
  obtain ⟨p1, p2⟩ := t_pl_spec (K := Z 9) (key := key) n 0
  have hpn : p ≤ n := by have := (t_pl_le (Z 9) key n 0).2; omega
  rw [hp] at p1 p2
  have h5 : ∀ s, s ≠ 6 → t_mk Z n p key value 5 s = Z 5 s := fun s hs => by
    unfold t_mk t_mt
    rw [s_upd_ne (by omega), s_upd_ne (by omega), s_upd_ne (by omega), s_upd_ne (by omega), s_upd_ne (by omega), s_upd_ne (by omega), t_sh_o t_cl5]
  have h7 : t_mk Z n p key value 7 = Z 7 := t_mk_o (by unfold t_cl; omega) (by decide)
  have h56 : t_mk Z n p key value 5 6 = nI (n + 1) := t_mk_N hN
  have hz := fun (i : Nat) (hi : i ≤ n) (c : Nat) (hc : t_cl c) => t_mk_get (Z := Z) (n := n) (p := p) (i := i) (key := key) (value := value) hpn hi c hc
  have c9 : t_cl 9 := Or.inl rfl
  have c11 : t_cl 11 := Or.inr (Or.inl rfl)
  have c13 : t_cl 13 := Or.inr (Or.inr (Or.inl rfl))
  have c15 : t_cl 15 := Or.inr (Or.inr (Or.inr (Or.inl rfl)))
  have c17 : t_cl 17 := Or.inr (Or.inr (Or.inr (Or.inr rfl)))
  generalize t_mk Z n p key value = V at *
  have lo : ∀ c, t_cl c → ∀ i, i < p → V c i = Z c i := fun c hc i hi => by rw [hz i (by omega) c hc, if_pos hi]
  have hi : ∀ c, t_cl c → ∀ i, p ≤ i → i < n → V c (i + 1) = Z c i := fun c hc i h1 h2 => by rw [hz (i + 1) (by omega) c hc, if_neg (by omega), if_neg (by omega), Nat.add_sub_cancel]
  have e9 : V 9 p = key := by rw [hz p hpn 9 c9, if_neg (by omega), if_pos rfl]; rfl
  have e11 : V 11 p = value := by rw [hz p hpn 11 c11, if_neg (by omega), if_pos rfl]; rfl
  have e13 : V 13 p = 0 := by rw [hz p hpn 13 c13, if_neg (by omega), if_pos rfl]; rfl
  have e17 : V 17 p = 1 := by rw [hz p hpn 17 c17, if_neg (by omega), if_pos rfl]; rfl
  have hin : d_in (Z 15) (V 15) n p := ⟨lo 15 c15, hi 15 c15, by rw [hz p hpn 15 c15, if_neg (by omega), if_pos rfl]; rfl⟩
  have sp : ∀ i, i < n + 1 → i < p ∨ i = p ∨ ∃ x, p ≤ x ∧ x < n ∧ i = x + 1 := fun i h => by
    rcases Nat.lt_trichotomy i p with z | z | z
    · exact Or.inl z
    · exact Or.inr (Or.inl z)
    · exact Or.inr (Or.inr ⟨i - 1, by omega, by omega, by omega⟩)
  have hne := nd_non hs hq
  have hgt : ∀ x, p ≤ x → x < n → key < Z 9 x := fun x h1 h2 => by
    have h3 : ¬ Z 9 p < key := p2 (by omega)
    have h4 : ¬ Z 9 p = key := hne p (by omega)
    have h5 : key < Z 9 p := by
      rw [Int32.lt_iff_toInt_lt] at h3 ⊢
      have h6 : (Z 9 p).toInt ≠ key.toInt := fun z => h4 (Int32.toInt_inj.mp z)
      omega
    by_cases hx : x = p
    · rw [hx]; exact h5
    · exact Int32.lt_trans h5 (hs p x (by omega) h2)
  refine ⟨hpn, ⟨h56, by omega, fun i h => ?_, fun i j hij hj => ?_, fun i h => ?_, fun i h => ?_, DT_ins hin n 0 0 n (by omega) (CT_root hD hn) (Nat.zero_le _) hpn⟩, hin, ?_, ?_, ⟨p, by omega, e9, e17, e11⟩, h5, h7⟩
  · rcases sp i h with z | z | ⟨x, z1, z2, z3⟩
    · rw [lo 9 c9 i z]; exact hkr i (by omega)
    · rw [z, e9]; exact hk
    · rw [z3, hi 9 c9 x z1 z2]; exact hkr x z2
  · rcases sp i (by omega) with z | z | ⟨x, z1, z2, z3⟩
    · rcases sp j hj with y | y | ⟨w, y1, y2, y3⟩
      · rw [lo 9 c9 i z, lo 9 c9 j y]; exact hs i j hij (by omega)
      · rw [lo 9 c9 i z, y, e9]; exact p1 i (Nat.zero_le _) z
      · rw [lo 9 c9 i z, y3, hi 9 c9 w y1 y2]; exact Int32.lt_trans (p1 i (Nat.zero_le _) z) (hgt w y1 y2)
    · rcases sp j hj with y | y | ⟨w, y1, y2, y3⟩
      · omega
      · omega
      · rw [z, e9, y3, hi 9 c9 w y1 y2]; exact hgt w y1 y2
    · rcases sp j hj with y | y | ⟨w, y1, y2, y3⟩
      · omega
      · omega
      · rw [z3, hi 9 c9 x z1 z2, y3, hi 9 c9 w y1 y2]; exact hs x w (by omega) y2
  · rcases sp i h with z | z | ⟨x, z1, z2, z3⟩
    · rw [lo 17 c17 i z]; exact hF i (by omega)
    · rw [z, e17]; exact Or.inr rfl
    · rw [z3, hi 17 c17 x z1 z2]; exact hF x z2
  · rcases sp i h with z | z | ⟨x, z1, z2, z3⟩
    · rw [lo 11 c11 i z]; exact hvr i (by omega)
    · rw [z, e11]; exact hv
    · rw [z3, hi 11 c11 x z1 z2]; exact hvr x z2
  · rw [t_sm_ins (f := Z 13) hpn (lo 13 c13) (hi 13 c13), e13, Int32.add_zero]
  · rw [t_sm_ins (f := Z 17) hpn (lo 17 c17) (hi 17 c17), e17]
/-- one node's value and fullness -/
theorem up_J {Z : Nat → Nat → Int32} {n j : Nat} {v f : Int32} (hJ : K_J Z n) (hj : j < n) (hv : 0 ≤ v ∧ v ≤ 999) (hf : f = 0 ∨ f = 1) : K_J (s_upd (s_upd Z 11 j v) 17 j f) n ∧ t_sm (s_upd (s_upd Z 11 j v) 17 j f 17) 0 n 0 + Z 17 j = t_sm (Z 17) 0 n 0 + f ∧ (s_upd (s_upd Z 11 j v) 17 j f 9 = Z 9 ∧ s_upd (s_upd Z 11 j v) 17 j f 11 j = v ∧ s_upd (s_upd Z 11 j v) 17 j f 17 j = f) ∧ ∀ c, c ≠ 11 → c ≠ 17 → s_upd (s_upd Z 11 j v) 17 j f c = Z c := by
  have ho : ∀ c, c ≠ 11 → c ≠ 17 → s_upd (s_upd Z 11 j v) 17 j f c = Z c := fun c h1 h2 => by rw [s_upd_o h2, s_upd_o h1]
  have h11 : ∀ i, s_upd (s_upd Z 11 j v) 17 j f 11 i = if i = j then v else Z 11 i := fun i => by
    rw [s_upd_ne (by omega), s_upd_c]
    by_cases h : i = j
    · rw [if_pos ⟨rfl, h⟩, if_pos h]
    · rw [if_neg (fun z => h z.2), if_neg h]
  have h17 : ∀ i, s_upd (s_upd Z 11 j v) 17 j f 17 i = if i = j then f else Z 17 i := fun i => by
    rw [s_upd_c]
    by_cases h : i = j
    · rw [if_pos ⟨rfl, h⟩, if_pos h]
    · rw [if_neg (fun z => h z.2), if_neg h, s_upd_o (by decide)]
  generalize s_upd (s_upd Z 11 j v) 17 j f = V at *
  obtain ⟨hN, hn, hk, hs, hF, hvr, hD⟩ := hJ
  refine ⟨?_, ?_, ⟨ho 9 (by decide) (by decide), by rw [h11, if_pos rfl], by rw [h17, if_pos rfl]⟩, ho⟩
  · unfold K_J
    rw [ho 5 (by decide) (by decide), ho 9 (by decide) (by decide), ho 15 (by decide) (by decide)]
    refine ⟨hN, hn, hk, hs, fun i hi => ?_, fun i hi => ?_, hD⟩
    · rw [h17]
      by_cases h : i = j
      · rw [if_pos h]; exact hf
      · rw [if_neg h]; exact hF i hi
    · rw [h11]
      by_cases h : i = j
      · rw [if_pos h]; exact hv
      · rw [if_neg h]; exact hvr i hi
  · have := t_sm_at (f := Z 17) (g := V 17) hj (fun i _ h => by rw [h17, if_neg h])
    rw [h17 j, if_pos rfl] at this
    exact this
theorem y_c1 {a b : Int32} (h : a + 1 = b + 1) : a = b := by
  have h2 := congrArg (fun z => z - 1) h
  simpa only [Int32.add_sub_cancel] using h2
theorem k_p_pay {Z V : Nat → Nat → Int32} {n : Nat} {x : Int32} (h5 : V 5 = Z 5) (h : t_sm (V 13) 0 n 0 = t_sm (Z 13) 0 n 0 + x) : k_p V n = k_p Z n + x := by
  unfold k_p
  rw [h5, h, Int32.add_assoc, Int32.add_assoc, Int32.add_assoc]
/-- a key put in -/
theorem en_J {Z : Nat → Nat → Int32} {n q : Nat} {key value : Int32} (hJ : K_J Z n) (hq : Z 7 2 = nI q) (h0 : 0 ≤ Z 7 0) (hk : 0 ≤ key ∧ key ≤ 999) (hv : 0 ≤ value ∧ value ≤ 999) (hr : t_rm Z n key = true) : ∃ n2 w cnt, (t_en Z n key value).1 = nI w ∧ w ≤ 60 ∧ t_cs Z n key = nI w ∧ K_J (t_en Z n key value).2 n2 ∧ (t_en Z n key value).2 5 7 = Z 5 7 + nI w ∧ k_p (t_en Z n key value).2 n2 = k_p Z n + nI (cnt * q) ∧ (1 ≤ cnt ∧ cnt ≤ 60) ∧ k_in (t_en Z n key value).2 n2 key value ∧ t_sm ((t_en Z n key value).2 17) 0 n2 0 = t_sm (Z 17) 0 n 0 + (if t_fn (Z 9) (Z 17) n key = none then 1 else 0) ∧ (w = 0 ∨ (t_en Z n key value).2 5 10 = y_mx (Z 5 10) (nI w)) := by
  have hn := hJ.2.1
  unfold t_en t_cs
  rw [if_neg (by rw [hr]; decide)]
  cases hq2 : t_nd (Z 9) n key with
  | some j =>
    dsimp only
    obtain ⟨hj, hkj⟩ := t_nd_lt hq2
    obtain ⟨w1, w2, ⟨w3, w4, w5⟩, w6⟩ := up_J hJ hj hv (Or.inr rfl : (1 : Int32) = 0 ∨ (1 : Int32) = 1)
    generalize s_upd (s_upd Z 11 j value) 17 j 1 = W at *
    obtain ⟨cnt, c1, c2, c3⟩ := py_J w1 hj (q := q) (by rw [w6 7 (by decide) (by decide)]; exact hq)
    have po : ∀ c, c ≠ 13 → t_py j 60 0 0 n W c = W c := fun c hc => t_py_o hc _ _ _ _ _
    generalize t_py j 60 0 0 n W = V at *
    have v5 : V 5 = Z 5 := by rw [po 5 (by decide), w6 5 (by decide) (by decide)]
    refine ⟨n, 0, cnt, rfl, by omega, rfl, K_J_congr w1 (by rw [po 5 (by decide)]) (po 9 (by decide)) (po 11 (by decide)) (po 15 (by decide)) (po 17 (by decide)), by rw [v5, nI_0, Int32.add_zero], k_p_pay v5 (by rw [c3, w6 13 (by decide) (by decide)]), ⟨c1, by omega⟩, ⟨j, hj, by rw [po 9 (by decide), w3]; exact hkj, by rw [po 17 (by decide)]; exact w5, by rw [po 11 (by decide)]; exact w4⟩, ?_, Or.inl rfl⟩
    rw [po 17 (by decide)]
    rcases hJ.2.2.2.2.1 j hj with hz | hz
    · have e : t_fn (Z 9) (Z 17) n key = none := by
        unfold t_fn
        rw [hq2]
        exact if_neg (by rw [hz]; decide)
      rw [if_pos e]
      rw [hz, Int32.add_zero] at w2
      exact w2
    · have e : t_fn (Z 9) (Z 17) n key = some j := by
        unfold t_fn
        rw [hq2]
        exact if_pos hz
      rw [if_neg (by rw [e]; simp), Int32.add_zero]
      rw [hz] at w2
      exact y_c1 w2
  | none =>
    have h60 : n < 60 := by
      unfold t_rm at hr
      rw [hq2] at hr
      simpa using hr
    have hfn : t_fn (Z 9) (Z 17) n key = none := by
      unfold t_fn
      rw [hq2]
    rw [hfn, if_pos rfl]
    dsimp only
    obtain ⟨p, hp⟩ : ∃ p, t_pl (Z 9) key 0 n = p := ⟨_, rfl⟩
    obtain ⟨m1, m2, m3, m4, m5, m6, m7, m8⟩ := mk_J hJ h60 hk hv hq2 hp
    rw [hp]
    generalize t_mk Z n p key value = W at *
    obtain ⟨cnt, c1, c2, c3⟩ := py_J m2 (p := p) (by omega) (q := q) (by rw [m8]; exact hq)
    have po : ∀ c, c ≠ 13 → t_py p 60 0 0 (n + 1) W c = W c := fun c hc => t_py_o hc _ _ _ _ _
    generalize t_py p 60 0 0 (n + 1) W = V at *
    have v1 : K_J V (n + 1) := K_J_congr m2 (by rw [po 5 (by decide)]) (po 9 (by decide)) (po 11 (by decide)) (po 15 (by decide)) (po 17 (by decide))
    have v5 : ∀ s, s ≠ 6 → V 5 s = Z 5 s := fun s hs => by rw [po 5 (by decide), m7 s hs]
    have vp : k_p V (n + 1) = k_p Z n + nI (cnt * q) := by
      unfold k_p
      rw [v5 7 (by decide), v5 8 (by decide), c3, m4, Int32.add_assoc, Int32.add_assoc, Int32.add_assoc]
    have vi : k_in V (n + 1) key value := (k_in_congr (po 9 (by decide)) (po 11 (by decide)) (po 17 (by decide))).mpr m6
    have vs : t_sm (V 17) 0 (n + 1) 0 = t_sm (Z 17) 0 n 0 + 1 := by rw [po 17 (by decide)]; exact m5
    have m3 : d_in (Z 15) (V 15) n p := by rw [po 15 (by decide)]; exact m3
    obtain ⟨r1, r2⟩ := wl_wp h0 m3 60 0 0 n (by omega) (CT_root hJ.2.2.2.2.2.2 hn) (CT_root v1.2.2.2.2.2.2 v1.2.1) (Nat.zero_le _) m1
    cases hw : t_wl (Z 15) (Z 7 0) p 60 0 0 n with
    | none =>
      dsimp only
      exact ⟨n + 1, 0, cnt, rfl, by omega, rfl, v1, by rw [v5 7 (by decide), nI_0, Int32.add_zero], vp, ⟨c1, by omega⟩, vi, vs, Or.inl rfl⟩
    | some j =>
      obtain ⟨s1, s2, s3⟩ := r2 j hw
      dsimp only
      have hj2 : (if j < p then j else j + 1) < n + 1 := by split <;> omega
      generalize (if j < p then j else j + 1) = j2 at *
      obtain ⟨n2, w, k1, k2, ⟨k3, k4, k5⟩, k6, k7, k8, k9, k10, -⟩ := la_J v1 hj2
      refine ⟨n2, w, cnt, k2, by omega, ?_, k1, by rw [k6, v5 7 (by decide)], by rw [k8, vp], ⟨c1, by omega⟩, (k10 key value).mpr vi, by rw [k9, vs], Or.inr (by rw [k7, v5 10 (by decide)])⟩
      rw [← k2]
      exact s3.symm
/-- a key removed -/
theorem hl_J {Z : Nat → Nat → Int32} {n q j : Nat} {key : Int32} (hJ : K_J Z n) (hq : Z 7 2 = nI q) (hfn : t_fn (Z 9) (Z 17) n key = some j) : ∃ n2 w cnt, (t_hl Z n key).1 = nI w ∧ w ≤ 60 ∧ K_J (t_hl Z n key).2 n2 ∧ (t_hl Z n key).2 5 7 = Z 5 7 + nI w ∧ k_p (t_hl Z n key).2 n2 = k_p Z n + nI (cnt * q) ∧ (1 ≤ cnt ∧ cnt ≤ 60) ∧ (∀ v, ¬ k_in (t_hl Z n key).2 n2 key v) ∧ t_sm ((t_hl Z n key).2 17) 0 n2 0 + 1 = t_sm (Z 17) 0 n 0 ∧ (w = 0 ∨ nI n2 = t_sm ((t_hl Z n key).2 17) 0 n2 0) := by
  have hn := hJ.2.1
  obtain ⟨hj, hkj, hf1⟩ := t_fn_lt hfn
  unfold t_hl
  rw [hfn]
  dsimp only
  have hself : s_upd Z 11 j (Z 11 j) = Z := by
    funext c i
    rw [s_upd_c]
    by_cases h : c = 11 ∧ i = j
    · rw [if_pos h, h.1, h.2]
    · rw [if_neg h]
  obtain ⟨w1, w2, ⟨w3, w4, w5⟩, w6⟩ := up_J hJ hj (hJ.2.2.2.2.2.1 j hj) (Or.inl rfl : (0 : Int32) = 0 ∨ (0 : Int32) = 1)
  rw [hself] at w1 w2 w3 w4 w5 w6
  have hout : ∀ v, ¬ k_in (s_upd Z 17 j 0) n key v := by
    rintro v ⟨i, hi, e1, e2, e3⟩
    rw [w3] at e1
    have h1 := nd_at hJ.2.2.2.1 hi
    have h2 := nd_at hJ.2.2.2.1 hj
    rw [e1] at h1
    rw [hkj, h1] at h2
    rw [Option.some.inj h2, w5] at e2
    exact absurd e2 (by decide)
  generalize s_upd Z 17 j 0 = W at *
  obtain ⟨cnt, c1, c2, c3⟩ := py_J w1 hj (q := q) (by rw [w6 7 (by decide) (by decide)]; exact hq)
  have po : ∀ c, c ≠ 13 → t_py j 60 0 0 n W c = W c := fun c hc => t_py_o hc _ _ _ _ _
  generalize t_py j 60 0 0 n W = V at *
  have v5 : V 5 = Z 5 := by rw [po 5 (by decide), w6 5 (by decide) (by decide)]
  have v1 : K_J V n := K_J_congr w1 (by rw [po 5 (by decide)]) (po 9 (by decide)) (po 11 (by decide)) (po 15 (by decide)) (po 17 (by decide))
  have vp : k_p V n = k_p Z n + nI (cnt * q) := k_p_pay v5 (by rw [c3, w6 13 (by decide) (by decide)])
  have vo : ∀ v, ¬ k_in V n key v := fun v h => hout v ((k_in_congr (po 9 (by decide)) (po 11 (by decide)) (po 17 (by decide))).mp h)
  have vs : t_sm (V 17) 0 n 0 + 1 = t_sm (Z 17) 0 n 0 := by
    rw [po 17 (by decide)]
    rw [hf1, Int32.add_zero] at w2
    exact w2
  unfold t_h2
  obtain ⟨t, q0, q1, q2, q3⟩ := root_J v1 (by omega)
  rw [q0]
  by_cases hc : V 7 1 * nI n < 100 * (nI n - t_sm (V 17) 0 n 0)
  · rw [if_pos hc]
    obtain ⟨n2, w, k1, k2, ⟨k3, k4, k5⟩, k6, k7, k8, k9, k10, k11⟩ := la_J v1 q1
    have hwn : w = n := by
      rw [q3] at k2
      exact ((nI_eq (by omega) (by omega)).mp k2).symm
    dsimp only
    exact ⟨n2, w, cnt, k2, by omega, k1, by rw [k6, v5], by rw [k8, vp], ⟨c1, by omega⟩, fun v h => vo v ((k10 key v).mp h), by rw [k9]; exact vs, Or.inr (by rw [k9]; exact (k11 hwn).1)⟩
  · rw [if_neg hc]
    dsimp only
    exact ⟨n, 0, cnt, rfl, by omega, v1, by rw [v5, nI_0, Int32.add_zero], vp, ⟨c1, by omega⟩, vo, vs, Or.inl rfl⟩
