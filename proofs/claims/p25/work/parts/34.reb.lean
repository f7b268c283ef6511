/-! Sums, and a part laid anew: the class alone (by hand) -/
theorem t_sm_acc {f : Nat → Int32} : ∀ (k i : Nat) (a : Int32), t_sm f i k a = a + t_sm f i k 0
  | 0, i, a => by
    show a = a + 0
    rw [Int32.add_zero]
  | k + 1, i, a => by
    rw [t_sm, t_sm, t_sm_acc k (i + 1) (a + f i), t_sm_acc k (i + 1) (0 + f i), Int32.zero_add, Int32.add_assoc]
theorem t_sm_one {f : Nat → Int32} {k i : Nat} : t_sm f i (k + 1) 0 = f i + t_sm f (i + 1) k 0 := by
  rw [t_sm, t_sm_acc, Int32.zero_add]
theorem t_sm_add {f : Nat → Int32} : ∀ (a b i : Nat), t_sm f i (a + b) 0 = t_sm f i a 0 + t_sm f (i + a) b 0
  | 0, b, i => by
    show t_sm f i (0 + b) 0 = 0 + t_sm f (i + 0) b 0
    rw [Nat.zero_add, Int32.zero_add, Nat.add_zero]
  | a + 1, b, i => by
    rw [show a + 1 + b = a + b + 1 by omega, t_sm_one, t_sm_one, t_sm_add a b (i + 1), show i + 1 + a = i + (a + 1) by omega, Int32.add_assoc]
theorem t_sm_snoc {f : Nat → Int32} (k i : Nat) : t_sm f i (k + 1) 0 = t_sm f i k 0 + f (i + k) := by
  rw [t_sm_add k 1 i, t_sm_one]
  show _ + (f (i + k) + 0) = _
  rw [Int32.add_zero]
theorem t_sm_plus {f g h : Nat → Int32} : ∀ (k i : Nat), (∀ j, i ≤ j → j < i + k → h j = f j + g j) → t_sm h i k 0 = t_sm f i k 0 + t_sm g i k 0
  | 0, i, e => by
    show (0 : Int32) = 0 + 0
    rw [Int32.add_zero]
  | k + 1, i, e => by
    rw [t_sm_one, t_sm_one, t_sm_one, t_sm_plus k (i + 1) (fun j a b => e j (by omega) (by omega)), e i (Nat.le_refl _) (by omega)]
    rw [Int32.add_assoc, Int32.add_assoc, ← Int32.add_assoc (g i), Int32.add_comm (g i), Int32.add_assoc]
theorem t_sm_nil {f : Nat → Int32} : ∀ (k i : Nat), (∀ j, i ≤ j → j < i + k → f j = 0) → t_sm f i k 0 = 0
  | 0, i, e => rfl
  | k + 1, i, e => by rw [t_sm_one, t_sm_nil k (i + 1) (fun j a b => e j (by omega) (by omega)), e i (Nat.le_refl _) (by omega), Int32.add_zero]
theorem nI_mul (a b : Nat) : nI a * nI b = nI (a * b) := (Int32.ofNat_mul a b).symm
theorem t_sm_ind {f : Nat → Int32} {M : Nat → Bool} {p : Nat} : ∀ (k i : Nat), (∀ j, i ≤ j → j < i + k → f j = if M j = true then nI p else 0) → t_sm f i k 0 = nI (d_n M i k * p)
  | 0, i, e => by
    show (0 : Int32) = nI (0 * p)
    rw [Nat.zero_mul]
    rfl
  | k + 1, i, e => by
    rw [t_sm_one, d_n, t_sm_ind k (i + 1) (fun j a b => e j (by omega) (by omega)), e i (Nat.le_refl _) (by omega)]
    by_cases h : M i = true
    · rw [if_pos h, if_pos h, nI_add, Nat.add_mul, Nat.one_mul]
    · rw [if_neg h, if_neg h, Int32.zero_add, Nat.zero_add]
/-- a sum over the kept places -/
theorem t_sm_kept {f g : Nat → Int32} {M : Nat → Bool} : ∀ (n : Nat), (∀ x, x < n → M x = true → g (d_n M 0 x) = f x) → t_sm g 0 (d_n M 0 n) 0 = t_sm (fun x => if M x = true then f x else 0) 0 n 0
  | 0, h => rfl
  | n + 1, h => by
    rw [t_sm_snoc n, Nat.zero_add, d_n_snoc, Nat.zero_add, ← t_sm_kept n (fun x a b => h x (by omega) b)]
    by_cases hm : M n = true
    · rw [if_pos hm, if_pos hm, t_sm_snoc, Nat.zero_add, h n (by omega) hm]
    · rw [if_neg hm, if_neg hm, Nat.add_zero, Int32.add_zero]
/-- a part laid anew, place by place -/
theorem reb_pt {Z : Nat → Nat → Int32} {n j : Nat} (hn : n ≤ 60) (hDT : DT (Z 15) 0 0 n) (hj : j < n) :
    ∃ (l H c n2 : Nat) (M : Nat → Bool), (t_L Z j = l ∧ t_H Z n j = H ∧ l ≤ j ∧ j ≤ H ∧ H < n) ∧ (∀ x, M x = decide (x < l ∨ H < x ∨ Z 17 x = 1)) ∧ (c ≤ H + 1 - l ∧ d_n M l (H + 1 - l) = c ∧ n2 = n - (H + 1 - l - c) ∧ d_n M 0 n = n2) ∧
    (t_la Z n j 5 6 = nI n2 ∧ t_la Z n j 5 7 = Z 5 7 + t_wt Z n j ∧ t_la Z n j 5 8 = Z 5 8 + (t_sm (Z 13) l (H + 1 - l) 0 - t_wt Z n j) ∧ t_la Z n j 5 10 = y_mx (Z 5 10) (t_wt Z n j) ∧ t_wt Z n j = nI (H + 1 - l)) ∧
    (∀ x, x < n → M x = true → ∀ y, d_n M 0 x = y → t_la Z n j 9 y = Z 9 x ∧ t_la Z n j 11 y = Z 11 x ∧ t_la Z n j 17 y = Z 17 x ∧ t_la Z n j 13 y = (if l ≤ x ∧ x ≤ H then 0 else Z 13 x) ∧ t_la Z n j 15 y = (if l ≤ x ∧ x ≤ H then Z 15 j + nI (t_de (y - l) c) else Z 15 x)) ∧
    (∀ y, y < n2 → ∃ x, x < n ∧ M x = true ∧ d_n M 0 x = y) ∧
    DT (t_la Z n j 15) 0 0 n2 := by
  have hroot := CT_root hDT hn
  have hin := CT_in hroot (Nat.zero_le j) hj
  have hLj : t_L Z j ≤ j := hin.2.1
  have hHj : j ≤ t_H Z n j := hin.2.2.1
  have hHn : t_H Z n j < n := hin.2.2.2
  have hw : t_wt Z n j = nI (t_H Z n j + 1 - t_L Z j) := by
    unfold t_wt
    rw [nI_sub (by omega), nI_1]
    congr 1
    omega
  have hrepl : ∀ (E : Nat → Int32) (e h : Nat), e < 2 ^ 31 → Z 15 j = nI e → h ≤ t_H Z n j + 1 - t_L Z j → DT E e (t_L Z j) (t_H Z n j + 1 - h) → (∀ i, i < t_L Z j → E i = Z 15 i) → (∀ i, t_H Z n j + 1 - h ≤ i → i < n - h → E i = Z 15 (i + h)) → DT E 0 0 (n - h) := fun E e h h31 he hh hE h1 h2 => DT_repl h31 he n 0 0 n (by omega) hroot (Nat.zero_le j) hj hh hE (fun i _ a => h1 i a) h2
  have hla : t_la Z n j = t_ly (t_L Z j) (t_ct (Z 17) (t_L Z j) (t_H Z n j + 1 - t_L Z j)) (Z 15 j) (t_ct (Z 17) (t_L Z j) (t_H Z n j + 1 - t_L Z j)) 0 (t_dh (t_H Z n j) (n - t_L Z j) (t_L Z j) (t_L Z j) (t_sp Z (t_sm (Z 13) (t_L Z j) (t_H Z n j + 1 - t_L Z j) 0) (t_wt Z n j))) := rfl
  obtain ⟨e, hej, -, he60⟩ := DT_val hDT (Nat.zero_le j) hj
  generalize t_wt Z n j = w at *
  generalize t_la Z n j = V at *
  obtain ⟨l, hl⟩ : ∃ l, t_L Z j = l := ⟨_, rfl⟩
  obtain ⟨H, hH⟩ : ∃ H, t_H Z n j = H := ⟨_, rfl⟩
  rw [hl] at hLj hw hrepl hla
  rw [hH] at hHj hHn hw hrepl hla
  generalize hMg : d_kp (Z 17) l H = M
  have hMv : ∀ x, M x = decide (x < l ∨ H < x ∨ Z 17 x = 1) := fun x => by rw [← hMg]; rfl
  have hct : t_ct (Z 17) l (H + 1 - l) = d_n M l (H + 1 - l) := by
    rw [t_ct_dn]
    refine d_n_congr _ _ (fun x a b => ?_)
    rw [hMv]
    exact decide_eq_decide.mpr ⟨fun z => Or.inr (Or.inr z), fun z => z.elim (fun z => by omega) (fun z => z.elim (fun z => by omega) id)⟩
  rw [hct] at hla
  obtain ⟨c, hcg⟩ : ∃ c, d_n M l (H + 1 - l) = c := ⟨_, rfl⟩
  rw [hcg] at hla
  have hcle : c ≤ H + 1 - l := by rw [← hcg]; exact d_n_le _ _
  have hpos : ∀ x, d_n M 0 x = if x ≤ l then x else l + d_n M l (x - l) := fun x => by rw [← hMg]; exact d_kp_pos
  have hpastH : ∀ x, H + 1 ≤ x → d_n M l (x - l) = c + (x - (H + 1)) := fun x hx => by
    have h1 := d_n_add (M := M) (H + 1 - l) (x - (H + 1)) l
    rw [show H + 1 - l + (x - (H + 1)) = x - l by omega, hcg, show l + (H + 1 - l) = H + 1 by omega] at h1
    rw [h1, d_n_all (x - (H + 1)) (H + 1) (fun y a b => by rw [hMv]; exact decide_eq_true (Or.inr (Or.inl (by omega))))]
  have hsp : ∀ cc, cc ≠ 5 → t_sp Z (t_sm (Z 13) l (H + 1 - l) 0) w cc = Z cc := fun cc h => t_sp_o h
  have hdh := fun (cc : Nat) (hcc : t_cl cc) => t_dh_get (hi := H) (n := n) (M := M) hcc (n - l) l l (t_sp Z (t_sm (Z 13) l (H + 1 - l) 0) w) (by omega) (Nat.le_refl _) (fun x a b => by
    rw [hMv, decide_eq_true_eq, hsp 17 (by decide)]
    exact ⟨fun z => z.elim (fun z => by omega) id, fun z => Or.inr z⟩)
  have hU5 : ∀ s, s ≠ 6 → t_dh H (n - l) l l (t_sp Z (t_sm (Z 13) l (H + 1 - l) 0) w) 5 s = t_sp Z (t_sm (Z 13) l (H + 1 - l) 0) w 5 s := fun s hs => t_dh_5 hs _ _ _ _
  generalize t_dh H (n - l) l l (t_sp Z (t_sm (Z 13) l (H + 1 - l) 0) w) = U at hdh hU5 hla
  have hly := fun (y : Nat) => t_ly_get (lo := l) (c := c) (y := y) (dep := Z 15 j) c 0 U
  have hlyo : ∀ cc, cc ≠ 15 → cc ≠ 13 → t_ly l c (Z 15 j) c 0 U cc = U cc := fun cc h1 h2 => t_ly_o h1 h2 _ _ _
  rw [← hla] at hly hlyo
  have hnn : d_n M 0 n = n - (H + 1 - l - c) := by
    rw [hpos, if_neg (by omega), hpastH n (by omega)]
    omega
  have kept : ∀ x, x < n → M x = true → ∀ y, d_n M 0 x = y →
      (∀ cc, t_cl cc → U cc y = Z cc x) ∧ (l ≤ x ∧ x ≤ H ↔ l ≤ y ∧ y < l + c) ∧ (x < l → y = x) ∧ (H < x → y = x - (H + 1 - l - c)) := by
    intro x hx hm y hy
    rw [hpos] at hy
    rcases Nat.lt_or_ge x l with z | z
    · rw [if_pos (by omega)] at hy
      subst hy
      refine ⟨fun cc h => ?_, by omega, fun _ => rfl, by omega⟩
      rw [(hdh cc h).1 x z, hsp cc (fun q => by rw [q] at h; exact t_cl5 h)]
    · have hy2 : l + d_n M l (x - l) = y := by
        by_cases hxl : x ≤ l
        · obtain rfl : x = l := by omega
          rw [if_pos hxl] at hy
          rw [Nat.sub_self]
          exact hy
        · rw [if_neg hxl] at hy
          exact hy
      have hcls : ∀ cc, t_cl cc → U cc y = Z cc x := fun cc h => by
        have := (hdh cc h).2.1 x z hx hm
        rw [hy2, hsp cc (fun q => by rw [q] at h; exact t_cl5 h)] at this
        exact this
      rcases Nat.lt_or_ge H x with zz | zz
      · have hp := hpastH x zz
        exact ⟨hcls, by omega, by omega, fun _ => by omega⟩
      · refine ⟨hcls, ?_, by omega, by omega⟩
        have h1 := d_n_add (M := M) (x - l) (H + 1 - l - (x - l)) l
        rw [show x - l + (H + 1 - l - (x - l)) = H + 1 - l by omega, hcg, show l + (x - l) = x by omega, show H + 1 - l - (x - l) = (H - x) + 1 by omega, d_n, if_pos hm] at h1
        omega
  have fin : ∀ x, x < n → M x = true → ∀ y, d_n M 0 x = y → V 9 y = Z 9 x ∧ V 11 y = Z 11 x ∧ V 17 y = Z 17 x ∧ V 13 y = (if l ≤ x ∧ x ≤ H then 0 else Z 13 x) ∧ V 15 y = (if l ≤ x ∧ x ≤ H then Z 15 j + nI (t_de (y - l) c) else Z 15 x) := by
    intro x hx hm y hy
    obtain ⟨k1, k3, k4, k5⟩ := kept x hx hm y hy
    refine ⟨?_, ?_, ?_, ?_, ?_⟩
    · rw [hlyo 9 (by decide) (by decide)]; exact k1 9 (Or.inl rfl)
    · rw [hlyo 11 (by decide) (by decide)]; exact k1 11 (Or.inr (Or.inl rfl))
    · rw [hlyo 17 (by decide) (by decide)]; exact k1 17 (Or.inr (Or.inr (Or.inr (Or.inr rfl))))
    · rw [(hly y).2, Nat.add_zero]
      by_cases hc : l ≤ x ∧ x ≤ H
      · rw [if_pos hc, if_pos (k3.mp hc)]
      · rw [if_neg hc, if_neg (fun z => hc (k3.mpr z)), k1 13 (Or.inr (Or.inr (Or.inl rfl)))]
    · rw [(hly y).1, Nat.add_zero]
      by_cases hc : l ≤ x ∧ x ≤ H
      · rw [if_pos hc, if_pos (k3.mp hc)]
      · rw [if_neg hc, if_neg (fun z => hc (k3.mpr z)), k1 15 (Or.inr (Or.inr (Or.inr (Or.inl rfl))))]
  have sur : ∀ y, y < n - (H + 1 - l - c) → ∃ x, x < n ∧ M x = true ∧ d_n M 0 x = y := fun y hy => by
    rw [← hnn] at hy
    obtain ⟨x, a, b, m, p⟩ := d_n_sur (i := 0) n y hy
    exact ⟨x, by omega, m, by rw [Nat.sub_zero] at p; exact p⟩
  have hV5 : ∀ s, V 5 s = U 5 s := fun s => by rw [hlyo 5 (by decide) (by decide)]
  have hts := t_sp_get (Z := Z) (pd := t_sm (Z 13) l (H + 1 - l) 0) (w := w)
  refine ⟨l, H, c, n - (H + 1 - l - c), M, ⟨hl, hH, hLj, hHj, hHn⟩, hMv, ⟨hcle, hcg, rfl, hnn⟩, ⟨?_, ?_, ?_, ?_, hw⟩, fin, sur, ?_⟩
  · rw [hV5, (hdh 9 (Or.inl rfl)).2.2, hpastH n (by omega)]
    congr 1
    omega
  · rw [hV5, hU5 7 (by decide), hts.1]
  · rw [hV5, hU5 8 (by decide), hts.2.1]
  · rw [hV5, hU5 10 (by decide), hts.2.2.2]
  · refine hrepl _ e (H + 1 - l - c) (by omega) hej (by omega) ?_ (fun i hi => ?_) (fun i h1 h2 => ?_)
    · rw [show H + 1 - (H + 1 - l - c) = l + c by omega]
      refine DT_even 60 e l (l + c) (by omega) (by omega) (fun y a b => ?_)
      rw [(hly y).1, Nat.add_zero, if_pos ⟨a, b⟩, hej]
      unfold t_de
      rw [t_dl_ev (lo := l) c 60 0 c 0 (Nat.zero_le _) (by omega) (by omega) (by omega), Nat.zero_add, Nat.add_zero, show l + (y - l) = y by omega, nI_add]
    · have hm : M i = true := by rw [hMv]; exact decide_eq_true (Or.inl hi)
      rw [(fin i (by omega) hm i (by rw [hpos, if_pos (by omega)])).2.2.2.2, if_neg (by omega)]
    · have hm : M (i + (H + 1 - l - c)) = true := by rw [hMv]; exact decide_eq_true (Or.inr (Or.inl (by omega)))
      rw [(fin (i + (H + 1 - l - c)) (by omega) hm i ?_).2.2.2.2, if_neg (by omega)]
      rw [hpos, if_neg (by omega), hpastH _ (by omega)]
      omega
