/-! THE SMALL MACHINE'S HEAP IN THE REAL ONE. S: what is known of the classes; G: what a start adds (class numbers, addresses, the arrays that nobody writes). -/
abbrev s_SG : Type := List vw_C × (Nat → Nat → FieldType) × List Nat × (Nat → String × String × String) × Nat × List Jvm.Cond
abbrev s_cl (S : s_SG) : List vw_C := S.1
abbrev s_ty (S : s_SG) : Nat → Nat → FieldType := S.2.1
/-- the classes of which arrays are made -/
abbrev s_rk (S : s_SG) : List Nat := S.2.2.1
abbrev s_sn (S : s_SG) : Nat → String × String × String := S.2.2.2.1
abbrev s_ns (S : s_SG) : Nat := S.2.2.2.2.1
/-- words that a callee must be told one by one (nest mates, arrays of objects) -/
abbrev s_nw (S : s_SG) : List Jvm.Cond := S.2.2.2.2.2
abbrev s_DG : Type := va_G × (Nat → ClassId) × (Nat → Nat) × Nat × (Nat → Nat) × (Nat → Nat → Int32)
abbrev s_D (G : s_DG) : va_G := G.1
abbrev s_cA (G : s_DG) : Nat → ClassId := G.2.1
abbrev s_ad (G : s_DG) : Nat → Nat := G.2.2.1
abbrev s_B (G : s_DG) : Nat := G.2.2.2.1
abbrev s_Lc (G : s_DG) : Nat → Nat := G.2.2.2.2.1
abbrev s_xs (G : s_DG) : Nat → Nat → Int32 := G.2.2.2.2.2
def s_vc (G : s_DG) : Value → Value
  | .ref i => .ref (s_ad G i)
  | v => v
theorem s_vc_two (G : s_DG) (v : Value) : s_two (s_vc G v) = s_two v := by cases v <;> rfl
theorem s_vc_cat (G : s_DG) (v : Value) : (s_vc G v).category = if s_two v then 2 else 1 := by cases v <;> rfl
theorem s_cat_sum (G : s_DG) : ∀ l : List Value, ((l.map (s_vc G)).map fun v => v.category).sum = s_cat l
  | [] => rfl
  | v :: l => by
    rw [List.map_cons, List.map_cons, List.sum_cons, s_cat_sum G l, s_vc_cat]
    rfl
def s_kd : FieldType → Nat
  | .int => 0
  | .boolean => 1
  | _ => 2
def s_cn (S : s_SG) (c : Nat) : String := match (s_cl S)[c]? with
  | some q => q.1
  | none => ""
def s_F (S : s_SG) (c : Nat) : u_T := match (s_cl S)[c]? with
  | some q => q.2.1
  | none => fun _ => ("", "", "", false)
def s_N (S : s_SG) (c : Nat) : Nat := match (s_cl S)[c]? with
  | some q => q.2.2
  | none => 0
def s_fv (S : s_SG) (G : s_DG) (h : sHp) (i c k : Nat) : Value := if s_kd (s_ty S c k) = 2 then va_rf ((h.2.1 i k).map (s_ad G)) else .int (h.1 i k)
def s_cell (S : s_SG) (G : s_DG) (h : sHp) (i : Nat) : va_E := match h.2.2[i]? with
  | some (0, c) => .inr (c, (List.range (s_N S c)).map (s_fv S G h i c))
  | some (1, n) => .inl (s_cA G 1, n, .inl (h.1 i))
  | some (t + 2, n) => .inl (s_cA G (t + 2), n, .inr (.inr (.inr (.inr (fun k => (h.2.1 i k).map (s_ad G))))))
  | none => .inr (0, [])
def s_ws (S : s_SG) (G : s_DG) (h : sHp) : va_W := (List.range (h.2.2.length - 4)).map fun j => (s_ad G (j + 4), s_cell S G h (j + 4))
def s_tys (S : s_SG) (G : s_DG) : List (ClassId × FieldType) := (s_cA G 1, .int) :: (s_rk S).map fun t => (s_cA G (t + 2), .object (s_cn S t))
def s_A (G : s_DG) : Nat → Prop := fun q => s_B G ≤ q
def s_sz (S : s_SG) : List (Nat × Nat) → Nat
  | [] => 0
  | (0, c) :: l => s_N S c + s_sz S l
  | (_ + 1, n) :: l => n + s_sz S l
theorem s_sz_app (S : s_SG) (q : Nat × Nat) : ∀ l : List (Nat × Nat), s_sz S (l ++ [q]) = s_sz S l + s_sz S [q]
  | [] => by simp [s_sz]
  | (0, c) :: l => by
    rw [List.cons_append, s_sz, s_sz, s_sz_app S q l, Nat.add_assoc]
  | (t + 1, c) :: l => by
    rw [List.cons_append, s_sz, s_sz, s_sz_app S q l, Nat.add_assoc]
/-- the heap h stands in H -/
def s_Wd (S : s_SG) (G : s_DG) (h : sHp) (H : Heap) : Prop := 4 ≤ h.2.2.length ∧ va_P (s_D G) (s_cl S) (s_ws S G h) H ∧ (∀ i : Nat, i < 4 → h.2.2[i]? = some (1, s_Lc G i) ∧ h.1 i = s_xs G i) ∧ ∀ (i t n : Nat), h.2.2[i]? = some (t + 2, n) → t ∈ s_rk S
/-- what a start knows of the tables and of what nobody writes -/
def s_In (S : s_SG) (G : s_DG) (U : State) : Prop := va_K (s_D G) (s_cl S) (s_tys S G) U ∧ (∀ i : Nat, i < 4 → va_T .int (s_ad G i) (s_Lc G i) (fun j => .int (s_xs G i j)) (s_A G) U U.heap ∧ s_ad G i < s_B G) ∧ (∀ j : Nat, j < s_ns S → j < 4 ∧ va_Z (s_sn S j).1 (s_sn S j).2.1 (s_sn S j).2.2 (.ref (s_ad G j)) (s_A G) U U.heap) ∧ (∀ j : Nat, s_ad G (j + 4) = s_B G + j) ∧ ∀ w ∈ s_nw S, va_Nw w U
theorem s_ad_ge {S : s_SG} {G : s_DG} {U : State} (h : s_In S G U) {a : Nat} (ha : 4 ≤ a) : s_ad G a = s_B G + (a - 4) := by
  have := h.2.2.2.1 (a - 4)
  rwa [show a - 4 + 4 = a by omega] at this
theorem s_ws_len (S : s_SG) (G : s_DG) (h : sHp) : (s_ws S G h).length = h.2.2.length - 4 := by simp [s_ws]
theorem s_ws_get (S : s_SG) (G : s_DG) (h : sHp) (j : Nat) : (s_ws S G h)[j]? = if j < h.2.2.length - 4 then some (s_ad G (j + 4), s_cell S G h (j + 4)) else none := by
  unfold s_ws
  rw [List.getElem?_map]
  by_cases q : j < h.2.2.length - 4
  · rw [if_pos q, List.getElem?_range q]; rfl
  · rw [if_neg q, List.getElem?_eq_none (by rw [List.length_range]; omega)]; rfl
theorem s_ws_at (S : s_SG) (G : s_DG) (h : sHp) {a : Nat} (ha : 4 ≤ a) (hl : a < h.2.2.length) : (s_ws S G h)[a - 4]? = some (s_ad G a, s_cell S G h a) := by
  rw [s_ws_get, if_pos (by omega), show a - 4 + 4 = a by omega]
theorem s_ws_D {S : s_SG} {G : s_DG} {U : State} (hI : s_In S G U) (h : sHp) : va_D (s_A G) (s_ws S G h) := by
  have key : ∀ (k : Nat) (q : Nat × va_E), (s_ws S G h)[k]? = some q → q.1 = s_B G + k := by
    intro k q hk
    rw [s_ws_get] at hk
    split at hk
    · cases hk; exact hI.2.2.2.1 k
    · cases hk
  refine ⟨fun i j p q hi hj e => ?_, fun k q hk => ?_⟩
  · have h1 := key i p hi
    have h2 := key j q hj
    omega
  · show s_B G ≤ q.1
    rw [key k q hk]; omega
theorem s_ws_set (S : s_SG) (G : s_DG) {h h2 : sHp} {a : Nat} (ha : 4 ≤ a) (hl : a < h.2.2.length) (hs : h2.2.2 = h.2.2) (ho : ∀ i : Nat, i ≠ a → h2.1 i = h.1 i ∧ h2.2.1 i = h.2.1 i) {e : va_E} (he : e = s_cell S G h2 a) : (s_ws S G h).set (a - 4) (s_ad G a, e) = s_ws S G h2 := by
  apply List.ext_getElem?
  intro j
  rw [s_ws_get S G h2, hs]
  by_cases hj : j = a - 4
  · subst hj
    rw [List.getElem?_set_self (by rw [s_ws_len]; omega), if_pos (by omega), show a - 4 + 4 = a by omega, he]
  · rw [List.getElem?_set_ne (Ne.symm hj), s_ws_get]
    by_cases q : j < h.2.2.length - 4
    · rw [if_pos q, if_pos q]
      obtain ⟨o1, o2⟩ := ho (j + 4) (by omega)
      have : s_cell S G h2 (j + 4) = s_cell S G h (j + 4) := by
        have hf : ∀ c, s_fv S G h2 (j + 4) c = s_fv S G h (j + 4) c := fun c => by funext k; simp only [s_fv, o1, o2]
        simp only [s_cell, hs, o1, o2, hf]
      rw [this]
    · rw [if_neg q, if_neg q]
theorem s_Wd_len {S : s_SG} {G : s_DG} {h : sHp} {H : Heap} (hW : s_Wd S G h H) {a t n : Nat} (hs : s_nth h.2.2 a = some (t, n)) : h.2.2[a]? = some (t, n) ∧ a < h.2.2.length ∧ (t ≠ 1 → 4 ≤ a) := by
  rw [s_nth_eq] at hs
  refine ⟨hs, (List.getElem?_eq_some_iff.mp hs).1, fun ht => ?_⟩
  rcases Nat.lt_or_ge a 4 with q | q
  · have := (hW.2.2.1 a q).1
    rw [this] at hs
    cases hs
    exact absurd rfl ht
  · exact q
theorem s_Wd_put {S : s_SG} {G : s_DG} {h h2 : sHp} {H H1 : Heap} (hW : s_Wd S G h H) {a : Nat} (ha : 4 ≤ a) (hl : a < h.2.2.length) (hs : h2.2.2 = h.2.2) (ho : ∀ i : Nat, i ≠ a → h2.1 i = h.1 i ∧ h2.2.1 i = h.2.1 i) {e : va_E} (he : e = s_cell S G h2 a) (hP : va_P (s_D G) (s_cl S) ((s_ws S G h).set (a - 4) (s_ad G a, e)) H1) : s_Wd S G h2 H1 := by
  rw [s_ws_set S G ha hl hs ho he] at hP
  refine ⟨by rw [hs]; exact hW.1, hP, fun i hi => ?_, fun i t n hi => hW.2.2.2 i t n (by rw [← hs]; exact hi)⟩
  rw [hs, (ho i (by omega)).1]
  exact hW.2.2.1 i hi
theorem s_tys_0 (S : s_SG) (G : s_DG) : (s_tys S G)[0]? = some (s_cA G 1, .int) := rfl
theorem s_tys_r {S : s_SG} (G : s_DG) {t : Nat} (ht : t ∈ s_rk S) : ∃ j : Nat, (s_tys S G)[j]? = some (s_cA G (t + 2), .object (s_cn S t)) := by
  have h : ((s_cA G (t + 2), .object (s_cn S t)) : ClassId × FieldType) ∈ s_tys S G := List.mem_cons_of_mem _ (List.mem_map.mpr ⟨t, ht, rfl⟩)
  exact List.getElem?_of_mem h
/-! the locals -/
def s_as1 (G : s_DG) (i : Nat) : Value → Option (Nat × Value)
  | .retAddr _ => none
  | v => some (i, s_vc G v)
theorem s_as1_eq (G : s_DG) (i : Nat) (v : Value) (q : Nat × Value) : s_as1 G i v = some q ↔ ((∀ a, v ≠ .retAddr a) ∧ q = (i, s_vc G v)) := by
  cases v <;> simp [s_as1, eq_comm]
def s_asc (G : s_DG) (L : List Value) : List (Nat × Value) := (List.range L.length).filterMap fun i => (L[i]?).bind (s_as1 G i)
theorem s_asc_mem {G : s_DG} {L : List Value} {q : Nat × Value} : q ∈ s_asc G L ↔ ∃ v : Value, L[q.1]? = some v ∧ (∀ a, v ≠ .retAddr a) ∧ q.2 = s_vc G v := by
  unfold s_asc
  rw [List.mem_filterMap]
  constructor
  · rintro ⟨i, hi, h⟩
    obtain ⟨v, hv, h2⟩ := Option.bind_eq_some_iff.mp h
    obtain ⟨hn, rfl⟩ := (s_as1_eq G i v q).mp h2
    exact ⟨v, hv, hn, rfl⟩
  · rintro ⟨v, hv, hn, e⟩
    refine ⟨q.1, List.mem_range.mpr (List.getElem?_eq_some_iff.mp hv).1, ?_⟩
    rw [hv]
    exact (s_as1_eq G q.1 v q).mpr ⟨hn, by rw [← e]⟩
def s_LR (G : s_DG) (ls : Array Slot) (L : List Value) : Prop := lv_has ls L.length (s_asc G L)
theorem s_LR_at {G : s_DG} {ls : Array Slot} {L : List Value} (h : s_LR G ls L) {i : Nat} {v : Value} (hv : s_nth L i = some v) (hn : ∀ a, v ≠ .retAddr a) : ls[i]? = some (.val (s_vc G v)) := by
  rw [s_nth_eq] at hv
  exact h.2.2 (i, s_vc G v) (s_asc_mem.mpr ⟨v, hv, hn, rfl⟩)
theorem s_cut_len : ∀ (L : List Value) (i : Nat), (s_cut L i).length = L.length
  | [], _ => by simp [s_cut]
  | _ :: _, 0 => by simp [s_cut]
  | v :: l, 1 => by simp [s_cut]
  | v :: l, n + 2 => by simp [s_cut, s_cut_len l (n + 1)]
theorem s_cut_get : ∀ (L : List Value) (i j : Nat), (s_cut L i)[j]? = if j + 1 = i then (L[j]?).map (fun w => if s_two w then s_no else w) else L[j]?
  | [], i, j => by simp [s_cut]
  | v :: l, 0, j => by
    rw [if_neg (by omega)]
    simp [s_cut]
  | v :: l, 1, 0 => by simp [s_cut]
  | v :: l, 1, j + 1 => by
    rw [if_neg (by omega)]
    simp [s_cut]
  | v :: l, n + 2, 0 => by
    rw [if_neg (by omega)]
    simp [s_cut]
  | v :: l, n + 2, j + 1 => by
    rw [s_cut, List.getElem?_cons_succ, s_cut_get l (n + 1) j, List.getElem?_cons_succ]
    by_cases q : j + 1 = n + 1
    · rw [if_pos q, if_pos (by omega)]
    · rw [if_neg q, if_neg (by omega)]
theorem s_LR_put1 {G : s_DG} {ls : Array Slot} {L : List Value} {i : Nat} {v : Value} (h : lv_has ls L.length ((i, s_vc G v) :: (s_asc G L).filter (fun q => !(q.1 == i) && !(q.1 + 1 == i && q.2.category == 2)))) : s_LR G ls (s_put1 L i v) := by
  have hlen : (s_put1 L i v).length = L.length := by simp [s_put1, s_cut_len]
  unfold s_LR
  rw [hlen]
  refine ⟨h.1, h.2.1, fun q hq => ?_⟩
  obtain ⟨w, hw, hn, e⟩ := s_asc_mem.mp hq
  obtain ⟨j, qv⟩ := q
  dsimp only at hw e
  subst e
  by_cases hj : j = i
  · subst hj
    have hw2 : w = v := by
      have hl : j < (s_cut L j).length := by
        have := (List.getElem?_eq_some_iff.mp hw).1
        rw [hlen] at this
        rw [s_cut_len]; exact this
      rw [s_put1, List.getElem?_set_self hl] at hw
      exact (Option.some.inj hw).symm
    subst hw2
    exact h.2.2 _ List.mem_cons_self
  · rw [s_put1, List.getElem?_set_ne (Ne.symm hj), s_cut_get] at hw
    refine h.2.2 _ (List.mem_cons_of_mem _ (List.mem_filter.mpr ⟨s_asc_mem.mpr ?_, ?_⟩))
    · by_cases q : j + 1 = i
      · rw [if_pos q] at hw
        obtain ⟨w0, h0, h1⟩ := Option.map_eq_some_iff.mp hw
        by_cases h2 : s_two w0 = true
        · rw [if_pos h2] at h1
          exact absurd h1.symm (hn 0)
        · rw [if_neg h2] at h1
          exact ⟨w, by rw [← h1]; exact h0, hn, rfl⟩
      · rw [if_neg q] at hw
        exact ⟨w, hw, hn, rfl⟩
    · have h1 : (j == i) = false := by simpa using hj
      by_cases q : j + 1 = i
      · rw [if_pos q] at hw
        obtain ⟨w0, h0, h1⟩ := Option.map_eq_some_iff.mp hw
        by_cases h2 : s_two w0 = true
        · rw [if_pos h2] at h1
          exact absurd h1.symm (hn 0)
        · rw [if_neg h2] at h1
          subst h1
          have hc : (s_vc G w0).category = 1 := by rw [s_vc_cat, if_neg h2]
          simp [hj, hc]
      · have h2 : (j + 1 == i) = false := by simpa using q
        simp [hj, q]
theorem s_LR_put2 {G : s_DG} {ls : Array Slot} {L : List Value} {i : Nat} {v : Value} (h : lv_has ls L.length ((i, s_vc G v) :: (s_asc G L).filter (fun q => !(q.1 == i) && (!(q.1 == i + 1) && !(q.1 + 1 == i && q.2.category == 2))))) : s_LR G ls (s_put2 L i v) := by
  have hlen : (s_put2 L i v).length = L.length := by simp [s_put2, s_cut_len]
  unfold s_LR
  rw [hlen]
  refine ⟨h.1, h.2.1, fun q hq => ?_⟩
  obtain ⟨w, hw, hn, e⟩ := s_asc_mem.mp hq
  obtain ⟨j, qv⟩ := q
  dsimp only at hw e
  subst e
  by_cases hj2 : j = i + 1
  · subst hj2
    have hl : i + 1 < ((s_cut L i).set i v).length := by
      have := (List.getElem?_eq_some_iff.mp hw).1
      rw [hlen] at this
      rw [List.length_set, s_cut_len]; exact this
    rw [s_put2, List.getElem?_set_self hl] at hw
    exact absurd (Option.some.inj hw).symm (hn 0)
  rw [s_put2, List.getElem?_set_ne (Ne.symm hj2)] at hw
  by_cases hj : j = i
  · subst hj
    have hw2 : w = v := by
      have hl : j < (s_cut L j).length := by
        have := (List.getElem?_eq_some_iff.mp hw).1
        rw [List.length_set] at this; exact this
      rw [List.getElem?_set_self hl] at hw
      exact (Option.some.inj hw).symm
    subst hw2
    exact h.2.2 _ List.mem_cons_self
  · rw [List.getElem?_set_ne (Ne.symm hj), s_cut_get] at hw
    refine h.2.2 _ (List.mem_cons_of_mem _ (List.mem_filter.mpr ⟨s_asc_mem.mpr ?_, ?_⟩))
    · by_cases q : j + 1 = i
      · rw [if_pos q] at hw
        obtain ⟨w0, h0, h1⟩ := Option.map_eq_some_iff.mp hw
        by_cases h2 : s_two w0 = true
        · rw [if_pos h2] at h1
          exact absurd h1.symm (hn 0)
        · rw [if_neg h2] at h1
          exact ⟨w, by rw [← h1]; exact h0, hn, rfl⟩
      · rw [if_neg q] at hw
        exact ⟨w, hw, hn, rfl⟩
    · by_cases q : j + 1 = i
      · rw [if_pos q] at hw
        obtain ⟨w0, h0, h1⟩ := Option.map_eq_some_iff.mp hw
        by_cases h2 : s_two w0 = true
        · rw [if_pos h2] at h1
          exact absurd h1.symm (hn 0)
        · rw [if_neg h2] at h1
          subst h1
          have hc : (s_vc G w0).category = 1 := by rw [s_vc_cat, if_neg h2]
          simp [hj, hj2, hc]
      · simp [hj, hj2, q]
/-- the locals at the entry -/
theorem s_ent_args (G : s_DG) : ∀ (vs : List Value) (n i : Nat) (q : Nat × Value), (∃ w : Value, (s_ent vs n)[q.1]? = some w ∧ (∀ a, w ≠ .retAddr a) ∧ q.2 = s_vc G w) → (q.1 + i, q.2) ∈ lv_args i (vs.map (s_vc G))
  | [], n, i, q, h => by
    obtain ⟨w, hw, hn, -⟩ := h
    unfold s_ent at hw
    rw [List.getElem?_replicate] at hw
    split at hw
    · cases hw; exact absurd rfl (hn 0)
    · cases hw
  | v :: vs, n, i, q, h => by
    obtain ⟨w, hw, hn, e⟩ := h
    obtain ⟨j, qv⟩ := q
    dsimp only at hw e ⊢
    subst e
    rw [List.map_cons, lv_args, s_vc_cat]
    unfold s_ent at hw
    by_cases ht : s_two v = true
    · rw [if_pos ht] at hw
      rw [if_pos ht, if_pos rfl]
      match j, hw with
      | 0, hw =>
        cases hw
        rw [Nat.zero_add]
        exact List.mem_cons_self
      | 1, hw =>
        cases hw
        exact absurd rfl (hn 0)
      | j + 2, hw =>
        have := s_ent_args G vs (n - 2) (i + 2) (j, s_vc G w) ⟨w, hw, hn, rfl⟩
        rw [show j + 2 + i = j + (i + 2) by omega]
        exact List.mem_cons_of_mem _ this
    · rw [if_neg ht] at hw
      rw [if_neg ht, if_neg (by decide)]
      match j, hw with
      | 0, hw =>
        cases hw
        rw [Nat.zero_add]
        exact List.mem_cons_self
      | j + 1, hw =>
        have := s_ent_args G vs (n - 1) (i + 1) (j, s_vc G w) ⟨w, hw, hn, rfl⟩
        rw [show j + 1 + i = j + (i + 1) by omega]
        exact List.mem_cons_of_mem _ this
theorem s_ent_len (G : s_DG) : ∀ (vs : List Value) (n : Nat), (lg_sl (vs.map (s_vc G))).length ≤ n → (s_ent vs n).length = n
  | [], n, _ => by simp [s_ent]
  | v :: vs, n, h => by
    rw [List.map_cons] at h
    unfold lg_sl at h
    rw [List.flatMap_cons, s_vc_cat, List.length_append] at h
    unfold s_ent
    by_cases ht : s_two v = true
    · rw [if_pos ht, if_pos rfl] at h
      rw [if_pos ht, List.length_cons, List.length_cons, s_ent_len G vs (n - 2) (by unfold lg_sl; simp at h ⊢; omega)]
      simp at h; omega
    · rw [if_neg ht, if_neg (by decide)] at h
      rw [if_neg ht, List.length_cons, s_ent_len G vs (n - 1) (by unfold lg_sl; simp at h ⊢; omega)]
      simp at h; omega
theorem s_LR_ent {G : s_DG} {vs : List Value} {n : Nat} {ls : Array Slot} (hl : (lg_sl (vs.map (s_vc G))).length ≤ n) (h : lv_has ls n (lv_args 0 (vs.map (s_vc G)))) : s_LR G ls (s_ent vs n) := by
  unfold s_LR
  rw [s_ent_len G vs n hl]
  refine ⟨h.1, h.2.1, fun q hq => ?_⟩
  have := s_ent_args G vs n 0 q (s_asc_mem.mp hq)
  exact h.2.2 _ this
