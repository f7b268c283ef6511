/-! THE LAW'S LOOP: 22 calls of both, one after another (wip/whole/gen/law.py) -/
def w_Z (Z : Nat → Nat → Int32) (P : Nat → Nat) (L i : Nat) : Prop := ∃ (Z2 : Nat → Nat → Int32) (P2 : Nat → Nat), e_r 152 18 [.ref 3, .ref 4, .ref 131, .int (nI i)] [] (hp Z P L) (some (.int 1)) (hp Z2 P2 L)
set_option maxRecDepth 20000 in
theorem w_31 (x : Int32) : ∃ c, c < 32 ∧ x &&& 31 = nI c := by
  refine ⟨(x &&& 31).toUInt32.toNat, ?_, ?_⟩
  · rw [Int32.toUInt32_and, UInt32.toNat_and]
    exact Nat.lt_of_le_of_lt Nat.and_le_right (by decide)
  · have h1 : (x &&& 31).toUInt32 = (nI (x &&& 31).toUInt32.toNat).toUInt32 := by
      show _ = (Int32.ofNat _).toUInt32
      rw [Int32.toUInt32_ofNat', UInt32.ofNat_toNat]
    exact congrArg UInt32.toInt32 h1
set_option maxRecDepth 20000 in
theorem w_nx {Z : Nat → Nat → Int32} {P : Nat → Nat} {L i : Nat} (h : w_Z Z P L (i + 3)) : ∃ (Z2 : Nat → Nat → Int32) (P2 : Nat → Nat), e_r 152 683 [.ref 3, .ref 4, .ref 131, .int (nI i)] [] (hp Z P L) (some (.int 1)) (hp Z2 P2 L) := by
  obtain ⟨Z2, P2, h1⟩ := h
  refine ⟨Z2, P2, ?_⟩
  refine e_go hk_152 2 (c := (18, [.ref 3, .ref 4, .ref 131, .int (nI i + 3)], [], hp Z P L)) rfl ?_
  rw [show nI i + 3 = nI (i + 3) from nI_add i 3]
  exact h1
set_option maxRecDepth 20000 in
theorem w_0 {Z : Nat → Nat → Int32} {P : Nat → Nat} {L i : Nat} (hL : L < 2 ^ 31) (hi : i + 3 ≤ L) (hR : K_R Z P) (H : ∀ Z2 P2, K_R Z2 P2 → w_Z Z2 P2 L (i + 3)) : ∃ (Z2 : Nat → Nat → Int32) (P2 : Nat → Nat), e_r 152 136 [.ref 3, .ref 4, .ref 131, .int (nI i)] [] (hp Z P L) (some (.int 1)) (hp Z2 P2 L) := by
  obtain ⟨v, Z1, P1, Z2, h1, h2, hR2, h13, h23⟩ : K_C Z P L 57 119 [.int (Z 3 (i + 1)), .int (Z 3 (i + 2))] := call_set hR
  obtain ⟨Z3, P3, h3⟩ := w_nx (H Z2 P1 hR2)
  have h4 : m_r 119 [.ref 131, .int (Z1 3 (i + 1)), .int (Z1 3 (i + 2))] (hp Z1 P1 L) (some (.int v)) (hp Z2 P1 L) := by
    rw [h13]
    exact h2
  refine ⟨Z3, P3, ?_⟩
  refine e_go hk_152 5 (c := (141, [.ref 3, .ref 4, .ref 131, .int (nI i)], [.int ((nI i) + 1), .ref 3, .ref 4], hp Z P L)) rfl ?_
  rw [show ((nI i) + 1) = nI ((i + 1)) from (nI_add i 1)]
  refine e_ald hk_152 (a := 3) (j := (i + 1)) (n := L) rfl rfl rfl (by omega) hL ?_
  show e_r 152 142 [.ref 3, .ref 4, .ref 131, .int (nI i)] [.int (Z 3 ((i + 1))), .ref 4] (hp Z P L) _ _
  refine e_go hk_152 4 (c := (146, [.ref 3, .ref 4, .ref 131, .int (nI i)], [.int ((nI i) + 2), .ref 3, .int (Z 3 ((i + 1))), .ref 4], hp Z P L)) rfl ?_
  rw [show ((nI i) + 2) = nI ((i + 2)) from (nI_add i 2)]
  refine e_ald hk_152 (a := 3) (j := (i + 2)) (n := L) rfl rfl rfl (by omega) hL ?_
  show e_r 152 147 [.ref 3, .ref 4, .ref 131, .int (nI i)] [.int (Z 3 ((i + 2))), .int (Z 3 ((i + 1))), .ref 4] (hp Z P L) _ _
  refine e_call hk_152 (as := [.ref 4, .int (Z 3 ((i + 1))), .int (Z 3 ((i + 2)))]) (rest := []) rfl rfl hk_57 rfl (Nat.le_of_ble_eq_true rfl) rfl h1 ?_
  show e_r 152 150 [.ref 3, .ref 4, .ref 131, .int (nI i)] [.int v] (hp Z1 P1 L) _ _
  refine e_go hk_152 5 (c := (155, [.ref 3, .ref 4, .ref 131, .int (nI i)], [.int ((nI i) + 1), .ref 3, .ref 131, .int v], hp Z1 P1 L)) rfl ?_
  rw [show ((nI i) + 1) = nI ((i + 1)) from (nI_add i 1)]
  refine e_ald hk_152 (a := 3) (j := (i + 1)) (n := L) rfl rfl rfl (by omega) hL ?_
  show e_r 152 156 [.ref 3, .ref 4, .ref 131, .int (nI i)] [.int (Z1 3 ((i + 1))), .ref 131, .int v] (hp Z1 P1 L) _ _
  refine e_go hk_152 4 (c := (160, [.ref 3, .ref 4, .ref 131, .int (nI i)], [.int ((nI i) + 2), .ref 3, .int (Z1 3 ((i + 1))), .ref 131, .int v], hp Z1 P1 L)) rfl ?_
  rw [show ((nI i) + 2) = nI ((i + 2)) from (nI_add i 2)]
  refine e_ald hk_152 (a := 3) (j := (i + 2)) (n := L) rfl rfl rfl (by omega) hL ?_
  show e_r 152 161 [.ref 3, .ref 4, .ref 131, .int (nI i)] [.int (Z1 3 ((i + 2))), .int (Z1 3 ((i + 1))), .ref 131, .int v] (hp Z1 P1 L) _ _
  refine e_call hk_152 (as := [.ref 131, .int (Z1 3 ((i + 1))), .int (Z1 3 ((i + 2)))]) (rest := [.int v]) rfl rfl hk_119 rfl (Nat.le_of_ble_eq_true rfl) rfl h4 ?_
  show e_r 152 164 [.ref 3, .ref 4, .ref 131, .int (nI i)] [.int v, .int v] (hp Z2 P1 L) _ _
  refine e_go hk_152 1 (c := (if s_cnd .eq v v = true then 683 else 167, [.ref 3, .ref 4, .ref 131, .int (nI i)], [], hp Z2 P1 L)) rfl ?_
  refine e_eq (a := 683) (b := 167) (x := v) (y := v) (fun hc164 => ?_) (fun hc164 => absurd (rfl) hc164)
  exact h3
set_option maxRecDepth 20000 in
theorem w_1 {Z : Nat → Nat → Int32} {P : Nat → Nat} {L i : Nat} (hL : L < 2 ^ 31) (hi : i + 3 ≤ L) (hR : K_R Z P) (H : ∀ Z2 P2, K_R Z2 P2 → w_Z Z2 P2 L (i + 3)) : ∃ (Z2 : Nat → Nat → Int32) (P2 : Nat → Nat), e_r 152 169 [.ref 3, .ref 4, .ref 131, .int (nI i)] [] (hp Z P L) (some (.int 1)) (hp Z2 P2 L) := by
  obtain ⟨v, Z1, P1, Z2, h1, h2, hR2, h13, h23⟩ : K_C Z P L 58 120 [.int (Z 3 (i + 1)), .int (Z 3 (i + 2))] := call_putIn hR
  obtain ⟨Z3, P3, h3⟩ := w_nx (H Z2 P1 hR2)
  have h4 : m_r 120 [.ref 131, .int (Z1 3 (i + 1)), .int (Z1 3 (i + 2))] (hp Z1 P1 L) (some (.int v)) (hp Z2 P1 L) := by
    rw [h13]
    exact h2
  refine ⟨Z3, P3, ?_⟩
  refine e_go hk_152 5 (c := (174, [.ref 3, .ref 4, .ref 131, .int (nI i)], [.int ((nI i) + 1), .ref 3, .ref 4], hp Z P L)) rfl ?_
  rw [show ((nI i) + 1) = nI ((i + 1)) from (nI_add i 1)]
  refine e_ald hk_152 (a := 3) (j := (i + 1)) (n := L) rfl rfl rfl (by omega) hL ?_
  show e_r 152 175 [.ref 3, .ref 4, .ref 131, .int (nI i)] [.int (Z 3 ((i + 1))), .ref 4] (hp Z P L) _ _
  refine e_go hk_152 4 (c := (179, [.ref 3, .ref 4, .ref 131, .int (nI i)], [.int ((nI i) + 2), .ref 3, .int (Z 3 ((i + 1))), .ref 4], hp Z P L)) rfl ?_
  rw [show ((nI i) + 2) = nI ((i + 2)) from (nI_add i 2)]
  refine e_ald hk_152 (a := 3) (j := (i + 2)) (n := L) rfl rfl rfl (by omega) hL ?_
  show e_r 152 180 [.ref 3, .ref 4, .ref 131, .int (nI i)] [.int (Z 3 ((i + 2))), .int (Z 3 ((i + 1))), .ref 4] (hp Z P L) _ _
  refine e_call hk_152 (as := [.ref 4, .int (Z 3 ((i + 1))), .int (Z 3 ((i + 2)))]) (rest := []) rfl rfl hk_58 rfl (Nat.le_of_ble_eq_true rfl) rfl h1 ?_
  show e_r 152 183 [.ref 3, .ref 4, .ref 131, .int (nI i)] [.int v] (hp Z1 P1 L) _ _
  refine e_go hk_152 5 (c := (188, [.ref 3, .ref 4, .ref 131, .int (nI i)], [.int ((nI i) + 1), .ref 3, .ref 131, .int v], hp Z1 P1 L)) rfl ?_
  rw [show ((nI i) + 1) = nI ((i + 1)) from (nI_add i 1)]
  refine e_ald hk_152 (a := 3) (j := (i + 1)) (n := L) rfl rfl rfl (by omega) hL ?_
  show e_r 152 189 [.ref 3, .ref 4, .ref 131, .int (nI i)] [.int (Z1 3 ((i + 1))), .ref 131, .int v] (hp Z1 P1 L) _ _
  refine e_go hk_152 4 (c := (193, [.ref 3, .ref 4, .ref 131, .int (nI i)], [.int ((nI i) + 2), .ref 3, .int (Z1 3 ((i + 1))), .ref 131, .int v], hp Z1 P1 L)) rfl ?_
  rw [show ((nI i) + 2) = nI ((i + 2)) from (nI_add i 2)]
  refine e_ald hk_152 (a := 3) (j := (i + 2)) (n := L) rfl rfl rfl (by omega) hL ?_
  show e_r 152 194 [.ref 3, .ref 4, .ref 131, .int (nI i)] [.int (Z1 3 ((i + 2))), .int (Z1 3 ((i + 1))), .ref 131, .int v] (hp Z1 P1 L) _ _
  refine e_call hk_152 (as := [.ref 131, .int (Z1 3 ((i + 1))), .int (Z1 3 ((i + 2)))]) (rest := [.int v]) rfl rfl hk_120 rfl (Nat.le_of_ble_eq_true rfl) rfl h4 ?_
  show e_r 152 197 [.ref 3, .ref 4, .ref 131, .int (nI i)] [.int v, .int v] (hp Z2 P1 L) _ _
  refine e_go hk_152 1 (c := (if s_cnd .eq v v = true then 683 else 200, [.ref 3, .ref 4, .ref 131, .int (nI i)], [], hp Z2 P1 L)) rfl ?_
  refine e_eq (a := 683) (b := 200) (x := v) (y := v) (fun hc197 => ?_) (fun hc197 => absurd (rfl) hc197)
  exact h3
set_option maxRecDepth 20000 in
theorem w_2 {Z : Nat → Nat → Int32} {P : Nat → Nat} {L i : Nat} (hL : L < 2 ^ 31) (hi : i + 3 ≤ L) (hR : K_R Z P) (H : ∀ Z2 P2, K_R Z2 P2 → w_Z Z2 P2 L (i + 3)) : ∃ (Z2 : Nat → Nat → Int32) (P2 : Nat → Nat), e_r 152 202 [.ref 3, .ref 4, .ref 131, .int (nI i)] [] (hp Z P L) (some (.int 1)) (hp Z2 P2 L) := by
  obtain ⟨v, Z1, P1, Z2, h1, h2, hR2, h13, h23⟩ : K_C Z P L 59 121 [.int (Z 3 (i + 1))] := call_remove hR
  obtain ⟨Z3, P3, h3⟩ := w_nx (H Z2 P1 hR2)
  have h4 : m_r 121 [.ref 131, .int (Z1 3 (i + 1))] (hp Z1 P1 L) (some (.int v)) (hp Z2 P1 L) := by
    rw [h13]
    exact h2
  refine ⟨Z3, P3, ?_⟩
  refine e_go hk_152 5 (c := (207, [.ref 3, .ref 4, .ref 131, .int (nI i)], [.int ((nI i) + 1), .ref 3, .ref 4], hp Z P L)) rfl ?_
  rw [show ((nI i) + 1) = nI ((i + 1)) from (nI_add i 1)]
  refine e_ald hk_152 (a := 3) (j := (i + 1)) (n := L) rfl rfl rfl (by omega) hL ?_
  show e_r 152 208 [.ref 3, .ref 4, .ref 131, .int (nI i)] [.int (Z 3 ((i + 1))), .ref 4] (hp Z P L) _ _
  refine e_call hk_152 (as := [.ref 4, .int (Z 3 ((i + 1)))]) (rest := []) rfl rfl hk_59 rfl (Nat.le_of_ble_eq_true rfl) rfl h1 ?_
  show e_r 152 211 [.ref 3, .ref 4, .ref 131, .int (nI i)] [.int v] (hp Z1 P1 L) _ _
  refine e_go hk_152 5 (c := (216, [.ref 3, .ref 4, .ref 131, .int (nI i)], [.int ((nI i) + 1), .ref 3, .ref 131, .int v], hp Z1 P1 L)) rfl ?_
  rw [show ((nI i) + 1) = nI ((i + 1)) from (nI_add i 1)]
  refine e_ald hk_152 (a := 3) (j := (i + 1)) (n := L) rfl rfl rfl (by omega) hL ?_
  show e_r 152 217 [.ref 3, .ref 4, .ref 131, .int (nI i)] [.int (Z1 3 ((i + 1))), .ref 131, .int v] (hp Z1 P1 L) _ _
  refine e_call hk_152 (as := [.ref 131, .int (Z1 3 ((i + 1)))]) (rest := [.int v]) rfl rfl hk_121 rfl (Nat.le_of_ble_eq_true rfl) rfl h4 ?_
  show e_r 152 220 [.ref 3, .ref 4, .ref 131, .int (nI i)] [.int v, .int v] (hp Z2 P1 L) _ _
  refine e_go hk_152 1 (c := (if s_cnd .eq v v = true then 683 else 223, [.ref 3, .ref 4, .ref 131, .int (nI i)], [], hp Z2 P1 L)) rfl ?_
  refine e_eq (a := 683) (b := 223) (x := v) (y := v) (fun hc220 => ?_) (fun hc220 => absurd (rfl) hc220)
  exact h3
set_option maxRecDepth 20000 in
theorem w_3 {Z : Nat → Nat → Int32} {P : Nat → Nat} {L i : Nat} (hL : L < 2 ^ 31) (hi : i + 3 ≤ L) (hR : K_R Z P) (H : ∀ Z2 P2, K_R Z2 P2 → w_Z Z2 P2 L (i + 3)) : ∃ (Z2 : Nat → Nat → Int32) (P2 : Nat → Nat), e_r 152 225 [.ref 3, .ref 4, .ref 131, .int (nI i)] [] (hp Z P L) (some (.int 1)) (hp Z2 P2 L) := by
  obtain ⟨v, Z1, P1, Z2, h1, h2, hR2, h13, h23⟩ : K_C Z P L 60 122 [.int (Z 3 (i + 1))] := call_rebuild hR
  obtain ⟨Z3, P3, h3⟩ := w_nx (H Z2 P1 hR2)
  have h4 : m_r 122 [.ref 131, .int (Z1 3 (i + 1))] (hp Z1 P1 L) (some (.int v)) (hp Z2 P1 L) := by
    rw [h13]
    exact h2
  refine ⟨Z3, P3, ?_⟩
  refine e_go hk_152 5 (c := (230, [.ref 3, .ref 4, .ref 131, .int (nI i)], [.int ((nI i) + 1), .ref 3, .ref 4], hp Z P L)) rfl ?_
  rw [show ((nI i) + 1) = nI ((i + 1)) from (nI_add i 1)]
  refine e_ald hk_152 (a := 3) (j := (i + 1)) (n := L) rfl rfl rfl (by omega) hL ?_
  show e_r 152 231 [.ref 3, .ref 4, .ref 131, .int (nI i)] [.int (Z 3 ((i + 1))), .ref 4] (hp Z P L) _ _
  refine e_call hk_152 (as := [.ref 4, .int (Z 3 ((i + 1)))]) (rest := []) rfl rfl hk_60 rfl (Nat.le_of_ble_eq_true rfl) rfl h1 ?_
  show e_r 152 234 [.ref 3, .ref 4, .ref 131, .int (nI i)] [.int v] (hp Z1 P1 L) _ _
  refine e_go hk_152 5 (c := (239, [.ref 3, .ref 4, .ref 131, .int (nI i)], [.int ((nI i) + 1), .ref 3, .ref 131, .int v], hp Z1 P1 L)) rfl ?_
  rw [show ((nI i) + 1) = nI ((i + 1)) from (nI_add i 1)]
  refine e_ald hk_152 (a := 3) (j := (i + 1)) (n := L) rfl rfl rfl (by omega) hL ?_
  show e_r 152 240 [.ref 3, .ref 4, .ref 131, .int (nI i)] [.int (Z1 3 ((i + 1))), .ref 131, .int v] (hp Z1 P1 L) _ _
  refine e_call hk_152 (as := [.ref 131, .int (Z1 3 ((i + 1)))]) (rest := [.int v]) rfl rfl hk_122 rfl (Nat.le_of_ble_eq_true rfl) rfl h4 ?_
  show e_r 152 243 [.ref 3, .ref 4, .ref 131, .int (nI i)] [.int v, .int v] (hp Z2 P1 L) _ _
  refine e_go hk_152 1 (c := (if s_cnd .eq v v = true then 683 else 246, [.ref 3, .ref 4, .ref 131, .int (nI i)], [], hp Z2 P1 L)) rfl ?_
  refine e_eq (a := 683) (b := 246) (x := v) (y := v) (fun hc243 => ?_) (fun hc243 => absurd (rfl) hc243)
  exact h3
set_option maxRecDepth 20000 in
theorem w_4 {Z : Nat → Nat → Int32} {P : Nat → Nat} {L i : Nat} (hL : L < 2 ^ 31) (hi : i + 3 ≤ L) (hR : K_R Z P) (H : ∀ Z2 P2, K_R Z2 P2 → w_Z Z2 P2 L (i + 3)) : ∃ (Z2 : Nat → Nat → Int32) (P2 : Nat → Nat), e_r 152 248 [.ref 3, .ref 4, .ref 131, .int (nI i)] [] (hp Z P L) (some (.int 1)) (hp Z2 P2 L) := by
  obtain ⟨v, Z1, P1, Z2, h1, h2, hR2, h13, h23⟩ : K_C Z P L 61 123 [.int (Z 3 (i + 1))] := call_value hR
  obtain ⟨Z3, P3, h3⟩ := w_nx (H Z2 P1 hR2)
  have h4 : m_r 123 [.ref 131, .int (Z1 3 (i + 1))] (hp Z1 P1 L) (some (.int v)) (hp Z2 P1 L) := by
    rw [h13]
    exact h2
  refine ⟨Z3, P3, ?_⟩
  refine e_go hk_152 5 (c := (253, [.ref 3, .ref 4, .ref 131, .int (nI i)], [.int ((nI i) + 1), .ref 3, .ref 4], hp Z P L)) rfl ?_
  rw [show ((nI i) + 1) = nI ((i + 1)) from (nI_add i 1)]
  refine e_ald hk_152 (a := 3) (j := (i + 1)) (n := L) rfl rfl rfl (by omega) hL ?_
  show e_r 152 254 [.ref 3, .ref 4, .ref 131, .int (nI i)] [.int (Z 3 ((i + 1))), .ref 4] (hp Z P L) _ _
  refine e_call hk_152 (as := [.ref 4, .int (Z 3 ((i + 1)))]) (rest := []) rfl rfl hk_61 rfl (Nat.le_of_ble_eq_true rfl) rfl h1 ?_
  show e_r 152 257 [.ref 3, .ref 4, .ref 131, .int (nI i)] [.int v] (hp Z1 P1 L) _ _
  refine e_go hk_152 5 (c := (262, [.ref 3, .ref 4, .ref 131, .int (nI i)], [.int ((nI i) + 1), .ref 3, .ref 131, .int v], hp Z1 P1 L)) rfl ?_
  rw [show ((nI i) + 1) = nI ((i + 1)) from (nI_add i 1)]
  refine e_ald hk_152 (a := 3) (j := (i + 1)) (n := L) rfl rfl rfl (by omega) hL ?_
  show e_r 152 263 [.ref 3, .ref 4, .ref 131, .int (nI i)] [.int (Z1 3 ((i + 1))), .ref 131, .int v] (hp Z1 P1 L) _ _
  refine e_call hk_152 (as := [.ref 131, .int (Z1 3 ((i + 1)))]) (rest := [.int v]) rfl rfl hk_123 rfl (Nat.le_of_ble_eq_true rfl) rfl h4 ?_
  show e_r 152 266 [.ref 3, .ref 4, .ref 131, .int (nI i)] [.int v, .int v] (hp Z2 P1 L) _ _
  refine e_go hk_152 1 (c := (if s_cnd .eq v v = true then 683 else 269, [.ref 3, .ref 4, .ref 131, .int (nI i)], [], hp Z2 P1 L)) rfl ?_
  refine e_eq (a := 683) (b := 269) (x := v) (y := v) (fun hc266 => ?_) (fun hc266 => absurd (rfl) hc266)
  exact h3
set_option maxRecDepth 20000 in
theorem w_5 {Z : Nat → Nat → Int32} {P : Nat → Nat} {L i : Nat} (hL : L < 2 ^ 31) (hi : i + 3 ≤ L) (hR : K_R Z P) (H : ∀ Z2 P2, K_R Z2 P2 → w_Z Z2 P2 L (i + 3)) : ∃ (Z2 : Nat → Nat → Int32) (P2 : Nat → Nat), e_r 152 271 [.ref 3, .ref 4, .ref 131, .int (nI i)] [] (hp Z P L) (some (.int 1)) (hp Z2 P2 L) := by
  obtain ⟨v, Z1, P1, Z2, h1, h2, hR2, h13, h23⟩ : K_C Z P L 62 127 [.int (Z 3 (i + 1)), .int (Z 3 (i + 2))] := call_node hR
  obtain ⟨Z3, P3, h3⟩ := w_nx (H Z2 P1 hR2)
  have h4 : m_r 127 [.ref 131, .int (Z1 3 (i + 1)), .int (Z1 3 (i + 2))] (hp Z1 P1 L) (some (.int v)) (hp Z2 P1 L) := by
    rw [h13]
    exact h2
  refine ⟨Z3, P3, ?_⟩
  refine e_go hk_152 5 (c := (276, [.ref 3, .ref 4, .ref 131, .int (nI i)], [.int ((nI i) + 1), .ref 3, .ref 4], hp Z P L)) rfl ?_
  rw [show ((nI i) + 1) = nI ((i + 1)) from (nI_add i 1)]
  refine e_ald hk_152 (a := 3) (j := (i + 1)) (n := L) rfl rfl rfl (by omega) hL ?_
  show e_r 152 277 [.ref 3, .ref 4, .ref 131, .int (nI i)] [.int (Z 3 ((i + 1))), .ref 4] (hp Z P L) _ _
  refine e_go hk_152 4 (c := (281, [.ref 3, .ref 4, .ref 131, .int (nI i)], [.int ((nI i) + 2), .ref 3, .int (Z 3 ((i + 1))), .ref 4], hp Z P L)) rfl ?_
  rw [show ((nI i) + 2) = nI ((i + 2)) from (nI_add i 2)]
  refine e_ald hk_152 (a := 3) (j := (i + 2)) (n := L) rfl rfl rfl (by omega) hL ?_
  show e_r 152 282 [.ref 3, .ref 4, .ref 131, .int (nI i)] [.int (Z 3 ((i + 2))), .int (Z 3 ((i + 1))), .ref 4] (hp Z P L) _ _
  refine e_call hk_152 (as := [.ref 4, .int (Z 3 ((i + 1))), .int (Z 3 ((i + 2)))]) (rest := []) rfl rfl hk_62 rfl (Nat.le_of_ble_eq_true rfl) rfl h1 ?_
  show e_r 152 285 [.ref 3, .ref 4, .ref 131, .int (nI i)] [.int v] (hp Z1 P1 L) _ _
  refine e_go hk_152 5 (c := (290, [.ref 3, .ref 4, .ref 131, .int (nI i)], [.int ((nI i) + 1), .ref 3, .ref 131, .int v], hp Z1 P1 L)) rfl ?_
  rw [show ((nI i) + 1) = nI ((i + 1)) from (nI_add i 1)]
  refine e_ald hk_152 (a := 3) (j := (i + 1)) (n := L) rfl rfl rfl (by omega) hL ?_
  show e_r 152 291 [.ref 3, .ref 4, .ref 131, .int (nI i)] [.int (Z1 3 ((i + 1))), .ref 131, .int v] (hp Z1 P1 L) _ _
  refine e_go hk_152 4 (c := (295, [.ref 3, .ref 4, .ref 131, .int (nI i)], [.int ((nI i) + 2), .ref 3, .int (Z1 3 ((i + 1))), .ref 131, .int v], hp Z1 P1 L)) rfl ?_
  rw [show ((nI i) + 2) = nI ((i + 2)) from (nI_add i 2)]
  refine e_ald hk_152 (a := 3) (j := (i + 2)) (n := L) rfl rfl rfl (by omega) hL ?_
  show e_r 152 296 [.ref 3, .ref 4, .ref 131, .int (nI i)] [.int (Z1 3 ((i + 2))), .int (Z1 3 ((i + 1))), .ref 131, .int v] (hp Z1 P1 L) _ _
  refine e_call hk_152 (as := [.ref 131, .int (Z1 3 ((i + 1))), .int (Z1 3 ((i + 2)))]) (rest := [.int v]) rfl rfl hk_127 rfl (Nat.le_of_ble_eq_true rfl) rfl h4 ?_
  show e_r 152 299 [.ref 3, .ref 4, .ref 131, .int (nI i)] [.int v, .int v] (hp Z2 P1 L) _ _
  refine e_go hk_152 1 (c := (if s_cnd .eq v v = true then 683 else 302, [.ref 3, .ref 4, .ref 131, .int (nI i)], [], hp Z2 P1 L)) rfl ?_
  refine e_eq (a := 683) (b := 302) (x := v) (y := v) (fun hc299 => ?_) (fun hc299 => absurd (rfl) hc299)
  exact h3
set_option maxRecDepth 20000 in
theorem w_6 {Z : Nat → Nat → Int32} {P : Nat → Nat} {L i : Nat} (hL : L < 2 ^ 31) (hi : i + 3 ≤ L) (hR : K_R Z P) (H : ∀ Z2 P2, K_R Z2 P2 → w_Z Z2 P2 L (i + 3)) : ∃ (Z2 : Nat → Nat → Int32) (P2 : Nat → Nat), e_r 152 304 [.ref 3, .ref 4, .ref 131, .int (nI i)] [] (hp Z P L) (some (.int 1)) (hp Z2 P2 L) := by
  obtain ⟨v, Z1, P1, Z2, h1, h2, hR2, h13, h23⟩ : K_C Z P L 63 129 [.int (Z 3 (i + 1))] := call_count hR
  obtain ⟨Z3, P3, h3⟩ := w_nx (H Z2 P1 hR2)
  have h4 : m_r 129 [.ref 131, .int (Z1 3 (i + 1))] (hp Z1 P1 L) (some (.int v)) (hp Z2 P1 L) := by
    rw [h13]
    exact h2
  refine ⟨Z3, P3, ?_⟩
  refine e_go hk_152 5 (c := (309, [.ref 3, .ref 4, .ref 131, .int (nI i)], [.int ((nI i) + 1), .ref 3, .ref 4], hp Z P L)) rfl ?_
  rw [show ((nI i) + 1) = nI ((i + 1)) from (nI_add i 1)]
  refine e_ald hk_152 (a := 3) (j := (i + 1)) (n := L) rfl rfl rfl (by omega) hL ?_
  show e_r 152 310 [.ref 3, .ref 4, .ref 131, .int (nI i)] [.int (Z 3 ((i + 1))), .ref 4] (hp Z P L) _ _
  refine e_call hk_152 (as := [.ref 4, .int (Z 3 ((i + 1)))]) (rest := []) rfl rfl hk_63 rfl (Nat.le_of_ble_eq_true rfl) rfl h1 ?_
  show e_r 152 313 [.ref 3, .ref 4, .ref 131, .int (nI i)] [.int v] (hp Z1 P1 L) _ _
  refine e_go hk_152 5 (c := (318, [.ref 3, .ref 4, .ref 131, .int (nI i)], [.int ((nI i) + 1), .ref 3, .ref 131, .int v], hp Z1 P1 L)) rfl ?_
  rw [show ((nI i) + 1) = nI ((i + 1)) from (nI_add i 1)]
  refine e_ald hk_152 (a := 3) (j := (i + 1)) (n := L) rfl rfl rfl (by omega) hL ?_
  show e_r 152 319 [.ref 3, .ref 4, .ref 131, .int (nI i)] [.int (Z1 3 ((i + 1))), .ref 131, .int v] (hp Z1 P1 L) _ _
  refine e_call hk_152 (as := [.ref 131, .int (Z1 3 ((i + 1)))]) (rest := [.int v]) rfl rfl hk_129 rfl (Nat.le_of_ble_eq_true rfl) rfl h4 ?_
  show e_r 152 322 [.ref 3, .ref 4, .ref 131, .int (nI i)] [.int v, .int v] (hp Z2 P1 L) _ _
  refine e_go hk_152 1 (c := (if s_cnd .eq v v = true then 683 else 325, [.ref 3, .ref 4, .ref 131, .int (nI i)], [], hp Z2 P1 L)) rfl ?_
  refine e_eq (a := 683) (b := 325) (x := v) (y := v) (fun hc322 => ?_) (fun hc322 => absurd (rfl) hc322)
  exact h3
set_option maxRecDepth 20000 in
theorem w_7 {Z : Nat → Nat → Int32} {P : Nat → Nat} {L i : Nat} (hL : L < 2 ^ 31) (hi : i + 3 ≤ L) (hR : K_R Z P) (H : ∀ Z2 P2, K_R Z2 P2 → w_Z Z2 P2 L (i + 3)) : ∃ (Z2 : Nat → Nat → Int32) (P2 : Nat → Nat), e_r 152 327 [.ref 3, .ref 4, .ref 131, .int (nI i)] [] (hp Z P L) (some (.int 1)) (hp Z2 P2 L) := by
  obtain ⟨v, Z1, P1, Z2, h1, h2, hR2, h13, h23⟩ : K_CL Z P L 64 130 [.int (Z 3 (i + 1))] := call_mean hR
  obtain ⟨Z3, P3, h3⟩ := w_nx (H Z2 P1 hR2)
  have h4 : m_r 130 [.ref 131, .int (Z1 3 (i + 1))] (hp Z1 P1 L) (some (.long v)) (hp Z2 P1 L) := by
    rw [h13]
    exact h2
  refine ⟨Z3, P3, ?_⟩
  refine e_go hk_152 5 (c := (332, [.ref 3, .ref 4, .ref 131, .int (nI i)], [.int ((nI i) + 1), .ref 3, .ref 4], hp Z P L)) rfl ?_
  rw [show ((nI i) + 1) = nI ((i + 1)) from (nI_add i 1)]
  refine e_ald hk_152 (a := 3) (j := (i + 1)) (n := L) rfl rfl rfl (by omega) hL ?_
  show e_r 152 333 [.ref 3, .ref 4, .ref 131, .int (nI i)] [.int (Z 3 ((i + 1))), .ref 4] (hp Z P L) _ _
  refine e_call hk_152 (as := [.ref 4, .int (Z 3 ((i + 1)))]) (rest := []) rfl rfl hk_64 rfl (Nat.le_of_ble_eq_true rfl) rfl h1 ?_
  show e_r 152 336 [.ref 3, .ref 4, .ref 131, .int (nI i)] [.long v] (hp Z1 P1 L) _ _
  refine e_go hk_152 5 (c := (341, [.ref 3, .ref 4, .ref 131, .int (nI i)], [.int ((nI i) + 1), .ref 3, .ref 131, .long v], hp Z1 P1 L)) rfl ?_
  rw [show ((nI i) + 1) = nI ((i + 1)) from (nI_add i 1)]
  refine e_ald hk_152 (a := 3) (j := (i + 1)) (n := L) rfl rfl rfl (by omega) hL ?_
  show e_r 152 342 [.ref 3, .ref 4, .ref 131, .int (nI i)] [.int (Z1 3 ((i + 1))), .ref 131, .long v] (hp Z1 P1 L) _ _
  refine e_call hk_152 (as := [.ref 131, .int (Z1 3 ((i + 1)))]) (rest := [.long v]) rfl rfl hk_130 rfl (Nat.le_of_ble_eq_true rfl) rfl h4 ?_
  show e_r 152 345 [.ref 3, .ref 4, .ref 131, .int (nI i)] [.long v, .long v] (hp Z2 P1 L) _ _
  refine e_go hk_152 2 (c := (if s_cnd .eq (lg_cmp v v) 0 = true then 683 else 349, [.ref 3, .ref 4, .ref 131, .int (nI i)], [], hp Z2 P1 L)) rfl ?_
  refine e_eq (a := 683) (b := 349) (x := lg_cmp v v) (y := 0) (fun hc346 => ?_) (fun hc346 => absurd ((lg_cmp_eq _ _).mpr rfl) hc346)
  exact h3
set_option maxRecDepth 20000 in
theorem w_8 {Z : Nat → Nat → Int32} {P : Nat → Nat} {L i : Nat} (hL : L < 2 ^ 31) (hi : i + 3 ≤ L) (hR : K_R Z P) (H : ∀ Z2 P2, K_R Z2 P2 → w_Z Z2 P2 L (i + 3)) : ∃ (Z2 : Nat → Nat → Int32) (P2 : Nat → Nat), e_r 152 351 [.ref 3, .ref 4, .ref 131, .int (nI i)] [] (hp Z P L) (some (.int 1)) (hp Z2 P2 L) := by
  obtain ⟨v, Z1, P1, Z2, h1, h2, hR2, h13, h23⟩ : K_C Z P L 65 131 [.int (Z 3 (i + 1))] := call_leaning hR
  obtain ⟨Z3, P3, h3⟩ := w_nx (H Z2 P1 hR2)
  have h4 : m_r 131 [.ref 131, .int (Z1 3 (i + 1))] (hp Z1 P1 L) (some (.int v)) (hp Z2 P1 L) := by
    rw [h13]
    exact h2
  refine ⟨Z3, P3, ?_⟩
  refine e_go hk_152 5 (c := (356, [.ref 3, .ref 4, .ref 131, .int (nI i)], [.int ((nI i) + 1), .ref 3, .ref 4], hp Z P L)) rfl ?_
  rw [show ((nI i) + 1) = nI ((i + 1)) from (nI_add i 1)]
  refine e_ald hk_152 (a := 3) (j := (i + 1)) (n := L) rfl rfl rfl (by omega) hL ?_
  show e_r 152 357 [.ref 3, .ref 4, .ref 131, .int (nI i)] [.int (Z 3 ((i + 1))), .ref 4] (hp Z P L) _ _
  refine e_call hk_152 (as := [.ref 4, .int (Z 3 ((i + 1)))]) (rest := []) rfl rfl hk_65 rfl (Nat.le_of_ble_eq_true rfl) rfl h1 ?_
  show e_r 152 360 [.ref 3, .ref 4, .ref 131, .int (nI i)] [.int v] (hp Z1 P1 L) _ _
  refine e_go hk_152 5 (c := (365, [.ref 3, .ref 4, .ref 131, .int (nI i)], [.int ((nI i) + 1), .ref 3, .ref 131, .int v], hp Z1 P1 L)) rfl ?_
  rw [show ((nI i) + 1) = nI ((i + 1)) from (nI_add i 1)]
  refine e_ald hk_152 (a := 3) (j := (i + 1)) (n := L) rfl rfl rfl (by omega) hL ?_
  show e_r 152 366 [.ref 3, .ref 4, .ref 131, .int (nI i)] [.int (Z1 3 ((i + 1))), .ref 131, .int v] (hp Z1 P1 L) _ _
  refine e_call hk_152 (as := [.ref 131, .int (Z1 3 ((i + 1)))]) (rest := [.int v]) rfl rfl hk_131 rfl (Nat.le_of_ble_eq_true rfl) rfl h4 ?_
  show e_r 152 369 [.ref 3, .ref 4, .ref 131, .int (nI i)] [.int v, .int v] (hp Z2 P1 L) _ _
  refine e_go hk_152 1 (c := (if s_cnd .eq v v = true then 683 else 372, [.ref 3, .ref 4, .ref 131, .int (nI i)], [], hp Z2 P1 L)) rfl ?_
  refine e_eq (a := 683) (b := 372) (x := v) (y := v) (fun hc369 => ?_) (fun hc369 => absurd (rfl) hc369)
  exact h3
set_option maxRecDepth 20000 in
theorem w_9 {Z : Nat → Nat → Int32} {P : Nat → Nat} {L i : Nat} (hL : L < 2 ^ 31) (hi : i + 3 ≤ L) (hR : K_R Z P) (H : ∀ Z2 P2, K_R Z2 P2 → w_Z Z2 P2 L (i + 3)) : ∃ (Z2 : Nat → Nat → Int32) (P2 : Nat → Nat), e_r 152 374 [.ref 3, .ref 4, .ref 131, .int (nI i)] [] (hp Z P L) (some (.int 1)) (hp Z2 P2 L) := by
  obtain ⟨v, Z1, P1, Z2, h1, h2, hR2, h13, h23⟩ : K_C Z P L 66 133 [.int (Z 3 (i + 1))] := call_rank hR
  obtain ⟨Z3, P3, h3⟩ := w_nx (H Z2 P1 hR2)
  have h4 : m_r 133 [.ref 131, .int (Z1 3 (i + 1))] (hp Z1 P1 L) (some (.int v)) (hp Z2 P1 L) := by
    rw [h13]
    exact h2
  refine ⟨Z3, P3, ?_⟩
  refine e_go hk_152 5 (c := (379, [.ref 3, .ref 4, .ref 131, .int (nI i)], [.int ((nI i) + 1), .ref 3, .ref 4], hp Z P L)) rfl ?_
  rw [show ((nI i) + 1) = nI ((i + 1)) from (nI_add i 1)]
  refine e_ald hk_152 (a := 3) (j := (i + 1)) (n := L) rfl rfl rfl (by omega) hL ?_
  show e_r 152 380 [.ref 3, .ref 4, .ref 131, .int (nI i)] [.int (Z 3 ((i + 1))), .ref 4] (hp Z P L) _ _
  refine e_call hk_152 (as := [.ref 4, .int (Z 3 ((i + 1)))]) (rest := []) rfl rfl hk_66 rfl (Nat.le_of_ble_eq_true rfl) rfl h1 ?_
  show e_r 152 383 [.ref 3, .ref 4, .ref 131, .int (nI i)] [.int v] (hp Z1 P1 L) _ _
  refine e_go hk_152 5 (c := (388, [.ref 3, .ref 4, .ref 131, .int (nI i)], [.int ((nI i) + 1), .ref 3, .ref 131, .int v], hp Z1 P1 L)) rfl ?_
  rw [show ((nI i) + 1) = nI ((i + 1)) from (nI_add i 1)]
  refine e_ald hk_152 (a := 3) (j := (i + 1)) (n := L) rfl rfl rfl (by omega) hL ?_
  show e_r 152 389 [.ref 3, .ref 4, .ref 131, .int (nI i)] [.int (Z1 3 ((i + 1))), .ref 131, .int v] (hp Z1 P1 L) _ _
  refine e_call hk_152 (as := [.ref 131, .int (Z1 3 ((i + 1)))]) (rest := [.int v]) rfl rfl hk_133 rfl (Nat.le_of_ble_eq_true rfl) rfl h4 ?_
  show e_r 152 392 [.ref 3, .ref 4, .ref 131, .int (nI i)] [.int v, .int v] (hp Z2 P1 L) _ _
  refine e_go hk_152 1 (c := (if s_cnd .eq v v = true then 683 else 395, [.ref 3, .ref 4, .ref 131, .int (nI i)], [], hp Z2 P1 L)) rfl ?_
  refine e_eq (a := 683) (b := 395) (x := v) (y := v) (fun hc392 => ?_) (fun hc392 => absurd (rfl) hc392)
  exact h3
set_option maxRecDepth 20000 in
theorem w_10 {Z : Nat → Nat → Int32} {P : Nat → Nat} {L i : Nat} (hL : L < 2 ^ 31) (hi : i + 3 ≤ L) (hR : K_R Z P) (H : ∀ Z2 P2, K_R Z2 P2 → w_Z Z2 P2 L (i + 3)) : ∃ (Z2 : Nat → Nat → Int32) (P2 : Nat → Nat), e_r 152 397 [.ref 3, .ref 4, .ref 131, .int (nI i)] [] (hp Z P L) (some (.int 1)) (hp Z2 P2 L) := by
  obtain ⟨v, Z1, P1, Z2, h1, h2, hR2, h13, h23⟩ : K_C Z P L 67 135 [.int (Z 3 (i + 1))] := call_kth hR
  obtain ⟨Z3, P3, h3⟩ := w_nx (H Z2 P1 hR2)
  have h4 : m_r 135 [.ref 131, .int (Z1 3 (i + 1))] (hp Z1 P1 L) (some (.int v)) (hp Z2 P1 L) := by
    rw [h13]
    exact h2
  refine ⟨Z3, P3, ?_⟩
  refine e_go hk_152 5 (c := (402, [.ref 3, .ref 4, .ref 131, .int (nI i)], [.int ((nI i) + 1), .ref 3, .ref 4], hp Z P L)) rfl ?_
  rw [show ((nI i) + 1) = nI ((i + 1)) from (nI_add i 1)]
  refine e_ald hk_152 (a := 3) (j := (i + 1)) (n := L) rfl rfl rfl (by omega) hL ?_
  show e_r 152 403 [.ref 3, .ref 4, .ref 131, .int (nI i)] [.int (Z 3 ((i + 1))), .ref 4] (hp Z P L) _ _
  refine e_call hk_152 (as := [.ref 4, .int (Z 3 ((i + 1)))]) (rest := []) rfl rfl hk_67 rfl (Nat.le_of_ble_eq_true rfl) rfl h1 ?_
  show e_r 152 406 [.ref 3, .ref 4, .ref 131, .int (nI i)] [.int v] (hp Z1 P1 L) _ _
  refine e_go hk_152 5 (c := (411, [.ref 3, .ref 4, .ref 131, .int (nI i)], [.int ((nI i) + 1), .ref 3, .ref 131, .int v], hp Z1 P1 L)) rfl ?_
  rw [show ((nI i) + 1) = nI ((i + 1)) from (nI_add i 1)]
  refine e_ald hk_152 (a := 3) (j := (i + 1)) (n := L) rfl rfl rfl (by omega) hL ?_
  show e_r 152 412 [.ref 3, .ref 4, .ref 131, .int (nI i)] [.int (Z1 3 ((i + 1))), .ref 131, .int v] (hp Z1 P1 L) _ _
  refine e_call hk_152 (as := [.ref 131, .int (Z1 3 ((i + 1)))]) (rest := [.int v]) rfl rfl hk_135 rfl (Nat.le_of_ble_eq_true rfl) rfl h4 ?_
  show e_r 152 415 [.ref 3, .ref 4, .ref 131, .int (nI i)] [.int v, .int v] (hp Z2 P1 L) _ _
  refine e_go hk_152 1 (c := (if s_cnd .eq v v = true then 683 else 418, [.ref 3, .ref 4, .ref 131, .int (nI i)], [], hp Z2 P1 L)) rfl ?_
  refine e_eq (a := 683) (b := 418) (x := v) (y := v) (fun hc415 => ?_) (fun hc415 => absurd (rfl) hc415)
  exact h3
set_option maxRecDepth 20000 in
theorem w_11 {Z : Nat → Nat → Int32} {P : Nat → Nat} {L i : Nat} (hL : L < 2 ^ 31) (hi : i + 3 ≤ L) (hR : K_R Z P) (H : ∀ Z2 P2, K_R Z2 P2 → w_Z Z2 P2 L (i + 3)) : ∃ (Z2 : Nat → Nat → Int32) (P2 : Nat → Nat), e_r 152 420 [.ref 3, .ref 4, .ref 131, .int (nI i)] [] (hp Z P L) (some (.int 1)) (hp Z2 P2 L) := by
  obtain ⟨v, Z1, P1, Z2, h1, h2, hR2, h13, h23⟩ : K_C Z P L 68 136 [.int (Z 3 (i + 1)), .int (Z 3 (i + 2))] := call_nb hR
  obtain ⟨Z3, P3, h3⟩ := w_nx (H Z2 P1 hR2)
  have h4 : m_r 136 [.ref 131, .int (Z1 3 (i + 1)), .int (Z1 3 (i + 2))] (hp Z1 P1 L) (some (.int v)) (hp Z2 P1 L) := by
    rw [h13]
    exact h2
  refine ⟨Z3, P3, ?_⟩
  refine e_go hk_152 5 (c := (425, [.ref 3, .ref 4, .ref 131, .int (nI i)], [.int ((nI i) + 1), .ref 3, .ref 4], hp Z P L)) rfl ?_
  rw [show ((nI i) + 1) = nI ((i + 1)) from (nI_add i 1)]
  refine e_ald hk_152 (a := 3) (j := (i + 1)) (n := L) rfl rfl rfl (by omega) hL ?_
  show e_r 152 426 [.ref 3, .ref 4, .ref 131, .int (nI i)] [.int (Z 3 ((i + 1))), .ref 4] (hp Z P L) _ _
  refine e_go hk_152 4 (c := (430, [.ref 3, .ref 4, .ref 131, .int (nI i)], [.int ((nI i) + 2), .ref 3, .int (Z 3 ((i + 1))), .ref 4], hp Z P L)) rfl ?_
  rw [show ((nI i) + 2) = nI ((i + 2)) from (nI_add i 2)]
  refine e_ald hk_152 (a := 3) (j := (i + 2)) (n := L) rfl rfl rfl (by omega) hL ?_
  show e_r 152 431 [.ref 3, .ref 4, .ref 131, .int (nI i)] [.int (Z 3 ((i + 2))), .int (Z 3 ((i + 1))), .ref 4] (hp Z P L) _ _
  refine e_call hk_152 (as := [.ref 4, .int (Z 3 ((i + 1))), .int (Z 3 ((i + 2)))]) (rest := []) rfl rfl hk_68 rfl (Nat.le_of_ble_eq_true rfl) rfl h1 ?_
  show e_r 152 434 [.ref 3, .ref 4, .ref 131, .int (nI i)] [.int v] (hp Z1 P1 L) _ _
  refine e_go hk_152 5 (c := (439, [.ref 3, .ref 4, .ref 131, .int (nI i)], [.int ((nI i) + 1), .ref 3, .ref 131, .int v], hp Z1 P1 L)) rfl ?_
  rw [show ((nI i) + 1) = nI ((i + 1)) from (nI_add i 1)]
  refine e_ald hk_152 (a := 3) (j := (i + 1)) (n := L) rfl rfl rfl (by omega) hL ?_
  show e_r 152 440 [.ref 3, .ref 4, .ref 131, .int (nI i)] [.int (Z1 3 ((i + 1))), .ref 131, .int v] (hp Z1 P1 L) _ _
  refine e_go hk_152 4 (c := (444, [.ref 3, .ref 4, .ref 131, .int (nI i)], [.int ((nI i) + 2), .ref 3, .int (Z1 3 ((i + 1))), .ref 131, .int v], hp Z1 P1 L)) rfl ?_
  rw [show ((nI i) + 2) = nI ((i + 2)) from (nI_add i 2)]
  refine e_ald hk_152 (a := 3) (j := (i + 2)) (n := L) rfl rfl rfl (by omega) hL ?_
  show e_r 152 445 [.ref 3, .ref 4, .ref 131, .int (nI i)] [.int (Z1 3 ((i + 2))), .int (Z1 3 ((i + 1))), .ref 131, .int v] (hp Z1 P1 L) _ _
  refine e_call hk_152 (as := [.ref 131, .int (Z1 3 ((i + 1))), .int (Z1 3 ((i + 2)))]) (rest := [.int v]) rfl rfl hk_136 rfl (Nat.le_of_ble_eq_true rfl) rfl h4 ?_
  show e_r 152 448 [.ref 3, .ref 4, .ref 131, .int (nI i)] [.int v, .int v] (hp Z2 P1 L) _ _
  refine e_go hk_152 1 (c := (if s_cnd .eq v v = true then 683 else 451, [.ref 3, .ref 4, .ref 131, .int (nI i)], [], hp Z2 P1 L)) rfl ?_
  refine e_eq (a := 683) (b := 451) (x := v) (y := v) (fun hc448 => ?_) (fun hc448 => absurd (rfl) hc448)
  exact h3
set_option maxRecDepth 20000 in
theorem w_12 {Z : Nat → Nat → Int32} {P : Nat → Nat} {L i : Nat} (hL : L < 2 ^ 31) (hi : i + 3 ≤ L) (hR : K_R Z P) (H : ∀ Z2 P2, K_R Z2 P2 → w_Z Z2 P2 L (i + 3)) : ∃ (Z2 : Nat → Nat → Int32) (P2 : Nat → Nat), e_r 152 453 [.ref 3, .ref 4, .ref 131, .int (nI i)] [] (hp Z P L) (some (.int 1)) (hp Z2 P2 L) := by
  obtain ⟨v, Z1, P1, Z2, h1, h2, hR2, h13, h23⟩ : K_C Z P L 69 137 [.int (Z 3 (i + 1)), .int (Z 3 (i + 2))] := call_sum hR
  obtain ⟨Z3, P3, h3⟩ := w_nx (H Z2 P1 hR2)
  have h4 : m_r 137 [.ref 131, .int (Z1 3 (i + 1)), .int (Z1 3 (i + 2))] (hp Z1 P1 L) (some (.int v)) (hp Z2 P1 L) := by
    rw [h13]
    exact h2
  refine ⟨Z3, P3, ?_⟩
  refine e_go hk_152 5 (c := (458, [.ref 3, .ref 4, .ref 131, .int (nI i)], [.int ((nI i) + 1), .ref 3, .ref 4], hp Z P L)) rfl ?_
  rw [show ((nI i) + 1) = nI ((i + 1)) from (nI_add i 1)]
  refine e_ald hk_152 (a := 3) (j := (i + 1)) (n := L) rfl rfl rfl (by omega) hL ?_
  show e_r 152 459 [.ref 3, .ref 4, .ref 131, .int (nI i)] [.int (Z 3 ((i + 1))), .ref 4] (hp Z P L) _ _
  refine e_go hk_152 4 (c := (463, [.ref 3, .ref 4, .ref 131, .int (nI i)], [.int ((nI i) + 2), .ref 3, .int (Z 3 ((i + 1))), .ref 4], hp Z P L)) rfl ?_
  rw [show ((nI i) + 2) = nI ((i + 2)) from (nI_add i 2)]
  refine e_ald hk_152 (a := 3) (j := (i + 2)) (n := L) rfl rfl rfl (by omega) hL ?_
  show e_r 152 464 [.ref 3, .ref 4, .ref 131, .int (nI i)] [.int (Z 3 ((i + 2))), .int (Z 3 ((i + 1))), .ref 4] (hp Z P L) _ _
  refine e_call hk_152 (as := [.ref 4, .int (Z 3 ((i + 1))), .int (Z 3 ((i + 2)))]) (rest := []) rfl rfl hk_69 rfl (Nat.le_of_ble_eq_true rfl) rfl h1 ?_
  show e_r 152 467 [.ref 3, .ref 4, .ref 131, .int (nI i)] [.int v] (hp Z1 P1 L) _ _
  refine e_go hk_152 5 (c := (472, [.ref 3, .ref 4, .ref 131, .int (nI i)], [.int ((nI i) + 1), .ref 3, .ref 131, .int v], hp Z1 P1 L)) rfl ?_
  rw [show ((nI i) + 1) = nI ((i + 1)) from (nI_add i 1)]
  refine e_ald hk_152 (a := 3) (j := (i + 1)) (n := L) rfl rfl rfl (by omega) hL ?_
  show e_r 152 473 [.ref 3, .ref 4, .ref 131, .int (nI i)] [.int (Z1 3 ((i + 1))), .ref 131, .int v] (hp Z1 P1 L) _ _
  refine e_go hk_152 4 (c := (477, [.ref 3, .ref 4, .ref 131, .int (nI i)], [.int ((nI i) + 2), .ref 3, .int (Z1 3 ((i + 1))), .ref 131, .int v], hp Z1 P1 L)) rfl ?_
  rw [show ((nI i) + 2) = nI ((i + 2)) from (nI_add i 2)]
  refine e_ald hk_152 (a := 3) (j := (i + 2)) (n := L) rfl rfl rfl (by omega) hL ?_
  show e_r 152 478 [.ref 3, .ref 4, .ref 131, .int (nI i)] [.int (Z1 3 ((i + 2))), .int (Z1 3 ((i + 1))), .ref 131, .int v] (hp Z1 P1 L) _ _
  refine e_call hk_152 (as := [.ref 131, .int (Z1 3 ((i + 1))), .int (Z1 3 ((i + 2)))]) (rest := [.int v]) rfl rfl hk_137 rfl (Nat.le_of_ble_eq_true rfl) rfl h4 ?_
  show e_r 152 481 [.ref 3, .ref 4, .ref 131, .int (nI i)] [.int v, .int v] (hp Z2 P1 L) _ _
  refine e_go hk_152 1 (c := (if s_cnd .eq v v = true then 683 else 484, [.ref 3, .ref 4, .ref 131, .int (nI i)], [], hp Z2 P1 L)) rfl ?_
  refine e_eq (a := 683) (b := 484) (x := v) (y := v) (fun hc481 => ?_) (fun hc481 => absurd (rfl) hc481)
  exact h3
set_option maxRecDepth 20000 in
theorem w_13 {Z : Nat → Nat → Int32} {P : Nat → Nat} {L i : Nat} (hL : L < 2 ^ 31) (hi : i + 3 ≤ L) (hR : K_R Z P) (H : ∀ Z2 P2, K_R Z2 P2 → w_Z Z2 P2 L (i + 3)) : ∃ (Z2 : Nat → Nat → Int32) (P2 : Nat → Nat), e_r 152 486 [.ref 3, .ref 4, .ref 131, .int (nI i)] [] (hp Z P L) (some (.int 1)) (hp Z2 P2 L) := by
  obtain ⟨v, Z1, P1, Z2, h1, h2, hR2, h13, h23⟩ : K_C Z P L 70 138 [.int (Z 3 (i + 1))] := call_wc hR
  obtain ⟨Z3, P3, h3⟩ := w_nx (H Z2 P1 hR2)
  have h4 : m_r 138 [.ref 131, .int (Z1 3 (i + 1))] (hp Z1 P1 L) (some (.int v)) (hp Z2 P1 L) := by
    rw [h13]
    exact h2
  refine ⟨Z3, P3, ?_⟩
  refine e_go hk_152 5 (c := (491, [.ref 3, .ref 4, .ref 131, .int (nI i)], [.int ((nI i) + 1), .ref 3, .ref 4], hp Z P L)) rfl ?_
  rw [show ((nI i) + 1) = nI ((i + 1)) from (nI_add i 1)]
  refine e_ald hk_152 (a := 3) (j := (i + 1)) (n := L) rfl rfl rfl (by omega) hL ?_
  show e_r 152 492 [.ref 3, .ref 4, .ref 131, .int (nI i)] [.int (Z 3 ((i + 1))), .ref 4] (hp Z P L) _ _
  refine e_call hk_152 (as := [.ref 4, .int (Z 3 ((i + 1)))]) (rest := []) rfl rfl hk_70 rfl (Nat.le_of_ble_eq_true rfl) rfl h1 ?_
  show e_r 152 495 [.ref 3, .ref 4, .ref 131, .int (nI i)] [.int v] (hp Z1 P1 L) _ _
  refine e_go hk_152 5 (c := (500, [.ref 3, .ref 4, .ref 131, .int (nI i)], [.int ((nI i) + 1), .ref 3, .ref 131, .int v], hp Z1 P1 L)) rfl ?_
  rw [show ((nI i) + 1) = nI ((i + 1)) from (nI_add i 1)]
  refine e_ald hk_152 (a := 3) (j := (i + 1)) (n := L) rfl rfl rfl (by omega) hL ?_
  show e_r 152 501 [.ref 3, .ref 4, .ref 131, .int (nI i)] [.int (Z1 3 ((i + 1))), .ref 131, .int v] (hp Z1 P1 L) _ _
  refine e_call hk_152 (as := [.ref 131, .int (Z1 3 ((i + 1)))]) (rest := [.int v]) rfl rfl hk_138 rfl (Nat.le_of_ble_eq_true rfl) rfl h4 ?_
  show e_r 152 504 [.ref 3, .ref 4, .ref 131, .int (nI i)] [.int v, .int v] (hp Z2 P1 L) _ _
  refine e_go hk_152 1 (c := (if s_cnd .eq v v = true then 683 else 507, [.ref 3, .ref 4, .ref 131, .int (nI i)], [], hp Z2 P1 L)) rfl ?_
  refine e_eq (a := 683) (b := 507) (x := v) (y := v) (fun hc504 => ?_) (fun hc504 => absurd (rfl) hc504)
  exact h3
set_option maxRecDepth 20000 in
theorem w_14 {Z : Nat → Nat → Int32} {P : Nat → Nat} {L i : Nat} (hL : L < 2 ^ 31) (hi : i + 3 ≤ L) (hR : K_R Z P) (H : ∀ Z2 P2, K_R Z2 P2 → w_Z Z2 P2 L (i + 3)) : ∃ (Z2 : Nat → Nat → Int32) (P2 : Nat → Nat), e_r 152 509 [.ref 3, .ref 4, .ref 131, .int (nI i)] [] (hp Z P L) (some (.int 1)) (hp Z2 P2 L) := by
  obtain ⟨v, Z1, P1, Z2, h1, h2, hR2, h13, h23⟩ : K_C Z P L 71 139 [.int (Z 3 (i + 1))] := call_worst hR
  obtain ⟨Z3, P3, h3⟩ := w_nx (H Z2 P1 hR2)
  have h4 : m_r 139 [.ref 131, .int (Z1 3 (i + 1))] (hp Z1 P1 L) (some (.int v)) (hp Z2 P1 L) := by
    rw [h13]
    exact h2
  refine ⟨Z3, P3, ?_⟩
  refine e_go hk_152 5 (c := (514, [.ref 3, .ref 4, .ref 131, .int (nI i)], [.int ((nI i) + 1), .ref 3, .ref 4], hp Z P L)) rfl ?_
  rw [show ((nI i) + 1) = nI ((i + 1)) from (nI_add i 1)]
  refine e_ald hk_152 (a := 3) (j := (i + 1)) (n := L) rfl rfl rfl (by omega) hL ?_
  show e_r 152 515 [.ref 3, .ref 4, .ref 131, .int (nI i)] [.int (Z 3 ((i + 1))), .ref 4] (hp Z P L) _ _
  refine e_call hk_152 (as := [.ref 4, .int (Z 3 ((i + 1)))]) (rest := []) rfl rfl hk_71 rfl (Nat.le_of_ble_eq_true rfl) rfl h1 ?_
  show e_r 152 518 [.ref 3, .ref 4, .ref 131, .int (nI i)] [.int v] (hp Z1 P1 L) _ _
  refine e_go hk_152 5 (c := (523, [.ref 3, .ref 4, .ref 131, .int (nI i)], [.int ((nI i) + 1), .ref 3, .ref 131, .int v], hp Z1 P1 L)) rfl ?_
  rw [show ((nI i) + 1) = nI ((i + 1)) from (nI_add i 1)]
  refine e_ald hk_152 (a := 3) (j := (i + 1)) (n := L) rfl rfl rfl (by omega) hL ?_
  show e_r 152 524 [.ref 3, .ref 4, .ref 131, .int (nI i)] [.int (Z1 3 ((i + 1))), .ref 131, .int v] (hp Z1 P1 L) _ _
  refine e_call hk_152 (as := [.ref 131, .int (Z1 3 ((i + 1)))]) (rest := [.int v]) rfl rfl hk_139 rfl (Nat.le_of_ble_eq_true rfl) rfl h4 ?_
  show e_r 152 527 [.ref 3, .ref 4, .ref 131, .int (nI i)] [.int v, .int v] (hp Z2 P1 L) _ _
  refine e_go hk_152 1 (c := (if s_cnd .eq v v = true then 683 else 530, [.ref 3, .ref 4, .ref 131, .int (nI i)], [], hp Z2 P1 L)) rfl ?_
  refine e_eq (a := 683) (b := 530) (x := v) (y := v) (fun hc527 => ?_) (fun hc527 => absurd (rfl) hc527)
  exact h3
set_option maxRecDepth 20000 in
theorem w_15 {Z : Nat → Nat → Int32} {P : Nat → Nat} {L i : Nat} (hL : L < 2 ^ 31) (hi : i + 3 ≤ L) (hR : K_R Z P) (H : ∀ Z2 P2, K_R Z2 P2 → w_Z Z2 P2 L (i + 3)) : ∃ (Z2 : Nat → Nat → Int32) (P2 : Nat → Nat), e_r 152 532 [.ref 3, .ref 4, .ref 131, .int (nI i)] [] (hp Z P L) (some (.int 1)) (hp Z2 P2 L) := by
  obtain ⟨v, Z1, P1, Z2, h1, h2, hR2, h13, h23⟩ : K_C Z P L 72 140 [.long ((Z 3 (i + 1)).toInt64 <<< ((32 : Int32).toInt64 &&& 63) ||| (Z 3 (i + 2)).toInt64 &&& 4294967295)] := call_put hR
  obtain ⟨Z3, P3, h3⟩ := w_nx (H Z2 P1 hR2)
  have h4 : m_r 140 [.ref 131, .long ((Z1 3 (i + 1)).toInt64 <<< ((32 : Int32).toInt64 &&& 63) ||| (Z1 3 (i + 2)).toInt64 &&& 4294967295)] (hp Z1 P1 L) (some (.int v)) (hp Z2 P1 L) := by
    rw [h13]
    exact h2
  refine ⟨Z3, P3, ?_⟩
  refine e_go hk_152 5 (c := (537, [.ref 3, .ref 4, .ref 131, .int (nI i)], [.int ((nI i) + 1), .ref 3, .ref 4], hp Z P L)) rfl ?_
  rw [show ((nI i) + 1) = nI ((i + 1)) from (nI_add i 1)]
  refine e_ald hk_152 (a := 3) (j := (i + 1)) (n := L) rfl rfl rfl (by omega) hL ?_
  show e_r 152 538 [.ref 3, .ref 4, .ref 131, .int (nI i)] [.int (Z 3 ((i + 1))), .ref 4] (hp Z P L) _ _
  refine e_go hk_152 7 (c := (546, [.ref 3, .ref 4, .ref 131, .int (nI i)], [.int ((nI i) + 2), .ref 3, .long (((Z 3 ((i + 1))).toInt64) <<< ((32 : Int32).toInt64 &&& 63)), .ref 4], hp Z P L)) rfl ?_
  rw [show ((nI i) + 2) = nI ((i + 2)) from (nI_add i 2)]
  refine e_ald hk_152 (a := 3) (j := (i + 2)) (n := L) rfl rfl rfl (by omega) hL ?_
  show e_r 152 547 [.ref 3, .ref 4, .ref 131, .int (nI i)] [.int (Z 3 ((i + 2))), .long (((Z 3 ((i + 1))).toInt64) <<< ((32 : Int32).toInt64 &&& 63)), .ref 4] (hp Z P L) _ _
  refine e_go hk_152 4 (c := (553, [.ref 3, .ref 4, .ref 131, .int (nI i)], [.long ((((Z 3 ((i + 1))).toInt64) <<< ((32 : Int32).toInt64 &&& 63)) ||| (((Z 3 ((i + 2))).toInt64) &&& 4294967295)), .ref 4], hp Z P L)) rfl ?_
  refine e_call hk_152 (as := [.ref 4, .long ((((Z 3 ((i + 1))).toInt64) <<< ((32 : Int32).toInt64 &&& 63)) ||| (((Z 3 ((i + 2))).toInt64) &&& 4294967295))]) (rest := []) rfl rfl hk_72 rfl (Nat.le_of_ble_eq_true rfl) rfl h1 ?_
  show e_r 152 556 [.ref 3, .ref 4, .ref 131, .int (nI i)] [.int v] (hp Z1 P1 L) _ _
  refine e_go hk_152 5 (c := (561, [.ref 3, .ref 4, .ref 131, .int (nI i)], [.int ((nI i) + 1), .ref 3, .ref 131, .int v], hp Z1 P1 L)) rfl ?_
  rw [show ((nI i) + 1) = nI ((i + 1)) from (nI_add i 1)]
  refine e_ald hk_152 (a := 3) (j := (i + 1)) (n := L) rfl rfl rfl (by omega) hL ?_
  show e_r 152 562 [.ref 3, .ref 4, .ref 131, .int (nI i)] [.int (Z1 3 ((i + 1))), .ref 131, .int v] (hp Z1 P1 L) _ _
  refine e_go hk_152 7 (c := (570, [.ref 3, .ref 4, .ref 131, .int (nI i)], [.int ((nI i) + 2), .ref 3, .long (((Z1 3 ((i + 1))).toInt64) <<< ((32 : Int32).toInt64 &&& 63)), .ref 131, .int v], hp Z1 P1 L)) rfl ?_
  rw [show ((nI i) + 2) = nI ((i + 2)) from (nI_add i 2)]
  refine e_ald hk_152 (a := 3) (j := (i + 2)) (n := L) rfl rfl rfl (by omega) hL ?_
  show e_r 152 571 [.ref 3, .ref 4, .ref 131, .int (nI i)] [.int (Z1 3 ((i + 2))), .long (((Z1 3 ((i + 1))).toInt64) <<< ((32 : Int32).toInt64 &&& 63)), .ref 131, .int v] (hp Z1 P1 L) _ _
  refine e_go hk_152 4 (c := (577, [.ref 3, .ref 4, .ref 131, .int (nI i)], [.long ((((Z1 3 ((i + 1))).toInt64) <<< ((32 : Int32).toInt64 &&& 63)) ||| (((Z1 3 ((i + 2))).toInt64) &&& 4294967295)), .ref 131, .int v], hp Z1 P1 L)) rfl ?_
  refine e_call hk_152 (as := [.ref 131, .long ((((Z1 3 ((i + 1))).toInt64) <<< ((32 : Int32).toInt64 &&& 63)) ||| (((Z1 3 ((i + 2))).toInt64) &&& 4294967295))]) (rest := [.int v]) rfl rfl hk_140 rfl (Nat.le_of_ble_eq_true rfl) rfl h4 ?_
  show e_r 152 580 [.ref 3, .ref 4, .ref 131, .int (nI i)] [.int v, .int v] (hp Z2 P1 L) _ _
  refine e_go hk_152 1 (c := (if s_cnd .eq v v = true then 683 else 583, [.ref 3, .ref 4, .ref 131, .int (nI i)], [], hp Z2 P1 L)) rfl ?_
  refine e_eq (a := 683) (b := 583) (x := v) (y := v) (fun hc580 => ?_) (fun hc580 => absurd (rfl) hc580)
  exact h3
set_option maxRecDepth 20000 in
theorem w_16 {Z : Nat → Nat → Int32} {P : Nat → Nat} {L i : Nat} (hL : L < 2 ^ 31) (hi : i + 3 ≤ L) (hR : K_R Z P) (H : ∀ Z2 P2, K_R Z2 P2 → w_Z Z2 P2 L (i + 3)) : ∃ (Z2 : Nat → Nat → Int32) (P2 : Nat → Nat), e_r 152 585 [.ref 3, .ref 4, .ref 131, .int (nI i)] [] (hp Z P L) (some (.int 1)) (hp Z2 P2 L) := by
  obtain ⟨v, Z1, P1, Z2, h1, h2, hR2, h13, h23⟩ : K_C Z P L 73 141 [] := call_wipe hR
  obtain ⟨Z3, P3, h3⟩ := w_nx (H Z2 P1 hR2)
  have h4 : m_r 141 [.ref 131] (hp Z1 P1 L) (some (.int v)) (hp Z2 P1 L) := by
    exact h2
  refine ⟨Z3, P3, ?_⟩
  refine e_go hk_152 1 (c := (586, [.ref 3, .ref 4, .ref 131, .int (nI i)], [.ref 4], hp Z P L)) rfl ?_
  refine e_call hk_152 (as := [.ref 4]) (rest := []) rfl rfl hk_73 rfl (Nat.le_of_ble_eq_true rfl) rfl h1 ?_
  show e_r 152 589 [.ref 3, .ref 4, .ref 131, .int (nI i)] [.int v] (hp Z1 P1 L) _ _
  refine e_go hk_152 1 (c := (590, [.ref 3, .ref 4, .ref 131, .int (nI i)], [.ref 131, .int v], hp Z1 P1 L)) rfl ?_
  refine e_call hk_152 (as := [.ref 131]) (rest := [.int v]) rfl rfl hk_141 rfl (Nat.le_of_ble_eq_true rfl) rfl h4 ?_
  show e_r 152 593 [.ref 3, .ref 4, .ref 131, .int (nI i)] [.int v, .int v] (hp Z2 P1 L) _ _
  refine e_go hk_152 1 (c := (if s_cnd .eq v v = true then 683 else 596, [.ref 3, .ref 4, .ref 131, .int (nI i)], [], hp Z2 P1 L)) rfl ?_
  refine e_eq (a := 683) (b := 596) (x := v) (y := v) (fun hc593 => ?_) (fun hc593 => absurd (rfl) hc593)
  exact h3
set_option maxRecDepth 20000 in
theorem w_17 {Z : Nat → Nat → Int32} {P : Nat → Nat} {L i : Nat} (hL : L < 2 ^ 31) (hi : i + 3 ≤ L) (hR : K_R Z P) (H : ∀ Z2 P2, K_R Z2 P2 → w_Z Z2 P2 L (i + 3)) : ∃ (Z2 : Nat → Nat → Int32) (P2 : Nat → Nat), e_r 152 598 [.ref 3, .ref 4, .ref 131, .int (nI i)] [] (hp Z P L) (some (.int 1)) (hp Z2 P2 L) := by
  obtain ⟨v, Z1, P1, Z2, h1, h2, hR2, h13, h23⟩ : K_C Z P L 74 146 [] := call_fault hR
  obtain ⟨Z3, P3, h3⟩ := w_nx (H Z2 P1 hR2)
  have h4 : m_r 146 [.ref 131] (hp Z1 P1 L) (some (.int v)) (hp Z2 P1 L) := by
    exact h2
  refine ⟨Z3, P3, ?_⟩
  refine e_go hk_152 1 (c := (599, [.ref 3, .ref 4, .ref 131, .int (nI i)], [.ref 4], hp Z P L)) rfl ?_
  refine e_call hk_152 (as := [.ref 4]) (rest := []) rfl rfl hk_74 rfl (Nat.le_of_ble_eq_true rfl) rfl h1 ?_
  show e_r 152 602 [.ref 3, .ref 4, .ref 131, .int (nI i)] [.int v] (hp Z1 P1 L) _ _
  refine e_go hk_152 1 (c := (603, [.ref 3, .ref 4, .ref 131, .int (nI i)], [.ref 131, .int v], hp Z1 P1 L)) rfl ?_
  refine e_call hk_152 (as := [.ref 131]) (rest := [.int v]) rfl rfl hk_146 rfl (Nat.le_of_ble_eq_true rfl) rfl h4 ?_
  show e_r 152 606 [.ref 3, .ref 4, .ref 131, .int (nI i)] [.int v, .int v] (hp Z2 P1 L) _ _
  refine e_go hk_152 1 (c := (if s_cnd .eq v v = true then 683 else 609, [.ref 3, .ref 4, .ref 131, .int (nI i)], [], hp Z2 P1 L)) rfl ?_
  refine e_eq (a := 683) (b := 609) (x := v) (y := v) (fun hc606 => ?_) (fun hc606 => absurd (rfl) hc606)
  exact h3
set_option maxRecDepth 20000 in
theorem w_18 {Z : Nat → Nat → Int32} {P : Nat → Nat} {L i : Nat} (hL : L < 2 ^ 31) (hi : i + 3 ≤ L) (hR : K_R Z P) (H : ∀ Z2 P2, K_R Z2 P2 → w_Z Z2 P2 L (i + 3)) : ∃ (Z2 : Nat → Nat → Int32) (P2 : Nat → Nat), e_r 152 611 [.ref 3, .ref 4, .ref 131, .int (nI i)] [] (hp Z P L) (some (.int 1)) (hp Z2 P2 L) := by
  obtain ⟨v, Z1, P1, Z2, h1, h2, hR2, h13, h23⟩ : K_C Z P L 75 148 [] := call_carry hR
  obtain ⟨Z3, P3, h3⟩ := w_nx (H Z2 P1 hR2)
  have h4 : m_r 148 [.ref 131] (hp Z1 P1 L) (some (.int v)) (hp Z2 P1 L) := by
    exact h2
  refine ⟨Z3, P3, ?_⟩
  refine e_go hk_152 1 (c := (612, [.ref 3, .ref 4, .ref 131, .int (nI i)], [.ref 4], hp Z P L)) rfl ?_
  refine e_call hk_152 (as := [.ref 4]) (rest := []) rfl rfl hk_75 rfl (Nat.le_of_ble_eq_true rfl) rfl h1 ?_
  show e_r 152 615 [.ref 3, .ref 4, .ref 131, .int (nI i)] [.int v] (hp Z1 P1 L) _ _
  refine e_go hk_152 1 (c := (616, [.ref 3, .ref 4, .ref 131, .int (nI i)], [.ref 131, .int v], hp Z1 P1 L)) rfl ?_
  refine e_call hk_152 (as := [.ref 131]) (rest := [.int v]) rfl rfl hk_148 rfl (Nat.le_of_ble_eq_true rfl) rfl h4 ?_
  show e_r 152 619 [.ref 3, .ref 4, .ref 131, .int (nI i)] [.int v, .int v] (hp Z2 P1 L) _ _
  refine e_go hk_152 1 (c := (if s_cnd .eq v v = true then 683 else 622, [.ref 3, .ref 4, .ref 131, .int (nI i)], [], hp Z2 P1 L)) rfl ?_
  refine e_eq (a := 683) (b := 622) (x := v) (y := v) (fun hc619 => ?_) (fun hc619 => absurd (rfl) hc619)
  exact h3
set_option maxRecDepth 20000 in
theorem w_19 {Z : Nat → Nat → Int32} {P : Nat → Nat} {L i : Nat} (hL : L < 2 ^ 31) (hi : i + 3 ≤ L) (hR : K_R Z P) (H : ∀ Z2 P2, K_R Z2 P2 → w_Z Z2 P2 L (i + 3)) : ∃ (Z2 : Nat → Nat → Int32) (P2 : Nat → Nat), e_r 152 624 [.ref 3, .ref 4, .ref 131, .int (nI i)] [] (hp Z P L) (some (.int 1)) (hp Z2 P2 L) := by
  obtain ⟨v, Z1, P1, Z2, h1, h2, hR2, h13, h23⟩ : K_C Z P L 76 149 [] := call_undo hR
  obtain ⟨Z3, P3, h3⟩ := w_nx (H Z2 P1 hR2)
  have h4 : m_r 149 [.ref 131] (hp Z1 P1 L) (some (.int v)) (hp Z2 P1 L) := by
    exact h2
  refine ⟨Z3, P3, ?_⟩
  refine e_go hk_152 1 (c := (625, [.ref 3, .ref 4, .ref 131, .int (nI i)], [.ref 4], hp Z P L)) rfl ?_
  refine e_call hk_152 (as := [.ref 4]) (rest := []) rfl rfl hk_76 rfl (Nat.le_of_ble_eq_true rfl) rfl h1 ?_
  show e_r 152 628 [.ref 3, .ref 4, .ref 131, .int (nI i)] [.int v] (hp Z1 P1 L) _ _
  refine e_go hk_152 1 (c := (629, [.ref 3, .ref 4, .ref 131, .int (nI i)], [.ref 131, .int v], hp Z1 P1 L)) rfl ?_
  refine e_call hk_152 (as := [.ref 131]) (rest := [.int v]) rfl rfl hk_149 rfl (Nat.le_of_ble_eq_true rfl) rfl h4 ?_
  show e_r 152 632 [.ref 3, .ref 4, .ref 131, .int (nI i)] [.int v, .int v] (hp Z2 P1 L) _ _
  refine e_go hk_152 1 (c := (if s_cnd .eq v v = true then 683 else 635, [.ref 3, .ref 4, .ref 131, .int (nI i)], [], hp Z2 P1 L)) rfl ?_
  refine e_eq (a := 683) (b := 635) (x := v) (y := v) (fun hc632 => ?_) (fun hc632 => absurd (rfl) hc632)
  exact h3
set_option maxRecDepth 20000 in
theorem w_20 {Z : Nat → Nat → Int32} {P : Nat → Nat} {L i : Nat} (hL : L < 2 ^ 31) (hi : i + 3 ≤ L) (hR : K_R Z P) (H : ∀ Z2 P2, K_R Z2 P2 → w_Z Z2 P2 L (i + 3)) : ∃ (Z2 : Nat → Nat → Int32) (P2 : Nat → Nat), e_r 152 637 [.ref 3, .ref 4, .ref 131, .int (nI i)] [] (hp Z P L) (some (.int 1)) (hp Z2 P2 L) := by
  obtain ⟨v, Z1, P1, Z2, h1, h2, hR2, h13, h23⟩ : K_C Z P L 77 150 [.int (Z 3 (i + 1))] := call_save hR
  obtain ⟨Z3, P3, h3⟩ := w_nx (H Z2 P1 hR2)
  have h4 : m_r 150 [.ref 131, .int (Z1 3 (i + 1))] (hp Z1 P1 L) (some (.int v)) (hp Z2 P1 L) := by
    rw [h13]
    exact h2
  refine ⟨Z3, P3, ?_⟩
  refine e_go hk_152 5 (c := (642, [.ref 3, .ref 4, .ref 131, .int (nI i)], [.int ((nI i) + 1), .ref 3, .ref 4], hp Z P L)) rfl ?_
  rw [show ((nI i) + 1) = nI ((i + 1)) from (nI_add i 1)]
  refine e_ald hk_152 (a := 3) (j := (i + 1)) (n := L) rfl rfl rfl (by omega) hL ?_
  show e_r 152 643 [.ref 3, .ref 4, .ref 131, .int (nI i)] [.int (Z 3 ((i + 1))), .ref 4] (hp Z P L) _ _
  refine e_call hk_152 (as := [.ref 4, .int (Z 3 ((i + 1)))]) (rest := []) rfl rfl hk_77 rfl (Nat.le_of_ble_eq_true rfl) rfl h1 ?_
  show e_r 152 646 [.ref 3, .ref 4, .ref 131, .int (nI i)] [.int v] (hp Z1 P1 L) _ _
  refine e_go hk_152 5 (c := (651, [.ref 3, .ref 4, .ref 131, .int (nI i)], [.int ((nI i) + 1), .ref 3, .ref 131, .int v], hp Z1 P1 L)) rfl ?_
  rw [show ((nI i) + 1) = nI ((i + 1)) from (nI_add i 1)]
  refine e_ald hk_152 (a := 3) (j := (i + 1)) (n := L) rfl rfl rfl (by omega) hL ?_
  show e_r 152 652 [.ref 3, .ref 4, .ref 131, .int (nI i)] [.int (Z1 3 ((i + 1))), .ref 131, .int v] (hp Z1 P1 L) _ _
  refine e_call hk_152 (as := [.ref 131, .int (Z1 3 ((i + 1)))]) (rest := [.int v]) rfl rfl hk_150 rfl (Nat.le_of_ble_eq_true rfl) rfl h4 ?_
  show e_r 152 655 [.ref 3, .ref 4, .ref 131, .int (nI i)] [.int v, .int v] (hp Z2 P1 L) _ _
  refine e_go hk_152 1 (c := (if s_cnd .eq v v = true then 683 else 658, [.ref 3, .ref 4, .ref 131, .int (nI i)], [], hp Z2 P1 L)) rfl ?_
  refine e_eq (a := 683) (b := 658) (x := v) (y := v) (fun hc655 => ?_) (fun hc655 => absurd (rfl) hc655)
  exact h3
set_option maxRecDepth 20000 in
theorem w_21 {Z : Nat → Nat → Int32} {P : Nat → Nat} {L i : Nat} (hL : L < 2 ^ 31) (hi : i + 3 ≤ L) (hR : K_R Z P) (H : ∀ Z2 P2, K_R Z2 P2 → w_Z Z2 P2 L (i + 3)) : ∃ (Z2 : Nat → Nat → Int32) (P2 : Nat → Nat), e_r 152 660 [.ref 3, .ref 4, .ref 131, .int (nI i)] [] (hp Z P L) (some (.int 1)) (hp Z2 P2 L) := by
  obtain ⟨v, Z1, P1, Z2, h1, h2, hR2, h13, h23⟩ : K_C Z P L 78 151 [.int (Z 3 (i + 1))] := call_restore hR
  obtain ⟨Z3, P3, h3⟩ := w_nx (H Z2 P1 hR2)
  have h4 : m_r 151 [.ref 131, .int (Z1 3 (i + 1))] (hp Z1 P1 L) (some (.int v)) (hp Z2 P1 L) := by
    rw [h13]
    exact h2
  refine ⟨Z3, P3, ?_⟩
  refine e_go hk_152 5 (c := (665, [.ref 3, .ref 4, .ref 131, .int (nI i)], [.int ((nI i) + 1), .ref 3, .ref 4], hp Z P L)) rfl ?_
  rw [show ((nI i) + 1) = nI ((i + 1)) from (nI_add i 1)]
  refine e_ald hk_152 (a := 3) (j := (i + 1)) (n := L) rfl rfl rfl (by omega) hL ?_
  show e_r 152 666 [.ref 3, .ref 4, .ref 131, .int (nI i)] [.int (Z 3 ((i + 1))), .ref 4] (hp Z P L) _ _
  refine e_call hk_152 (as := [.ref 4, .int (Z 3 ((i + 1)))]) (rest := []) rfl rfl hk_78 rfl (Nat.le_of_ble_eq_true rfl) rfl h1 ?_
  show e_r 152 669 [.ref 3, .ref 4, .ref 131, .int (nI i)] [.int v] (hp Z1 P1 L) _ _
  refine e_go hk_152 5 (c := (674, [.ref 3, .ref 4, .ref 131, .int (nI i)], [.int ((nI i) + 1), .ref 3, .ref 131, .int v], hp Z1 P1 L)) rfl ?_
  rw [show ((nI i) + 1) = nI ((i + 1)) from (nI_add i 1)]
  refine e_ald hk_152 (a := 3) (j := (i + 1)) (n := L) rfl rfl rfl (by omega) hL ?_
  show e_r 152 675 [.ref 3, .ref 4, .ref 131, .int (nI i)] [.int (Z1 3 ((i + 1))), .ref 131, .int v] (hp Z1 P1 L) _ _
  refine e_call hk_152 (as := [.ref 131, .int (Z1 3 ((i + 1)))]) (rest := [.int v]) rfl rfl hk_151 rfl (Nat.le_of_ble_eq_true rfl) rfl h4 ?_
  show e_r 152 678 [.ref 3, .ref 4, .ref 131, .int (nI i)] [.int v, .int v] (hp Z2 P1 L) _ _
  refine e_go hk_152 1 (c := (if s_cnd .eq v v = true then 683 else 681, [.ref 3, .ref 4, .ref 131, .int (nI i)], [], hp Z2 P1 L)) rfl ?_
  refine e_eq (a := 683) (b := 681) (x := v) (y := v) (fun hc678 => ?_) (fun hc678 => absurd (rfl) hc678)
  exact h3
set_option maxRecDepth 20000 in
theorem w_hd {L i : Nat} (hL : L ≤ 1536) (hi : i ≤ 1538) : nI L - 3 < nI i ↔ L < i + 3 := by
  by_cases h3 : 3 ≤ L
  · rw [show nI L - 3 = nI (L - 3) from nI_sub h3, y_lt (by omega) (by omega)]
    omega
  · have hc : ∀ n, n < 3 → nI n - 3 < 0 := by decide
    refine ⟨fun _ => by omega, fun _ => Int32.lt_of_lt_of_le (hc L (by omega)) (nI_pos' (by omega))⟩
section LOOP
variable {Z : Nat → Nat → Int32} {P : Nat → Nat} {L i : Nat} {v : Option Value} {h2 : sHp}
set_option maxRecDepth 20000 in
theorem w_head (kt : nI L - 3 < nI i → e_r 152 689 [.ref 3, .ref 4, .ref 131, .int (nI i)] [] (hp Z P L) v h2) (kf : ¬ nI L - 3 < nI i → e_r 152 26 [.ref 3, .ref 4, .ref 131, .int (nI i)] [] (hp Z P L) v h2) : e_r 152 18 [.ref 3, .ref 4, .ref 131, .int (nI i)] [] (hp Z P L) v h2 := by
  refine e_go hk_152 2 (c := (20, [.ref 3, .ref 4, .ref 131, .int (nI i)], [.ref 3, .int (nI i)], hp Z P L)) rfl ?_
  refine e_alen hk_152 (t := 0) (n := L) rfl rfl rfl ?_
  show e_r 152 21 [.ref 3, .ref 4, .ref 131, .int (nI i)] [.int (nI L), .int (nI i)] (hp Z P L) _ _
  refine e_go hk_152 3 (c := (if s_cnd .gt (nI i) (nI L - 3) = true then 689 else 26, [.ref 3, .ref 4, .ref 131, .int (nI i)], [], hp Z P L)) rfl ?_
  exact e_gt kt kf
set_option maxRecDepth 20000 in
theorem w_end : e_r 152 689 [.ref 3, .ref 4, .ref 131, .int (nI i)] [] (hp Z P L) (some (.int 1)) (hp Z P L) := by
  refine e_go hk_152 1 (c := (690, [.ref 3, .ref 4, .ref 131, .int (nI i)], [.int 1], hp Z P L)) rfl ?_
  exact e_ret hk_152 rfl rfl rfl rfl rfl
set_option maxRecDepth 20000 in
theorem w_sw {c : Nat} (hL : L < 2 ^ 31) (hi : i < L) (he : Z 3 i &&& 31 = nI c) (kk : e_r 152 32 [.ref 3, .ref 4, .ref 131, .int (nI i)] [.int (nI c)] (hp Z P L) v h2) : e_r 152 26 [.ref 3, .ref 4, .ref 131, .int (nI i)] [] (hp Z P L) v h2 := by
  refine e_go hk_152 2 (c := (28, [.ref 3, .ref 4, .ref 131, .int (nI i)], [.int (nI i), .ref 3], hp Z P L)) rfl ?_
  refine e_ald hk_152 (a := 3) (j := i) (n := L) rfl rfl rfl hi hL ?_
  show e_r 152 29 [.ref 3, .ref 4, .ref 131, .int (nI i)] [.int (Z 3 i)] (hp Z P L) _ _
  refine e_go hk_152 2 (c := (32, [.ref 3, .ref 4, .ref 131, .int (nI i)], [.int (Z 3 i &&& 31)], hp Z P L)) rfl ?_
  rw [he]
  exact kk
set_option maxRecDepth 20000 in
theorem w_all {c : Nat} (hL : L < 2 ^ 31) (hi : i + 3 ≤ L) (hR : K_R Z P) (H : ∀ Z2 P2, K_R Z2 P2 → w_Z Z2 P2 L (i + 3)) (hc : c < 32) : ∃ (Z2 : Nat → Nat → Int32) (P2 : Nat → Nat), e_r 152 32 [.ref 3, .ref 4, .ref 131, .int (nI i)] [.int (nI c)] (hp Z P L) (some (.int 1)) (hp Z2 P2 L) := by
  match c, hc with
  | 0, _ =>
    obtain ⟨Z3, P3, h3⟩ := w_0 hL hi hR H
    exact ⟨Z3, P3, e_go hk_152 1 (c := (136, [.ref 3, .ref 4, .ref 131, .int (nI i)], [], hp Z P L)) rfl h3⟩
  | 1, _ =>
    obtain ⟨Z3, P3, h3⟩ := w_1 hL hi hR H
    exact ⟨Z3, P3, e_go hk_152 1 (c := (169, [.ref 3, .ref 4, .ref 131, .int (nI i)], [], hp Z P L)) rfl h3⟩
  | 2, _ =>
    obtain ⟨Z3, P3, h3⟩ := w_2 hL hi hR H
    exact ⟨Z3, P3, e_go hk_152 1 (c := (202, [.ref 3, .ref 4, .ref 131, .int (nI i)], [], hp Z P L)) rfl h3⟩
  | 3, _ =>
    obtain ⟨Z3, P3, h3⟩ := w_3 hL hi hR H
    exact ⟨Z3, P3, e_go hk_152 1 (c := (225, [.ref 3, .ref 4, .ref 131, .int (nI i)], [], hp Z P L)) rfl h3⟩
  | 4, _ =>
    obtain ⟨Z3, P3, h3⟩ := w_4 hL hi hR H
    exact ⟨Z3, P3, e_go hk_152 1 (c := (248, [.ref 3, .ref 4, .ref 131, .int (nI i)], [], hp Z P L)) rfl h3⟩
  | 5, _ =>
    obtain ⟨Z3, P3, h3⟩ := w_5 hL hi hR H
    exact ⟨Z3, P3, e_go hk_152 1 (c := (271, [.ref 3, .ref 4, .ref 131, .int (nI i)], [], hp Z P L)) rfl h3⟩
  | 6, _ =>
    obtain ⟨Z3, P3, h3⟩ := w_6 hL hi hR H
    exact ⟨Z3, P3, e_go hk_152 1 (c := (304, [.ref 3, .ref 4, .ref 131, .int (nI i)], [], hp Z P L)) rfl h3⟩
  | 7, _ =>
    obtain ⟨Z3, P3, h3⟩ := w_7 hL hi hR H
    exact ⟨Z3, P3, e_go hk_152 1 (c := (327, [.ref 3, .ref 4, .ref 131, .int (nI i)], [], hp Z P L)) rfl h3⟩
  | 8, _ =>
    obtain ⟨Z3, P3, h3⟩ := w_8 hL hi hR H
    exact ⟨Z3, P3, e_go hk_152 1 (c := (351, [.ref 3, .ref 4, .ref 131, .int (nI i)], [], hp Z P L)) rfl h3⟩
  | 9, _ =>
    obtain ⟨Z3, P3, h3⟩ := w_9 hL hi hR H
    exact ⟨Z3, P3, e_go hk_152 1 (c := (374, [.ref 3, .ref 4, .ref 131, .int (nI i)], [], hp Z P L)) rfl h3⟩
  | 10, _ =>
    obtain ⟨Z3, P3, h3⟩ := w_10 hL hi hR H
    exact ⟨Z3, P3, e_go hk_152 1 (c := (397, [.ref 3, .ref 4, .ref 131, .int (nI i)], [], hp Z P L)) rfl h3⟩
  | 11, _ =>
    obtain ⟨Z3, P3, h3⟩ := w_11 hL hi hR H
    exact ⟨Z3, P3, e_go hk_152 1 (c := (420, [.ref 3, .ref 4, .ref 131, .int (nI i)], [], hp Z P L)) rfl h3⟩
  | 12, _ =>
    obtain ⟨Z3, P3, h3⟩ := w_12 hL hi hR H
    exact ⟨Z3, P3, e_go hk_152 1 (c := (453, [.ref 3, .ref 4, .ref 131, .int (nI i)], [], hp Z P L)) rfl h3⟩
  | 13, _ =>
    obtain ⟨Z3, P3, h3⟩ := w_13 hL hi hR H
    exact ⟨Z3, P3, e_go hk_152 1 (c := (486, [.ref 3, .ref 4, .ref 131, .int (nI i)], [], hp Z P L)) rfl h3⟩
  | 14, _ =>
    obtain ⟨Z3, P3, h3⟩ := w_14 hL hi hR H
    exact ⟨Z3, P3, e_go hk_152 1 (c := (509, [.ref 3, .ref 4, .ref 131, .int (nI i)], [], hp Z P L)) rfl h3⟩
  | 15, _ =>
    obtain ⟨Z3, P3, h3⟩ := w_15 hL hi hR H
    exact ⟨Z3, P3, e_go hk_152 1 (c := (532, [.ref 3, .ref 4, .ref 131, .int (nI i)], [], hp Z P L)) rfl h3⟩
  | 16, _ =>
    obtain ⟨Z3, P3, h3⟩ := w_16 hL hi hR H
    exact ⟨Z3, P3, e_go hk_152 1 (c := (585, [.ref 3, .ref 4, .ref 131, .int (nI i)], [], hp Z P L)) rfl h3⟩
  | 17, _ =>
    obtain ⟨Z3, P3, h3⟩ := w_17 hL hi hR H
    exact ⟨Z3, P3, e_go hk_152 1 (c := (598, [.ref 3, .ref 4, .ref 131, .int (nI i)], [], hp Z P L)) rfl h3⟩
  | 18, _ =>
    obtain ⟨Z3, P3, h3⟩ := w_18 hL hi hR H
    exact ⟨Z3, P3, e_go hk_152 1 (c := (611, [.ref 3, .ref 4, .ref 131, .int (nI i)], [], hp Z P L)) rfl h3⟩
  | 19, _ =>
    obtain ⟨Z3, P3, h3⟩ := w_19 hL hi hR H
    exact ⟨Z3, P3, e_go hk_152 1 (c := (624, [.ref 3, .ref 4, .ref 131, .int (nI i)], [], hp Z P L)) rfl h3⟩
  | 20, _ =>
    obtain ⟨Z3, P3, h3⟩ := w_20 hL hi hR H
    exact ⟨Z3, P3, e_go hk_152 1 (c := (637, [.ref 3, .ref 4, .ref 131, .int (nI i)], [], hp Z P L)) rfl h3⟩
  | 21, _ =>
    obtain ⟨Z3, P3, h3⟩ := w_21 hL hi hR H
    exact ⟨Z3, P3, e_go hk_152 1 (c := (660, [.ref 3, .ref 4, .ref 131, .int (nI i)], [], hp Z P L)) rfl h3⟩
  | 22, _ =>
    obtain ⟨Z3, P3, h3⟩ := w_nx (H Z P hR)
    exact ⟨Z3, P3, e_go hk_152 1 (c := (683, [.ref 3, .ref 4, .ref 131, .int (nI i)], [], hp Z P L)) rfl h3⟩
  | 23, _ =>
    obtain ⟨Z3, P3, h3⟩ := w_nx (H Z P hR)
    exact ⟨Z3, P3, e_go hk_152 1 (c := (683, [.ref 3, .ref 4, .ref 131, .int (nI i)], [], hp Z P L)) rfl h3⟩
  | 24, _ =>
    obtain ⟨Z3, P3, h3⟩ := w_nx (H Z P hR)
    exact ⟨Z3, P3, e_go hk_152 1 (c := (683, [.ref 3, .ref 4, .ref 131, .int (nI i)], [], hp Z P L)) rfl h3⟩
  | 25, _ =>
    obtain ⟨Z3, P3, h3⟩ := w_nx (H Z P hR)
    exact ⟨Z3, P3, e_go hk_152 1 (c := (683, [.ref 3, .ref 4, .ref 131, .int (nI i)], [], hp Z P L)) rfl h3⟩
  | 26, _ =>
    obtain ⟨Z3, P3, h3⟩ := w_nx (H Z P hR)
    exact ⟨Z3, P3, e_go hk_152 1 (c := (683, [.ref 3, .ref 4, .ref 131, .int (nI i)], [], hp Z P L)) rfl h3⟩
  | 27, _ =>
    obtain ⟨Z3, P3, h3⟩ := w_nx (H Z P hR)
    exact ⟨Z3, P3, e_go hk_152 1 (c := (683, [.ref 3, .ref 4, .ref 131, .int (nI i)], [], hp Z P L)) rfl h3⟩
  | 28, _ =>
    obtain ⟨Z3, P3, h3⟩ := w_nx (H Z P hR)
    exact ⟨Z3, P3, e_go hk_152 1 (c := (683, [.ref 3, .ref 4, .ref 131, .int (nI i)], [], hp Z P L)) rfl h3⟩
  | 29, _ =>
    obtain ⟨Z3, P3, h3⟩ := w_nx (H Z P hR)
    exact ⟨Z3, P3, e_go hk_152 1 (c := (683, [.ref 3, .ref 4, .ref 131, .int (nI i)], [], hp Z P L)) rfl h3⟩
  | 30, _ =>
    obtain ⟨Z3, P3, h3⟩ := w_nx (H Z P hR)
    exact ⟨Z3, P3, e_go hk_152 1 (c := (683, [.ref 3, .ref 4, .ref 131, .int (nI i)], [], hp Z P L)) rfl h3⟩
  | 31, _ =>
    obtain ⟨Z3, P3, h3⟩ := w_nx (H Z P hR)
    exact ⟨Z3, P3, e_go hk_152 1 (c := (683, [.ref 3, .ref 4, .ref 131, .int (nI i)], [], hp Z P L)) rfl h3⟩
  | c + 32, hc => exact absurd hc (by omega)
end LOOP
set_option maxRecDepth 20000 in
theorem law_l {L : Nat} (hL : L ≤ 1536) : ∀ (k i : Nat) (Z : Nat → Nat → Int32) (P : Nat → Nat), K_R Z P → L ≤ i + k → i ≤ 1538 → w_Z Z P L i := by
  intro k
  induction k with
  | zero =>
    intro i Z P hR hk hi
    exact ⟨Z, P, w_head (fun _ => w_end) (fun h => absurd ((w_hd hL hi).mpr (by omega)) h)⟩
  | succ k ih =>
    intro i Z P hR hk hi
    by_cases h3 : L < i + 3
    · exact ⟨Z, P, w_head (fun _ => w_end) (fun h => absurd ((w_hd hL hi).mpr h3) h)⟩
    · have H : ∀ Z2 P2, K_R Z2 P2 → w_Z Z2 P2 L (i + 3) := fun Z2 P2 h => ih (i + 3) Z2 P2 h (by omega) (by omega)
      obtain ⟨c, hc, he⟩ := w_31 (Z 3 i)
      obtain ⟨Z3, P3, h⟩ := w_all (c := c) (by omega) (by omega) hR H hc
      exact ⟨Z3, P3, w_head (fun z => absurd ((w_hd hL hi).mp z) h3) (fun _ => w_sw (by omega) (by omega) he h)⟩
