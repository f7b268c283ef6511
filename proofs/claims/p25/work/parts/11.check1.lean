def s_ckm (q : sM × Option Nat) : Bool := (s_cd q.1).all (fun e => s_chk s_S s_T lw_tbl s_host q.1 e) && (plainFor (s_y q.1) && (match q.2 with
  | some c => decide (s_cn s_S c = (s_y q.1).cls) && decide (0 < s_N s_S c)
  | none => true))
theorem s_all2 {f : sE → Bool} {a b : List sE} (ha : a.all f = true) (hb : b.all f = true) : (a ++ b).all f = true := by rw [List.all_append, ha, hb]; rfl
theorem s_ck3 {q : sM × Option Nat} {c : List sE} (hc : s_cd q.1 = c) (h1 : c.all (fun e => s_chk s_S s_T lw_tbl s_host q.1 e) = true) (h2 : (plainFor (s_y q.1) && (match q.2 with | some c => decide (s_cn s_S c = (s_y q.1).cls) && decide (0 < s_N s_S c) | none => true)) = true) : s_ckm q = true := by
  unfold s_ckm
  rw [hc, h1, Bool.true_and]
  exact h2
theorem s_k22 : s_ckm (s_m22, some 3) = true := by decide +kernel
/-- a row whose words are long: they are compared as they are written -/
theorem s_chk_1 {r : sM} {e : sE} (h1 : (decide (decode (s_b r) e.1 = .ok (s_rel e.1 e.2.2.2.1 e.2.1, e.2.2.1)) && (decide (s_ln e.2.1 = 0) || decide (e.2.2.1 = s_ln e.2.1))) = true) (h2 : (s_wds s_S s_T (s_y r).cls e.2.2.2.1 e.2.1).map some = e.2.2.2.2.map (fun i => lw_tbl[i]?)) (h3 : ((s_wds s_S s_T (s_y r).cls e.2.2.2.1 e.2.1).all goodWord && s_sd s_S s_T s_host r e.2.2.2.1 e.2.1 && s_so e.1 e.2.1) = true) : [e].all (fun e => s_chk s_S s_T lw_tbl s_host r e) = true := by
  rw [List.all_cons, List.all_nil, Bool.and_true]
  unfold s_chk
  rw [decide_eq_true h2, h1, Bool.true_and, Bool.true_and]
  exact h3
theorem s_k0 : s_ckm (s_m0, some 0) = true := by decide +kernel
theorem s_k1 : s_ckm (s_m1, some 0) = true := by decide +kernel
theorem s_k2 : s_ckm (s_m2, some 0) = true := by decide +kernel
theorem s_k3 : s_ckm (s_m3, some 0) = true := by decide +kernel
theorem s_k4 : s_ckm (s_m4, some 0) = true := by decide +kernel
theorem s_k5 : s_ckm (s_m5, some 1) = true := by decide +kernel
theorem s_k17 : s_ckm (s_m17, some 2) = true := by decide +kernel
theorem s_k21 : s_ckm (s_m21, some 3) = true := by decide +kernel
theorem s_k23 : s_ckm (s_m23, some 3) = true := by decide +kernel
theorem s_k24 : s_ckm (s_m24, some 3) = true := by decide +kernel
theorem s_k25 : s_ckm (s_m25, some 3) = true := by decide +kernel
theorem s_k26 : s_ckm (s_m26, some 3) = true := by decide +kernel
theorem s_k27 : s_ckm (s_m27, some 4) = true := by decide +kernel
theorem s_k28 : s_ckm (s_m28, some 5) = true := by decide +kernel
theorem s_k29 : s_ckm (s_m29, some 5) = true := by decide +kernel
theorem s_k30 : s_ckm (s_m30, some 5) = true := by decide +kernel
theorem s_k31 : s_ckm (s_m31, some 5) = true := by decide +kernel
theorem s_k32 : s_ckm (s_m32, some 5) = true := by decide +kernel
theorem s_k33 : s_ckm (s_m33, some 5) = true := by decide +kernel
theorem s_k34 : s_ckm (s_m34, some 5) = true := by decide +kernel
theorem s_k35 : s_ckm (s_m35, some 5) = true := by decide +kernel
theorem s_k36 : s_ckm (s_m36, some 5) = true := by decide +kernel
theorem s_k37 : s_ckm (s_m37, some 5) = true := by decide +kernel
theorem s_k38 : s_ckm (s_m38, some 5) = true := by decide +kernel
theorem s_k39 : s_ckm (s_m39, some 5) = true := by decide +kernel
theorem s_k40 : s_ckm (s_m40, some 5) = true := by decide +kernel
theorem s_k41 : s_ckm (s_m41, some 5) = true := by decide +kernel
theorem s_k42 : s_ckm (s_m42, some 5) = true := by decide +kernel
theorem s_k43 : s_ckm (s_m43, some 5) = true := by decide +kernel
theorem s_k44 : s_ckm (s_m44, some 5) = true := by decide +kernel
theorem s_k45 : s_ckm (s_m45, some 5) = true := by decide +kernel
theorem s_k46 : s_ckm (s_m46, some 5) = true := by decide +kernel
theorem s_k47 : s_ckm (s_m47, some 5) = true := by decide +kernel
theorem s_k48 : s_ckm (s_m48, some 5) = true := by decide +kernel
theorem s_k49 : s_ckm (s_m49, some 5) = true := by decide +kernel
theorem s_k50_0 : (s_r50_0).all (fun e => s_chk s_S s_T lw_tbl s_host s_m50 e) = true := by decide +kernel
theorem s_k50_1 : (s_r50_1).all (fun e => s_chk s_S s_T lw_tbl s_host s_m50 e) = true := by decide +kernel
theorem s_k50_x : (plainFor (s_y s_m50) && (match ((s_m50, some 5) : sM × Option Nat).2 with | some c => decide (s_cn s_S c = (s_y s_m50).cls) && decide (0 < s_N s_S c) | none => true)) = true := by decide +kernel
theorem s_k50 : s_ckm (s_m50, some 5) = true := s_ck3 (c := s_cd s_m50) rfl (s_all2 s_k50_0 s_k50_1) s_k50_x
theorem s_k51 : s_ckm (s_m51, some 5) = true := by decide +kernel
theorem s_k52_0 : (s_r52_0).all (fun e => s_chk s_S s_T lw_tbl s_host s_m52 e) = true := by decide +kernel
theorem s_k52_1 : (s_r52_1).all (fun e => s_chk s_S s_T lw_tbl s_host s_m52 e) = true := by decide +kernel
theorem s_k52_x : (plainFor (s_y s_m52) && (match ((s_m52, some 5) : sM × Option Nat).2 with | some c => decide (s_cn s_S c = (s_y s_m52).cls) && decide (0 < s_N s_S c) | none => true)) = true := by decide +kernel
theorem s_k52 : s_ckm (s_m52, some 5) = true := s_ck3 (c := s_cd s_m52) rfl (s_all2 s_k52_0 s_k52_1) s_k52_x
theorem s_k53 : s_ckm (s_m53, some 5) = true := by decide +kernel
theorem s_k54 : s_ckm (s_m54, some 5) = true := by decide +kernel
theorem s_k55 : s_ckm (s_m55, none) = true := by decide +kernel
