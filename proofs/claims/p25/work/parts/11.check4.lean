theorem s_k94_0 : (s_r94_0).all (fun e => s_chk s_S s_T lw_tbl s_host s_m94 e) = true := by decide +kernel
theorem s_k94_1 : (s_r94_1).all (fun e => s_chk s_S s_T lw_tbl s_host s_m94 e) = true := by decide +kernel
theorem s_k94_2 : (s_r94_2).all (fun e => s_chk s_S s_T lw_tbl s_host s_m94 e) = true := by decide +kernel
theorem s_k94_x : (plainFor (s_y s_m94) && (match ((s_m94, none) : sM × Option Nat).2 with | some c => decide (s_cn s_S c = (s_y s_m94).cls) && decide (0 < s_N s_S c) | none => true)) = true := by decide +kernel
theorem s_k94 : s_ckm (s_m94, none) = true := s_ck3 (c := s_cd s_m94) rfl (s_all2 s_k94_0 (s_all2 s_k94_1 s_k94_2)) s_k94_x
theorem s_k95_0 : (s_r95_0).all (fun e => s_chk s_S s_T lw_tbl s_host s_m95 e) = true := by decide +kernel
theorem s_k95_1 : (s_r95_1).all (fun e => s_chk s_S s_T lw_tbl s_host s_m95 e) = true := s_chk_1 (by decide +kernel) rfl (by decide +kernel)
theorem s_k95_2 : (s_r95_2).all (fun e => s_chk s_S s_T lw_tbl s_host s_m95 e) = true := by decide +kernel
theorem s_k95_3 : (s_r95_3).all (fun e => s_chk s_S s_T lw_tbl s_host s_m95 e) = true := s_chk_1 (by decide +kernel) rfl (by decide +kernel)
theorem s_k95_4 : (s_r95_4).all (fun e => s_chk s_S s_T lw_tbl s_host s_m95 e) = true := by decide +kernel
theorem s_k95_5 : (s_r95_5).all (fun e => s_chk s_S s_T lw_tbl s_host s_m95 e) = true := s_chk_1 (by decide +kernel) rfl (by decide +kernel)
theorem s_k95_6 : (s_r95_6).all (fun e => s_chk s_S s_T lw_tbl s_host s_m95 e) = true := by decide +kernel
theorem s_k95_7 : (s_r95_7).all (fun e => s_chk s_S s_T lw_tbl s_host s_m95 e) = true := s_chk_1 (by decide +kernel) rfl (by decide +kernel)
theorem s_k95_8 : (s_r95_8).all (fun e => s_chk s_S s_T lw_tbl s_host s_m95 e) = true := by decide +kernel
theorem s_k95_x : (plainFor (s_y s_m95) && (match ((s_m95, none) : sM × Option Nat).2 with | some c => decide (s_cn s_S c = (s_y s_m95).cls) && decide (0 < s_N s_S c) | none => true)) = true := by decide +kernel
theorem s_k95 : s_ckm (s_m95, none) = true := s_ck3 (c := s_cd s_m95) rfl (s_all2 s_k95_0 (s_all2 s_k95_1 (s_all2 s_k95_2 (s_all2 s_k95_3 (s_all2 s_k95_4 (s_all2 s_k95_5 (s_all2 s_k95_6 (s_all2 s_k95_7 s_k95_8)))))))) s_k95_x
