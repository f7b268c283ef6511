theorem s_k92_0 : (s_r92_0).all (fun e => s_chk s_S s_T lw_tbl s_host s_m92 e) = true := by decide +kernel
theorem s_k92_1 : (s_r92_1).all (fun e => s_chk s_S s_T lw_tbl s_host s_m92 e) = true := by decide +kernel
theorem s_k92_2 : (s_r92_2).all (fun e => s_chk s_S s_T lw_tbl s_host s_m92 e) = true := by decide +kernel
theorem s_k92_3 : (s_r92_3).all (fun e => s_chk s_S s_T lw_tbl s_host s_m92 e) = true := by decide +kernel
theorem s_k92_4 : (s_r92_4).all (fun e => s_chk s_S s_T lw_tbl s_host s_m92 e) = true := by decide +kernel
theorem s_k92_5 : (s_r92_5).all (fun e => s_chk s_S s_T lw_tbl s_host s_m92 e) = true := by decide +kernel
theorem s_k92_6 : (s_r92_6).all (fun e => s_chk s_S s_T lw_tbl s_host s_m92 e) = true := by decide +kernel
theorem s_k92_7 : (s_r92_7).all (fun e => s_chk s_S s_T lw_tbl s_host s_m92 e) = true := by decide +kernel
theorem s_k92_x : (plainFor (s_y s_m92) && (match ((s_m92, none) : sM × Option Nat).2 with | some c => decide (s_cn s_S c = (s_y s_m92).cls) && decide (0 < s_N s_S c) | none => true)) = true := by decide +kernel
theorem s_k92 : s_ckm (s_m92, none) = true := s_ck3 (c := s_cd s_m92) rfl (s_all2 s_k92_0 (s_all2 s_k92_1 (s_all2 s_k92_2 (s_all2 s_k92_3 (s_all2 s_k92_4 (s_all2 s_k92_5 (s_all2 s_k92_6 s_k92_7))))))) s_k92_x
theorem s_k93_0 : (s_r93_0).all (fun e => s_chk s_S s_T lw_tbl s_host s_m93 e) = true := by decide +kernel
theorem s_k93_1 : (s_r93_1).all (fun e => s_chk s_S s_T lw_tbl s_host s_m93 e) = true := by decide +kernel
theorem s_k93_2 : (s_r93_2).all (fun e => s_chk s_S s_T lw_tbl s_host s_m93 e) = true := by decide +kernel
theorem s_k93_3 : (s_r93_3).all (fun e => s_chk s_S s_T lw_tbl s_host s_m93 e) = true := by decide +kernel
theorem s_k93_4 : (s_r93_4).all (fun e => s_chk s_S s_T lw_tbl s_host s_m93 e) = true := by decide +kernel
theorem s_k93_5 : (s_r93_5).all (fun e => s_chk s_S s_T lw_tbl s_host s_m93 e) = true := by decide +kernel
theorem s_k93_6 : (s_r93_6).all (fun e => s_chk s_S s_T lw_tbl s_host s_m93 e) = true := by decide +kernel
theorem s_k93_7 : (s_r93_7).all (fun e => s_chk s_S s_T lw_tbl s_host s_m93 e) = true := by decide +kernel
theorem s_k93_x : (plainFor (s_y s_m93) && (match ((s_m93, none) : sM × Option Nat).2 with | some c => decide (s_cn s_S c = (s_y s_m93).cls) && decide (0 < s_N s_S c) | none => true)) = true := by decide +kernel
theorem s_k93 : s_ckm (s_m93, none) = true := s_ck3 (c := s_cd s_m93) rfl (s_all2 s_k93_0 (s_all2 s_k93_1 (s_all2 s_k93_2 (s_all2 s_k93_3 (s_all2 s_k93_4 (s_all2 s_k93_5 (s_all2 s_k93_6 s_k93_7))))))) s_k93_x
