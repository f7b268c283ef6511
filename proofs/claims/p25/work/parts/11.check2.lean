theorem s_k56 : s_ckm (s_m56, some 6) = true := by decide +kernel
theorem s_k57 : s_ckm (s_m57, some 6) = true := by decide +kernel
theorem s_k58 : s_ckm (s_m58, some 6) = true := by decide +kernel
theorem s_k59 : s_ckm (s_m59, some 6) = true := by decide +kernel
theorem s_k60 : s_ckm (s_m60, some 6) = true := by decide +kernel
theorem s_k61 : s_ckm (s_m61, some 6) = true := by decide +kernel
theorem s_k62 : s_ckm (s_m62, some 6) = true := by decide +kernel
theorem s_k63 : s_ckm (s_m63, some 6) = true := by decide +kernel
theorem s_k66 : s_ckm (s_m66, some 6) = true := by decide +kernel
theorem s_k67 : s_ckm (s_m67, some 6) = true := by decide +kernel
theorem s_k68 : s_ckm (s_m68, some 6) = true := by decide +kernel
theorem s_k69 : s_ckm (s_m69, some 6) = true := by decide +kernel
theorem s_k70 : s_ckm (s_m70, some 6) = true := by decide +kernel
theorem s_k76 : s_ckm (s_m76, some 6) = true := by decide +kernel
theorem s_k79 : s_ckm (s_m79, none) = true := by decide +kernel
theorem s_k80 : s_ckm (s_m80, none) = true := by decide +kernel
theorem s_k82_0 : (s_r82_0).all (fun e => s_chk s_S s_T lw_tbl s_host s_m82 e) = true := by decide +kernel
theorem s_k82_1 : (s_r82_1).all (fun e => s_chk s_S s_T lw_tbl s_host s_m82 e) = true := by decide +kernel
theorem s_k82_2 : (s_r82_2).all (fun e => s_chk s_S s_T lw_tbl s_host s_m82 e) = true := by decide +kernel
theorem s_k82_x : (plainFor (s_y s_m82) && (match ((s_m82, some 6) : sM × Option Nat).2 with | some c => decide (s_cn s_S c = (s_y s_m82).cls) && decide (0 < s_N s_S c) | none => true)) = true := by decide +kernel
theorem s_k82 : s_ckm (s_m82, some 6) = true := s_ck3 (c := s_cd s_m82) rfl (s_all2 s_k82_0 (s_all2 s_k82_1 s_k82_2)) s_k82_x
theorem s_k83 : s_ckm (s_m83, some 6) = true := by decide +kernel
theorem s_k84 : s_ckm (s_m84, some 6) = true := by decide +kernel
theorem s_k85 : s_ckm (s_m85, some 6) = true := by decide +kernel
theorem s_k89 : s_ckm (s_m89, none) = true := by decide +kernel
theorem s_k90 : s_ckm (s_m90, none) = true := by decide +kernel
theorem s_k91 : s_ckm (s_m91, none) = true := by decide +kernel
