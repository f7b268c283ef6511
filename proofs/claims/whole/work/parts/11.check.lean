def s_ckm (q : sM × Option Nat) : Bool := (s_cd q.1).all (fun e => s_chk s_S s_T lw_tbl s_host q.1 e) && (plainFor (s_y q.1) && (match q.2 with
  | some c => decide (s_cn s_S c = (s_y q.1).cls) && decide (0 < s_N s_S c)
  | none => true))
theorem s_all2 {f : sE → Bool} {a b : List sE} (ha : a.all f = true) (hb : b.all f = true) : (a ++ b).all f = true := by rw [List.all_append, ha, hb]; rfl
theorem s_ck3 {q : sM × Option Nat} {c : List sE} (hc : s_cd q.1 = c) (h1 : c.all (fun e => s_chk s_S s_T lw_tbl s_host q.1 e) = true) (h2 : (plainFor (s_y q.1) && (match q.2 with | some c => decide (s_cn s_S c = (s_y q.1).cls) && decide (0 < s_N s_S c) | none => true)) = true) : s_ckm q = true := by
  unfold s_ckm
  rw [hc, h1, Bool.true_and]
  exact h2
theorem s_k0 : s_ckm (s_m0, some 0) = true := by decide +kernel
theorem s_k1 : s_ckm (s_m1, some 0) = true := by decide +kernel
theorem s_k2 : s_ckm (s_m2, some 0) = true := by decide +kernel
theorem s_k3 : s_ckm (s_m3, some 0) = true := by decide +kernel
theorem s_k4 : s_ckm (s_m4, some 0) = true := by decide +kernel
theorem s_k5 : s_ckm (s_m5, some 1) = true := by decide +kernel
theorem s_k6 : s_ckm (s_m6, some 1) = true := by decide +kernel
theorem s_k7 : s_ckm (s_m7, some 1) = true := by decide +kernel
theorem s_k8 : s_ckm (s_m8, some 1) = true := by decide +kernel
theorem s_k9 : s_ckm (s_m9, some 1) = true := by decide +kernel
theorem s_k10 : s_ckm (s_m10, some 1) = true := by decide +kernel
theorem s_k11 : s_ckm (s_m11, some 1) = true := by decide +kernel
theorem s_k12 : s_ckm (s_m12, some 1) = true := by decide +kernel
theorem s_k13 : s_ckm (s_m13, some 1) = true := by decide +kernel
theorem s_k14 : s_ckm (s_m14, some 1) = true := by decide +kernel
theorem s_k15 : s_ckm (s_m15, some 1) = true := by decide +kernel
theorem s_k16 : s_ckm (s_m16, none) = true := by decide +kernel
theorem s_k17 : s_ckm (s_m17, some 2) = true := by decide +kernel
theorem s_k18 : s_ckm (s_m18, none) = true := by decide +kernel
theorem s_k19 : s_ckm (s_m19, some 2) = true := by decide +kernel
theorem s_kl0 : ∀ q ∈ s_l0, s_ckm q = true := List.forall_mem_cons.mpr ⟨s_k0, List.forall_mem_cons.mpr ⟨s_k1, List.forall_mem_cons.mpr ⟨s_k2, List.forall_mem_cons.mpr ⟨s_k3, List.forall_mem_cons.mpr ⟨s_k4, List.forall_mem_cons.mpr ⟨s_k5, List.forall_mem_cons.mpr ⟨s_k6, List.forall_mem_cons.mpr ⟨s_k7, List.forall_mem_cons.mpr ⟨s_k8, List.forall_mem_cons.mpr ⟨s_k9, List.forall_mem_cons.mpr ⟨s_k10, List.forall_mem_cons.mpr ⟨s_k11, List.forall_mem_cons.mpr ⟨s_k12, List.forall_mem_cons.mpr ⟨s_k13, List.forall_mem_cons.mpr ⟨s_k14, List.forall_mem_cons.mpr ⟨s_k15, List.forall_mem_cons.mpr ⟨s_k16, List.forall_mem_cons.mpr ⟨s_k17, List.forall_mem_cons.mpr ⟨s_k18, List.forall_mem_cons.mpr ⟨s_k19, fun _ h => absurd h List.not_mem_nil⟩⟩⟩⟩⟩⟩⟩⟩⟩⟩⟩⟩⟩⟩⟩⟩⟩⟩⟩⟩
theorem s_k20 : s_ckm (s_m20, none) = true := by decide +kernel
theorem s_k21 : s_ckm (s_m21, some 3) = true := by decide +kernel
theorem s_k22 : s_ckm (s_m22, some 3) = true := by decide +kernel
theorem s_k23 : s_ckm (s_m23, some 3) = true := by decide +kernel
theorem s_k24 : s_ckm (s_m24, some 3) = true := by decide +kernel
theorem s_k25 : s_ckm (s_m25, some 3) = true := by decide +kernel
theorem s_k26 : s_ckm (s_m26, some 3) = true := by decide +kernel
theorem s_k27 : s_ckm (s_m27, some 4) = true := by decide +kernel
theorem s_k28 : s_ckm (s_m28, some 5) = true := by decide +kernel
theorem s_k29 : s_ckm (s_m29, some 5) = true := by decide +kernel
theorem s_k30 : s_ckm (s_m30, some 5) = true := by decide +kernel
theorem s_k31 : s_ckm (s_m31, some 5) = true := by decide +kernel
theorem s_k32 : s_ckm (s_m32, some 5) = true := by decide +kernel
theorem s_k33 : s_ckm (s_m33, some 5) = true := by decide +kernel
theorem s_k34 : s_ckm (s_m34, some 5) = true := by decide +kernel
theorem s_k35 : s_ckm (s_m35, some 5) = true := by decide +kernel
theorem s_k36 : s_ckm (s_m36, some 5) = true := by decide +kernel
theorem s_k37 : s_ckm (s_m37, some 5) = true := by decide +kernel
theorem s_k38 : s_ckm (s_m38, some 5) = true := by decide +kernel
theorem s_k39 : s_ckm (s_m39, some 5) = true := by decide +kernel
theorem s_kl1 : ∀ q ∈ s_l1, s_ckm q = true := List.forall_mem_cons.mpr ⟨s_k20, List.forall_mem_cons.mpr ⟨s_k21, List.forall_mem_cons.mpr ⟨s_k22, List.forall_mem_cons.mpr ⟨s_k23, List.forall_mem_cons.mpr ⟨s_k24, List.forall_mem_cons.mpr ⟨s_k25, List.forall_mem_cons.mpr ⟨s_k26, List.forall_mem_cons.mpr ⟨s_k27, List.forall_mem_cons.mpr ⟨s_k28, List.forall_mem_cons.mpr ⟨s_k29, List.forall_mem_cons.mpr ⟨s_k30, List.forall_mem_cons.mpr ⟨s_k31, List.forall_mem_cons.mpr ⟨s_k32, List.forall_mem_cons.mpr ⟨s_k33, List.forall_mem_cons.mpr ⟨s_k34, List.forall_mem_cons.mpr ⟨s_k35, List.forall_mem_cons.mpr ⟨s_k36, List.forall_mem_cons.mpr ⟨s_k37, List.forall_mem_cons.mpr ⟨s_k38, List.forall_mem_cons.mpr ⟨s_k39, fun _ h => absurd h List.not_mem_nil⟩⟩⟩⟩⟩⟩⟩⟩⟩⟩⟩⟩⟩⟩⟩⟩⟩⟩⟩⟩
theorem s_k40 : s_ckm (s_m40, some 5) = true := by decide +kernel
theorem s_k41 : s_ckm (s_m41, some 5) = true := by decide +kernel
theorem s_k42 : s_ckm (s_m42, some 5) = true := by decide +kernel
theorem s_k43 : s_ckm (s_m43, some 5) = true := by decide +kernel
theorem s_k44 : s_ckm (s_m44, some 5) = true := by decide +kernel
theorem s_k45 : s_ckm (s_m45, some 5) = true := by decide +kernel
theorem s_k46 : s_ckm (s_m46, some 5) = true := by decide +kernel
theorem s_k47 : s_ckm (s_m47, some 5) = true := by decide +kernel
theorem s_k48 : s_ckm (s_m48, some 5) = true := by decide +kernel
theorem s_k49 : s_ckm (s_m49, some 5) = true := by decide +kernel
theorem s_k50 : s_ckm (s_m50, some 5) = true := by decide +kernel
theorem s_k51 : s_ckm (s_m51, some 5) = true := by decide +kernel
theorem s_k52 : s_ckm (s_m52, some 5) = true := by decide +kernel
theorem s_k53 : s_ckm (s_m53, some 5) = true := by decide +kernel
theorem s_k54 : s_ckm (s_m54, some 5) = true := by decide +kernel
theorem s_k55 : s_ckm (s_m55, none) = true := by decide +kernel
theorem s_k56 : s_ckm (s_m56, some 6) = true := by decide +kernel
theorem s_k57 : s_ckm (s_m57, some 6) = true := by decide +kernel
theorem s_k58 : s_ckm (s_m58, some 6) = true := by decide +kernel
theorem s_k59 : s_ckm (s_m59, some 6) = true := by decide +kernel
theorem s_kl2 : ∀ q ∈ s_l2, s_ckm q = true := List.forall_mem_cons.mpr ⟨s_k40, List.forall_mem_cons.mpr ⟨s_k41, List.forall_mem_cons.mpr ⟨s_k42, List.forall_mem_cons.mpr ⟨s_k43, List.forall_mem_cons.mpr ⟨s_k44, List.forall_mem_cons.mpr ⟨s_k45, List.forall_mem_cons.mpr ⟨s_k46, List.forall_mem_cons.mpr ⟨s_k47, List.forall_mem_cons.mpr ⟨s_k48, List.forall_mem_cons.mpr ⟨s_k49, List.forall_mem_cons.mpr ⟨s_k50, List.forall_mem_cons.mpr ⟨s_k51, List.forall_mem_cons.mpr ⟨s_k52, List.forall_mem_cons.mpr ⟨s_k53, List.forall_mem_cons.mpr ⟨s_k54, List.forall_mem_cons.mpr ⟨s_k55, List.forall_mem_cons.mpr ⟨s_k56, List.forall_mem_cons.mpr ⟨s_k57, List.forall_mem_cons.mpr ⟨s_k58, List.forall_mem_cons.mpr ⟨s_k59, fun _ h => absurd h List.not_mem_nil⟩⟩⟩⟩⟩⟩⟩⟩⟩⟩⟩⟩⟩⟩⟩⟩⟩⟩⟩⟩
theorem s_k60 : s_ckm (s_m60, some 6) = true := by decide +kernel
theorem s_k61 : s_ckm (s_m61, some 6) = true := by decide +kernel
theorem s_k62 : s_ckm (s_m62, some 6) = true := by decide +kernel
theorem s_k63 : s_ckm (s_m63, some 6) = true := by decide +kernel
theorem s_k64 : s_ckm (s_m64, some 6) = true := by decide +kernel
theorem s_k65 : s_ckm (s_m65, some 6) = true := by decide +kernel
theorem s_k66 : s_ckm (s_m66, some 6) = true := by decide +kernel
theorem s_k67 : s_ckm (s_m67, some 6) = true := by decide +kernel
theorem s_k68 : s_ckm (s_m68, some 6) = true := by decide +kernel
theorem s_k69 : s_ckm (s_m69, some 6) = true := by decide +kernel
theorem s_k70 : s_ckm (s_m70, some 6) = true := by decide +kernel
theorem s_k71 : s_ckm (s_m71, some 6) = true := by decide +kernel
theorem s_k72 : s_ckm (s_m72, some 6) = true := by decide +kernel
theorem s_k73 : s_ckm (s_m73, some 6) = true := by decide +kernel
theorem s_k74 : s_ckm (s_m74, some 6) = true := by decide +kernel
theorem s_k75 : s_ckm (s_m75, some 6) = true := by decide +kernel
theorem s_k76 : s_ckm (s_m76, some 6) = true := by decide +kernel
theorem s_k77 : s_ckm (s_m77, some 6) = true := by decide +kernel
theorem s_k78 : s_ckm (s_m78, some 6) = true := by decide +kernel
theorem s_k79 : s_ckm (s_m79, none) = true := by decide +kernel
theorem s_kl3 : ∀ q ∈ s_l3, s_ckm q = true := List.forall_mem_cons.mpr ⟨s_k60, List.forall_mem_cons.mpr ⟨s_k61, List.forall_mem_cons.mpr ⟨s_k62, List.forall_mem_cons.mpr ⟨s_k63, List.forall_mem_cons.mpr ⟨s_k64, List.forall_mem_cons.mpr ⟨s_k65, List.forall_mem_cons.mpr ⟨s_k66, List.forall_mem_cons.mpr ⟨s_k67, List.forall_mem_cons.mpr ⟨s_k68, List.forall_mem_cons.mpr ⟨s_k69, List.forall_mem_cons.mpr ⟨s_k70, List.forall_mem_cons.mpr ⟨s_k71, List.forall_mem_cons.mpr ⟨s_k72, List.forall_mem_cons.mpr ⟨s_k73, List.forall_mem_cons.mpr ⟨s_k74, List.forall_mem_cons.mpr ⟨s_k75, List.forall_mem_cons.mpr ⟨s_k76, List.forall_mem_cons.mpr ⟨s_k77, List.forall_mem_cons.mpr ⟨s_k78, List.forall_mem_cons.mpr ⟨s_k79, fun _ h => absurd h List.not_mem_nil⟩⟩⟩⟩⟩⟩⟩⟩⟩⟩⟩⟩⟩⟩⟩⟩⟩⟩⟩⟩
theorem s_k80 : s_ckm (s_m80, none) = true := by decide +kernel
theorem s_k81 : s_ckm (s_m81, some 6) = true := by decide +kernel
theorem s_k82 : s_ckm (s_m82, some 6) = true := by decide +kernel
theorem s_k83 : s_ckm (s_m83, some 6) = true := by decide +kernel
theorem s_k84 : s_ckm (s_m84, some 6) = true := by decide +kernel
theorem s_k85 : s_ckm (s_m85, some 6) = true := by decide +kernel
theorem s_k86 : s_ckm (s_m86, some 6) = true := by decide +kernel
theorem s_k87 : s_ckm (s_m87, none) = true := by decide +kernel
theorem s_k88 : s_ckm (s_m88, none) = true := by decide +kernel
theorem s_k89 : s_ckm (s_m89, some 7) = true := by decide +kernel
theorem s_k90 : s_ckm (s_m90, none) = true := by decide +kernel
theorem s_k91 : s_ckm (s_m91, some 7) = true := by decide +kernel
theorem s_k92 : s_ckm (s_m92, some 7) = true := by decide +kernel
theorem s_k93 : s_ckm (s_m93, some 7) = true := by decide +kernel
theorem s_k94 : s_ckm (s_m94, none) = true := by decide +kernel
theorem s_k95 : s_ckm (s_m95, some 7) = true := by decide +kernel
theorem s_k96 : s_ckm (s_m96, some 7) = true := by decide +kernel
theorem s_k97 : s_ckm (s_m97, some 7) = true := by decide +kernel
theorem s_k98 : s_ckm (s_m98, some 7) = true := by decide +kernel
theorem s_k99 : s_ckm (s_m99, some 7) = true := by decide +kernel
theorem s_kl4 : ∀ q ∈ s_l4, s_ckm q = true := List.forall_mem_cons.mpr ⟨s_k80, List.forall_mem_cons.mpr ⟨s_k81, List.forall_mem_cons.mpr ⟨s_k82, List.forall_mem_cons.mpr ⟨s_k83, List.forall_mem_cons.mpr ⟨s_k84, List.forall_mem_cons.mpr ⟨s_k85, List.forall_mem_cons.mpr ⟨s_k86, List.forall_mem_cons.mpr ⟨s_k87, List.forall_mem_cons.mpr ⟨s_k88, List.forall_mem_cons.mpr ⟨s_k89, List.forall_mem_cons.mpr ⟨s_k90, List.forall_mem_cons.mpr ⟨s_k91, List.forall_mem_cons.mpr ⟨s_k92, List.forall_mem_cons.mpr ⟨s_k93, List.forall_mem_cons.mpr ⟨s_k94, List.forall_mem_cons.mpr ⟨s_k95, List.forall_mem_cons.mpr ⟨s_k96, List.forall_mem_cons.mpr ⟨s_k97, List.forall_mem_cons.mpr ⟨s_k98, List.forall_mem_cons.mpr ⟨s_k99, fun _ h => absurd h List.not_mem_nil⟩⟩⟩⟩⟩⟩⟩⟩⟩⟩⟩⟩⟩⟩⟩⟩⟩⟩⟩⟩
theorem s_k100 : s_ckm (s_m100, some 7) = true := by decide +kernel
theorem s_k101 : s_ckm (s_m101, some 7) = true := by decide +kernel
theorem s_k102 : s_ckm (s_m102, some 7) = true := by decide +kernel
theorem s_k103 : s_ckm (s_m103, some 7) = true := by decide +kernel
theorem s_k104 : s_ckm (s_m104, some 7) = true := by decide +kernel
theorem s_k105 : s_ckm (s_m105, some 7) = true := by decide +kernel
theorem s_k106 : s_ckm (s_m106, some 7) = true := by decide +kernel
theorem s_k107 : s_ckm (s_m107, some 7) = true := by decide +kernel
theorem s_k108 : s_ckm (s_m108, some 7) = true := by decide +kernel
theorem s_k109 : s_ckm (s_m109, some 7) = true := by decide +kernel
theorem s_k110 : s_ckm (s_m110, some 7) = true := by decide +kernel
theorem s_k111 : s_ckm (s_m111, some 7) = true := by decide +kernel
theorem s_k112 : s_ckm (s_m112, some 7) = true := by decide +kernel
theorem s_k113 : s_ckm (s_m113, some 7) = true := by decide +kernel
theorem s_k114 : s_ckm (s_m114, some 7) = true := by decide +kernel
theorem s_k115 : s_ckm (s_m115, some 7) = true := by decide +kernel
theorem s_k116 : s_ckm (s_m116, some 7) = true := by decide +kernel
theorem s_k117 : s_ckm (s_m117, some 7) = true := by decide +kernel
theorem s_k118 : s_ckm (s_m118, some 7) = true := by decide +kernel
theorem s_k119 : s_ckm (s_m119, some 7) = true := by decide +kernel
theorem s_kl5 : ∀ q ∈ s_l5, s_ckm q = true := List.forall_mem_cons.mpr ⟨s_k100, List.forall_mem_cons.mpr ⟨s_k101, List.forall_mem_cons.mpr ⟨s_k102, List.forall_mem_cons.mpr ⟨s_k103, List.forall_mem_cons.mpr ⟨s_k104, List.forall_mem_cons.mpr ⟨s_k105, List.forall_mem_cons.mpr ⟨s_k106, List.forall_mem_cons.mpr ⟨s_k107, List.forall_mem_cons.mpr ⟨s_k108, List.forall_mem_cons.mpr ⟨s_k109, List.forall_mem_cons.mpr ⟨s_k110, List.forall_mem_cons.mpr ⟨s_k111, List.forall_mem_cons.mpr ⟨s_k112, List.forall_mem_cons.mpr ⟨s_k113, List.forall_mem_cons.mpr ⟨s_k114, List.forall_mem_cons.mpr ⟨s_k115, List.forall_mem_cons.mpr ⟨s_k116, List.forall_mem_cons.mpr ⟨s_k117, List.forall_mem_cons.mpr ⟨s_k118, List.forall_mem_cons.mpr ⟨s_k119, fun _ h => absurd h List.not_mem_nil⟩⟩⟩⟩⟩⟩⟩⟩⟩⟩⟩⟩⟩⟩⟩⟩⟩⟩⟩⟩
theorem s_k120 : s_ckm (s_m120, some 7) = true := by decide +kernel
theorem s_k121 : s_ckm (s_m121, some 7) = true := by decide +kernel
theorem s_k122 : s_ckm (s_m122, some 7) = true := by decide +kernel
theorem s_k123 : s_ckm (s_m123, some 7) = true := by decide +kernel
theorem s_k124 : s_ckm (s_m124, some 7) = true := by decide +kernel
theorem s_k125 : s_ckm (s_m125, some 7) = true := by decide +kernel
theorem s_k126 : s_ckm (s_m126, some 7) = true := by decide +kernel
theorem s_k127 : s_ckm (s_m127, some 7) = true := by decide +kernel
theorem s_k128 : s_ckm (s_m128, some 7) = true := by decide +kernel
theorem s_k129 : s_ckm (s_m129, some 7) = true := by decide +kernel
theorem s_k130 : s_ckm (s_m130, some 7) = true := by decide +kernel
theorem s_k131 : s_ckm (s_m131, some 7) = true := by decide +kernel
theorem s_k132 : s_ckm (s_m132, some 7) = true := by decide +kernel
theorem s_k133 : s_ckm (s_m133, some 7) = true := by decide +kernel
theorem s_k134 : s_ckm (s_m134, some 7) = true := by decide +kernel
theorem s_k135 : s_ckm (s_m135, some 7) = true := by decide +kernel
theorem s_k136 : s_ckm (s_m136, some 7) = true := by decide +kernel
theorem s_k137 : s_ckm (s_m137, some 7) = true := by decide +kernel
theorem s_k138 : s_ckm (s_m138, some 7) = true := by decide +kernel
theorem s_k139 : s_ckm (s_m139, some 7) = true := by decide +kernel
theorem s_kl6 : ∀ q ∈ s_l6, s_ckm q = true := List.forall_mem_cons.mpr ⟨s_k120, List.forall_mem_cons.mpr ⟨s_k121, List.forall_mem_cons.mpr ⟨s_k122, List.forall_mem_cons.mpr ⟨s_k123, List.forall_mem_cons.mpr ⟨s_k124, List.forall_mem_cons.mpr ⟨s_k125, List.forall_mem_cons.mpr ⟨s_k126, List.forall_mem_cons.mpr ⟨s_k127, List.forall_mem_cons.mpr ⟨s_k128, List.forall_mem_cons.mpr ⟨s_k129, List.forall_mem_cons.mpr ⟨s_k130, List.forall_mem_cons.mpr ⟨s_k131, List.forall_mem_cons.mpr ⟨s_k132, List.forall_mem_cons.mpr ⟨s_k133, List.forall_mem_cons.mpr ⟨s_k134, List.forall_mem_cons.mpr ⟨s_k135, List.forall_mem_cons.mpr ⟨s_k136, List.forall_mem_cons.mpr ⟨s_k137, List.forall_mem_cons.mpr ⟨s_k138, List.forall_mem_cons.mpr ⟨s_k139, fun _ h => absurd h List.not_mem_nil⟩⟩⟩⟩⟩⟩⟩⟩⟩⟩⟩⟩⟩⟩⟩⟩⟩⟩⟩⟩
theorem s_k140 : s_ckm (s_m140, some 7) = true := by decide +kernel
theorem s_k141 : s_ckm (s_m141, some 7) = true := by decide +kernel
theorem s_k142 : s_ckm (s_m142, some 7) = true := by decide +kernel
theorem s_k143 : s_ckm (s_m143, some 7) = true := by decide +kernel
theorem s_k144 : s_ckm (s_m144, some 7) = true := by decide +kernel
theorem s_k145 : s_ckm (s_m145, some 7) = true := by decide +kernel
theorem s_k146 : s_ckm (s_m146, some 7) = true := by decide +kernel
theorem s_k147 : s_ckm (s_m147, some 7) = true := by decide +kernel
theorem s_k148 : s_ckm (s_m148, some 7) = true := by decide +kernel
theorem s_k149 : s_ckm (s_m149, some 7) = true := by decide +kernel
theorem s_k150 : s_ckm (s_m150, some 7) = true := by decide +kernel
theorem s_k151 : s_ckm (s_m151, some 7) = true := by decide +kernel
theorem s_k152_0 : (s_r152_0).all (fun e => s_chk s_S s_T lw_tbl s_host s_m152 e) = true := by decide +kernel
theorem s_k152_1 : (s_r152_1).all (fun e => s_chk s_S s_T lw_tbl s_host s_m152 e) = true := by decide +kernel
theorem s_k152_2 : (s_r152_2).all (fun e => s_chk s_S s_T lw_tbl s_host s_m152 e) = true := by decide +kernel
theorem s_k152_3 : (s_r152_3).all (fun e => s_chk s_S s_T lw_tbl s_host s_m152 e) = true := by decide +kernel
theorem s_k152_4 : (s_r152_4).all (fun e => s_chk s_S s_T lw_tbl s_host s_m152 e) = true := by decide +kernel
theorem s_k152_5 : (s_r152_5).all (fun e => s_chk s_S s_T lw_tbl s_host s_m152 e) = true := by decide +kernel
theorem s_k152_6 : (s_r152_6).all (fun e => s_chk s_S s_T lw_tbl s_host s_m152 e) = true := by decide +kernel
theorem s_k152_7 : (s_r152_7).all (fun e => s_chk s_S s_T lw_tbl s_host s_m152 e) = true := by decide +kernel
theorem s_k152_x : (plainFor (s_y s_m152) && (match ((s_m152, none) : sM × Option Nat).2 with | some c => decide (s_cn s_S c = (s_y s_m152).cls) && decide (0 < s_N s_S c) | none => true)) = true := by decide +kernel
theorem s_k152 : s_ckm (s_m152, none) = true := s_ck3 (c := s_cd s_m152) rfl (s_all2 s_k152_0 (s_all2 s_k152_1 (s_all2 s_k152_2 (s_all2 s_k152_3 (s_all2 s_k152_4 (s_all2 s_k152_5 (s_all2 s_k152_6 s_k152_7))))))) s_k152_x
theorem s_k153 : s_ckm (s_m153, none) = true := by decide +kernel
theorem s_k154 : s_ckm (s_m154, none) = true := by decide +kernel
theorem s_k155 : s_ckm (s_m155, none) = true := by decide +kernel
theorem s_k156 : s_ckm (s_m156, none) = true := by decide +kernel
theorem s_kl7 : ∀ q ∈ s_l7, s_ckm q = true := List.forall_mem_cons.mpr ⟨s_k140, List.forall_mem_cons.mpr ⟨s_k141, List.forall_mem_cons.mpr ⟨s_k142, List.forall_mem_cons.mpr ⟨s_k143, List.forall_mem_cons.mpr ⟨s_k144, List.forall_mem_cons.mpr ⟨s_k145, List.forall_mem_cons.mpr ⟨s_k146, List.forall_mem_cons.mpr ⟨s_k147, List.forall_mem_cons.mpr ⟨s_k148, List.forall_mem_cons.mpr ⟨s_k149, List.forall_mem_cons.mpr ⟨s_k150, List.forall_mem_cons.mpr ⟨s_k151, List.forall_mem_cons.mpr ⟨s_k152, List.forall_mem_cons.mpr ⟨s_k153, List.forall_mem_cons.mpr ⟨s_k154, List.forall_mem_cons.mpr ⟨s_k155, List.forall_mem_cons.mpr ⟨s_k156, fun _ h => absurd h List.not_mem_nil⟩⟩⟩⟩⟩⟩⟩⟩⟩⟩⟩⟩⟩⟩⟩⟩⟩
theorem s_kml : ∀ q ∈ s_ml, s_ckm q = true := List.forall_mem_append.mpr ⟨s_kl0, List.forall_mem_append.mpr ⟨s_kl1, List.forall_mem_append.mpr ⟨s_kl2, List.forall_mem_append.mpr ⟨s_kl3, List.forall_mem_append.mpr ⟨s_kl4, List.forall_mem_append.mpr ⟨s_kl5, List.forall_mem_append.mpr ⟨s_kl6, s_kl7⟩⟩⟩⟩⟩⟩⟩
theorem s_CK : s_Chk s_S s_T lw_tbl s_host := by
  intro k r cn hk
  have hk : s_nth s_ml k = some (r, cn) := hk
  rw [s_nth_eq] at hk
  have h := s_kml _ (List.mem_of_getElem? hk)
  unfold s_ckm at h
  simp only [Bool.and_eq_true, List.all_eq_true] at h
  refine ⟨h.1, h.2.1, fun c hc => ?_⟩
  subst hc
  have h2 := h.2.2
  simp only [Bool.and_eq_true, decide_eq_true_eq] at h2
  exact h2
