/-! single words -/
theorem mj_f_obji : mj_w 102 (.instanceMethod Lib.objectInit) = true := by decide +kernel
theorem mj_f_objc : mj_w 103 (.code Lib.objectInit ⟨#[0xb1]⟩ 1 none) = true := by decide +kernel
theorem mj_f_cpys : mj_w 550 (.static arraycopyName) = true := by decide +kernel
theorem mj_f_cpyn : mj_w 551 (.native arraycopyName) = true := by decide +kernel
theorem mj_f_cpyi : mj_w 94 (.initialized "java/lang/System") = true := by decide +kernel
theorem mj_f_abss : mj_w 429 (.static Lib.Math.abs.name) = true := by decide +kernel
theorem mj_f_absc : mj_w 430 (.code Lib.Math.abs.name Lib.Math.abs.code 1 (some .int)) = true := by decide +kernel
theorem mj_f_maxs : mj_w 492 (.static Lib.Math.max.name) = true := by decide +kernel
theorem mj_f_maxc : mj_w 493 (.code Lib.Math.max.name Lib.Math.max.code 2 (some .int)) = true := by decide +kernel
theorem mj_f_mins : mj_w 432 (.static Lib.Math.min.name) = true := by decide +kernel
theorem mj_f_minc : mj_w 433 (.code Lib.Math.min.name Lib.Math.min.code 2 (some .int)) = true := by decide +kernel
theorem mj_f_mathi : mj_w 92 (.initialized "java/lang/Math") = true := by decide +kernel
theorem mj_f_arrc : mj_w 147 (.arrayClass .int) = true := by decide +kernel
theorem mj_f_l2d : mj_w 110 (.classLink RX1 28 "[[I") = true := by decide +kernel
def mj_uw (ci : Nat) : List Nat := ([[203, 205, 207, 209], [134, 136, 138, 140, 142, 144], [159, 161, 163, 165], [180, 182, 184, 186, 188], [226, 228, 230, 232], [249, 251, 253, 255, 257, 259, 261, 263, 265, 267, 269, 271, 273, 275], [684, 686, 688, 690, 692, 694, 696, 698, 700, 702, 704, 706, 708, 710, 712, 714, 716, 718, 720, 722, 724, 726, 728, 730, 732, 734, 736, 738, 740, 742]] : List (List Nat)).getD ci []
theorem mj_uw_ok : (List.range 7).all (fun ci => (List.range (mj_nf ci)).all (fun k => mj_w ((mj_uw ci).getD k 0) (u_lay (mj_R ci) (mj_T ci) k))) = true := by decide +kernel
theorem mj_cl_ok : (List.range 7).all (fun ci => mj_w (([192, 105, 149, 169, 214, 97, 649] : List Nat).getD ci 0) (.instantiable (mj_R ci) (mj_nf ci)) && mj_w (([89, 86, 87, 88, 90, 85, 91] : List Nat).getD ci 0) (.initialized (mj_R ci))) = true := by decide +kernel
theorem mj_f_over0 : mj_wn 111 (Jvm.Cond.arrayOver (Jvm.ClassFile.FieldType.array Jvm.ClassFile.FieldType.int)) = true := by decide +kernel
theorem mj_f_over1 : mj_wn 213 (Jvm.Cond.arrayOver (Jvm.ClassFile.FieldType.object "SeasonStreets$Sheet")) = true := by decide +kernel
