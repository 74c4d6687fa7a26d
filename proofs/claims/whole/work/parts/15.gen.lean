-- ScaffoldPlanner <init>
theorem ojRX8_1 : Cond.methodLink RX8 1 Lib.objectInit ∈ gw ∧ Cond.instanceMethod Lib.objectInit ∈ gw ∧ Cond.code Lib.objectInit ⟨#[0xb1]⟩ 1 none ∈ gw := ⟨by decide +kernel, by decide +kernel, by decide +kernel⟩
theorem cwRX8_7 : Cond.classLink RX8 7 RX4 ∈ gw ∧ Cond.instantiable RX4 7 ∈ gw ∧ Cond.initialized RX4 ∈ gw := ⟨by decide +kernel, by decide +kernel, by decide +kernel⟩
theorem kcRX8_9 : okN RX8 9 yX4_init (.code yX4_init cX4_init 1 none) = true := by decide +kernel
theorem fwRX8_10 : Cond.fieldLink RX8 10 RX8 (TX8 0).2.1 (TX8 0).2.2.1 ∈ gw := by decide +kernel
theorem fwRX8_16 : Cond.fieldLink RX8 16 RX8 (TX8 1).2.1 (TX8 1).2.2.1 ∈ gw := by decide +kernel
theorem fwRX8_19 : Cond.fieldLink RX8 19 RX8 (TX8 2).2.1 (TX8 2).2.2.1 ∈ gw := by decide +kernel
theorem fwRX8_22 : Cond.fieldLink RX8 22 RX8 (TX8 3).2.1 (TX8 3).2.2.1 ∈ gw := by decide +kernel
theorem cwRX8_26 : Cond.classLink RX8 26 RX2 ∈ gw ∧ Cond.instantiable RX2 3 ∈ gw ∧ Cond.initialized RX2 ∈ gw := ⟨by decide +kernel, by decide +kernel, by decide +kernel⟩
theorem ntX2 : ∀ j, j < 3 → tyX2 j = m_ty 2 j ∧ (m_ty 2 j = .int ∨ m_ty 2 j = .boolean ∨ isRefT (m_ty 2 j) = true) := by decide
theorem kcRX8_28 : okN RX8 28 yX2_init (.code yX2_init cX2_init 2 none) = true := by decide +kernel
theorem oyX2_init : okY yX2_init 0 := ⟨by decide +kernel, by decide +kernel, by decide +kernel⟩
theorem fwRX8_29 : Cond.fieldLink RX8 29 RX8 (TX8 4).2.1 (TX8 4).2.2.1 ∈ gw := by decide +kernel
theorem cwRX8_33 : Cond.classLink RX8 33 RX6 ∈ gw ∧ Cond.instantiable RX6 4 ∈ gw ∧ Cond.initialized RX6 ∈ gw := ⟨by decide +kernel, by decide +kernel, by decide +kernel⟩
theorem kcRX8_35 : okNN RX8 35 yX6_init "ScaffoldPlanner" (.code yX6_init cX6_init 1 none) = true := by decide +kernel
theorem fwRX8_36 : Cond.fieldLink RX8 36 RX8 (TX8 5).2.1 (TX8 5).2.2.1 ∈ gw := by decide +kernel
theorem cwRX8_40 : Cond.classLink RX8 40 RX3 ∈ gw ∧ Cond.instantiable RX3 3 ∈ gw ∧ Cond.initialized RX3 ∈ gw := ⟨by decide +kernel, by decide +kernel, by decide +kernel⟩
theorem kcRX8_42 : okNN RX8 42 yX3_init "ScaffoldPlanner" (.code yX3_init cX3_init 1 none) = true := by decide +kernel
theorem fwRX8_43 : Cond.fieldLink RX8 43 RX8 (TX8 6).2.1 (TX8 6).2.2.1 ∈ gw := by decide +kernel
theorem cwRX8_47 : Cond.classLink RX8 47 RX7 ∈ gw ∧ Cond.instantiable RX7 5 ∈ gw ∧ Cond.initialized RX7 ∈ gw := ⟨by decide +kernel, by decide +kernel, by decide +kernel⟩
theorem kcRX8_49 : okNN RX8 49 yX7_init "ScaffoldPlanner" (.code yX7_init cX7_init 1 none) = true := by decide +kernel
theorem fwRX8_50 : Cond.fieldLink RX8 50 RX8 (TX8 7).2.1 (TX8 7).2.2.1 ∈ gw := by decide +kernel
theorem cwRX8_54 : Cond.classLink RX8 54 RX5 ∈ gw ∧ Cond.instantiable RX5 3 ∈ gw ∧ Cond.initialized RX5 ∈ gw := ⟨by decide +kernel, by decide +kernel, by decide +kernel⟩
theorem ntX5 : ∀ j, j < 3 → tyX5 j = m_ty 5 j ∧ (m_ty 5 j = .int ∨ m_ty 5 j = .boolean ∨ isRefT (m_ty 5 j) = true) := by decide
theorem kcRX8_56 : okNN RX8 56 yX5_init "ScaffoldPlanner" (.code yX5_init cX5_init 1 none) = true := by decide +kernel
theorem oyX5_init : okY yX5_init 0 := ⟨by decide +kernel, by decide +kernel, by decide +kernel⟩
theorem fwRX8_57 : Cond.fieldLink RX8 57 RX8 (TX8 8).2.1 (TX8 8).2.2.1 ∈ gw := by decide +kernel
theorem cwRX8_61 : Cond.classLink RX8 61 RX1 ∈ gw ∧ Cond.instantiable RX1 8 ∈ gw ∧ Cond.initialized RX1 ∈ gw := ⟨by decide +kernel, by decide +kernel, by decide +kernel⟩
theorem ntX1 : ∀ j, j < 8 → tyX1 j = m_ty 1 j ∧ (m_ty 1 j = .int ∨ m_ty 1 j = .boolean ∨ isRefT (m_ty 1 j) = true) := by decide
theorem kcRX8_63 : okNN RX8 63 yX1_init "ScaffoldPlanner" (.code yX1_init cX1_init 1 none) = true := by decide +kernel
theorem oyX1_init : okY yX1_init 0 := ⟨by decide +kernel, by decide +kernel, by decide +kernel⟩
theorem fwRX8_64 : Cond.fieldLink RX8 64 RX8 (TX8 9).2.1 (TX8 9).2.2.1 ∈ gw := by decide +kernel
theorem cwRX8_68 : Cond.classLink RX8 68 RX0 ∈ gw ∧ Cond.instantiable RX0 3 ∈ gw ∧ Cond.initialized RX0 ∈ gw := ⟨by decide +kernel, by decide +kernel, by decide +kernel⟩
theorem ntX0 : ∀ j, j < 3 → tyX0 j = m_ty 0 j ∧ (m_ty 0 j = .int ∨ m_ty 0 j = .boolean ∨ isRefT (m_ty 0 j) = true) := by decide
theorem kcRX8_70 : okNN RX8 70 yX0_init "ScaffoldPlanner" (.code yX0_init cX0_init 1 none) = true := by decide +kernel
theorem oyX0_init : okY yX0_init 0 := ⟨by decide +kernel, by decide +kernel, by decide +kernel⟩
theorem fwRX8_71 : Cond.fieldLink RX8 71 RX8 (TX8 10).2.1 (TX8 10).2.2.1 ∈ gw := by decide +kernel
abbrev rmX8_init : Room := { frames := 5, cells := 107, slots := 3419, locals := 103 }
theorem dX8_init_0 : decode cX8_init 0 = .ok (.aload_n 0, 1) := by decide +kernel
theorem dX8_init_1 : decode cX8_init 1 = .ok (.invokespecial 1, 3) := by decide +kernel
theorem dX8_init_4 : decode cX8_init 4 = .ok (.aload_n 0, 1) := by decide +kernel
theorem dX8_init_5 : decode cX8_init 5 = .ok (.new 7, 3) := by decide +kernel
theorem dX8_init_8 : decode cX8_init 8 = .ok (.dup, 1) := by decide +kernel
theorem dX8_init_9 : decode cX8_init 9 = .ok (.invokespecial 9, 3) := by decide +kernel
theorem dX8_init_12 : decode cX8_init 12 = .ok (.putfield 10, 3) := by decide +kernel
theorem dX8_init_15 : decode cX8_init 15 = .ok (.aload_n 0, 1) := by decide +kernel
theorem dX8_init_16 : decode cX8_init 16 = .ok (.new 7, 3) := by decide +kernel
theorem dX8_init_19 : decode cX8_init 19 = .ok (.dup, 1) := by decide +kernel
theorem dX8_init_20 : decode cX8_init 20 = .ok (.invokespecial 9, 3) := by decide +kernel
theorem dX8_init_23 : decode cX8_init 23 = .ok (.putfield 16, 3) := by decide +kernel
theorem dX8_init_26 : decode cX8_init 26 = .ok (.aload_n 0, 1) := by decide +kernel
theorem dX8_init_27 : decode cX8_init 27 = .ok (.new 7, 3) := by decide +kernel
theorem dX8_init_30 : decode cX8_init 30 = .ok (.dup, 1) := by decide +kernel
theorem dX8_init_31 : decode cX8_init 31 = .ok (.invokespecial 9, 3) := by decide +kernel
theorem dX8_init_34 : decode cX8_init 34 = .ok (.putfield 19, 3) := by decide +kernel
theorem dX8_init_37 : decode cX8_init 37 = .ok (.aload_n 0, 1) := by decide +kernel
theorem dX8_init_38 : decode cX8_init 38 = .ok (.iconst 0, 1) := by decide +kernel
theorem dX8_init_39 : decode cX8_init 39 = .ok (.putfield 22, 3) := by decide +kernel
theorem dX8_init_42 : decode cX8_init 42 = .ok (.aload_n 0, 1) := by decide +kernel
theorem dX8_init_43 : decode cX8_init 43 = .ok (.new 26, 3) := by decide +kernel
theorem dX8_init_46 : decode cX8_init 46 = .ok (.dup, 1) := by decide +kernel
theorem dX8_init_47 : decode cX8_init 47 = .ok (.invokespecial 28, 3) := by decide +kernel
theorem dX8_init_50 : decode cX8_init 50 = .ok (.putfield 29, 3) := by decide +kernel
theorem dX8_init_53 : decode cX8_init 53 = .ok (.aload_n 0, 1) := by decide +kernel
theorem dX8_init_54 : decode cX8_init 54 = .ok (.new 33, 3) := by decide +kernel
theorem dX8_init_57 : decode cX8_init 57 = .ok (.dup, 1) := by decide +kernel
theorem dX8_init_58 : decode cX8_init 58 = .ok (.invokespecial 35, 3) := by decide +kernel
theorem dX8_init_61 : decode cX8_init 61 = .ok (.putfield 36, 3) := by decide +kernel
theorem dX8_init_64 : decode cX8_init 64 = .ok (.aload_n 0, 1) := by decide +kernel
theorem dX8_init_65 : decode cX8_init 65 = .ok (.new 40, 3) := by decide +kernel
theorem dX8_init_68 : decode cX8_init 68 = .ok (.dup, 1) := by decide +kernel
theorem dX8_init_69 : decode cX8_init 69 = .ok (.invokespecial 42, 3) := by decide +kernel
theorem dX8_init_72 : decode cX8_init 72 = .ok (.putfield 43, 3) := by decide +kernel
theorem dX8_init_75 : decode cX8_init 75 = .ok (.aload_n 0, 1) := by decide +kernel
theorem dX8_init_76 : decode cX8_init 76 = .ok (.new 47, 3) := by decide +kernel
theorem dX8_init_79 : decode cX8_init 79 = .ok (.dup, 1) := by decide +kernel
theorem dX8_init_80 : decode cX8_init 80 = .ok (.invokespecial 49, 3) := by decide +kernel
theorem dX8_init_83 : decode cX8_init 83 = .ok (.putfield 50, 3) := by decide +kernel
theorem dX8_init_86 : decode cX8_init 86 = .ok (.aload_n 0, 1) := by decide +kernel
theorem dX8_init_87 : decode cX8_init 87 = .ok (.new 54, 3) := by decide +kernel
theorem dX8_init_90 : decode cX8_init 90 = .ok (.dup, 1) := by decide +kernel
theorem dX8_init_91 : decode cX8_init 91 = .ok (.invokespecial 56, 3) := by decide +kernel
theorem dX8_init_94 : decode cX8_init 94 = .ok (.putfield 57, 3) := by decide +kernel
theorem dX8_init_97 : decode cX8_init 97 = .ok (.aload_n 0, 1) := by decide +kernel
theorem dX8_init_98 : decode cX8_init 98 = .ok (.new 61, 3) := by decide +kernel
theorem dX8_init_101 : decode cX8_init 101 = .ok (.dup, 1) := by decide +kernel
theorem dX8_init_102 : decode cX8_init 102 = .ok (.invokespecial 63, 3) := by decide +kernel
theorem dX8_init_105 : decode cX8_init 105 = .ok (.putfield 64, 3) := by decide +kernel
theorem dX8_init_108 : decode cX8_init 108 = .ok (.aload_n 0, 1) := by decide +kernel
theorem dX8_init_109 : decode cX8_init 109 = .ok (.new 68, 3) := by decide +kernel
theorem dX8_init_112 : decode cX8_init 112 = .ok (.dup, 1) := by decide +kernel
theorem dX8_init_113 : decode cX8_init 113 = .ok (.invokespecial 70, 3) := by decide +kernel
theorem dX8_init_116 : decode cX8_init 116 = .ok (.putfield 71, 3) := by decide +kernel
theorem dX8_init_119 : decode cX8_init 119 = .ok (.return_, 1) := by decide +kernel
def fX8_init (N : Nat) (Z : mZ) (a0 : Nat) (M : mM) : Option (Unit × (mZ × mM)) := ck (decide (M.2.2.2 = 0)) (nameZ (zNew Z 4 0) (mNew M (Z.1)) (fun Z2 M2 => bnd2 (fX4_init N Z2 (Z.1) M2) (fun _ M3 => nameZ M3.1 M3.2 (fun Z4 M4 => ck (okO Z4 a0 8) (nameZ (sR Z4 a0 0 (Z.1)) M4 (fun Z6 M6 => ck (decide (M6.2.2.2 = 0)) (nameZ (zNew Z6 4 0) (mNew M6 (Z6.1)) (fun Z8 M8 => bnd2 (fX4_init N Z8 (Z6.1) M8) (fun _ M9 => nameZ M9.1 M9.2 (fun Z10 M10 => ck (okO Z10 a0 8) (nameZ (sR Z10 a0 1 (Z6.1)) M10 (fun Z12 M12 => ck (decide (M12.2.2.2 = 0)) (nameZ (zNew Z12 4 0) (mNew M12 (Z12.1)) (fun Z14 M14 => bnd2 (fX4_init N Z14 (Z12.1) M14) (fun _ M15 => nameZ M15.1 M15.2 (fun Z16 M16 => ck (okO Z16 a0 8) (nameZ (sR Z16 a0 2 (Z12.1)) M16 (fun Z18 M18 => ck (okO Z18 a0 8) (nameZ Z18 (sI M18 a0 3 (0 : Int32)) (fun Z20 M20 => ck (decide (M20.2.2.2 = 0)) (nameZ (zNew Z20 2 0) (mNew M20 (Z20.1)) (fun Z22 M22 => bnd2 (fX2_init N Z22 (Z20.1) M22) (fun _ M23 => nameZ M23.1 M23.2 (fun Z24 M24 => ck (okO Z24 a0 8) (nameZ (sR Z24 a0 4 (Z20.1)) M24 (fun Z26 M26 => ck (decide (M26.2.2.2 = 0)) (nameZ (zNew Z26 6 0) (mNew M26 (Z26.1)) (fun Z28 M28 => bnd2 (fX6_init N Z28 (Z26.1) M28) (fun _ M29 => nameZ M29.1 M29.2 (fun Z30 M30 => ck (okO Z30 a0 8) (nameZ (sR Z30 a0 5 (Z26.1)) M30 (fun Z32 M32 => ck (decide (M32.2.2.2 = 0)) (nameZ (zNew Z32 3 0) (mNew M32 (Z32.1)) (fun Z34 M34 => bnd2 (fX3_init N Z34 (Z32.1) M34) (fun _ M35 => nameZ M35.1 M35.2 (fun Z36 M36 => ck (okO Z36 a0 8) (nameZ (sR Z36 a0 6 (Z32.1)) M36 (fun Z38 M38 => ck (decide (M38.2.2.2 = 0)) (nameZ (zNew Z38 7 0) (mNew M38 (Z38.1)) (fun Z40 M40 => bnd2 (fX7_init N Z40 (Z38.1) M40) (fun _ M41 => nameZ M41.1 M41.2 (fun Z42 M42 => ck (okO Z42 a0 8) (nameZ (sR Z42 a0 7 (Z38.1)) M42 (fun Z44 M44 => ck (decide (M44.2.2.2 = 0)) (nameZ (zNew Z44 5 0) (mNew M44 (Z44.1)) (fun Z46 M46 => bnd2 (fX5_init N Z46 (Z44.1) M46) (fun _ M47 => nameZ M47.1 M47.2 (fun Z48 M48 => ck (okO Z48 a0 8) (nameZ (sR Z48 a0 8 (Z44.1)) M48 (fun Z50 M50 => ck (decide (M50.2.2.2 = 0)) (nameZ (zNew Z50 1 0) (mNew M50 (Z50.1)) (fun Z52 M52 => bnd2 (fX1_init N Z52 (Z50.1) M52) (fun _ M53 => nameZ M53.1 M53.2 (fun Z54 M54 => ck (okO Z54 a0 8) (nameZ (sR Z54 a0 9 (Z50.1)) M54 (fun Z56 M56 => ck (decide (M56.2.2.2 = 0)) (nameZ (zNew Z56 0 0) (mNew M56 (Z56.1)) (fun Z58 M58 => bnd2 (fX0_init N Z58 (Z56.1) M58) (fun _ M59 => nameZ M59.1 M59.2 (fun Z60 M60 => ck (okO Z60 a0 8) (nameZ (sR Z60 a0 10 (Z56.1)) M60 (fun Z62 M62 => some ((), (Z62, M62))))))))))))))))))))))))))))))))))))))))))))))))))))))))))))))))
set_option maxHeartbeats 4000000 in
set_option maxRecDepth 100000 in
theorem ctX8_init {G : mG} {l : Launch} (hl : l.stackTraces = false) (N : Nat) (Z : mZ) {a0 : Nat} {M : mM} {r : Unit} {ZM' : (mZ × mM)} (h : fX8_init N Z a0 M = some (r, ZM')) : CT G l yX8_init (.code yX8_init cX8_init 1 none) rmX8_init [.ref a0] Z M (.inl none) ZM'.1 ZM'.2 := by
  unfold fX8_init at h
  refine CT.of hl (by decide) (Nat.le_of_ble_eq_true rfl) ?_
  intro p e s m args below meth c C hnm
  refine j_sub (L' := [(0, .ref a0)]) [0] rfl ?_
  refine j_aload_n C dX8_init_0 rfl 0 rfl ?_
  refine j_objInit C ojRX8_1 (by decide) (Nat.le_of_ble_eq_true rfl) dX8_init_1 ?_
  refine j_aload_n C dX8_init_4 rfl 0 rfl ?_
  obtain ⟨ho1, h⟩ := ck_spec h
  refine j_new C (cn := RX4) (T := TX4) (N := 7) (ci := 4) tyX4 tyX4_ok rfl iX4 (by decide) ntX4 cwRX8_7 (of_decide_eq_true ho1) ⟨by decide, by decide⟩ dX8_init_5 ?_
  obtain ⟨Z2, M2, eZ2, eM2, h⟩ := nameZ_spec h
  refine j_nm eZ2 eM2 ?_
  refine j_dup C dX8_init_8 rfl ?_
  obtain ⟨_, M3, hq3, h⟩ := bnd2_spec h
  refine j_run0 (c_I C (As := []) (rest := [.ref (Z.1), .ref a0]) (ctX4_init C.2.2.2.2.2.2.2.2.1 N Z2 hq3) kcRX8_9 oyX4_init ⟨by decide, by decide⟩ ⟨by decide, by decide⟩ (Nat.le_of_ble_eq_true rfl) rfl dX8_init_9) ?_
  obtain ⟨Z4, M4, eZ4, eM4, h⟩ := nameZ_spec h
  refine j_nm eZ4 eM4 ?_
  obtain ⟨ho5, h⟩ := ck_spec h
  refine j_putR C hnm tyX8 tyX8_ok nmX8 (T := TX8) (N := 11) (ci := 8) rfl iX8 ho5 0 (by decide) rfl fwRX8_10 (fun _ => ⟨rfl, rfl⟩) dX8_init_12 ?_
  obtain ⟨Z6, M6, eZ6, eM6, h⟩ := nameZ_spec h
  refine j_nm eZ6 eM6 ?_
  refine j_aload_n C dX8_init_15 rfl 0 rfl ?_
  obtain ⟨ho7, h⟩ := ck_spec h
  refine j_new C (cn := RX4) (T := TX4) (N := 7) (ci := 4) tyX4 tyX4_ok rfl iX4 (by decide) ntX4 cwRX8_7 (of_decide_eq_true ho7) ⟨by decide, by decide⟩ dX8_init_16 ?_
  obtain ⟨Z8, M8, eZ8, eM8, h⟩ := nameZ_spec h
  refine j_nm eZ8 eM8 ?_
  refine j_dup C dX8_init_19 rfl ?_
  obtain ⟨_, M9, hq9, h⟩ := bnd2_spec h
  refine j_run0 (c_I C (As := []) (rest := [.ref (Z6.1), .ref a0]) (ctX4_init C.2.2.2.2.2.2.2.2.1 N Z8 hq9) kcRX8_9 oyX4_init ⟨by decide, by decide⟩ ⟨by decide, by decide⟩ (Nat.le_of_ble_eq_true rfl) rfl dX8_init_20) ?_
  obtain ⟨Z10, M10, eZ10, eM10, h⟩ := nameZ_spec h
  refine j_nm eZ10 eM10 ?_
  obtain ⟨ho11, h⟩ := ck_spec h
  refine j_putR C hnm tyX8 tyX8_ok nmX8 (T := TX8) (N := 11) (ci := 8) rfl iX8 ho11 1 (by decide) rfl fwRX8_16 (fun _ => ⟨rfl, rfl⟩) dX8_init_23 ?_
  obtain ⟨Z12, M12, eZ12, eM12, h⟩ := nameZ_spec h
  refine j_nm eZ12 eM12 ?_
  refine j_aload_n C dX8_init_26 rfl 0 rfl ?_
  obtain ⟨ho13, h⟩ := ck_spec h
  refine j_new C (cn := RX4) (T := TX4) (N := 7) (ci := 4) tyX4 tyX4_ok rfl iX4 (by decide) ntX4 cwRX8_7 (of_decide_eq_true ho13) ⟨by decide, by decide⟩ dX8_init_27 ?_
  obtain ⟨Z14, M14, eZ14, eM14, h⟩ := nameZ_spec h
  refine j_nm eZ14 eM14 ?_
  refine j_dup C dX8_init_30 rfl ?_
  obtain ⟨_, M15, hq15, h⟩ := bnd2_spec h
  refine j_run0 (c_I C (As := []) (rest := [.ref (Z12.1), .ref a0]) (ctX4_init C.2.2.2.2.2.2.2.2.1 N Z14 hq15) kcRX8_9 oyX4_init ⟨by decide, by decide⟩ ⟨by decide, by decide⟩ (Nat.le_of_ble_eq_true rfl) rfl dX8_init_31) ?_
  obtain ⟨Z16, M16, eZ16, eM16, h⟩ := nameZ_spec h
  refine j_nm eZ16 eM16 ?_
  obtain ⟨ho17, h⟩ := ck_spec h
  refine j_putR C hnm tyX8 tyX8_ok nmX8 (T := TX8) (N := 11) (ci := 8) rfl iX8 ho17 2 (by decide) rfl fwRX8_19 (fun _ => ⟨rfl, rfl⟩) dX8_init_34 ?_
  obtain ⟨Z18, M18, eZ18, eM18, h⟩ := nameZ_spec h
  refine j_nm eZ18 eM18 ?_
  refine j_aload_n C dX8_init_37 rfl 0 rfl ?_
  refine j_iconst C dX8_init_38 (v := (0 : Int32)) (by decide) ?_
  obtain ⟨ho19, h⟩ := ck_spec h
  refine j_putI C tyX8 tyX8_ok nmX8 (cn := RX8) (T := TX8) (N := 11) (ci := 8) rfl iX8 ho19 3 (by decide) rfl fwRX8_22 ⟨rfl, rfl⟩ dX8_init_39 ?_
  obtain ⟨Z20, M20, eZ20, eM20, h⟩ := nameZ_spec h
  refine j_nm eZ20 eM20 ?_
  refine j_aload_n C dX8_init_42 rfl 0 rfl ?_
  obtain ⟨ho21, h⟩ := ck_spec h
  refine j_new C (cn := RX2) (T := TX2) (N := 3) (ci := 2) tyX2 tyX2_ok rfl iX2 (by decide) ntX2 cwRX8_26 (of_decide_eq_true ho21) ⟨by decide, by decide⟩ dX8_init_43 ?_
  obtain ⟨Z22, M22, eZ22, eM22, h⟩ := nameZ_spec h
  refine j_nm eZ22 eM22 ?_
  refine j_dup C dX8_init_46 rfl ?_
  obtain ⟨_, M23, hq23, h⟩ := bnd2_spec h
  refine j_run0 (c_I C (As := []) (rest := [.ref (Z20.1), .ref a0]) (ctX2_init C.2.2.2.2.2.2.2.2.1 N Z22 hq23) kcRX8_28 oyX2_init ⟨by decide, by decide⟩ ⟨by decide, by decide⟩ (Nat.le_of_ble_eq_true rfl) rfl dX8_init_47) ?_
  obtain ⟨Z24, M24, eZ24, eM24, h⟩ := nameZ_spec h
  refine j_nm eZ24 eM24 ?_
  obtain ⟨ho25, h⟩ := ck_spec h
  refine j_putR C hnm tyX8 tyX8_ok nmX8 (T := TX8) (N := 11) (ci := 8) rfl iX8 ho25 4 (by decide) rfl fwRX8_29 (fun _ => ⟨rfl, rfl⟩) dX8_init_50 ?_
  obtain ⟨Z26, M26, eZ26, eM26, h⟩ := nameZ_spec h
  refine j_nm eZ26 eM26 ?_
  refine j_aload_n C dX8_init_53 rfl 0 rfl ?_
  obtain ⟨ho27, h⟩ := ck_spec h
  refine j_new C (cn := RX6) (T := TX6) (N := 4) (ci := 6) tyX6 tyX6_ok rfl iX6 (by decide) ntX6 cwRX8_33 (of_decide_eq_true ho27) ⟨by decide, by decide⟩ dX8_init_54 ?_
  obtain ⟨Z28, M28, eZ28, eM28, h⟩ := nameZ_spec h
  refine j_nm eZ28 eM28 ?_
  refine j_dup C dX8_init_57 rfl ?_
  obtain ⟨_, M29, hq29, h⟩ := bnd2_spec h
  refine j_run0 (c_IN C (As := []) (rest := [.ref (Z26.1), .ref a0]) (ctX6_init C.2.2.2.2.2.2.2.2.1 N Z28 hq29) kcRX8_35 oyX6_init ⟨by decide, by decide⟩ ⟨by decide, by decide⟩ (Nat.le_of_ble_eq_true rfl) rfl dX8_init_58) ?_
  obtain ⟨Z30, M30, eZ30, eM30, h⟩ := nameZ_spec h
  refine j_nm eZ30 eM30 ?_
  obtain ⟨ho31, h⟩ := ck_spec h
  refine j_putR C hnm tyX8 tyX8_ok nmX8 (T := TX8) (N := 11) (ci := 8) rfl iX8 ho31 5 (by decide) rfl fwRX8_36 (fun _ => ⟨rfl, rfl⟩) dX8_init_61 ?_
  obtain ⟨Z32, M32, eZ32, eM32, h⟩ := nameZ_spec h
  refine j_nm eZ32 eM32 ?_
  refine j_aload_n C dX8_init_64 rfl 0 rfl ?_
  obtain ⟨ho33, h⟩ := ck_spec h
  refine j_new C (cn := RX3) (T := TX3) (N := 3) (ci := 3) tyX3 tyX3_ok rfl iX3 (by decide) ntX3 cwRX8_40 (of_decide_eq_true ho33) ⟨by decide, by decide⟩ dX8_init_65 ?_
  obtain ⟨Z34, M34, eZ34, eM34, h⟩ := nameZ_spec h
  refine j_nm eZ34 eM34 ?_
  refine j_dup C dX8_init_68 rfl ?_
  obtain ⟨_, M35, hq35, h⟩ := bnd2_spec h
  refine j_run0 (c_IN C (As := []) (rest := [.ref (Z32.1), .ref a0]) (ctX3_init C.2.2.2.2.2.2.2.2.1 N Z34 hq35) kcRX8_42 oyX3_init ⟨by decide, by decide⟩ ⟨by decide, by decide⟩ (Nat.le_of_ble_eq_true rfl) rfl dX8_init_69) ?_
  obtain ⟨Z36, M36, eZ36, eM36, h⟩ := nameZ_spec h
  refine j_nm eZ36 eM36 ?_
  obtain ⟨ho37, h⟩ := ck_spec h
  refine j_putR C hnm tyX8 tyX8_ok nmX8 (T := TX8) (N := 11) (ci := 8) rfl iX8 ho37 6 (by decide) rfl fwRX8_43 (fun _ => ⟨rfl, rfl⟩) dX8_init_72 ?_
  obtain ⟨Z38, M38, eZ38, eM38, h⟩ := nameZ_spec h
  refine j_nm eZ38 eM38 ?_
  refine j_aload_n C dX8_init_75 rfl 0 rfl ?_
  obtain ⟨ho39, h⟩ := ck_spec h
  refine j_new C (cn := RX7) (T := TX7) (N := 5) (ci := 7) tyX7 tyX7_ok rfl iX7 (by decide) ntX7 cwRX8_47 (of_decide_eq_true ho39) ⟨by decide, by decide⟩ dX8_init_76 ?_
  obtain ⟨Z40, M40, eZ40, eM40, h⟩ := nameZ_spec h
  refine j_nm eZ40 eM40 ?_
  refine j_dup C dX8_init_79 rfl ?_
  obtain ⟨_, M41, hq41, h⟩ := bnd2_spec h
  refine j_run0 (c_IN C (As := []) (rest := [.ref (Z38.1), .ref a0]) (ctX7_init C.2.2.2.2.2.2.2.2.1 N Z40 hq41) kcRX8_49 oyX7_init ⟨by decide, by decide⟩ ⟨by decide, by decide⟩ (Nat.le_of_ble_eq_true rfl) rfl dX8_init_80) ?_
  obtain ⟨Z42, M42, eZ42, eM42, h⟩ := nameZ_spec h
  refine j_nm eZ42 eM42 ?_
  obtain ⟨ho43, h⟩ := ck_spec h
  refine j_putR C hnm tyX8 tyX8_ok nmX8 (T := TX8) (N := 11) (ci := 8) rfl iX8 ho43 7 (by decide) rfl fwRX8_50 (fun _ => ⟨rfl, rfl⟩) dX8_init_83 ?_
  obtain ⟨Z44, M44, eZ44, eM44, h⟩ := nameZ_spec h
  refine j_nm eZ44 eM44 ?_
  refine j_aload_n C dX8_init_86 rfl 0 rfl ?_
  obtain ⟨ho45, h⟩ := ck_spec h
  refine j_new C (cn := RX5) (T := TX5) (N := 3) (ci := 5) tyX5 tyX5_ok rfl iX5 (by decide) ntX5 cwRX8_54 (of_decide_eq_true ho45) ⟨by decide, by decide⟩ dX8_init_87 ?_
  obtain ⟨Z46, M46, eZ46, eM46, h⟩ := nameZ_spec h
  refine j_nm eZ46 eM46 ?_
  refine j_dup C dX8_init_90 rfl ?_
  obtain ⟨_, M47, hq47, h⟩ := bnd2_spec h
  refine j_run0 (c_IN C (As := []) (rest := [.ref (Z44.1), .ref a0]) (ctX5_init C.2.2.2.2.2.2.2.2.1 N Z46 hq47) kcRX8_56 oyX5_init ⟨by decide, by decide⟩ ⟨by decide, by decide⟩ (Nat.le_of_ble_eq_true rfl) rfl dX8_init_91) ?_
  obtain ⟨Z48, M48, eZ48, eM48, h⟩ := nameZ_spec h
  refine j_nm eZ48 eM48 ?_
  obtain ⟨ho49, h⟩ := ck_spec h
  refine j_putR C hnm tyX8 tyX8_ok nmX8 (T := TX8) (N := 11) (ci := 8) rfl iX8 ho49 8 (by decide) rfl fwRX8_57 (fun _ => ⟨rfl, rfl⟩) dX8_init_94 ?_
  obtain ⟨Z50, M50, eZ50, eM50, h⟩ := nameZ_spec h
  refine j_nm eZ50 eM50 ?_
  refine j_aload_n C dX8_init_97 rfl 0 rfl ?_
  obtain ⟨ho51, h⟩ := ck_spec h
  refine j_new C (cn := RX1) (T := TX1) (N := 8) (ci := 1) tyX1 tyX1_ok rfl iX1 (by decide) ntX1 cwRX8_61 (of_decide_eq_true ho51) ⟨by decide, by decide⟩ dX8_init_98 ?_
  obtain ⟨Z52, M52, eZ52, eM52, h⟩ := nameZ_spec h
  refine j_nm eZ52 eM52 ?_
  refine j_dup C dX8_init_101 rfl ?_
  obtain ⟨_, M53, hq53, h⟩ := bnd2_spec h
  refine j_run0 (c_IN C (As := []) (rest := [.ref (Z50.1), .ref a0]) (ctX1_init C.2.2.2.2.2.2.2.2.1 N Z52 hq53) kcRX8_63 oyX1_init ⟨by decide, by decide⟩ ⟨by decide, by decide⟩ (Nat.le_of_ble_eq_true rfl) rfl dX8_init_102) ?_
  obtain ⟨Z54, M54, eZ54, eM54, h⟩ := nameZ_spec h
  refine j_nm eZ54 eM54 ?_
  obtain ⟨ho55, h⟩ := ck_spec h
  refine j_putR C hnm tyX8 tyX8_ok nmX8 (T := TX8) (N := 11) (ci := 8) rfl iX8 ho55 9 (by decide) rfl fwRX8_64 (fun _ => ⟨rfl, rfl⟩) dX8_init_105 ?_
  obtain ⟨Z56, M56, eZ56, eM56, h⟩ := nameZ_spec h
  refine j_nm eZ56 eM56 ?_
  refine j_aload_n C dX8_init_108 rfl 0 rfl ?_
  obtain ⟨ho57, h⟩ := ck_spec h
  refine j_new C (cn := RX0) (T := TX0) (N := 3) (ci := 0) tyX0 tyX0_ok rfl iX0 (by decide) ntX0 cwRX8_68 (of_decide_eq_true ho57) ⟨by decide, by decide⟩ dX8_init_109 ?_
  obtain ⟨Z58, M58, eZ58, eM58, h⟩ := nameZ_spec h
  refine j_nm eZ58 eM58 ?_
  refine j_dup C dX8_init_112 rfl ?_
  obtain ⟨_, M59, hq59, h⟩ := bnd2_spec h
  refine j_run0 (c_IN C (As := []) (rest := [.ref (Z56.1), .ref a0]) (ctX0_init C.2.2.2.2.2.2.2.2.1 N Z58 hq59) kcRX8_70 oyX0_init ⟨by decide, by decide⟩ ⟨by decide, by decide⟩ (Nat.le_of_ble_eq_true rfl) rfl dX8_init_113) ?_
  obtain ⟨Z60, M60, eZ60, eM60, h⟩ := nameZ_spec h
  refine j_nm eZ60 eM60 ?_
  obtain ⟨ho61, h⟩ := ck_spec h
  refine j_putR C hnm tyX8 tyX8_ok nmX8 (T := TX8) (N := 11) (ci := 8) rfl iX8 ho61 10 (by decide) rfl fwRX8_71 (fun _ => ⟨rfl, rfl⟩) dX8_init_116 ?_
  obtain ⟨Z62, M62, eZ62, eM62, h⟩ := nameZ_spec h
  refine j_nm eZ62 eM62 ?_
  cases h
  exact j_vret C rfl (by decide) (by decide) dX8_init_119
-- ScaffoldPlanner start
theorem thRX8_75 : okT RX8 75 77 "java/lang/IllegalArgumentException" ["java/lang/RuntimeException", "java/lang/Exception"] = true := by decide +kernel
theorem fwRX8_78 : Cond.fieldLink RX8 78 RX4 (TX4 0).2.1 (TX4 0).2.2.1 ∈ gw := by decide +kernel
theorem kcRX8_82 : okV RX8 82 yX4_begin (.code yX4_begin cX4_begin 3 none) = true := by decide +kernel
theorem kcRX8_86 : okV RX8 86 yX2_forget (.code yX2_forget cX2_forget 1 none) = true := by decide +kernel
theorem oyX2_forget : okY yX2_forget 0 := ⟨by decide +kernel, by decide +kernel, by decide +kernel⟩
theorem fwRX8_89 : Cond.fieldLink RX8 89 RX1 (TX1 2).2.1 (TX1 2).2.2.1 ∈ gw := by decide +kernel
abbrev rmX8_start : Room := { frames := 6, cells := 1, slots := 6, locals := 90 }
theorem dX8_start_0 : decode cX8_start 0 = .ok (.iload_n 1, 1) := by decide +kernel
theorem dX8_start_1 : decode cX8_start 1 = .ok (.iconst 4, 1) := by decide +kernel
theorem dX8_start_2 : decode cX8_start 2 = .ok (.if_icmp .lt 9, 3) := by decide +kernel
theorem dX8_start_5 : decode cX8_start 5 = .ok (.iload_n 1, 1) := by decide +kernel
theorem dX8_start_6 : decode cX8_start 6 = .ok (.bipush 10, 2) := by decide +kernel
theorem dX8_start_8 : decode cX8_start 8 = .ok (.if_icmp .le 11, 3) := by decide +kernel
theorem dX8_start_11 : decode cX8_start 11 = .ok (.new 75, 3) := by decide +kernel
theorem dX8_start_14 : decode cX8_start 14 = .ok (.dup, 1) := by decide +kernel
theorem dX8_start_15 : decode cX8_start 15 = .ok (.invokespecial 77, 3) := by decide +kernel
theorem dX8_start_18 : decode cX8_start 18 = .ok (.athrow, 1) := by decide +kernel
theorem dX8_start_19 : decode cX8_start 19 = .ok (.aload_n 0, 1) := by decide +kernel
theorem dX8_start_20 : decode cX8_start 20 = .ok (.getfield 10, 3) := by decide +kernel
theorem dX8_start_23 : decode cX8_start 23 = .ok (.getfield 78, 3) := by decide +kernel
theorem dX8_start_26 : decode cX8_start 26 = .ok (.istore_n 2, 1) := by decide +kernel
theorem dX8_start_27 : decode cX8_start 27 = .ok (.aload_n 0, 1) := by decide +kernel
theorem dX8_start_28 : decode cX8_start 28 = .ok (.getfield 10, 3) := by decide +kernel
theorem dX8_start_31 : decode cX8_start 31 = .ok (.iload_n 1, 1) := by decide +kernel
theorem dX8_start_32 : decode cX8_start 32 = .ok (.invokevirtual 82, 3) := by decide +kernel
theorem dX8_start_35 : decode cX8_start 35 = .ok (.aload_n 0, 1) := by decide +kernel
theorem dX8_start_36 : decode cX8_start 36 = .ok (.getfield 29, 3) := by decide +kernel
theorem dX8_start_39 : decode cX8_start 39 = .ok (.invokevirtual 86, 3) := by decide +kernel
theorem dX8_start_42 : decode cX8_start 42 = .ok (.aload_n 0, 1) := by decide +kernel
theorem dX8_start_43 : decode cX8_start 43 = .ok (.getfield 64, 3) := by decide +kernel
theorem dX8_start_46 : decode cX8_start 46 = .ok (.iconst 0, 1) := by decide +kernel
theorem dX8_start_47 : decode cX8_start 47 = .ok (.putfield 89, 3) := by decide +kernel
theorem dX8_start_50 : decode cX8_start 50 = .ok (.iload_n 2, 1) := by decide +kernel
theorem dX8_start_51 : decode cX8_start 51 = .ok (.ireturn, 1) := by decide +kernel
def fX8_start (N : Nat) (Z : mZ) (a0 : Nat) (a1 : Int32) (M : mM) : Option ((Int32 ⊕ String) × mM) := if a1 < (4 : Int32) then some (.inr "java/lang/IllegalArgumentException", sT M) else if a1 ≤ (10 : Int32) then ck (okO Z a0 8) (bnd1 (Z.2.2.2 a0 0) (fun c4 => ck (okO Z c4 4) (bnd2 (fX4_begin N Z c4 a1 M) (fun _ M6 => bnd1 (Z.2.2.2 a0 4) (fun c7 => ck (okO Z c7 2) (bnd2 (fX2_forget N Z c7 M6) (fun _ M9 => bnd1 (Z.2.2.2 a0 9) (fun c10 => ck (okO Z c10 1) (some (.inl (M.1 c4 0), (sI M9 c10 2 (0 : Int32)))))))))))) else some (.inr "java/lang/IllegalArgumentException", sT M)
set_option maxHeartbeats 4000000 in
set_option maxRecDepth 100000 in
theorem ctX8_start {G : mG} {l : Launch} (hl : l.stackTraces = false) (N : Nat) (Z : mZ) {a0 : Nat} {a1 : Int32} {M : mM} {r : (Int32 ⊕ String)} {M' : mM} (h : fX8_start N Z a0 a1 M = some (r, M')) : CT G l yX8_start (.code yX8_start cX8_start 3 (some .int)) rmX8_start [.ref a0, .int a1] Z M (oI r) Z M' := by
  unfold fX8_start at h
  refine CT.of hl (by decide) (Nat.le_of_ble_eq_true rfl) ?_
  intro p e s m args below meth c C hnm
  refine j_sub (L' := [(0, .ref a0), (1, .int a1)]) [0, 1] rfl ?_
  refine j_iload_n C dX8_start_0 rfl 1 rfl ?_
  refine j_iconst C dX8_start_1 (v := (4 : Int32)) (by decide) ?_
  refine j_icmp_lt C dX8_start_2 (tgt := 11) (by decide) (fun hc1 => ?_) (fun hc1 => ?_)
  · rw [if_pos hc1] at h
    cases h
    exact j_throw C (rm := rmX8_start) thRX8_75 (by decide) (Nat.le_of_ble_eq_true rfl) ⟨by decide, by decide⟩ (by decide) (by decide) dX8_start_11 dX8_start_14 dX8_start_15 dX8_start_18
  · rw [if_neg hc1] at h
    refine j_iload_n C dX8_start_5 rfl 1 rfl ?_
    refine j_bipush C dX8_start_6 (v := (10 : Int32)) (by decide) ?_
    refine j_icmp_le C dX8_start_8 (tgt := 19) (by decide) (fun hc2 => ?_) (fun hc2 => ?_)
    · rw [if_pos hc2] at h
      refine j_aload_n C dX8_start_19 rfl 0 rfl ?_
      obtain ⟨ho3, h⟩ := ck_spec h
      obtain ⟨c4, hr4, h⟩ := bnd1_spec h
      refine j_getR C (cn := RX8) (T := TX8) (N := 11) (ci := 8) rfl iX8 ho3 0 (by decide) rfl fwRX8_10 dX8_start_20 hr4 ?_
      obtain ⟨ho5, h⟩ := ck_spec h
      refine j_getI C (cn := RX4) (T := TX4) (N := 7) (ci := 4) rfl iX4 ho5 0 (by decide) rfl fwRX8_78 dX8_start_23 ?_
      refine j_istore_n C dX8_start_26 rfl (by decide) (L' := [(2, .int (M.1 c4 0)), (0, .ref a0), (1, .int a1)]) rfl ?_
      refine j_aload_n C dX8_start_27 rfl 1 rfl ?_
      refine j_getR C (cn := RX8) (T := TX8) (N := 11) (ci := 8) rfl iX8 ho3 0 (by decide) rfl fwRX8_10 dX8_start_28 hr4 ?_
      refine j_iload_n C dX8_start_31 rfl 2 rfl ?_
      obtain ⟨_, M6, hq6, h⟩ := bnd2_spec h
      refine j_run0 (c_V C (As := [.int a1]) (rest := []) (ctX4_begin C.2.2.2.2.2.2.2.2.1 N Z hq6) kcRX8_82 oyX4_begin (ci := 4) (T := TX4) (N := 7) rfl (by decide) ho5 ⟨by decide, by decide⟩ ⟨by decide, by decide⟩ (Nat.le_of_ble_eq_true rfl) rfl dX8_start_32) ?_
      refine j_aload_n C dX8_start_35 rfl 1 rfl ?_
      obtain ⟨c7, hr7, h⟩ := bnd1_spec h
      refine j_getR C (cn := RX8) (T := TX8) (N := 11) (ci := 8) rfl iX8 ho3 4 (by decide) rfl fwRX8_29 dX8_start_36 hr7 ?_
      obtain ⟨ho8, h⟩ := ck_spec h
      obtain ⟨_, M9, hq9, h⟩ := bnd2_spec h
      refine j_run0 (c_V C (As := []) (rest := []) (ctX2_forget C.2.2.2.2.2.2.2.2.1 N Z hq9) kcRX8_86 oyX2_forget (ci := 2) (T := TX2) (N := 3) rfl (by decide) ho8 ⟨by decide, by decide⟩ ⟨by decide, by decide⟩ (Nat.le_of_ble_eq_true rfl) rfl dX8_start_39) ?_
      refine j_aload_n C dX8_start_42 rfl 1 rfl ?_
      obtain ⟨c10, hr10, h⟩ := bnd1_spec h
      refine j_getR C (cn := RX8) (T := TX8) (N := 11) (ci := 8) rfl iX8 ho3 9 (by decide) rfl fwRX8_64 dX8_start_43 hr10 ?_
      refine j_iconst C dX8_start_46 (v := (0 : Int32)) (by decide) ?_
      obtain ⟨ho11, h⟩ := ck_spec h
      refine j_putI C tyX1 tyX1_ok nmX1 (cn := RX1) (T := TX1) (N := 8) (ci := 1) rfl iX1 ho11 2 (by decide) rfl fwRX8_89 ⟨rfl, rfl⟩ dX8_start_47 ?_
      refine j_iload_n C dX8_start_50 rfl 0 rfl ?_
      cases h
      exact j_iret C rfl (by decide) (by decide) dX8_start_51
    · rw [if_neg hc2] at h
      cases h
      exact j_throw C (rm := rmX8_start) thRX8_75 (by decide) (Nat.le_of_ble_eq_true rfl) ⟨by decide, by decide⟩ (by decide) (by decide) dX8_start_11 dX8_start_14 dX8_start_15 dX8_start_18
-- ScaffoldPlanner keepChange
theorem kcRX8_272 : okV RX8 272 yX2_keep (.code yX2_keep cX2_keep 3 none) = true := by decide +kernel
theorem oyX2_keep : okY yX2_keep 1 := ⟨by decide +kernel, by decide +kernel, by decide +kernel⟩
abbrev rmX8_keepChange : Room := { frames := 3, cells := 0, slots := 0, locals := 65 }
theorem dX8_keepChange_0 : decode cX8_keepChange 0 = .ok (.aload_n 0, 1) := by decide +kernel
theorem dX8_keepChange_1 : decode cX8_keepChange 1 = .ok (.getfield 29, 3) := by decide +kernel
theorem dX8_keepChange_4 : decode cX8_keepChange 4 = .ok (.aload_n 0, 1) := by decide +kernel
theorem dX8_keepChange_5 : decode cX8_keepChange 5 = .ok (.getfield 10, 3) := by decide +kernel
theorem dX8_keepChange_8 : decode cX8_keepChange 8 = .ok (.invokevirtual 272, 3) := by decide +kernel
theorem dX8_keepChange_11 : decode cX8_keepChange 11 = .ok (.aload_n 0, 1) := by decide +kernel
theorem dX8_keepChange_12 : decode cX8_keepChange 12 = .ok (.getfield 64, 3) := by decide +kernel
theorem dX8_keepChange_15 : decode cX8_keepChange 15 = .ok (.iconst 0, 1) := by decide +kernel
theorem dX8_keepChange_16 : decode cX8_keepChange 16 = .ok (.putfield 89, 3) := by decide +kernel
theorem dX8_keepChange_19 : decode cX8_keepChange 19 = .ok (.return_, 1) := by decide +kernel
def fX8_keepChange (N : Nat) (Z : mZ) (a0 : Nat) (M : mM) : Option (Unit × mM) := ck (okO Z a0 8) (bnd1 (Z.2.2.2 a0 4) (fun c2 => bnd1 (Z.2.2.2 a0 0) (fun c3 => ck (okO Z c2 2) (bnd2 (fX2_keep N Z c2 c3 M) (fun _ M5 => bnd1 (Z.2.2.2 a0 9) (fun c6 => ck (okO Z c6 1) (some ((), (sI M5 c6 2 (0 : Int32))))))))))
set_option maxHeartbeats 4000000 in
set_option maxRecDepth 100000 in
theorem ctX8_keepChange {G : mG} {l : Launch} (hl : l.stackTraces = false) (N : Nat) (Z : mZ) {a0 : Nat} {M : mM} {r : Unit} {M' : mM} (h : fX8_keepChange N Z a0 M = some (r, M')) : CT G l yX8_keepChange (.code yX8_keepChange cX8_keepChange 1 none) rmX8_keepChange [.ref a0] Z M (.inl none) Z M' := by
  unfold fX8_keepChange at h
  refine CT.of hl (by decide) (Nat.le_of_ble_eq_true rfl) ?_
  intro p e s m args below meth c C hnm
  refine j_sub (L' := [(0, .ref a0)]) [0] rfl ?_
  refine j_aload_n C dX8_keepChange_0 rfl 0 rfl ?_
  obtain ⟨ho1, h⟩ := ck_spec h
  obtain ⟨c2, hr2, h⟩ := bnd1_spec h
  refine j_getR C (cn := RX8) (T := TX8) (N := 11) (ci := 8) rfl iX8 ho1 4 (by decide) rfl fwRX8_29 dX8_keepChange_1 hr2 ?_
  refine j_aload_n C dX8_keepChange_4 rfl 0 rfl ?_
  obtain ⟨c3, hr3, h⟩ := bnd1_spec h
  refine j_getR C (cn := RX8) (T := TX8) (N := 11) (ci := 8) rfl iX8 ho1 0 (by decide) rfl fwRX8_10 dX8_keepChange_5 hr3 ?_
  obtain ⟨ho4, h⟩ := ck_spec h
  obtain ⟨_, M5, hq5, h⟩ := bnd2_spec h
  refine j_run0 (c_V C (As := [.ref c3]) (rest := []) (ctX2_keep C.2.2.2.2.2.2.2.2.1 N Z hq5) kcRX8_272 oyX2_keep (ci := 2) (T := TX2) (N := 3) rfl (by decide) ho4 ⟨by decide, by decide⟩ ⟨by decide, by decide⟩ (Nat.le_of_ble_eq_true rfl) rfl dX8_keepChange_8) ?_
  refine j_aload_n C dX8_keepChange_11 rfl 0 rfl ?_
  obtain ⟨c6, hr6, h⟩ := bnd1_spec h
  refine j_getR C (cn := RX8) (T := TX8) (N := 11) (ci := 8) rfl iX8 ho1 9 (by decide) rfl fwRX8_64 dX8_keepChange_12 hr6 ?_
  refine j_iconst C dX8_keepChange_15 (v := (0 : Int32)) (by decide) ?_
  obtain ⟨ho7, h⟩ := ck_spec h
  refine j_putI C tyX1 tyX1_ok nmX1 (cn := RX1) (T := TX1) (N := 8) (ci := 1) rfl iX1 ho7 2 (by decide) rfl fwRX8_89 ⟨rfl, rfl⟩ dX8_keepChange_16 ?_
  cases h
  exact j_vret C rfl (by decide) (by decide) dX8_keepChange_19
-- ScaffoldPlanner set
theorem fwRX8_92 : Cond.fieldLink RX8 92 RX8 "LEAST_RULES" "[I" ∈ gw := by decide +kernel
theorem kcRX8_96 : okS RX8 96 yX8_at (.code yX8_at cX8_at 2 (some .int)) = true := by decide +kernel
theorem fwRX8_100 : Cond.fieldLink RX8 100 RX8 "GREATEST_RULES" "[I" ∈ gw := by decide +kernel
theorem kcRX8_103 : okV RX8 103 yX4_copyFrom (.code yX4_copyFrom cX4_copyFrom 3 none) = true := by decide +kernel
theorem fwRX8_107 : Cond.fieldLink RX8 107 RX4 (TX4 5).2.1 (TX4 5).2.2.1 ∈ gw := by decide +kernel
theorem kcRX8_110 : okS RX8 110 yX8_write (.code yX8_write cX8_write 3 none) = true := by decide +kernel
theorem kcRX8_114 : okV RX8 114 yX4_isStable (.code yX4_isStable cX4_isStable 1 (some .boolean)) = true := by decide +kernel
theorem oyX4_isStable : okY yX4_isStable 0 := ⟨by decide +kernel, by decide +kernel, by decide +kernel⟩
theorem thRX8_118 : okT RX8 118 120 "java/lang/IllegalStateException" ["java/lang/RuntimeException", "java/lang/Exception"] = true := by decide +kernel
theorem kcRX8_121 : okV RX8 121 yX8_keepChange (.code yX8_keepChange cX8_keepChange 1 none) = true := by decide +kernel
theorem oyX8_keepChange : okY yX8_keepChange 0 := ⟨by decide +kernel, by decide +kernel, by decide +kernel⟩
abbrev rmX8_set : Room := { frames := 6, cells := 1, slots := 6, locals := 109 }
theorem dX8_set_0 : decode cX8_set 0 = .ok (.iload_n 1, 1) := by decide +kernel
theorem dX8_set_1 : decode cX8_set 1 = .ok (.ifCond .lt 8, 3) := by decide +kernel
theorem dX8_set_4 : decode cX8_set 4 = .ok (.iload_n 1, 1) := by decide +kernel
theorem dX8_set_5 : decode cX8_set 5 = .ok (.iconst 3, 1) := by decide +kernel
theorem dX8_set_6 : decode cX8_set 6 = .ok (.if_icmp .lt 11, 3) := by decide +kernel
theorem dX8_set_9 : decode cX8_set 9 = .ok (.new 75, 3) := by decide +kernel
theorem dX8_set_12 : decode cX8_set 12 = .ok (.dup, 1) := by decide +kernel
theorem dX8_set_13 : decode cX8_set 13 = .ok (.invokespecial 77, 3) := by decide +kernel
theorem dX8_set_16 : decode cX8_set 16 = .ok (.athrow, 1) := by decide +kernel
theorem dX8_set_17 : decode cX8_set 17 = .ok (.iload_n 2, 1) := by decide +kernel
theorem dX8_set_18 : decode cX8_set 18 = .ok (.getstatic 92, 3) := by decide +kernel
theorem dX8_set_21 : decode cX8_set 21 = .ok (.iload_n 1, 1) := by decide +kernel
theorem dX8_set_22 : decode cX8_set 22 = .ok (.invokestatic 96, 3) := by decide +kernel
theorem dX8_set_25 : decode cX8_set 25 = .ok (.if_icmp .lt 14, 3) := by decide +kernel
theorem dX8_set_28 : decode cX8_set 28 = .ok (.iload_n 2, 1) := by decide +kernel
theorem dX8_set_29 : decode cX8_set 29 = .ok (.getstatic 100, 3) := by decide +kernel
theorem dX8_set_32 : decode cX8_set 32 = .ok (.iload_n 1, 1) := by decide +kernel
theorem dX8_set_33 : decode cX8_set 33 = .ok (.invokestatic 96, 3) := by decide +kernel
theorem dX8_set_36 : decode cX8_set 36 = .ok (.if_icmp .le 11, 3) := by decide +kernel
theorem dX8_set_39 : decode cX8_set 39 = .ok (.new 75, 3) := by decide +kernel
theorem dX8_set_42 : decode cX8_set 42 = .ok (.dup, 1) := by decide +kernel
theorem dX8_set_43 : decode cX8_set 43 = .ok (.invokespecial 77, 3) := by decide +kernel
theorem dX8_set_46 : decode cX8_set 46 = .ok (.athrow, 1) := by decide +kernel
theorem dX8_set_47 : decode cX8_set 47 = .ok (.aload_n 0, 1) := by decide +kernel
theorem dX8_set_48 : decode cX8_set 48 = .ok (.getfield 16, 3) := by decide +kernel
theorem dX8_set_51 : decode cX8_set 51 = .ok (.aload_n 0, 1) := by decide +kernel
theorem dX8_set_52 : decode cX8_set 52 = .ok (.getfield 10, 3) := by decide +kernel
theorem dX8_set_55 : decode cX8_set 55 = .ok (.invokevirtual 103, 3) := by decide +kernel
theorem dX8_set_58 : decode cX8_set 58 = .ok (.aload_n 0, 1) := by decide +kernel
theorem dX8_set_59 : decode cX8_set 59 = .ok (.getfield 16, 3) := by decide +kernel
theorem dX8_set_62 : decode cX8_set 62 = .ok (.getfield 107, 3) := by decide +kernel
theorem dX8_set_65 : decode cX8_set 65 = .ok (.iload_n 1, 1) := by decide +kernel
theorem dX8_set_66 : decode cX8_set 66 = .ok (.iload_n 2, 1) := by decide +kernel
theorem dX8_set_67 : decode cX8_set 67 = .ok (.invokestatic 110, 3) := by decide +kernel
theorem dX8_set_70 : decode cX8_set 70 = .ok (.aload_n 0, 1) := by decide +kernel
theorem dX8_set_71 : decode cX8_set 71 = .ok (.getfield 16, 3) := by decide +kernel
theorem dX8_set_74 : decode cX8_set 74 = .ok (.invokevirtual 114, 3) := by decide +kernel
theorem dX8_set_77 : decode cX8_set 77 = .ok (.ifCond .ne 11, 3) := by decide +kernel
theorem dX8_set_80 : decode cX8_set 80 = .ok (.new 118, 3) := by decide +kernel
theorem dX8_set_83 : decode cX8_set 83 = .ok (.dup, 1) := by decide +kernel
theorem dX8_set_84 : decode cX8_set 84 = .ok (.invokespecial 120, 3) := by decide +kernel
theorem dX8_set_87 : decode cX8_set 87 = .ok (.athrow, 1) := by decide +kernel
theorem dX8_set_88 : decode cX8_set 88 = .ok (.aload_n 0, 1) := by decide +kernel
theorem dX8_set_89 : decode cX8_set 89 = .ok (.getfield 10, 3) := by decide +kernel
theorem dX8_set_92 : decode cX8_set 92 = .ok (.getfield 107, 3) := by decide +kernel
theorem dX8_set_95 : decode cX8_set 95 = .ok (.iload_n 1, 1) := by decide +kernel
theorem dX8_set_96 : decode cX8_set 96 = .ok (.invokestatic 96, 3) := by decide +kernel
theorem dX8_set_99 : decode cX8_set 99 = .ok (.istore_n 3, 1) := by decide +kernel
theorem dX8_set_100 : decode cX8_set 100 = .ok (.aload_n 0, 1) := by decide +kernel
theorem dX8_set_101 : decode cX8_set 101 = .ok (.invokevirtual 121, 3) := by decide +kernel
theorem dX8_set_104 : decode cX8_set 104 = .ok (.aload_n 0, 1) := by decide +kernel
theorem dX8_set_105 : decode cX8_set 105 = .ok (.getfield 10, 3) := by decide +kernel
theorem dX8_set_108 : decode cX8_set 108 = .ok (.getfield 107, 3) := by decide +kernel
theorem dX8_set_111 : decode cX8_set 111 = .ok (.iload_n 1, 1) := by decide +kernel
theorem dX8_set_112 : decode cX8_set 112 = .ok (.iload_n 2, 1) := by decide +kernel
theorem dX8_set_113 : decode cX8_set 113 = .ok (.invokestatic 110, 3) := by decide +kernel
theorem dX8_set_116 : decode cX8_set 116 = .ok (.iload_n 3, 1) := by decide +kernel
theorem dX8_set_117 : decode cX8_set 117 = .ok (.ireturn, 1) := by decide +kernel
def fX8_set (N : Nat) (Z : mZ) (a0 : Nat) (a1 : Int32) (a2 : Int32) (M : mM) : Option ((Int32 ⊕ String) × mM) := if a1 < 0 then some (.inr "java/lang/IllegalArgumentException", sT M) else if a1 < (3 : Int32) then bnd2 (fX8_at N Z 2 a1 M) (fun r3 M3 => if a2 < r3 then some (.inr "java/lang/IllegalArgumentException", sT M3) else bnd2 (fX8_at N Z 3 a1 M3) (fun r5 M5 => if a2 ≤ r5 then ck (okO Z a0 8) (bnd1 (Z.2.2.2 a0 1) (fun c8 => bnd1 (Z.2.2.2 a0 0) (fun c9 => ck (okO Z c8 4) (bnd2 (fX4_copyFrom N Z c8 c9 M5) (fun _ M11 => bnd1 (Z.2.2.2 c8 5) (fun c12 => bnd2 (fX8_write N Z c12 a1 a2 M11) (fun _ M13 => bnd2 (fX4_isStable N Z c8 M13) (fun r14 M14 => if r14 = 0 then some (.inr "java/lang/IllegalStateException", sT M14) else ck (okO Z c9 4) (bnd1 (Z.2.2.2 c9 5) (fun c17 => bnd2 (fX8_at N Z c17 a1 M14) (fun r18 M18 => bnd2 (fX8_keepChange N Z a0 M18) (fun _ M19 => bnd2 (fX8_write N Z c17 a1 a2 M19) (fun _ M20 => some (.inl r18, M20)))))))))))))) else some (.inr "java/lang/IllegalArgumentException", sT M5))) else some (.inr "java/lang/IllegalArgumentException", sT M)
set_option maxHeartbeats 4000000 in
set_option maxRecDepth 100000 in
theorem ctX8_set {G : mG} {l : Launch} (hl : l.stackTraces = false) (N : Nat) (Z : mZ) {a0 : Nat} {a1 : Int32} {a2 : Int32} {M : mM} {r : (Int32 ⊕ String)} {M' : mM} (h : fX8_set N Z a0 a1 a2 M = some (r, M')) : CT G l yX8_set (.code yX8_set cX8_set 4 (some .int)) rmX8_set [.ref a0, .int a1, .int a2] Z M (oI r) Z M' := by
  unfold fX8_set at h
  refine CT.of hl (by decide) (Nat.le_of_ble_eq_true rfl) ?_
  intro p e s m args below meth c C hnm
  refine j_sub (L' := [(0, .ref a0), (1, .int a1), (2, .int a2)]) [0, 1, 2] rfl ?_
  refine j_iload_n C dX8_set_0 rfl 1 rfl ?_
  refine j_if_lt C dX8_set_1 (tgt := 9) (by decide) (fun hc1 => ?_) (fun hc1 => ?_)
  · rw [if_pos hc1] at h
    cases h
    exact j_throw C (rm := rmX8_set) thRX8_75 (by decide) (Nat.le_of_ble_eq_true rfl) ⟨by decide, by decide⟩ (by decide) (by decide) dX8_set_9 dX8_set_12 dX8_set_13 dX8_set_16
  · rw [if_neg hc1] at h
    refine j_iload_n C dX8_set_4 rfl 1 rfl ?_
    refine j_iconst C dX8_set_5 (v := (3 : Int32)) (by decide) ?_
    refine j_icmp_lt C dX8_set_6 (tgt := 17) (by decide) (fun hc2 => ?_) (fun hc2 => ?_)
    · rw [if_pos hc2] at h
      refine j_iload_n C dX8_set_17 rfl 2 rfl ?_
      refine j_gets C (r := 2) (by decide) C.2.2.2.2.2.2.1.2.2.1.2.1 fwRX8_92 dX8_set_18 ?_
      refine j_iload_n C dX8_set_21 rfl 1 rfl ?_
      obtain ⟨r3, M3, hq3, h⟩ := bnd2_spec h
      refine j_run1 (c_S C (As := [.ref 2, .int a1]) (rest := [.int a2]) (ctX8_at C.2.2.2.2.2.2.2.2.1 N Z hq3) kcRX8_96 oyX8_at ⟨by decide, by decide⟩ ⟨by decide, by decide⟩ (Nat.le_of_ble_eq_true rfl) rfl dX8_set_22) ?_
      refine j_icmp_lt C dX8_set_25 (tgt := 39) (by decide) (fun hc4 => ?_) (fun hc4 => ?_)
      · rw [if_pos hc4] at h
        cases h
        exact j_throw C (rm := rmX8_set) thRX8_75 (by decide) (Nat.le_of_ble_eq_true rfl) ⟨by decide, by decide⟩ (by decide) (by decide) dX8_set_39 dX8_set_42 dX8_set_43 dX8_set_46
      · rw [if_neg hc4] at h
        refine j_iload_n C dX8_set_28 rfl 2 rfl ?_
        refine j_gets C (r := 3) (by decide) C.2.2.2.2.2.2.1.2.2.1.2.2.1 fwRX8_100 dX8_set_29 ?_
        refine j_iload_n C dX8_set_32 rfl 1 rfl ?_
        obtain ⟨r5, M5, hq5, h⟩ := bnd2_spec h
        refine j_run1 (c_S C (As := [.ref 3, .int a1]) (rest := [.int a2]) (ctX8_at C.2.2.2.2.2.2.2.2.1 N Z hq5) kcRX8_96 oyX8_at ⟨by decide, by decide⟩ ⟨by decide, by decide⟩ (Nat.le_of_ble_eq_true rfl) rfl dX8_set_33) ?_
        refine j_icmp_le C dX8_set_36 (tgt := 47) (by decide) (fun hc6 => ?_) (fun hc6 => ?_)
        · rw [if_pos hc6] at h
          refine j_aload_n C dX8_set_47 rfl 0 rfl ?_
          obtain ⟨ho7, h⟩ := ck_spec h
          obtain ⟨c8, hr8, h⟩ := bnd1_spec h
          refine j_getR C (cn := RX8) (T := TX8) (N := 11) (ci := 8) rfl iX8 ho7 1 (by decide) rfl fwRX8_16 dX8_set_48 hr8 ?_
          refine j_aload_n C dX8_set_51 rfl 0 rfl ?_
          obtain ⟨c9, hr9, h⟩ := bnd1_spec h
          refine j_getR C (cn := RX8) (T := TX8) (N := 11) (ci := 8) rfl iX8 ho7 0 (by decide) rfl fwRX8_10 dX8_set_52 hr9 ?_
          obtain ⟨ho10, h⟩ := ck_spec h
          obtain ⟨_, M11, hq11, h⟩ := bnd2_spec h
          refine j_run0 (c_V C (As := [.ref c9]) (rest := []) (ctX4_copyFrom C.2.2.2.2.2.2.2.2.1 N Z hq11) kcRX8_103 oyX4_copyFrom (ci := 4) (T := TX4) (N := 7) rfl (by decide) ho10 ⟨by decide, by decide⟩ ⟨by decide, by decide⟩ (Nat.le_of_ble_eq_true rfl) rfl dX8_set_55) ?_
          refine j_aload_n C dX8_set_58 rfl 0 rfl ?_
          refine j_getR C (cn := RX8) (T := TX8) (N := 11) (ci := 8) rfl iX8 ho7 1 (by decide) rfl fwRX8_16 dX8_set_59 hr8 ?_
          obtain ⟨c12, hr12, h⟩ := bnd1_spec h
          refine j_getR C (cn := RX4) (T := TX4) (N := 7) (ci := 4) rfl iX4 ho10 5 (by decide) rfl fwRX8_107 dX8_set_62 hr12 ?_
          refine j_iload_n C dX8_set_65 rfl 1 rfl ?_
          refine j_iload_n C dX8_set_66 rfl 2 rfl ?_
          obtain ⟨_, M13, hq13, h⟩ := bnd2_spec h
          refine j_run0 (c_S C (As := [.ref c12, .int a1, .int a2]) (rest := []) (ctX8_write C.2.2.2.2.2.2.2.2.1 N Z hq13) kcRX8_110 oyX8_write ⟨by decide, by decide⟩ ⟨by decide, by decide⟩ (Nat.le_of_ble_eq_true rfl) rfl dX8_set_67) ?_
          refine j_aload_n C dX8_set_70 rfl 0 rfl ?_
          refine j_getR C (cn := RX8) (T := TX8) (N := 11) (ci := 8) rfl iX8 ho7 1 (by decide) rfl fwRX8_16 dX8_set_71 hr8 ?_
          obtain ⟨r14, M14, hq14, h⟩ := bnd2_spec h
          refine j_run1 (c_V C (As := []) (rest := []) (ctX4_isStable C.2.2.2.2.2.2.2.2.1 N Z hq14) kcRX8_114 oyX4_isStable (ci := 4) (T := TX4) (N := 7) rfl (by decide) ho10 ⟨by decide, by decide⟩ ⟨by decide, by decide⟩ (Nat.le_of_ble_eq_true rfl) rfl dX8_set_74) ?_
          refine j_if_ne C dX8_set_77 (tgt := 88) (by decide) (fun hc15 => ?_) (fun hc15 => ?_)
          · rw [if_neg hc15] at h
            refine j_aload_n C dX8_set_88 rfl 0 rfl ?_
            refine j_getR C (cn := RX8) (T := TX8) (N := 11) (ci := 8) rfl iX8 ho7 0 (by decide) rfl fwRX8_10 dX8_set_89 hr9 ?_
            obtain ⟨ho16, h⟩ := ck_spec h
            obtain ⟨c17, hr17, h⟩ := bnd1_spec h
            refine j_getR C (cn := RX4) (T := TX4) (N := 7) (ci := 4) rfl iX4 ho16 5 (by decide) rfl fwRX8_107 dX8_set_92 hr17 ?_
            refine j_iload_n C dX8_set_95 rfl 1 rfl ?_
            obtain ⟨r18, M18, hq18, h⟩ := bnd2_spec h
            refine j_run1 (c_S C (As := [.ref c17, .int a1]) (rest := []) (ctX8_at C.2.2.2.2.2.2.2.2.1 N Z hq18) kcRX8_96 oyX8_at ⟨by decide, by decide⟩ ⟨by decide, by decide⟩ (Nat.le_of_ble_eq_true rfl) rfl dX8_set_96) ?_
            refine j_istore_n C dX8_set_99 rfl (by decide) (L' := [(3, .int r18), (0, .ref a0), (1, .int a1), (2, .int a2)]) rfl ?_
            refine j_aload_n C dX8_set_100 rfl 1 rfl ?_
            obtain ⟨_, M19, hq19, h⟩ := bnd2_spec h
            refine j_run0 (c_V C (As := []) (rest := []) (ctX8_keepChange C.2.2.2.2.2.2.2.2.1 N Z hq19) kcRX8_121 oyX8_keepChange (ci := 8) (T := TX8) (N := 11) rfl (by decide) ho7 ⟨by decide, by decide⟩ ⟨by decide, by decide⟩ (Nat.le_of_ble_eq_true rfl) rfl dX8_set_101) ?_
            refine j_aload_n C dX8_set_104 rfl 1 rfl ?_
            refine j_getR C (cn := RX8) (T := TX8) (N := 11) (ci := 8) rfl iX8 ho7 0 (by decide) rfl fwRX8_10 dX8_set_105 hr9 ?_
            refine j_getR C (cn := RX4) (T := TX4) (N := 7) (ci := 4) rfl iX4 ho16 5 (by decide) rfl fwRX8_107 dX8_set_108 hr17 ?_
            refine j_iload_n C dX8_set_111 rfl 2 rfl ?_
            refine j_iload_n C dX8_set_112 rfl 3 rfl ?_
            obtain ⟨_, M20, hq20, h⟩ := bnd2_spec h
            refine j_run0 (c_S C (As := [.ref c17, .int a1, .int a2]) (rest := []) (ctX8_write C.2.2.2.2.2.2.2.2.1 N Z hq20) kcRX8_110 oyX8_write ⟨by decide, by decide⟩ ⟨by decide, by decide⟩ (Nat.le_of_ble_eq_true rfl) rfl dX8_set_113) ?_
            refine j_iload_n C dX8_set_116 rfl 0 rfl ?_
            cases h
            exact j_iret C rfl (by decide) (by decide) dX8_set_117
          · rw [if_pos hc15] at h
            cases h
            exact j_throw C (rm := rmX8_set) thRX8_118 (by decide) (Nat.le_of_ble_eq_true rfl) ⟨by decide, by decide⟩ (by decide) (by decide) dX8_set_80 dX8_set_83 dX8_set_84 dX8_set_87
        · rw [if_neg hc6] at h
          cases h
          exact j_throw C (rm := rmX8_set) thRX8_75 (by decide) (Nat.le_of_ble_eq_true rfl) ⟨by decide, by decide⟩ (by decide) (by decide) dX8_set_39 dX8_set_42 dX8_set_43 dX8_set_46
    · rw [if_neg hc2] at h
      cases h
      exact j_throw C (rm := rmX8_set) thRX8_75 (by decide) (Nat.le_of_ble_eq_true rfl) ⟨by decide, by decide⟩ (by decide) (by decide) dX8_set_9 dX8_set_12 dX8_set_13 dX8_set_16
-- ScaffoldPlanner stock
theorem thRX8_124 : okT RX8 124 126 "java/lang/IndexOutOfBoundsException" ["java/lang/RuntimeException", "java/lang/Exception"] = true := by decide +kernel
theorem fwRX8_127 : Cond.fieldLink RX8 127 RX4 (TX4 6).2.1 (TX4 6).2.2.1 ∈ gw := by decide +kernel
abbrev rmX8_stock : Room := { frames := 6, cells := 1, slots := 6, locals := 90 }
theorem dX8_stock_0 : decode cX8_stock 0 = .ok (.iload_n 1, 1) := by decide +kernel
theorem dX8_stock_1 : decode cX8_stock 1 = .ok (.ifCond .lt 9, 3) := by decide +kernel
theorem dX8_stock_4 : decode cX8_stock 4 = .ok (.iload_n 1, 1) := by decide +kernel
theorem dX8_stock_5 : decode cX8_stock 5 = .ok (.bipush 6, 2) := by decide +kernel
theorem dX8_stock_7 : decode cX8_stock 7 = .ok (.if_icmp .lt 11, 3) := by decide +kernel
theorem dX8_stock_10 : decode cX8_stock 10 = .ok (.new 124, 3) := by decide +kernel
theorem dX8_stock_13 : decode cX8_stock 13 = .ok (.dup, 1) := by decide +kernel
theorem dX8_stock_14 : decode cX8_stock 14 = .ok (.invokespecial 126, 3) := by decide +kernel
theorem dX8_stock_17 : decode cX8_stock 17 = .ok (.athrow, 1) := by decide +kernel
theorem dX8_stock_18 : decode cX8_stock 18 = .ok (.iload_n 2, 1) := by decide +kernel
theorem dX8_stock_19 : decode cX8_stock 19 = .ok (.ifCond .lt 10, 3) := by decide +kernel
theorem dX8_stock_22 : decode cX8_stock 22 = .ok (.iload_n 2, 1) := by decide +kernel
theorem dX8_stock_23 : decode cX8_stock 23 = .ok (.sipush 999, 3) := by decide +kernel
theorem dX8_stock_26 : decode cX8_stock 26 = .ok (.if_icmp .le 11, 3) := by decide +kernel
theorem dX8_stock_29 : decode cX8_stock 29 = .ok (.new 75, 3) := by decide +kernel
theorem dX8_stock_32 : decode cX8_stock 32 = .ok (.dup, 1) := by decide +kernel
theorem dX8_stock_33 : decode cX8_stock 33 = .ok (.invokespecial 77, 3) := by decide +kernel
theorem dX8_stock_36 : decode cX8_stock 36 = .ok (.athrow, 1) := by decide +kernel
theorem dX8_stock_37 : decode cX8_stock 37 = .ok (.aload_n 0, 1) := by decide +kernel
theorem dX8_stock_38 : decode cX8_stock 38 = .ok (.getfield 10, 3) := by decide +kernel
theorem dX8_stock_41 : decode cX8_stock 41 = .ok (.getfield 127, 3) := by decide +kernel
theorem dX8_stock_44 : decode cX8_stock 44 = .ok (.iload_n 1, 1) := by decide +kernel
theorem dX8_stock_45 : decode cX8_stock 45 = .ok (.invokestatic 96, 3) := by decide +kernel
theorem dX8_stock_48 : decode cX8_stock 48 = .ok (.istore_n 3, 1) := by decide +kernel
theorem dX8_stock_49 : decode cX8_stock 49 = .ok (.aload_n 0, 1) := by decide +kernel
theorem dX8_stock_50 : decode cX8_stock 50 = .ok (.invokevirtual 121, 3) := by decide +kernel
theorem dX8_stock_53 : decode cX8_stock 53 = .ok (.aload_n 0, 1) := by decide +kernel
theorem dX8_stock_54 : decode cX8_stock 54 = .ok (.getfield 10, 3) := by decide +kernel
theorem dX8_stock_57 : decode cX8_stock 57 = .ok (.getfield 127, 3) := by decide +kernel
theorem dX8_stock_60 : decode cX8_stock 60 = .ok (.iload_n 1, 1) := by decide +kernel
theorem dX8_stock_61 : decode cX8_stock 61 = .ok (.iload_n 2, 1) := by decide +kernel
theorem dX8_stock_62 : decode cX8_stock 62 = .ok (.invokestatic 110, 3) := by decide +kernel
theorem dX8_stock_65 : decode cX8_stock 65 = .ok (.iload_n 3, 1) := by decide +kernel
theorem dX8_stock_66 : decode cX8_stock 66 = .ok (.ireturn, 1) := by decide +kernel
def fX8_stock (N : Nat) (Z : mZ) (a0 : Nat) (a1 : Int32) (a2 : Int32) (M : mM) : Option ((Int32 ⊕ String) × mM) := if a1 < 0 then some (.inr "java/lang/IndexOutOfBoundsException", sT M) else if a1 < (6 : Int32) then if a2 < 0 then some (.inr "java/lang/IllegalArgumentException", sT M) else if a2 ≤ (999 : Int32) then ck (okO Z a0 8) (bnd1 (Z.2.2.2 a0 0) (fun c6 => ck (okO Z c6 4) (bnd1 (Z.2.2.2 c6 6) (fun c8 => bnd2 (fX8_at N Z c8 a1 M) (fun r9 M9 => bnd2 (fX8_keepChange N Z a0 M9) (fun _ M10 => bnd2 (fX8_write N Z c8 a1 a2 M10) (fun _ M11 => some (.inl r9, M11)))))))) else some (.inr "java/lang/IllegalArgumentException", sT M) else some (.inr "java/lang/IndexOutOfBoundsException", sT M)
set_option maxHeartbeats 4000000 in
set_option maxRecDepth 100000 in
theorem ctX8_stock {G : mG} {l : Launch} (hl : l.stackTraces = false) (N : Nat) (Z : mZ) {a0 : Nat} {a1 : Int32} {a2 : Int32} {M : mM} {r : (Int32 ⊕ String)} {M' : mM} (h : fX8_stock N Z a0 a1 a2 M = some (r, M')) : CT G l yX8_stock (.code yX8_stock cX8_stock 4 (some .int)) rmX8_stock [.ref a0, .int a1, .int a2] Z M (oI r) Z M' := by
  unfold fX8_stock at h
  refine CT.of hl (by decide) (Nat.le_of_ble_eq_true rfl) ?_
  intro p e s m args below meth c C hnm
  refine j_sub (L' := [(0, .ref a0), (1, .int a1), (2, .int a2)]) [0, 1, 2] rfl ?_
  refine j_iload_n C dX8_stock_0 rfl 1 rfl ?_
  refine j_if_lt C dX8_stock_1 (tgt := 10) (by decide) (fun hc1 => ?_) (fun hc1 => ?_)
  · rw [if_pos hc1] at h
    cases h
    exact j_throw C (rm := rmX8_stock) thRX8_124 (by decide) (Nat.le_of_ble_eq_true rfl) ⟨by decide, by decide⟩ (by decide) (by decide) dX8_stock_10 dX8_stock_13 dX8_stock_14 dX8_stock_17
  · rw [if_neg hc1] at h
    refine j_iload_n C dX8_stock_4 rfl 1 rfl ?_
    refine j_bipush C dX8_stock_5 (v := (6 : Int32)) (by decide) ?_
    refine j_icmp_lt C dX8_stock_7 (tgt := 18) (by decide) (fun hc2 => ?_) (fun hc2 => ?_)
    · rw [if_pos hc2] at h
      refine j_iload_n C dX8_stock_18 rfl 2 rfl ?_
      refine j_if_lt C dX8_stock_19 (tgt := 29) (by decide) (fun hc3 => ?_) (fun hc3 => ?_)
      · rw [if_pos hc3] at h
        cases h
        exact j_throw C (rm := rmX8_stock) thRX8_75 (by decide) (Nat.le_of_ble_eq_true rfl) ⟨by decide, by decide⟩ (by decide) (by decide) dX8_stock_29 dX8_stock_32 dX8_stock_33 dX8_stock_36
      · rw [if_neg hc3] at h
        refine j_iload_n C dX8_stock_22 rfl 2 rfl ?_
        refine j_sipush C dX8_stock_23 (v := (999 : Int32)) (by decide) ?_
        refine j_icmp_le C dX8_stock_26 (tgt := 37) (by decide) (fun hc4 => ?_) (fun hc4 => ?_)
        · rw [if_pos hc4] at h
          refine j_aload_n C dX8_stock_37 rfl 0 rfl ?_
          obtain ⟨ho5, h⟩ := ck_spec h
          obtain ⟨c6, hr6, h⟩ := bnd1_spec h
          refine j_getR C (cn := RX8) (T := TX8) (N := 11) (ci := 8) rfl iX8 ho5 0 (by decide) rfl fwRX8_10 dX8_stock_38 hr6 ?_
          obtain ⟨ho7, h⟩ := ck_spec h
          obtain ⟨c8, hr8, h⟩ := bnd1_spec h
          refine j_getR C (cn := RX4) (T := TX4) (N := 7) (ci := 4) rfl iX4 ho7 6 (by decide) rfl fwRX8_127 dX8_stock_41 hr8 ?_
          refine j_iload_n C dX8_stock_44 rfl 1 rfl ?_
          obtain ⟨r9, M9, hq9, h⟩ := bnd2_spec h
          refine j_run1 (c_S C (As := [.ref c8, .int a1]) (rest := []) (ctX8_at C.2.2.2.2.2.2.2.2.1 N Z hq9) kcRX8_96 oyX8_at ⟨by decide, by decide⟩ ⟨by decide, by decide⟩ (Nat.le_of_ble_eq_true rfl) rfl dX8_stock_45) ?_
          refine j_istore_n C dX8_stock_48 rfl (by decide) (L' := [(3, .int r9), (0, .ref a0), (1, .int a1), (2, .int a2)]) rfl ?_
          refine j_aload_n C dX8_stock_49 rfl 1 rfl ?_
          obtain ⟨_, M10, hq10, h⟩ := bnd2_spec h
          refine j_run0 (c_V C (As := []) (rest := []) (ctX8_keepChange C.2.2.2.2.2.2.2.2.1 N Z hq10) kcRX8_121 oyX8_keepChange (ci := 8) (T := TX8) (N := 11) rfl (by decide) ho5 ⟨by decide, by decide⟩ ⟨by decide, by decide⟩ (Nat.le_of_ble_eq_true rfl) rfl dX8_stock_50) ?_
          refine j_aload_n C dX8_stock_53 rfl 1 rfl ?_
          refine j_getR C (cn := RX8) (T := TX8) (N := 11) (ci := 8) rfl iX8 ho5 0 (by decide) rfl fwRX8_10 dX8_stock_54 hr6 ?_
          refine j_getR C (cn := RX4) (T := TX4) (N := 7) (ci := 4) rfl iX4 ho7 6 (by decide) rfl fwRX8_127 dX8_stock_57 hr8 ?_
          refine j_iload_n C dX8_stock_60 rfl 2 rfl ?_
          refine j_iload_n C dX8_stock_61 rfl 3 rfl ?_
          obtain ⟨_, M11, hq11, h⟩ := bnd2_spec h
          refine j_run0 (c_S C (As := [.ref c8, .int a1, .int a2]) (rest := []) (ctX8_write C.2.2.2.2.2.2.2.2.1 N Z hq11) kcRX8_110 oyX8_write ⟨by decide, by decide⟩ ⟨by decide, by decide⟩ (Nat.le_of_ble_eq_true rfl) rfl dX8_stock_62) ?_
          refine j_iload_n C dX8_stock_65 rfl 0 rfl ?_
          cases h
          exact j_iret C rfl (by decide) (by decide) dX8_stock_66
        · rw [if_neg hc4] at h
          cases h
          exact j_throw C (rm := rmX8_stock) thRX8_75 (by decide) (Nat.le_of_ble_eq_true rfl) ⟨by decide, by decide⟩ (by decide) (by decide) dX8_stock_29 dX8_stock_32 dX8_stock_33 dX8_stock_36
    · rw [if_neg hc2] at h
      cases h
      exact j_throw C (rm := rmX8_stock) thRX8_124 (by decide) (Nat.le_of_ble_eq_true rfl) ⟨by decide, by decide⟩ (by decide) (by decide) dX8_stock_10 dX8_stock_13 dX8_stock_14 dX8_stock_17
-- ScaffoldPlanner addRefusal
theorem fwRX8_301 : Cond.fieldLink RX8 301 RX7 (TX7 0).2.1 (TX7 0).2.2.1 ∈ gw := by decide +kernel
theorem fwRX8_304 : Cond.fieldLink RX8 304 RX7 (TX7 1).2.1 (TX7 1).2.2.1 ∈ gw := by decide +kernel
theorem kcRX8_293 : okV RX8 293 yX5_add (.code yX5_add cX5_add 3 none) = true := by decide +kernel
theorem oyX5_add : okY yX5_add 2 := ⟨by decide +kernel, by decide +kernel, by decide +kernel⟩
theorem fwRX8_170 : Cond.fieldLink RX8 170 RX3 (TX3 0).2.1 (TX3 0).2.2.1 ∈ gw := by decide +kernel
theorem fwRX8_307 : Cond.fieldLink RX8 307 RX3 (TX3 1).2.1 (TX3 1).2.2.1 ∈ gw := by decide +kernel
abbrev rmX8_addRefusal : Room := { frames := 2, cells := 0, slots := 0, locals := 44 }
theorem dX8_addRefusal_0 : decode cX8_addRefusal 0 = .ok (.aload_n 0, 1) := by decide +kernel
theorem dX8_addRefusal_1 : decode cX8_addRefusal 1 = .ok (.getfield 57, 3) := by decide +kernel
theorem dX8_addRefusal_4 : decode cX8_addRefusal 4 = .ok (.aload_n 0, 1) := by decide +kernel
theorem dX8_addRefusal_5 : decode cX8_addRefusal 5 = .ok (.getfield 50, 3) := by decide +kernel
theorem dX8_addRefusal_8 : decode cX8_addRefusal 8 = .ok (.getfield 301, 3) := by decide +kernel
theorem dX8_addRefusal_11 : decode cX8_addRefusal 11 = .ok (.aload_n 0, 1) := by decide +kernel
theorem dX8_addRefusal_12 : decode cX8_addRefusal 12 = .ok (.getfield 50, 3) := by decide +kernel
theorem dX8_addRefusal_15 : decode cX8_addRefusal 15 = .ok (.getfield 304, 3) := by decide +kernel
theorem dX8_addRefusal_18 : decode cX8_addRefusal 18 = .ok (.invokevirtual 293, 3) := by decide +kernel
theorem dX8_addRefusal_21 : decode cX8_addRefusal 21 = .ok (.aload_n 0, 1) := by decide +kernel
theorem dX8_addRefusal_22 : decode cX8_addRefusal 22 = .ok (.getfield 57, 3) := by decide +kernel
theorem dX8_addRefusal_25 : decode cX8_addRefusal 25 = .ok (.aload_n 0, 1) := by decide +kernel
theorem dX8_addRefusal_26 : decode cX8_addRefusal 26 = .ok (.getfield 43, 3) := by decide +kernel
theorem dX8_addRefusal_29 : decode cX8_addRefusal 29 = .ok (.getfield 170, 3) := by decide +kernel
theorem dX8_addRefusal_32 : decode cX8_addRefusal 32 = .ok (.aload_n 0, 1) := by decide +kernel
theorem dX8_addRefusal_33 : decode cX8_addRefusal 33 = .ok (.getfield 43, 3) := by decide +kernel
theorem dX8_addRefusal_36 : decode cX8_addRefusal 36 = .ok (.getfield 307, 3) := by decide +kernel
theorem dX8_addRefusal_39 : decode cX8_addRefusal 39 = .ok (.invokevirtual 293, 3) := by decide +kernel
theorem dX8_addRefusal_42 : decode cX8_addRefusal 42 = .ok (.return_, 1) := by decide +kernel
def fX8_addRefusal (N : Nat) (Z : mZ) (a0 : Nat) (M : mM) : Option (Unit × mM) := ck (okO Z a0 8) (bnd1 (Z.2.2.2 a0 8) (fun c2 => bnd1 (Z.2.2.2 a0 7) (fun c3 => ck (okO Z c3 7) (ck (okO Z c2 5) (bnd2 (fX5_add N Z c2 (M.1 c3 0) (M.1 c3 1) M) (fun _ M6 => bnd1 (Z.2.2.2 a0 6) (fun c7 => ck (okO Z c7 3) (bnd2 (fX5_add N Z c2 (M6.1 c7 0) (M6.1 c7 1) M6) (fun _ M9 => some ((), M9))))))))))
set_option maxHeartbeats 4000000 in
set_option maxRecDepth 100000 in
theorem ctX8_addRefusal {G : mG} {l : Launch} (hl : l.stackTraces = false) (N : Nat) (Z : mZ) {a0 : Nat} {M : mM} {r : Unit} {M' : mM} (h : fX8_addRefusal N Z a0 M = some (r, M')) : CT G l yX8_addRefusal (.code yX8_addRefusal cX8_addRefusal 1 none) rmX8_addRefusal [.ref a0] Z M (.inl none) Z M' := by
  unfold fX8_addRefusal at h
  refine CT.of hl (by decide) (Nat.le_of_ble_eq_true rfl) ?_
  intro p e s m args below meth c C hnm
  refine j_sub (L' := [(0, .ref a0)]) [0] rfl ?_
  refine j_aload_n C dX8_addRefusal_0 rfl 0 rfl ?_
  obtain ⟨ho1, h⟩ := ck_spec h
  obtain ⟨c2, hr2, h⟩ := bnd1_spec h
  refine j_getR C (cn := RX8) (T := TX8) (N := 11) (ci := 8) rfl iX8 ho1 8 (by decide) rfl fwRX8_57 dX8_addRefusal_1 hr2 ?_
  refine j_aload_n C dX8_addRefusal_4 rfl 0 rfl ?_
  obtain ⟨c3, hr3, h⟩ := bnd1_spec h
  refine j_getR C (cn := RX8) (T := TX8) (N := 11) (ci := 8) rfl iX8 ho1 7 (by decide) rfl fwRX8_50 dX8_addRefusal_5 hr3 ?_
  obtain ⟨ho4, h⟩ := ck_spec h
  refine j_getI C (cn := RX7) (T := TX7) (N := 5) (ci := 7) rfl iX7 ho4 0 (by decide) rfl fwRX8_301 dX8_addRefusal_8 ?_
  refine j_aload_n C dX8_addRefusal_11 rfl 0 rfl ?_
  refine j_getR C (cn := RX8) (T := TX8) (N := 11) (ci := 8) rfl iX8 ho1 7 (by decide) rfl fwRX8_50 dX8_addRefusal_12 hr3 ?_
  refine j_getI C (cn := RX7) (T := TX7) (N := 5) (ci := 7) rfl iX7 ho4 1 (by decide) rfl fwRX8_304 dX8_addRefusal_15 ?_
  obtain ⟨ho5, h⟩ := ck_spec h
  obtain ⟨_, M6, hq6, h⟩ := bnd2_spec h
  refine j_run0 (c_V C (As := [.int (M.1 c3 0), .int (M.1 c3 1)]) (rest := []) (ctX5_add C.2.2.2.2.2.2.2.2.1 N Z hq6) kcRX8_293 oyX5_add (ci := 5) (T := TX5) (N := 3) rfl (by decide) ho5 ⟨by decide, by decide⟩ ⟨by decide, by decide⟩ (Nat.le_of_ble_eq_true rfl) rfl dX8_addRefusal_18) ?_
  refine j_aload_n C dX8_addRefusal_21 rfl 0 rfl ?_
  refine j_getR C (cn := RX8) (T := TX8) (N := 11) (ci := 8) rfl iX8 ho1 8 (by decide) rfl fwRX8_57 dX8_addRefusal_22 hr2 ?_
  refine j_aload_n C dX8_addRefusal_25 rfl 0 rfl ?_
  obtain ⟨c7, hr7, h⟩ := bnd1_spec h
  refine j_getR C (cn := RX8) (T := TX8) (N := 11) (ci := 8) rfl iX8 ho1 6 (by decide) rfl fwRX8_43 dX8_addRefusal_26 hr7 ?_
  obtain ⟨ho8, h⟩ := ck_spec h
  refine j_getI C (cn := RX3) (T := TX3) (N := 3) (ci := 3) rfl iX3 ho8 0 (by decide) rfl fwRX8_170 dX8_addRefusal_29 ?_
  refine j_aload_n C dX8_addRefusal_32 rfl 0 rfl ?_
  refine j_getR C (cn := RX8) (T := TX8) (N := 11) (ci := 8) rfl iX8 ho1 6 (by decide) rfl fwRX8_43 dX8_addRefusal_33 hr7 ?_
  refine j_getI C (cn := RX3) (T := TX3) (N := 3) (ci := 3) rfl iX3 ho8 1 (by decide) rfl fwRX8_307 dX8_addRefusal_36 ?_
  obtain ⟨_, M9, hq9, h⟩ := bnd2_spec h
  refine j_run0 (c_V C (As := [.int (M6.1 c7 0), .int (M6.1 c7 1)]) (rest := []) (ctX5_add C.2.2.2.2.2.2.2.2.1 N Z hq9) kcRX8_293 oyX5_add (ci := 5) (T := TX5) (N := 3) rfl (by decide) ho5 ⟨by decide, by decide⟩ ⟨by decide, by decide⟩ (Nat.le_of_ble_eq_true rfl) rfl dX8_addRefusal_39) ?_
  cases h
  exact j_vret C rfl (by decide) (by decide) dX8_addRefusal_42
-- ScaffoldPlanner isJobCarriedOut
theorem kcRX8_163 : okV RX8 163 yX6_explore (.code yX6_explore cX6_explore 4 none) = true := by decide +kernel
theorem kcRX8_166 : okV RX8 166 yX3_examine (.code yX3_examine cX3_examine 4 none) = true := by decide +kernel
theorem kcRX8_279 : okV RX8 279 yX4_carryOut (.code yX4_carryOut cX4_carryOut 4 none) = true := by decide +kernel
theorem kcRX8_275 : okV RX8 275 yX5_clear (.code yX5_clear cX5_clear 1 none) = true := by decide +kernel
theorem oyX5_clear : okY yX5_clear 0 := ⟨by decide +kernel, by decide +kernel, by decide +kernel⟩
theorem kcRX8_276 : okV RX8 276 yX8_addRefusal (.code yX8_addRefusal cX8_addRefusal 1 none) = true := by decide +kernel
theorem oyX8_addRefusal : okY yX8_addRefusal 0 := ⟨by decide +kernel, by decide +kernel, by decide +kernel⟩
abbrev rmX8_isJobCarriedOut : Room := { frames := 5, cells := 0, slots := 0, locals := 116 }
theorem dX8_isJobCarriedOut_0 : decode cX8_isJobCarriedOut 0 = .ok (.aload_n 0, 1) := by decide +kernel
theorem dX8_isJobCarriedOut_1 : decode cX8_isJobCarriedOut 1 = .ok (.getfield 36, 3) := by decide +kernel
theorem dX8_isJobCarriedOut_4 : decode cX8_isJobCarriedOut 4 = .ok (.aload_n 0, 1) := by decide +kernel
theorem dX8_isJobCarriedOut_5 : decode cX8_isJobCarriedOut 5 = .ok (.getfield 10, 3) := by decide +kernel
theorem dX8_isJobCarriedOut_8 : decode cX8_isJobCarriedOut 8 = .ok (.invokevirtual 163, 3) := by decide +kernel
theorem dX8_isJobCarriedOut_11 : decode cX8_isJobCarriedOut 11 = .ok (.aload_n 0, 1) := by decide +kernel
theorem dX8_isJobCarriedOut_12 : decode cX8_isJobCarriedOut 12 = .ok (.getfield 43, 3) := by decide +kernel
theorem dX8_isJobCarriedOut_15 : decode cX8_isJobCarriedOut 15 = .ok (.aload_n 0, 1) := by decide +kernel
theorem dX8_isJobCarriedOut_16 : decode cX8_isJobCarriedOut 16 = .ok (.getfield 10, 3) := by decide +kernel
theorem dX8_isJobCarriedOut_19 : decode cX8_isJobCarriedOut 19 = .ok (.aload_n 0, 1) := by decide +kernel
theorem dX8_isJobCarriedOut_20 : decode cX8_isJobCarriedOut 20 = .ok (.getfield 36, 3) := by decide +kernel
theorem dX8_isJobCarriedOut_23 : decode cX8_isJobCarriedOut 23 = .ok (.aload_n 0, 1) := by decide +kernel
theorem dX8_isJobCarriedOut_24 : decode cX8_isJobCarriedOut 24 = .ok (.getfield 50, 3) := by decide +kernel
theorem dX8_isJobCarriedOut_27 : decode cX8_isJobCarriedOut 27 = .ok (.invokevirtual 166, 3) := by decide +kernel
theorem dX8_isJobCarriedOut_30 : decode cX8_isJobCarriedOut 30 = .ok (.aload_n 0, 1) := by decide +kernel
theorem dX8_isJobCarriedOut_31 : decode cX8_isJobCarriedOut 31 = .ok (.getfield 43, 3) := by decide +kernel
theorem dX8_isJobCarriedOut_34 : decode cX8_isJobCarriedOut 34 = .ok (.getfield 170, 3) := by decide +kernel
theorem dX8_isJobCarriedOut_37 : decode cX8_isJobCarriedOut 37 = .ok (.ifCond .eq 16, 3) := by decide +kernel
theorem dX8_isJobCarriedOut_40 : decode cX8_isJobCarriedOut 40 = .ok (.aload_n 0, 1) := by decide +kernel
theorem dX8_isJobCarriedOut_41 : decode cX8_isJobCarriedOut 41 = .ok (.getfield 57, 3) := by decide +kernel
theorem dX8_isJobCarriedOut_44 : decode cX8_isJobCarriedOut 44 = .ok (.invokevirtual 275, 3) := by decide +kernel
theorem dX8_isJobCarriedOut_47 : decode cX8_isJobCarriedOut 47 = .ok (.aload_n 0, 1) := by decide +kernel
theorem dX8_isJobCarriedOut_48 : decode cX8_isJobCarriedOut 48 = .ok (.invokevirtual 276, 3) := by decide +kernel
theorem dX8_isJobCarriedOut_51 : decode cX8_isJobCarriedOut 51 = .ok (.iconst 0, 1) := by decide +kernel
theorem dX8_isJobCarriedOut_52 : decode cX8_isJobCarriedOut 52 = .ok (.ireturn, 1) := by decide +kernel
theorem dX8_isJobCarriedOut_53 : decode cX8_isJobCarriedOut 53 = .ok (.aload_n 0, 1) := by decide +kernel
theorem dX8_isJobCarriedOut_54 : decode cX8_isJobCarriedOut 54 = .ok (.invokevirtual 121, 3) := by decide +kernel
theorem dX8_isJobCarriedOut_57 : decode cX8_isJobCarriedOut 57 = .ok (.aload_n 0, 1) := by decide +kernel
theorem dX8_isJobCarriedOut_58 : decode cX8_isJobCarriedOut 58 = .ok (.getfield 10, 3) := by decide +kernel
theorem dX8_isJobCarriedOut_61 : decode cX8_isJobCarriedOut 61 = .ok (.aload_n 0, 1) := by decide +kernel
theorem dX8_isJobCarriedOut_62 : decode cX8_isJobCarriedOut 62 = .ok (.getfield 50, 3) := by decide +kernel
theorem dX8_isJobCarriedOut_65 : decode cX8_isJobCarriedOut 65 = .ok (.invokevirtual 279, 3) := by decide +kernel
theorem dX8_isJobCarriedOut_68 : decode cX8_isJobCarriedOut 68 = .ok (.iconst 1, 1) := by decide +kernel
theorem dX8_isJobCarriedOut_69 : decode cX8_isJobCarriedOut 69 = .ok (.ireturn, 1) := by decide +kernel
def fX8_isJobCarriedOut (N : Nat) (Z : mZ) (a0 : Nat) (M : mM) : Option (Int32 × mM) := ck (okO Z a0 8) (bnd1 (Z.2.2.2 a0 5) (fun c2 => bnd1 (Z.2.2.2 a0 0) (fun c3 => ck (okO Z c2 6) (bnd2 (fX6_explore N Z c2 c3 M) (fun _ M5 => bnd1 (Z.2.2.2 a0 6) (fun c6 => bnd1 (Z.2.2.2 a0 7) (fun c7 => ck (okO Z c6 3) (bnd2 (fX3_examine N Z c6 c3 c2 c7 M5) (fun _ M9 => if (M9.1 c6 0) = 0 then bnd2 (fX8_keepChange N Z a0 M9) (fun _ M11 => ck (okO Z c3 4) (bnd2 (fX4_carryOut N Z c3 c7 M11) (fun _ M13 => some ((1 : Int32), M13)))) else bnd1 (Z.2.2.2 a0 8) (fun c14 => ck (okO Z c14 5) (bnd2 (fX5_clear N Z c14 M9) (fun _ M16 => bnd2 (fX8_addRefusal N Z a0 M16) (fun _ M17 => some ((0 : Int32), M17))))))))))))))
set_option maxHeartbeats 4000000 in
set_option maxRecDepth 100000 in
theorem ctX8_isJobCarriedOut {G : mG} {l : Launch} (hl : l.stackTraces = false) (N : Nat) (Z : mZ) {a0 : Nat} {M : mM} {r : Int32} {M' : mM} (h : fX8_isJobCarriedOut N Z a0 M = some (r, M')) : CT G l yX8_isJobCarriedOut (.code yX8_isJobCarriedOut cX8_isJobCarriedOut 1 (some .boolean)) rmX8_isJobCarriedOut [.ref a0] Z M (.inl (some (.int r))) Z M' := by
  unfold fX8_isJobCarriedOut at h
  refine CT.of hl (by decide) (Nat.le_of_ble_eq_true rfl) ?_
  intro p e s m args below meth c C hnm
  refine j_sub (L' := [(0, .ref a0)]) [0] rfl ?_
  refine j_aload_n C dX8_isJobCarriedOut_0 rfl 0 rfl ?_
  obtain ⟨ho1, h⟩ := ck_spec h
  obtain ⟨c2, hr2, h⟩ := bnd1_spec h
  refine j_getR C (cn := RX8) (T := TX8) (N := 11) (ci := 8) rfl iX8 ho1 5 (by decide) rfl fwRX8_36 dX8_isJobCarriedOut_1 hr2 ?_
  refine j_aload_n C dX8_isJobCarriedOut_4 rfl 0 rfl ?_
  obtain ⟨c3, hr3, h⟩ := bnd1_spec h
  refine j_getR C (cn := RX8) (T := TX8) (N := 11) (ci := 8) rfl iX8 ho1 0 (by decide) rfl fwRX8_10 dX8_isJobCarriedOut_5 hr3 ?_
  obtain ⟨ho4, h⟩ := ck_spec h
  obtain ⟨_, M5, hq5, h⟩ := bnd2_spec h
  refine j_run0 (c_V C (As := [.ref c3]) (rest := []) (ctX6_explore C.2.2.2.2.2.2.2.2.1 N Z hq5) kcRX8_163 oyX6_explore (ci := 6) (T := TX6) (N := 4) rfl (by decide) ho4 ⟨by decide, by decide⟩ ⟨by decide, by decide⟩ (Nat.le_of_ble_eq_true rfl) rfl dX8_isJobCarriedOut_8) ?_
  refine j_aload_n C dX8_isJobCarriedOut_11 rfl 0 rfl ?_
  obtain ⟨c6, hr6, h⟩ := bnd1_spec h
  refine j_getR C (cn := RX8) (T := TX8) (N := 11) (ci := 8) rfl iX8 ho1 6 (by decide) rfl fwRX8_43 dX8_isJobCarriedOut_12 hr6 ?_
  refine j_aload_n C dX8_isJobCarriedOut_15 rfl 0 rfl ?_
  refine j_getR C (cn := RX8) (T := TX8) (N := 11) (ci := 8) rfl iX8 ho1 0 (by decide) rfl fwRX8_10 dX8_isJobCarriedOut_16 hr3 ?_
  refine j_aload_n C dX8_isJobCarriedOut_19 rfl 0 rfl ?_
  refine j_getR C (cn := RX8) (T := TX8) (N := 11) (ci := 8) rfl iX8 ho1 5 (by decide) rfl fwRX8_36 dX8_isJobCarriedOut_20 hr2 ?_
  refine j_aload_n C dX8_isJobCarriedOut_23 rfl 0 rfl ?_
  obtain ⟨c7, hr7, h⟩ := bnd1_spec h
  refine j_getR C (cn := RX8) (T := TX8) (N := 11) (ci := 8) rfl iX8 ho1 7 (by decide) rfl fwRX8_50 dX8_isJobCarriedOut_24 hr7 ?_
  obtain ⟨ho8, h⟩ := ck_spec h
  obtain ⟨_, M9, hq9, h⟩ := bnd2_spec h
  refine j_run0 (c_V C (As := [.ref c3, .ref c2, .ref c7]) (rest := []) (ctX3_examine C.2.2.2.2.2.2.2.2.1 N Z hq9) kcRX8_166 oyX3_examine (ci := 3) (T := TX3) (N := 3) rfl (by decide) ho8 ⟨by decide, by decide⟩ ⟨by decide, by decide⟩ (Nat.le_of_ble_eq_true rfl) rfl dX8_isJobCarriedOut_27) ?_
  refine j_aload_n C dX8_isJobCarriedOut_30 rfl 0 rfl ?_
  refine j_getR C (cn := RX8) (T := TX8) (N := 11) (ci := 8) rfl iX8 ho1 6 (by decide) rfl fwRX8_43 dX8_isJobCarriedOut_31 hr6 ?_
  refine j_getI C (cn := RX3) (T := TX3) (N := 3) (ci := 3) rfl iX3 ho8 0 (by decide) rfl fwRX8_170 dX8_isJobCarriedOut_34 ?_
  refine j_if_eq C dX8_isJobCarriedOut_37 (tgt := 53) (by decide) (fun hc10 => ?_) (fun hc10 => ?_)
  · rw [if_pos hc10] at h
    refine j_aload_n C dX8_isJobCarriedOut_53 rfl 0 rfl ?_
    obtain ⟨_, M11, hq11, h⟩ := bnd2_spec h
    refine j_run0 (c_V C (As := []) (rest := []) (ctX8_keepChange C.2.2.2.2.2.2.2.2.1 N Z hq11) kcRX8_121 oyX8_keepChange (ci := 8) (T := TX8) (N := 11) rfl (by decide) ho1 ⟨by decide, by decide⟩ ⟨by decide, by decide⟩ (Nat.le_of_ble_eq_true rfl) rfl dX8_isJobCarriedOut_54) ?_
    refine j_aload_n C dX8_isJobCarriedOut_57 rfl 0 rfl ?_
    refine j_getR C (cn := RX8) (T := TX8) (N := 11) (ci := 8) rfl iX8 ho1 0 (by decide) rfl fwRX8_10 dX8_isJobCarriedOut_58 hr3 ?_
    refine j_aload_n C dX8_isJobCarriedOut_61 rfl 0 rfl ?_
    refine j_getR C (cn := RX8) (T := TX8) (N := 11) (ci := 8) rfl iX8 ho1 7 (by decide) rfl fwRX8_50 dX8_isJobCarriedOut_62 hr7 ?_
    obtain ⟨ho12, h⟩ := ck_spec h
    obtain ⟨_, M13, hq13, h⟩ := bnd2_spec h
    refine j_run0 (c_V C (As := [.ref c7]) (rest := []) (ctX4_carryOut C.2.2.2.2.2.2.2.2.1 N Z hq13) kcRX8_279 oyX4_carryOut (ci := 4) (T := TX4) (N := 7) rfl (by decide) ho12 ⟨by decide, by decide⟩ ⟨by decide, by decide⟩ (Nat.le_of_ble_eq_true rfl) rfl dX8_isJobCarriedOut_65) ?_
    refine j_iconst C dX8_isJobCarriedOut_68 (v := (1 : Int32)) (by decide) ?_
    cases h
    exact j_zret C rfl (by decide) (by decide) (by decide) dX8_isJobCarriedOut_69
  · rw [if_neg hc10] at h
    refine j_aload_n C dX8_isJobCarriedOut_40 rfl 0 rfl ?_
    obtain ⟨c14, hr14, h⟩ := bnd1_spec h
    refine j_getR C (cn := RX8) (T := TX8) (N := 11) (ci := 8) rfl iX8 ho1 8 (by decide) rfl fwRX8_57 dX8_isJobCarriedOut_41 hr14 ?_
    obtain ⟨ho15, h⟩ := ck_spec h
    obtain ⟨_, M16, hq16, h⟩ := bnd2_spec h
    refine j_run0 (c_V C (As := []) (rest := []) (ctX5_clear C.2.2.2.2.2.2.2.2.1 N Z hq16) kcRX8_275 oyX5_clear (ci := 5) (T := TX5) (N := 3) rfl (by decide) ho15 ⟨by decide, by decide⟩ ⟨by decide, by decide⟩ (Nat.le_of_ble_eq_true rfl) rfl dX8_isJobCarriedOut_44) ?_
    refine j_aload_n C dX8_isJobCarriedOut_47 rfl 0 rfl ?_
    obtain ⟨_, M17, hq17, h⟩ := bnd2_spec h
    refine j_run0 (c_V C (As := []) (rest := []) (ctX8_addRefusal C.2.2.2.2.2.2.2.2.1 N Z hq17) kcRX8_276 oyX8_addRefusal (ci := 8) (T := TX8) (N := 11) rfl (by decide) ho1 ⟨by decide, by decide⟩ ⟨by decide, by decide⟩ (Nat.le_of_ble_eq_true rfl) rfl dX8_isJobCarriedOut_48) ?_
    refine j_iconst C dX8_isJobCarriedOut_51 (v := (0 : Int32)) (by decide) ?_
    cases h
    exact j_zret C rfl (by decide) (by decide) (by decide) dX8_isJobCarriedOut_52
-- ScaffoldPlanner erect
theorem kcRX8_130 : okV RX8 130 yX4_hasPlace (.code yX4_hasPlace cX4_hasPlace 2 (some .boolean)) = true := by decide +kernel
theorem oyX4_hasPlace : okY yX4_hasPlace 1 := ⟨by decide +kernel, by decide +kernel, by decide +kernel⟩
theorem kcRX8_134 : okV RX8 134 yX7_fill (.code yX7_fill cX7_fill 5 none) = true := by decide +kernel
theorem kcRX8_138 : okV RX8 138 yX8_isJobCarriedOut (.code yX8_isJobCarriedOut cX8_isJobCarriedOut 1 (some .boolean)) = true := by decide +kernel
theorem oyX8_isJobCarriedOut : okY yX8_isJobCarriedOut 0 := ⟨by decide +kernel, by decide +kernel, by decide +kernel⟩
theorem thRX8_141 : okT RX8 141 143 "java/lang/UnsupportedOperationException" ["java/lang/RuntimeException", "java/lang/Exception"] = true := by decide +kernel
theorem fwRX8_144 : Cond.fieldLink RX8 144 RX4 (TX4 2).2.1 (TX4 2).2.2.1 ∈ gw := by decide +kernel
abbrev rmX8_erect : Room := { frames := 6, cells := 1, slots := 6, locals := 136 }
theorem dX8_erect_0 : decode cX8_erect 0 = .ok (.aload_n 0, 1) := by decide +kernel
theorem dX8_erect_1 : decode cX8_erect 1 = .ok (.getfield 10, 3) := by decide +kernel
theorem dX8_erect_4 : decode cX8_erect 4 = .ok (.iload_n 1, 1) := by decide +kernel
theorem dX8_erect_5 : decode cX8_erect 5 = .ok (.invokevirtual 130, 3) := by decide +kernel
theorem dX8_erect_8 : decode cX8_erect 8 = .ok (.ifCond .ne 11, 3) := by decide +kernel
theorem dX8_erect_11 : decode cX8_erect 11 = .ok (.new 124, 3) := by decide +kernel
theorem dX8_erect_14 : decode cX8_erect 14 = .ok (.dup, 1) := by decide +kernel
theorem dX8_erect_15 : decode cX8_erect 15 = .ok (.invokespecial 126, 3) := by decide +kernel
theorem dX8_erect_18 : decode cX8_erect 18 = .ok (.athrow, 1) := by decide +kernel
theorem dX8_erect_19 : decode cX8_erect 19 = .ok (.aload_n 0, 1) := by decide +kernel
theorem dX8_erect_20 : decode cX8_erect 20 = .ok (.getfield 50, 3) := by decide +kernel
theorem dX8_erect_23 : decode cX8_erect 23 = .ok (.iconst 0, 1) := by decide +kernel
theorem dX8_erect_24 : decode cX8_erect 24 = .ok (.iload_n 1, 1) := by decide +kernel
theorem dX8_erect_25 : decode cX8_erect 25 = .ok (.iconst 0, 1) := by decide +kernel
theorem dX8_erect_26 : decode cX8_erect 26 = .ok (.iconst 0, 1) := by decide +kernel
theorem dX8_erect_27 : decode cX8_erect 27 = .ok (.invokevirtual 134, 3) := by decide +kernel
theorem dX8_erect_30 : decode cX8_erect 30 = .ok (.aload_n 0, 1) := by decide +kernel
theorem dX8_erect_31 : decode cX8_erect 31 = .ok (.invokevirtual 138, 3) := by decide +kernel
theorem dX8_erect_34 : decode cX8_erect 34 = .ok (.ifCond .ne 11, 3) := by decide +kernel
theorem dX8_erect_37 : decode cX8_erect 37 = .ok (.new 141, 3) := by decide +kernel
theorem dX8_erect_40 : decode cX8_erect 40 = .ok (.dup, 1) := by decide +kernel
theorem dX8_erect_41 : decode cX8_erect 41 = .ok (.invokespecial 143, 3) := by decide +kernel
theorem dX8_erect_44 : decode cX8_erect 44 = .ok (.athrow, 1) := by decide +kernel
theorem dX8_erect_45 : decode cX8_erect 45 = .ok (.aload_n 0, 1) := by decide +kernel
theorem dX8_erect_46 : decode cX8_erect 46 = .ok (.getfield 10, 3) := by decide +kernel
theorem dX8_erect_49 : decode cX8_erect 49 = .ok (.getfield 144, 3) := by decide +kernel
theorem dX8_erect_52 : decode cX8_erect 52 = .ok (.iload_n 1, 1) := by decide +kernel
theorem dX8_erect_53 : decode cX8_erect 53 = .ok (.invokestatic 96, 3) := by decide +kernel
theorem dX8_erect_56 : decode cX8_erect 56 = .ok (.ireturn, 1) := by decide +kernel
def fX8_erect (N : Nat) (Z : mZ) (a0 : Nat) (a1 : Int32) (M : mM) : Option ((Int32 ⊕ String) × mM) := ck (okO Z a0 8) (bnd1 (Z.2.2.2 a0 0) (fun c2 => ck (okO Z c2 4) (bnd2 (fX4_hasPlace N Z c2 a1 M) (fun r4 M4 => if r4 = 0 then some (.inr "java/lang/IndexOutOfBoundsException", sT M4) else bnd1 (Z.2.2.2 a0 7) (fun c6 => ck (okO Z c6 7) (bnd2 (fX7_fill N Z c6 (0 : Int32) a1 (0 : Int32) (0 : Int32) M4) (fun _ M8 => bnd2 (fX8_isJobCarriedOut N Z a0 M8) (fun r9 M9 => if r9 = 0 then some (.inr "java/lang/UnsupportedOperationException", sT M9) else bnd1 (Z.2.2.2 c2 2) (fun c11 => bnd2 (fX8_at N Z c11 a1 M9) (fun r12 M12 => some (.inl r12, M12)))))))))))
set_option maxHeartbeats 4000000 in
set_option maxRecDepth 100000 in
theorem ctX8_erect {G : mG} {l : Launch} (hl : l.stackTraces = false) (N : Nat) (Z : mZ) {a0 : Nat} {a1 : Int32} {M : mM} {r : (Int32 ⊕ String)} {M' : mM} (h : fX8_erect N Z a0 a1 M = some (r, M')) : CT G l yX8_erect (.code yX8_erect cX8_erect 2 (some .int)) rmX8_erect [.ref a0, .int a1] Z M (oI r) Z M' := by
  unfold fX8_erect at h
  refine CT.of hl (by decide) (Nat.le_of_ble_eq_true rfl) ?_
  intro p e s m args below meth c C hnm
  refine j_sub (L' := [(0, .ref a0), (1, .int a1)]) [0, 1] rfl ?_
  refine j_aload_n C dX8_erect_0 rfl 0 rfl ?_
  obtain ⟨ho1, h⟩ := ck_spec h
  obtain ⟨c2, hr2, h⟩ := bnd1_spec h
  refine j_getR C (cn := RX8) (T := TX8) (N := 11) (ci := 8) rfl iX8 ho1 0 (by decide) rfl fwRX8_10 dX8_erect_1 hr2 ?_
  refine j_iload_n C dX8_erect_4 rfl 1 rfl ?_
  obtain ⟨ho3, h⟩ := ck_spec h
  obtain ⟨r4, M4, hq4, h⟩ := bnd2_spec h
  refine j_run1 (c_V C (As := [.int a1]) (rest := []) (ctX4_hasPlace C.2.2.2.2.2.2.2.2.1 N Z hq4) kcRX8_130 oyX4_hasPlace (ci := 4) (T := TX4) (N := 7) rfl (by decide) ho3 ⟨by decide, by decide⟩ ⟨by decide, by decide⟩ (Nat.le_of_ble_eq_true rfl) rfl dX8_erect_5) ?_
  refine j_if_ne C dX8_erect_8 (tgt := 19) (by decide) (fun hc5 => ?_) (fun hc5 => ?_)
  · rw [if_neg hc5] at h
    refine j_aload_n C dX8_erect_19 rfl 0 rfl ?_
    obtain ⟨c6, hr6, h⟩ := bnd1_spec h
    refine j_getR C (cn := RX8) (T := TX8) (N := 11) (ci := 8) rfl iX8 ho1 7 (by decide) rfl fwRX8_50 dX8_erect_20 hr6 ?_
    refine j_iconst C dX8_erect_23 (v := (0 : Int32)) (by decide) ?_
    refine j_iload_n C dX8_erect_24 rfl 1 rfl ?_
    refine j_iconst C dX8_erect_25 (v := (0 : Int32)) (by decide) ?_
    refine j_iconst C dX8_erect_26 (v := (0 : Int32)) (by decide) ?_
    obtain ⟨ho7, h⟩ := ck_spec h
    obtain ⟨_, M8, hq8, h⟩ := bnd2_spec h
    refine j_run0 (c_V C (As := [.int (0 : Int32), .int a1, .int (0 : Int32), .int (0 : Int32)]) (rest := []) (ctX7_fill C.2.2.2.2.2.2.2.2.1 N Z hq8) kcRX8_134 oyX7_fill (ci := 7) (T := TX7) (N := 5) rfl (by decide) ho7 ⟨by decide, by decide⟩ ⟨by decide, by decide⟩ (Nat.le_of_ble_eq_true rfl) rfl dX8_erect_27) ?_
    refine j_aload_n C dX8_erect_30 rfl 0 rfl ?_
    obtain ⟨r9, M9, hq9, h⟩ := bnd2_spec h
    refine j_run1 (c_V C (As := []) (rest := []) (ctX8_isJobCarriedOut C.2.2.2.2.2.2.2.2.1 N Z hq9) kcRX8_138 oyX8_isJobCarriedOut (ci := 8) (T := TX8) (N := 11) rfl (by decide) ho1 ⟨by decide, by decide⟩ ⟨by decide, by decide⟩ (Nat.le_of_ble_eq_true rfl) rfl dX8_erect_31) ?_
    refine j_if_ne C dX8_erect_34 (tgt := 45) (by decide) (fun hc10 => ?_) (fun hc10 => ?_)
    · rw [if_neg hc10] at h
      refine j_aload_n C dX8_erect_45 rfl 0 rfl ?_
      refine j_getR C (cn := RX8) (T := TX8) (N := 11) (ci := 8) rfl iX8 ho1 0 (by decide) rfl fwRX8_10 dX8_erect_46 hr2 ?_
      obtain ⟨c11, hr11, h⟩ := bnd1_spec h
      refine j_getR C (cn := RX4) (T := TX4) (N := 7) (ci := 4) rfl iX4 ho3 2 (by decide) rfl fwRX8_144 dX8_erect_49 hr11 ?_
      refine j_iload_n C dX8_erect_52 rfl 1 rfl ?_
      obtain ⟨r12, M12, hq12, h⟩ := bnd2_spec h
      refine j_run1 (c_S C (As := [.ref c11, .int a1]) (rest := []) (ctX8_at C.2.2.2.2.2.2.2.2.1 N Z hq12) kcRX8_96 oyX8_at ⟨by decide, by decide⟩ ⟨by decide, by decide⟩ (Nat.le_of_ble_eq_true rfl) rfl dX8_erect_53) ?_
      cases h
      exact j_iret C rfl (by decide) (by decide) dX8_erect_56
    · rw [if_pos hc10] at h
      cases h
      exact j_throw C (rm := rmX8_erect) thRX8_141 (by decide) (Nat.le_of_ble_eq_true rfl) ⟨by decide, by decide⟩ (by decide) (by decide) dX8_erect_37 dX8_erect_40 dX8_erect_41 dX8_erect_44
  · rw [if_pos hc5] at h
    cases h
    exact j_throw C (rm := rmX8_erect) thRX8_124 (by decide) (Nat.le_of_ble_eq_true rfl) ⟨by decide, by decide⟩ (by decide) (by decide) dX8_erect_11 dX8_erect_14 dX8_erect_15 dX8_erect_18
-- ScaffoldPlanner lower
abbrev rmX8_lower : Room := { frames := 6, cells := 1, slots := 6, locals := 136 }
theorem dX8_lower_0 : decode cX8_lower 0 = .ok (.aload_n 0, 1) := by decide +kernel
theorem dX8_lower_1 : decode cX8_lower 1 = .ok (.getfield 10, 3) := by decide +kernel
theorem dX8_lower_4 : decode cX8_lower 4 = .ok (.iload_n 1, 1) := by decide +kernel
theorem dX8_lower_5 : decode cX8_lower 5 = .ok (.invokevirtual 130, 3) := by decide +kernel
theorem dX8_lower_8 : decode cX8_lower 8 = .ok (.ifCond .ne 11, 3) := by decide +kernel
theorem dX8_lower_11 : decode cX8_lower 11 = .ok (.new 124, 3) := by decide +kernel
theorem dX8_lower_14 : decode cX8_lower 14 = .ok (.dup, 1) := by decide +kernel
theorem dX8_lower_15 : decode cX8_lower 15 = .ok (.invokespecial 126, 3) := by decide +kernel
theorem dX8_lower_18 : decode cX8_lower 18 = .ok (.athrow, 1) := by decide +kernel
theorem dX8_lower_19 : decode cX8_lower 19 = .ok (.aload_n 0, 1) := by decide +kernel
theorem dX8_lower_20 : decode cX8_lower 20 = .ok (.getfield 50, 3) := by decide +kernel
theorem dX8_lower_23 : decode cX8_lower 23 = .ok (.iconst 0, 1) := by decide +kernel
theorem dX8_lower_24 : decode cX8_lower 24 = .ok (.iload_n 1, 1) := by decide +kernel
theorem dX8_lower_25 : decode cX8_lower 25 = .ok (.iconst 0, 1) := by decide +kernel
theorem dX8_lower_26 : decode cX8_lower 26 = .ok (.iconst 1, 1) := by decide +kernel
theorem dX8_lower_27 : decode cX8_lower 27 = .ok (.invokevirtual 134, 3) := by decide +kernel
theorem dX8_lower_30 : decode cX8_lower 30 = .ok (.aload_n 0, 1) := by decide +kernel
theorem dX8_lower_31 : decode cX8_lower 31 = .ok (.invokevirtual 138, 3) := by decide +kernel
theorem dX8_lower_34 : decode cX8_lower 34 = .ok (.ifCond .ne 11, 3) := by decide +kernel
theorem dX8_lower_37 : decode cX8_lower 37 = .ok (.new 141, 3) := by decide +kernel
theorem dX8_lower_40 : decode cX8_lower 40 = .ok (.dup, 1) := by decide +kernel
theorem dX8_lower_41 : decode cX8_lower 41 = .ok (.invokespecial 143, 3) := by decide +kernel
theorem dX8_lower_44 : decode cX8_lower 44 = .ok (.athrow, 1) := by decide +kernel
theorem dX8_lower_45 : decode cX8_lower 45 = .ok (.aload_n 0, 1) := by decide +kernel
theorem dX8_lower_46 : decode cX8_lower 46 = .ok (.getfield 10, 3) := by decide +kernel
theorem dX8_lower_49 : decode cX8_lower 49 = .ok (.getfield 144, 3) := by decide +kernel
theorem dX8_lower_52 : decode cX8_lower 52 = .ok (.iload_n 1, 1) := by decide +kernel
theorem dX8_lower_53 : decode cX8_lower 53 = .ok (.invokestatic 96, 3) := by decide +kernel
theorem dX8_lower_56 : decode cX8_lower 56 = .ok (.ireturn, 1) := by decide +kernel
def fX8_lower (N : Nat) (Z : mZ) (a0 : Nat) (a1 : Int32) (M : mM) : Option ((Int32 ⊕ String) × mM) := ck (okO Z a0 8) (bnd1 (Z.2.2.2 a0 0) (fun c2 => ck (okO Z c2 4) (bnd2 (fX4_hasPlace N Z c2 a1 M) (fun r4 M4 => if r4 = 0 then some (.inr "java/lang/IndexOutOfBoundsException", sT M4) else bnd1 (Z.2.2.2 a0 7) (fun c6 => ck (okO Z c6 7) (bnd2 (fX7_fill N Z c6 (0 : Int32) a1 (0 : Int32) (1 : Int32) M4) (fun _ M8 => bnd2 (fX8_isJobCarriedOut N Z a0 M8) (fun r9 M9 => if r9 = 0 then some (.inr "java/lang/UnsupportedOperationException", sT M9) else bnd1 (Z.2.2.2 c2 2) (fun c11 => bnd2 (fX8_at N Z c11 a1 M9) (fun r12 M12 => some (.inl r12, M12)))))))))))
set_option maxHeartbeats 4000000 in
set_option maxRecDepth 100000 in
theorem ctX8_lower {G : mG} {l : Launch} (hl : l.stackTraces = false) (N : Nat) (Z : mZ) {a0 : Nat} {a1 : Int32} {M : mM} {r : (Int32 ⊕ String)} {M' : mM} (h : fX8_lower N Z a0 a1 M = some (r, M')) : CT G l yX8_lower (.code yX8_lower cX8_lower 2 (some .int)) rmX8_lower [.ref a0, .int a1] Z M (oI r) Z M' := by
  unfold fX8_lower at h
  refine CT.of hl (by decide) (Nat.le_of_ble_eq_true rfl) ?_
  intro p e s m args below meth c C hnm
  refine j_sub (L' := [(0, .ref a0), (1, .int a1)]) [0, 1] rfl ?_
  refine j_aload_n C dX8_lower_0 rfl 0 rfl ?_
  obtain ⟨ho1, h⟩ := ck_spec h
  obtain ⟨c2, hr2, h⟩ := bnd1_spec h
  refine j_getR C (cn := RX8) (T := TX8) (N := 11) (ci := 8) rfl iX8 ho1 0 (by decide) rfl fwRX8_10 dX8_lower_1 hr2 ?_
  refine j_iload_n C dX8_lower_4 rfl 1 rfl ?_
  obtain ⟨ho3, h⟩ := ck_spec h
  obtain ⟨r4, M4, hq4, h⟩ := bnd2_spec h
  refine j_run1 (c_V C (As := [.int a1]) (rest := []) (ctX4_hasPlace C.2.2.2.2.2.2.2.2.1 N Z hq4) kcRX8_130 oyX4_hasPlace (ci := 4) (T := TX4) (N := 7) rfl (by decide) ho3 ⟨by decide, by decide⟩ ⟨by decide, by decide⟩ (Nat.le_of_ble_eq_true rfl) rfl dX8_lower_5) ?_
  refine j_if_ne C dX8_lower_8 (tgt := 19) (by decide) (fun hc5 => ?_) (fun hc5 => ?_)
  · rw [if_neg hc5] at h
    refine j_aload_n C dX8_lower_19 rfl 0 rfl ?_
    obtain ⟨c6, hr6, h⟩ := bnd1_spec h
    refine j_getR C (cn := RX8) (T := TX8) (N := 11) (ci := 8) rfl iX8 ho1 7 (by decide) rfl fwRX8_50 dX8_lower_20 hr6 ?_
    refine j_iconst C dX8_lower_23 (v := (0 : Int32)) (by decide) ?_
    refine j_iload_n C dX8_lower_24 rfl 1 rfl ?_
    refine j_iconst C dX8_lower_25 (v := (0 : Int32)) (by decide) ?_
    refine j_iconst C dX8_lower_26 (v := (1 : Int32)) (by decide) ?_
    obtain ⟨ho7, h⟩ := ck_spec h
    obtain ⟨_, M8, hq8, h⟩ := bnd2_spec h
    refine j_run0 (c_V C (As := [.int (0 : Int32), .int a1, .int (0 : Int32), .int (1 : Int32)]) (rest := []) (ctX7_fill C.2.2.2.2.2.2.2.2.1 N Z hq8) kcRX8_134 oyX7_fill (ci := 7) (T := TX7) (N := 5) rfl (by decide) ho7 ⟨by decide, by decide⟩ ⟨by decide, by decide⟩ (Nat.le_of_ble_eq_true rfl) rfl dX8_lower_27) ?_
    refine j_aload_n C dX8_lower_30 rfl 0 rfl ?_
    obtain ⟨r9, M9, hq9, h⟩ := bnd2_spec h
    refine j_run1 (c_V C (As := []) (rest := []) (ctX8_isJobCarriedOut C.2.2.2.2.2.2.2.2.1 N Z hq9) kcRX8_138 oyX8_isJobCarriedOut (ci := 8) (T := TX8) (N := 11) rfl (by decide) ho1 ⟨by decide, by decide⟩ ⟨by decide, by decide⟩ (Nat.le_of_ble_eq_true rfl) rfl dX8_lower_31) ?_
    refine j_if_ne C dX8_lower_34 (tgt := 45) (by decide) (fun hc10 => ?_) (fun hc10 => ?_)
    · rw [if_neg hc10] at h
      refine j_aload_n C dX8_lower_45 rfl 0 rfl ?_
      refine j_getR C (cn := RX8) (T := TX8) (N := 11) (ci := 8) rfl iX8 ho1 0 (by decide) rfl fwRX8_10 dX8_lower_46 hr2 ?_
      obtain ⟨c11, hr11, h⟩ := bnd1_spec h
      refine j_getR C (cn := RX4) (T := TX4) (N := 7) (ci := 4) rfl iX4 ho3 2 (by decide) rfl fwRX8_144 dX8_lower_49 hr11 ?_
      refine j_iload_n C dX8_lower_52 rfl 1 rfl ?_
      obtain ⟨r12, M12, hq12, h⟩ := bnd2_spec h
      refine j_run1 (c_S C (As := [.ref c11, .int a1]) (rest := []) (ctX8_at C.2.2.2.2.2.2.2.2.1 N Z hq12) kcRX8_96 oyX8_at ⟨by decide, by decide⟩ ⟨by decide, by decide⟩ (Nat.le_of_ble_eq_true rfl) rfl dX8_lower_53) ?_
      cases h
      exact j_iret C rfl (by decide) (by decide) dX8_lower_56
    · rw [if_pos hc10] at h
      cases h
      exact j_throw C (rm := rmX8_lower) thRX8_141 (by decide) (Nat.le_of_ble_eq_true rfl) ⟨by decide, by decide⟩ (by decide) (by decide) dX8_lower_37 dX8_lower_40 dX8_lower_41 dX8_lower_44
  · rw [if_pos hc5] at h
    cases h
    exact j_throw C (rm := rmX8_lower) thRX8_124 (by decide) (Nat.le_of_ble_eq_true rfl) ⟨by decide, by decide⟩ (by decide) (by decide) dX8_lower_11 dX8_lower_14 dX8_lower_15 dX8_lower_18
-- ScaffoldPlanner deck
theorem fwRX8_147 : Cond.fieldLink RX8 147 RX7 (TX7 3).2.1 (TX7 3).2.2.1 ∈ gw := by decide +kernel
theorem kcRX8_150 : okV RX8 150 yX4_levelsWith (.code yX4_levelsWith cX4_levelsWith 4 (some .int)) = true := by decide +kernel
theorem kcRX8_154 : okS RX8 154 yJ6_bitCount_0f7a4 (.code yJ6_bitCount_0f7a4 cJ6_bitCount_0f7a4 1 (some .int)) = true := by decide +kernel
abbrev rmX8_deck : Room := { frames := 6, cells := 1, slots := 6, locals := 136 }
theorem dX8_deck_0 : decode cX8_deck 0 = .ok (.aload_n 0, 1) := by decide +kernel
theorem dX8_deck_1 : decode cX8_deck 1 = .ok (.getfield 10, 3) := by decide +kernel
theorem dX8_deck_4 : decode cX8_deck 4 = .ok (.iload_n 1, 1) := by decide +kernel
theorem dX8_deck_5 : decode cX8_deck 5 = .ok (.invokevirtual 130, 3) := by decide +kernel
theorem dX8_deck_8 : decode cX8_deck 8 = .ok (.ifCond .ne 11, 3) := by decide +kernel
theorem dX8_deck_11 : decode cX8_deck 11 = .ok (.new 124, 3) := by decide +kernel
theorem dX8_deck_14 : decode cX8_deck 14 = .ok (.dup, 1) := by decide +kernel
theorem dX8_deck_15 : decode cX8_deck 15 = .ok (.invokespecial 126, 3) := by decide +kernel
theorem dX8_deck_18 : decode cX8_deck 18 = .ok (.athrow, 1) := by decide +kernel
theorem dX8_deck_19 : decode cX8_deck 19 = .ok (.iload_n 3, 1) := by decide +kernel
theorem dX8_deck_20 : decode cX8_deck 20 = .ok (.iconst 1, 1) := by decide +kernel
theorem dX8_deck_21 : decode cX8_deck 21 = .ok (.if_icmp .lt 8, 3) := by decide +kernel
theorem dX8_deck_24 : decode cX8_deck 24 = .ok (.iload_n 3, 1) := by decide +kernel
theorem dX8_deck_25 : decode cX8_deck 25 = .ok (.iconst 4, 1) := by decide +kernel
theorem dX8_deck_26 : decode cX8_deck 26 = .ok (.if_icmp .le 11, 3) := by decide +kernel
theorem dX8_deck_29 : decode cX8_deck 29 = .ok (.new 75, 3) := by decide +kernel
theorem dX8_deck_32 : decode cX8_deck 32 = .ok (.dup, 1) := by decide +kernel
theorem dX8_deck_33 : decode cX8_deck 33 = .ok (.invokespecial 77, 3) := by decide +kernel
theorem dX8_deck_36 : decode cX8_deck 36 = .ok (.athrow, 1) := by decide +kernel
theorem dX8_deck_37 : decode cX8_deck 37 = .ok (.aload_n 0, 1) := by decide +kernel
theorem dX8_deck_38 : decode cX8_deck 38 = .ok (.getfield 50, 3) := by decide +kernel
theorem dX8_deck_41 : decode cX8_deck 41 = .ok (.iconst 2, 1) := by decide +kernel
theorem dX8_deck_42 : decode cX8_deck 42 = .ok (.iload_n 1, 1) := by decide +kernel
theorem dX8_deck_43 : decode cX8_deck 43 = .ok (.iload_n 2, 1) := by decide +kernel
theorem dX8_deck_44 : decode cX8_deck 44 = .ok (.iconst 0, 1) := by decide +kernel
theorem dX8_deck_45 : decode cX8_deck 45 = .ok (.invokevirtual 134, 3) := by decide +kernel
theorem dX8_deck_48 : decode cX8_deck 48 = .ok (.aload_n 0, 1) := by decide +kernel
theorem dX8_deck_49 : decode cX8_deck 49 = .ok (.getfield 50, 3) := by decide +kernel
theorem dX8_deck_52 : decode cX8_deck 52 = .ok (.iload_n 3, 1) := by decide +kernel
theorem dX8_deck_53 : decode cX8_deck 53 = .ok (.putfield 147, 3) := by decide +kernel
theorem dX8_deck_56 : decode cX8_deck 56 = .ok (.aload_n 0, 1) := by decide +kernel
theorem dX8_deck_57 : decode cX8_deck 57 = .ok (.invokevirtual 138, 3) := by decide +kernel
theorem dX8_deck_60 : decode cX8_deck 60 = .ok (.ifCond .ne 11, 3) := by decide +kernel
theorem dX8_deck_63 : decode cX8_deck 63 = .ok (.new 141, 3) := by decide +kernel
theorem dX8_deck_66 : decode cX8_deck 66 = .ok (.dup, 1) := by decide +kernel
theorem dX8_deck_67 : decode cX8_deck 67 = .ok (.invokespecial 143, 3) := by decide +kernel
theorem dX8_deck_70 : decode cX8_deck 70 = .ok (.athrow, 1) := by decide +kernel
theorem dX8_deck_71 : decode cX8_deck 71 = .ok (.aload_n 0, 1) := by decide +kernel
theorem dX8_deck_72 : decode cX8_deck 72 = .ok (.getfield 10, 3) := by decide +kernel
theorem dX8_deck_75 : decode cX8_deck 75 = .ok (.iconst 2, 1) := by decide +kernel
theorem dX8_deck_76 : decode cX8_deck 76 = .ok (.iload_n 1, 1) := by decide +kernel
theorem dX8_deck_77 : decode cX8_deck 77 = .ok (.invokevirtual 150, 3) := by decide +kernel
theorem dX8_deck_80 : decode cX8_deck 80 = .ok (.invokestatic 154, 3) := by decide +kernel
theorem dX8_deck_83 : decode cX8_deck 83 = .ok (.ireturn, 1) := by decide +kernel
def fX8_deck (N : Nat) (Z : mZ) (a0 : Nat) (a1 : Int32) (a2 : Int32) (a3 : Int32) (M : mM) : Option ((Int32 ⊕ String) × mM) := ck (okO Z a0 8) (bnd1 (Z.2.2.2 a0 0) (fun c2 => ck (okO Z c2 4) (bnd2 (fX4_hasPlace N Z c2 a1 M) (fun r4 M4 => if r4 = 0 then some (.inr "java/lang/IndexOutOfBoundsException", sT M4) else if a3 < (1 : Int32) then some (.inr "java/lang/IllegalArgumentException", sT M4) else if a3 ≤ (4 : Int32) then bnd1 (Z.2.2.2 a0 7) (fun c8 => ck (okO Z c8 7) (bnd2 (fX7_fill N Z c8 (2 : Int32) a1 a2 (0 : Int32) M4) (fun _ M10 => bnd2 (fX8_isJobCarriedOut N Z a0 (sI M10 c8 3 a3)) (fun r11 M11 => if r11 = 0 then some (.inr "java/lang/UnsupportedOperationException", sT M11) else bnd2 (fX4_levelsWith N Z c2 (2 : Int32) a1 M11) (fun r13 M13 => bnd2 (fJ6_bitCount_0f7a4 N Z r13 M13) (fun r14 M14 => some (.inl r14, M14))))))) else some (.inr "java/lang/IllegalArgumentException", sT M4)))))
set_option maxHeartbeats 4000000 in
set_option maxRecDepth 100000 in
theorem ctX8_deck {G : mG} {l : Launch} (hl : l.stackTraces = false) (N : Nat) (Z : mZ) {a0 : Nat} {a1 : Int32} {a2 : Int32} {a3 : Int32} {M : mM} {r : (Int32 ⊕ String)} {M' : mM} (h : fX8_deck N Z a0 a1 a2 a3 M = some (r, M')) : CT G l yX8_deck (.code yX8_deck cX8_deck 4 (some .int)) rmX8_deck [.ref a0, .int a1, .int a2, .int a3] Z M (oI r) Z M' := by
  unfold fX8_deck at h
  refine CT.of hl (by decide) (Nat.le_of_ble_eq_true rfl) ?_
  intro p e s m args below meth c C hnm
  refine j_sub (L' := [(0, .ref a0), (1, .int a1), (2, .int a2), (3, .int a3)]) [0, 1, 2, 3] rfl ?_
  refine j_aload_n C dX8_deck_0 rfl 0 rfl ?_
  obtain ⟨ho1, h⟩ := ck_spec h
  obtain ⟨c2, hr2, h⟩ := bnd1_spec h
  refine j_getR C (cn := RX8) (T := TX8) (N := 11) (ci := 8) rfl iX8 ho1 0 (by decide) rfl fwRX8_10 dX8_deck_1 hr2 ?_
  refine j_iload_n C dX8_deck_4 rfl 1 rfl ?_
  obtain ⟨ho3, h⟩ := ck_spec h
  obtain ⟨r4, M4, hq4, h⟩ := bnd2_spec h
  refine j_run1 (c_V C (As := [.int a1]) (rest := []) (ctX4_hasPlace C.2.2.2.2.2.2.2.2.1 N Z hq4) kcRX8_130 oyX4_hasPlace (ci := 4) (T := TX4) (N := 7) rfl (by decide) ho3 ⟨by decide, by decide⟩ ⟨by decide, by decide⟩ (Nat.le_of_ble_eq_true rfl) rfl dX8_deck_5) ?_
  refine j_if_ne C dX8_deck_8 (tgt := 19) (by decide) (fun hc5 => ?_) (fun hc5 => ?_)
  · rw [if_neg hc5] at h
    refine j_iload_n C dX8_deck_19 rfl 3 rfl ?_
    refine j_iconst C dX8_deck_20 (v := (1 : Int32)) (by decide) ?_
    refine j_icmp_lt C dX8_deck_21 (tgt := 29) (by decide) (fun hc6 => ?_) (fun hc6 => ?_)
    · rw [if_pos hc6] at h
      cases h
      exact j_throw C (rm := rmX8_deck) thRX8_75 (by decide) (Nat.le_of_ble_eq_true rfl) ⟨by decide, by decide⟩ (by decide) (by decide) dX8_deck_29 dX8_deck_32 dX8_deck_33 dX8_deck_36
    · rw [if_neg hc6] at h
      refine j_iload_n C dX8_deck_24 rfl 3 rfl ?_
      refine j_iconst C dX8_deck_25 (v := (4 : Int32)) (by decide) ?_
      refine j_icmp_le C dX8_deck_26 (tgt := 37) (by decide) (fun hc7 => ?_) (fun hc7 => ?_)
      · rw [if_pos hc7] at h
        refine j_aload_n C dX8_deck_37 rfl 0 rfl ?_
        obtain ⟨c8, hr8, h⟩ := bnd1_spec h
        refine j_getR C (cn := RX8) (T := TX8) (N := 11) (ci := 8) rfl iX8 ho1 7 (by decide) rfl fwRX8_50 dX8_deck_38 hr8 ?_
        refine j_iconst C dX8_deck_41 (v := (2 : Int32)) (by decide) ?_
        refine j_iload_n C dX8_deck_42 rfl 1 rfl ?_
        refine j_iload_n C dX8_deck_43 rfl 2 rfl ?_
        refine j_iconst C dX8_deck_44 (v := (0 : Int32)) (by decide) ?_
        obtain ⟨ho9, h⟩ := ck_spec h
        obtain ⟨_, M10, hq10, h⟩ := bnd2_spec h
        refine j_run0 (c_V C (As := [.int (2 : Int32), .int a1, .int a2, .int (0 : Int32)]) (rest := []) (ctX7_fill C.2.2.2.2.2.2.2.2.1 N Z hq10) kcRX8_134 oyX7_fill (ci := 7) (T := TX7) (N := 5) rfl (by decide) ho9 ⟨by decide, by decide⟩ ⟨by decide, by decide⟩ (Nat.le_of_ble_eq_true rfl) rfl dX8_deck_45) ?_
        refine j_aload_n C dX8_deck_48 rfl 0 rfl ?_
        refine j_getR C (cn := RX8) (T := TX8) (N := 11) (ci := 8) rfl iX8 ho1 7 (by decide) rfl fwRX8_50 dX8_deck_49 hr8 ?_
        refine j_iload_n C dX8_deck_52 rfl 3 rfl ?_
        refine j_putI C tyX7 tyX7_ok nmX7 (cn := RX7) (T := TX7) (N := 5) (ci := 7) rfl iX7 ho9 3 (by decide) rfl fwRX8_147 ⟨rfl, rfl⟩ dX8_deck_53 ?_
        refine j_aload_n C dX8_deck_56 rfl 0 rfl ?_
        obtain ⟨r11, M11, hq11, h⟩ := bnd2_spec h
        refine j_run1 (c_V C (As := []) (rest := []) (ctX8_isJobCarriedOut C.2.2.2.2.2.2.2.2.1 N Z hq11) kcRX8_138 oyX8_isJobCarriedOut (ci := 8) (T := TX8) (N := 11) rfl (by decide) ho1 ⟨by decide, by decide⟩ ⟨by decide, by decide⟩ (Nat.le_of_ble_eq_true rfl) rfl dX8_deck_57) ?_
        refine j_if_ne C dX8_deck_60 (tgt := 71) (by decide) (fun hc12 => ?_) (fun hc12 => ?_)
        · rw [if_neg hc12] at h
          refine j_aload_n C dX8_deck_71 rfl 0 rfl ?_
          refine j_getR C (cn := RX8) (T := TX8) (N := 11) (ci := 8) rfl iX8 ho1 0 (by decide) rfl fwRX8_10 dX8_deck_72 hr2 ?_
          refine j_iconst C dX8_deck_75 (v := (2 : Int32)) (by decide) ?_
          refine j_iload_n C dX8_deck_76 rfl 1 rfl ?_
          obtain ⟨r13, M13, hq13, h⟩ := bnd2_spec h
          refine j_run1 (c_V C (As := [.int (2 : Int32), .int a1]) (rest := []) (ctX4_levelsWith C.2.2.2.2.2.2.2.2.1 N Z hq13) kcRX8_150 oyX4_levelsWith (ci := 4) (T := TX4) (N := 7) rfl (by decide) ho3 ⟨by decide, by decide⟩ ⟨by decide, by decide⟩ (Nat.le_of_ble_eq_true rfl) rfl dX8_deck_77) ?_
          obtain ⟨r14, M14, hq14, h⟩ := bnd2_spec h
          refine j_run1 (c_S C (As := [.int r13]) (rest := []) (ctJ6_bitCount_0f7a4 C.2.2.2.2.2.2.2.2.1 N Z hq14) kcRX8_154 oyJ6_bitCount_0f7a4 ⟨by decide, by decide⟩ ⟨by decide, by decide⟩ (Nat.le_of_ble_eq_true rfl) rfl dX8_deck_80) ?_
          cases h
          exact j_iret C rfl (by decide) (by decide) dX8_deck_83
        · rw [if_pos hc12] at h
          cases h
          exact j_throw C (rm := rmX8_deck) thRX8_141 (by decide) (Nat.le_of_ble_eq_true rfl) ⟨by decide, by decide⟩ (by decide) (by decide) dX8_deck_63 dX8_deck_66 dX8_deck_67 dX8_deck_70
      · rw [if_neg hc7] at h
        cases h
        exact j_throw C (rm := rmX8_deck) thRX8_75 (by decide) (Nat.le_of_ble_eq_true rfl) ⟨by decide, by decide⟩ (by decide) (by decide) dX8_deck_29 dX8_deck_32 dX8_deck_33 dX8_deck_36
  · rw [if_pos hc5] at h
    cases h
    exact j_throw C (rm := rmX8_deck) thRX8_124 (by decide) (Nat.le_of_ble_eq_true rfl) ⟨by decide, by decide⟩ (by decide) (by decide) dX8_deck_11 dX8_deck_14 dX8_deck_15 dX8_deck_18
-- ScaffoldPlanner put
theorem kcRX8_160 : okV RX8 160 yX4_piecesPlaced (.code yX4_piecesPlaced cX4_piecesPlaced 4 (some .int)) = true := by decide +kernel
abbrev rmX8_put : Room := { frames := 6, cells := 1, slots := 6, locals := 136 }
theorem dX8_put_0 : decode cX8_put 0 = .ok (.iload_n 1, 1) := by decide +kernel
theorem dX8_put_1 : decode cX8_put 1 = .ok (.iconst 3, 1) := by decide +kernel
theorem dX8_put_2 : decode cX8_put 2 = .ok (.if_icmp .lt 8, 3) := by decide +kernel
theorem dX8_put_5 : decode cX8_put 5 = .ok (.iload_n 1, 1) := by decide +kernel
theorem dX8_put_6 : decode cX8_put 6 = .ok (.iconst 5, 1) := by decide +kernel
theorem dX8_put_7 : decode cX8_put 7 = .ok (.if_icmp .le 11, 3) := by decide +kernel
theorem dX8_put_10 : decode cX8_put 10 = .ok (.new 75, 3) := by decide +kernel
theorem dX8_put_13 : decode cX8_put 13 = .ok (.dup, 1) := by decide +kernel
theorem dX8_put_14 : decode cX8_put 14 = .ok (.invokespecial 77, 3) := by decide +kernel
theorem dX8_put_17 : decode cX8_put 17 = .ok (.athrow, 1) := by decide +kernel
theorem dX8_put_18 : decode cX8_put 18 = .ok (.aload_n 0, 1) := by decide +kernel
theorem dX8_put_19 : decode cX8_put 19 = .ok (.getfield 10, 3) := by decide +kernel
theorem dX8_put_22 : decode cX8_put 22 = .ok (.iload_n 2, 1) := by decide +kernel
theorem dX8_put_23 : decode cX8_put 23 = .ok (.invokevirtual 130, 3) := by decide +kernel
theorem dX8_put_26 : decode cX8_put 26 = .ok (.ifCond .ne 11, 3) := by decide +kernel
theorem dX8_put_29 : decode cX8_put 29 = .ok (.new 124, 3) := by decide +kernel
theorem dX8_put_32 : decode cX8_put 32 = .ok (.dup, 1) := by decide +kernel
theorem dX8_put_33 : decode cX8_put 33 = .ok (.invokespecial 126, 3) := by decide +kernel
theorem dX8_put_36 : decode cX8_put 36 = .ok (.athrow, 1) := by decide +kernel
theorem dX8_put_37 : decode cX8_put 37 = .ok (.aload_n 0, 1) := by decide +kernel
theorem dX8_put_38 : decode cX8_put 38 = .ok (.getfield 50, 3) := by decide +kernel
theorem dX8_put_41 : decode cX8_put 41 = .ok (.iload_n 1, 1) := by decide +kernel
theorem dX8_put_42 : decode cX8_put 42 = .ok (.iload_n 2, 1) := by decide +kernel
theorem dX8_put_43 : decode cX8_put 43 = .ok (.iload_n 3, 1) := by decide +kernel
theorem dX8_put_44 : decode cX8_put 44 = .ok (.iconst 0, 1) := by decide +kernel
theorem dX8_put_45 : decode cX8_put 45 = .ok (.invokevirtual 134, 3) := by decide +kernel
theorem dX8_put_48 : decode cX8_put 48 = .ok (.aload_n 0, 1) := by decide +kernel
theorem dX8_put_49 : decode cX8_put 49 = .ok (.invokevirtual 138, 3) := by decide +kernel
theorem dX8_put_52 : decode cX8_put 52 = .ok (.ifCond .ne 11, 3) := by decide +kernel
theorem dX8_put_55 : decode cX8_put 55 = .ok (.new 141, 3) := by decide +kernel
theorem dX8_put_58 : decode cX8_put 58 = .ok (.dup, 1) := by decide +kernel
theorem dX8_put_59 : decode cX8_put 59 = .ok (.invokespecial 143, 3) := by decide +kernel
theorem dX8_put_62 : decode cX8_put 62 = .ok (.athrow, 1) := by decide +kernel
theorem dX8_put_63 : decode cX8_put 63 = .ok (.aload_n 0, 1) := by decide +kernel
theorem dX8_put_64 : decode cX8_put 64 = .ok (.getfield 10, 3) := by decide +kernel
theorem dX8_put_67 : decode cX8_put 67 = .ok (.iload_n 1, 1) := by decide +kernel
theorem dX8_put_68 : decode cX8_put 68 = .ok (.invokevirtual 160, 3) := by decide +kernel
theorem dX8_put_71 : decode cX8_put 71 = .ok (.ireturn, 1) := by decide +kernel
def fX8_put (N : Nat) (Z : mZ) (a0 : Nat) (a1 : Int32) (a2 : Int32) (a3 : Int32) (M : mM) : Option ((Int32 ⊕ String) × mM) := if a1 < (3 : Int32) then some (.inr "java/lang/IllegalArgumentException", sT M) else if a1 ≤ (5 : Int32) then ck (okO Z a0 8) (bnd1 (Z.2.2.2 a0 0) (fun c4 => ck (okO Z c4 4) (bnd2 (fX4_hasPlace N Z c4 a2 M) (fun r6 M6 => if r6 = 0 then some (.inr "java/lang/IndexOutOfBoundsException", sT M6) else bnd1 (Z.2.2.2 a0 7) (fun c8 => ck (okO Z c8 7) (bnd2 (fX7_fill N Z c8 a1 a2 a3 (0 : Int32) M6) (fun _ M10 => bnd2 (fX8_isJobCarriedOut N Z a0 M10) (fun r11 M11 => if r11 = 0 then some (.inr "java/lang/UnsupportedOperationException", sT M11) else bnd2 (fX4_piecesPlaced N Z c4 a1 M11) (fun r13 M13 => some (.inl r13, M13)))))))))) else some (.inr "java/lang/IllegalArgumentException", sT M)
set_option maxHeartbeats 4000000 in
set_option maxRecDepth 100000 in
theorem ctX8_put {G : mG} {l : Launch} (hl : l.stackTraces = false) (N : Nat) (Z : mZ) {a0 : Nat} {a1 : Int32} {a2 : Int32} {a3 : Int32} {M : mM} {r : (Int32 ⊕ String)} {M' : mM} (h : fX8_put N Z a0 a1 a2 a3 M = some (r, M')) : CT G l yX8_put (.code yX8_put cX8_put 4 (some .int)) rmX8_put [.ref a0, .int a1, .int a2, .int a3] Z M (oI r) Z M' := by
  unfold fX8_put at h
  refine CT.of hl (by decide) (Nat.le_of_ble_eq_true rfl) ?_
  intro p e s m args below meth c C hnm
  refine j_sub (L' := [(0, .ref a0), (1, .int a1), (2, .int a2), (3, .int a3)]) [0, 1, 2, 3] rfl ?_
  refine j_iload_n C dX8_put_0 rfl 1 rfl ?_
  refine j_iconst C dX8_put_1 (v := (3 : Int32)) (by decide) ?_
  refine j_icmp_lt C dX8_put_2 (tgt := 10) (by decide) (fun hc1 => ?_) (fun hc1 => ?_)
  · rw [if_pos hc1] at h
    cases h
    exact j_throw C (rm := rmX8_put) thRX8_75 (by decide) (Nat.le_of_ble_eq_true rfl) ⟨by decide, by decide⟩ (by decide) (by decide) dX8_put_10 dX8_put_13 dX8_put_14 dX8_put_17
  · rw [if_neg hc1] at h
    refine j_iload_n C dX8_put_5 rfl 1 rfl ?_
    refine j_iconst C dX8_put_6 (v := (5 : Int32)) (by decide) ?_
    refine j_icmp_le C dX8_put_7 (tgt := 18) (by decide) (fun hc2 => ?_) (fun hc2 => ?_)
    · rw [if_pos hc2] at h
      refine j_aload_n C dX8_put_18 rfl 0 rfl ?_
      obtain ⟨ho3, h⟩ := ck_spec h
      obtain ⟨c4, hr4, h⟩ := bnd1_spec h
      refine j_getR C (cn := RX8) (T := TX8) (N := 11) (ci := 8) rfl iX8 ho3 0 (by decide) rfl fwRX8_10 dX8_put_19 hr4 ?_
      refine j_iload_n C dX8_put_22 rfl 2 rfl ?_
      obtain ⟨ho5, h⟩ := ck_spec h
      obtain ⟨r6, M6, hq6, h⟩ := bnd2_spec h
      refine j_run1 (c_V C (As := [.int a2]) (rest := []) (ctX4_hasPlace C.2.2.2.2.2.2.2.2.1 N Z hq6) kcRX8_130 oyX4_hasPlace (ci := 4) (T := TX4) (N := 7) rfl (by decide) ho5 ⟨by decide, by decide⟩ ⟨by decide, by decide⟩ (Nat.le_of_ble_eq_true rfl) rfl dX8_put_23) ?_
      refine j_if_ne C dX8_put_26 (tgt := 37) (by decide) (fun hc7 => ?_) (fun hc7 => ?_)
      · rw [if_neg hc7] at h
        refine j_aload_n C dX8_put_37 rfl 0 rfl ?_
        obtain ⟨c8, hr8, h⟩ := bnd1_spec h
        refine j_getR C (cn := RX8) (T := TX8) (N := 11) (ci := 8) rfl iX8 ho3 7 (by decide) rfl fwRX8_50 dX8_put_38 hr8 ?_
        refine j_iload_n C dX8_put_41 rfl 1 rfl ?_
        refine j_iload_n C dX8_put_42 rfl 2 rfl ?_
        refine j_iload_n C dX8_put_43 rfl 3 rfl ?_
        refine j_iconst C dX8_put_44 (v := (0 : Int32)) (by decide) ?_
        obtain ⟨ho9, h⟩ := ck_spec h
        obtain ⟨_, M10, hq10, h⟩ := bnd2_spec h
        refine j_run0 (c_V C (As := [.int a1, .int a2, .int a3, .int (0 : Int32)]) (rest := []) (ctX7_fill C.2.2.2.2.2.2.2.2.1 N Z hq10) kcRX8_134 oyX7_fill (ci := 7) (T := TX7) (N := 5) rfl (by decide) ho9 ⟨by decide, by decide⟩ ⟨by decide, by decide⟩ (Nat.le_of_ble_eq_true rfl) rfl dX8_put_45) ?_
        refine j_aload_n C dX8_put_48 rfl 0 rfl ?_
        obtain ⟨r11, M11, hq11, h⟩ := bnd2_spec h
        refine j_run1 (c_V C (As := []) (rest := []) (ctX8_isJobCarriedOut C.2.2.2.2.2.2.2.2.1 N Z hq11) kcRX8_138 oyX8_isJobCarriedOut (ci := 8) (T := TX8) (N := 11) rfl (by decide) ho3 ⟨by decide, by decide⟩ ⟨by decide, by decide⟩ (Nat.le_of_ble_eq_true rfl) rfl dX8_put_49) ?_
        refine j_if_ne C dX8_put_52 (tgt := 63) (by decide) (fun hc12 => ?_) (fun hc12 => ?_)
        · rw [if_neg hc12] at h
          refine j_aload_n C dX8_put_63 rfl 0 rfl ?_
          refine j_getR C (cn := RX8) (T := TX8) (N := 11) (ci := 8) rfl iX8 ho3 0 (by decide) rfl fwRX8_10 dX8_put_64 hr4 ?_
          refine j_iload_n C dX8_put_67 rfl 1 rfl ?_
          obtain ⟨r13, M13, hq13, h⟩ := bnd2_spec h
          refine j_run1 (c_V C (As := [.int a1]) (rest := []) (ctX4_piecesPlaced C.2.2.2.2.2.2.2.2.1 N Z hq13) kcRX8_160 oyX4_piecesPlaced (ci := 4) (T := TX4) (N := 7) rfl (by decide) ho5 ⟨by decide, by decide⟩ ⟨by decide, by decide⟩ (Nat.le_of_ble_eq_true rfl) rfl dX8_put_68) ?_
          cases h
          exact j_iret C rfl (by decide) (by decide) dX8_put_71
        · rw [if_pos hc12] at h
          cases h
          exact j_throw C (rm := rmX8_put) thRX8_141 (by decide) (Nat.le_of_ble_eq_true rfl) ⟨by decide, by decide⟩ (by decide) (by decide) dX8_put_55 dX8_put_58 dX8_put_59 dX8_put_62
      · rw [if_pos hc7] at h
        cases h
        exact j_throw C (rm := rmX8_put) thRX8_124 (by decide) (Nat.le_of_ble_eq_true rfl) ⟨by decide, by decide⟩ (by decide) (by decide) dX8_put_29 dX8_put_32 dX8_put_33 dX8_put_36
    · rw [if_neg hc2] at h
      cases h
      exact j_throw C (rm := rmX8_put) thRX8_75 (by decide) (Nat.le_of_ble_eq_true rfl) ⟨by decide, by decide⟩ (by decide) (by decide) dX8_put_10 dX8_put_13 dX8_put_14 dX8_put_17
-- ScaffoldPlanner take
abbrev rmX8_take : Room := { frames := 6, cells := 1, slots := 6, locals := 136 }
theorem dX8_take_0 : decode cX8_take 0 = .ok (.iload_n 1, 1) := by decide +kernel
theorem dX8_take_1 : decode cX8_take 1 = .ok (.iconst 2, 1) := by decide +kernel
theorem dX8_take_2 : decode cX8_take 2 = .ok (.if_icmp .lt 8, 3) := by decide +kernel
theorem dX8_take_5 : decode cX8_take 5 = .ok (.iload_n 1, 1) := by decide +kernel
theorem dX8_take_6 : decode cX8_take 6 = .ok (.iconst 5, 1) := by decide +kernel
theorem dX8_take_7 : decode cX8_take 7 = .ok (.if_icmp .le 11, 3) := by decide +kernel
theorem dX8_take_10 : decode cX8_take 10 = .ok (.new 75, 3) := by decide +kernel
theorem dX8_take_13 : decode cX8_take 13 = .ok (.dup, 1) := by decide +kernel
theorem dX8_take_14 : decode cX8_take 14 = .ok (.invokespecial 77, 3) := by decide +kernel
theorem dX8_take_17 : decode cX8_take 17 = .ok (.athrow, 1) := by decide +kernel
theorem dX8_take_18 : decode cX8_take 18 = .ok (.aload_n 0, 1) := by decide +kernel
theorem dX8_take_19 : decode cX8_take 19 = .ok (.getfield 10, 3) := by decide +kernel
theorem dX8_take_22 : decode cX8_take 22 = .ok (.iload_n 2, 1) := by decide +kernel
theorem dX8_take_23 : decode cX8_take 23 = .ok (.invokevirtual 130, 3) := by decide +kernel
theorem dX8_take_26 : decode cX8_take 26 = .ok (.ifCond .ne 11, 3) := by decide +kernel
theorem dX8_take_29 : decode cX8_take 29 = .ok (.new 124, 3) := by decide +kernel
theorem dX8_take_32 : decode cX8_take 32 = .ok (.dup, 1) := by decide +kernel
theorem dX8_take_33 : decode cX8_take 33 = .ok (.invokespecial 126, 3) := by decide +kernel
theorem dX8_take_36 : decode cX8_take 36 = .ok (.athrow, 1) := by decide +kernel
theorem dX8_take_37 : decode cX8_take 37 = .ok (.aload_n 0, 1) := by decide +kernel
theorem dX8_take_38 : decode cX8_take 38 = .ok (.getfield 50, 3) := by decide +kernel
theorem dX8_take_41 : decode cX8_take 41 = .ok (.iload_n 1, 1) := by decide +kernel
theorem dX8_take_42 : decode cX8_take 42 = .ok (.iload_n 2, 1) := by decide +kernel
theorem dX8_take_43 : decode cX8_take 43 = .ok (.iload_n 3, 1) := by decide +kernel
theorem dX8_take_44 : decode cX8_take 44 = .ok (.iconst 1, 1) := by decide +kernel
theorem dX8_take_45 : decode cX8_take 45 = .ok (.invokevirtual 134, 3) := by decide +kernel
theorem dX8_take_48 : decode cX8_take 48 = .ok (.aload_n 0, 1) := by decide +kernel
theorem dX8_take_49 : decode cX8_take 49 = .ok (.invokevirtual 138, 3) := by decide +kernel
theorem dX8_take_52 : decode cX8_take 52 = .ok (.ifCond .ne 11, 3) := by decide +kernel
theorem dX8_take_55 : decode cX8_take 55 = .ok (.new 141, 3) := by decide +kernel
theorem dX8_take_58 : decode cX8_take 58 = .ok (.dup, 1) := by decide +kernel
theorem dX8_take_59 : decode cX8_take 59 = .ok (.invokespecial 143, 3) := by decide +kernel
theorem dX8_take_62 : decode cX8_take 62 = .ok (.athrow, 1) := by decide +kernel
theorem dX8_take_63 : decode cX8_take 63 = .ok (.aload_n 0, 1) := by decide +kernel
theorem dX8_take_64 : decode cX8_take 64 = .ok (.getfield 10, 3) := by decide +kernel
theorem dX8_take_67 : decode cX8_take 67 = .ok (.iload_n 1, 1) := by decide +kernel
theorem dX8_take_68 : decode cX8_take 68 = .ok (.invokevirtual 160, 3) := by decide +kernel
theorem dX8_take_71 : decode cX8_take 71 = .ok (.ireturn, 1) := by decide +kernel
def fX8_take (N : Nat) (Z : mZ) (a0 : Nat) (a1 : Int32) (a2 : Int32) (a3 : Int32) (M : mM) : Option ((Int32 ⊕ String) × mM) := if a1 < (2 : Int32) then some (.inr "java/lang/IllegalArgumentException", sT M) else if a1 ≤ (5 : Int32) then ck (okO Z a0 8) (bnd1 (Z.2.2.2 a0 0) (fun c4 => ck (okO Z c4 4) (bnd2 (fX4_hasPlace N Z c4 a2 M) (fun r6 M6 => if r6 = 0 then some (.inr "java/lang/IndexOutOfBoundsException", sT M6) else bnd1 (Z.2.2.2 a0 7) (fun c8 => ck (okO Z c8 7) (bnd2 (fX7_fill N Z c8 a1 a2 a3 (1 : Int32) M6) (fun _ M10 => bnd2 (fX8_isJobCarriedOut N Z a0 M10) (fun r11 M11 => if r11 = 0 then some (.inr "java/lang/UnsupportedOperationException", sT M11) else bnd2 (fX4_piecesPlaced N Z c4 a1 M11) (fun r13 M13 => some (.inl r13, M13)))))))))) else some (.inr "java/lang/IllegalArgumentException", sT M)
set_option maxHeartbeats 4000000 in
set_option maxRecDepth 100000 in
theorem ctX8_take {G : mG} {l : Launch} (hl : l.stackTraces = false) (N : Nat) (Z : mZ) {a0 : Nat} {a1 : Int32} {a2 : Int32} {a3 : Int32} {M : mM} {r : (Int32 ⊕ String)} {M' : mM} (h : fX8_take N Z a0 a1 a2 a3 M = some (r, M')) : CT G l yX8_take (.code yX8_take cX8_take 4 (some .int)) rmX8_take [.ref a0, .int a1, .int a2, .int a3] Z M (oI r) Z M' := by
  unfold fX8_take at h
  refine CT.of hl (by decide) (Nat.le_of_ble_eq_true rfl) ?_
  intro p e s m args below meth c C hnm
  refine j_sub (L' := [(0, .ref a0), (1, .int a1), (2, .int a2), (3, .int a3)]) [0, 1, 2, 3] rfl ?_
  refine j_iload_n C dX8_take_0 rfl 1 rfl ?_
  refine j_iconst C dX8_take_1 (v := (2 : Int32)) (by decide) ?_
  refine j_icmp_lt C dX8_take_2 (tgt := 10) (by decide) (fun hc1 => ?_) (fun hc1 => ?_)
  · rw [if_pos hc1] at h
    cases h
    exact j_throw C (rm := rmX8_take) thRX8_75 (by decide) (Nat.le_of_ble_eq_true rfl) ⟨by decide, by decide⟩ (by decide) (by decide) dX8_take_10 dX8_take_13 dX8_take_14 dX8_take_17
  · rw [if_neg hc1] at h
    refine j_iload_n C dX8_take_5 rfl 1 rfl ?_
    refine j_iconst C dX8_take_6 (v := (5 : Int32)) (by decide) ?_
    refine j_icmp_le C dX8_take_7 (tgt := 18) (by decide) (fun hc2 => ?_) (fun hc2 => ?_)
    · rw [if_pos hc2] at h
      refine j_aload_n C dX8_take_18 rfl 0 rfl ?_
      obtain ⟨ho3, h⟩ := ck_spec h
      obtain ⟨c4, hr4, h⟩ := bnd1_spec h
      refine j_getR C (cn := RX8) (T := TX8) (N := 11) (ci := 8) rfl iX8 ho3 0 (by decide) rfl fwRX8_10 dX8_take_19 hr4 ?_
      refine j_iload_n C dX8_take_22 rfl 2 rfl ?_
      obtain ⟨ho5, h⟩ := ck_spec h
      obtain ⟨r6, M6, hq6, h⟩ := bnd2_spec h
      refine j_run1 (c_V C (As := [.int a2]) (rest := []) (ctX4_hasPlace C.2.2.2.2.2.2.2.2.1 N Z hq6) kcRX8_130 oyX4_hasPlace (ci := 4) (T := TX4) (N := 7) rfl (by decide) ho5 ⟨by decide, by decide⟩ ⟨by decide, by decide⟩ (Nat.le_of_ble_eq_true rfl) rfl dX8_take_23) ?_
      refine j_if_ne C dX8_take_26 (tgt := 37) (by decide) (fun hc7 => ?_) (fun hc7 => ?_)
      · rw [if_neg hc7] at h
        refine j_aload_n C dX8_take_37 rfl 0 rfl ?_
        obtain ⟨c8, hr8, h⟩ := bnd1_spec h
        refine j_getR C (cn := RX8) (T := TX8) (N := 11) (ci := 8) rfl iX8 ho3 7 (by decide) rfl fwRX8_50 dX8_take_38 hr8 ?_
        refine j_iload_n C dX8_take_41 rfl 1 rfl ?_
        refine j_iload_n C dX8_take_42 rfl 2 rfl ?_
        refine j_iload_n C dX8_take_43 rfl 3 rfl ?_
        refine j_iconst C dX8_take_44 (v := (1 : Int32)) (by decide) ?_
        obtain ⟨ho9, h⟩ := ck_spec h
        obtain ⟨_, M10, hq10, h⟩ := bnd2_spec h
        refine j_run0 (c_V C (As := [.int a1, .int a2, .int a3, .int (1 : Int32)]) (rest := []) (ctX7_fill C.2.2.2.2.2.2.2.2.1 N Z hq10) kcRX8_134 oyX7_fill (ci := 7) (T := TX7) (N := 5) rfl (by decide) ho9 ⟨by decide, by decide⟩ ⟨by decide, by decide⟩ (Nat.le_of_ble_eq_true rfl) rfl dX8_take_45) ?_
        refine j_aload_n C dX8_take_48 rfl 0 rfl ?_
        obtain ⟨r11, M11, hq11, h⟩ := bnd2_spec h
        refine j_run1 (c_V C (As := []) (rest := []) (ctX8_isJobCarriedOut C.2.2.2.2.2.2.2.2.1 N Z hq11) kcRX8_138 oyX8_isJobCarriedOut (ci := 8) (T := TX8) (N := 11) rfl (by decide) ho3 ⟨by decide, by decide⟩ ⟨by decide, by decide⟩ (Nat.le_of_ble_eq_true rfl) rfl dX8_take_49) ?_
        refine j_if_ne C dX8_take_52 (tgt := 63) (by decide) (fun hc12 => ?_) (fun hc12 => ?_)
        · rw [if_neg hc12] at h
          refine j_aload_n C dX8_take_63 rfl 0 rfl ?_
          refine j_getR C (cn := RX8) (T := TX8) (N := 11) (ci := 8) rfl iX8 ho3 0 (by decide) rfl fwRX8_10 dX8_take_64 hr4 ?_
          refine j_iload_n C dX8_take_67 rfl 1 rfl ?_
          obtain ⟨r13, M13, hq13, h⟩ := bnd2_spec h
          refine j_run1 (c_V C (As := [.int a1]) (rest := []) (ctX4_piecesPlaced C.2.2.2.2.2.2.2.2.1 N Z hq13) kcRX8_160 oyX4_piecesPlaced (ci := 4) (T := TX4) (N := 7) rfl (by decide) ho5 ⟨by decide, by decide⟩ ⟨by decide, by decide⟩ (Nat.le_of_ble_eq_true rfl) rfl dX8_take_68) ?_
          cases h
          exact j_iret C rfl (by decide) (by decide) dX8_take_71
        · rw [if_pos hc12] at h
          cases h
          exact j_throw C (rm := rmX8_take) thRX8_141 (by decide) (Nat.le_of_ble_eq_true rfl) ⟨by decide, by decide⟩ (by decide) (by decide) dX8_take_55 dX8_take_58 dX8_take_59 dX8_take_62
      · rw [if_pos hc7] at h
        cases h
        exact j_throw C (rm := rmX8_take) thRX8_124 (by decide) (Nat.le_of_ble_eq_true rfl) ⟨by decide, by decide⟩ (by decide) (by decide) dX8_take_29 dX8_take_32 dX8_take_33 dX8_take_36
    · rw [if_neg hc2] at h
      cases h
      exact j_throw C (rm := rmX8_take) thRX8_75 (by decide) (Nat.le_of_ble_eq_true rfl) ⟨by decide, by decide⟩ (by decide) (by decide) dX8_take_10 dX8_take_13 dX8_take_14 dX8_take_17
-- ScaffoldPlanner refusal
abbrev rmX8_refusal : Room := { frames := 6, cells := 1, slots := 6, locals := 116 }
theorem dX8_refusal_0 : decode cX8_refusal 0 = .ok (.iload_n 1, 1) := by decide +kernel
theorem dX8_refusal_1 : decode cX8_refusal 1 = .ok (.ifCond .eq 21, 3) := by decide +kernel
theorem dX8_refusal_4 : decode cX8_refusal 4 = .ok (.iload_n 1, 1) := by decide +kernel
theorem dX8_refusal_5 : decode cX8_refusal 5 = .ok (.iconst 2, 1) := by decide +kernel
theorem dX8_refusal_6 : decode cX8_refusal 6 = .ok (.if_icmp .lt 8, 3) := by decide +kernel
theorem dX8_refusal_9 : decode cX8_refusal 9 = .ok (.iload_n 1, 1) := by decide +kernel
theorem dX8_refusal_10 : decode cX8_refusal 10 = .ok (.iconst 5, 1) := by decide +kernel
theorem dX8_refusal_11 : decode cX8_refusal 11 = .ok (.if_icmp .le 11, 3) := by decide +kernel
theorem dX8_refusal_14 : decode cX8_refusal 14 = .ok (.new 75, 3) := by decide +kernel
theorem dX8_refusal_17 : decode cX8_refusal 17 = .ok (.dup, 1) := by decide +kernel
theorem dX8_refusal_18 : decode cX8_refusal 18 = .ok (.invokespecial 77, 3) := by decide +kernel
theorem dX8_refusal_21 : decode cX8_refusal 21 = .ok (.athrow, 1) := by decide +kernel
theorem dX8_refusal_22 : decode cX8_refusal 22 = .ok (.aload_n 0, 1) := by decide +kernel
theorem dX8_refusal_23 : decode cX8_refusal 23 = .ok (.getfield 10, 3) := by decide +kernel
theorem dX8_refusal_26 : decode cX8_refusal 26 = .ok (.iload_n 2, 1) := by decide +kernel
theorem dX8_refusal_27 : decode cX8_refusal 27 = .ok (.invokevirtual 130, 3) := by decide +kernel
theorem dX8_refusal_30 : decode cX8_refusal 30 = .ok (.ifCond .ne 11, 3) := by decide +kernel
theorem dX8_refusal_33 : decode cX8_refusal 33 = .ok (.new 124, 3) := by decide +kernel
theorem dX8_refusal_36 : decode cX8_refusal 36 = .ok (.dup, 1) := by decide +kernel
theorem dX8_refusal_37 : decode cX8_refusal 37 = .ok (.invokespecial 126, 3) := by decide +kernel
theorem dX8_refusal_40 : decode cX8_refusal 40 = .ok (.athrow, 1) := by decide +kernel
theorem dX8_refusal_41 : decode cX8_refusal 41 = .ok (.aload_n 0, 1) := by decide +kernel
theorem dX8_refusal_42 : decode cX8_refusal 42 = .ok (.getfield 50, 3) := by decide +kernel
theorem dX8_refusal_45 : decode cX8_refusal 45 = .ok (.iload_n 1, 1) := by decide +kernel
theorem dX8_refusal_46 : decode cX8_refusal 46 = .ok (.iload_n 2, 1) := by decide +kernel
theorem dX8_refusal_47 : decode cX8_refusal 47 = .ok (.iload_n 3, 1) := by decide +kernel
theorem dX8_refusal_48 : decode cX8_refusal 48 = .ok (.iload 4, 2) := by decide +kernel
theorem dX8_refusal_50 : decode cX8_refusal 50 = .ok (.invokevirtual 134, 3) := by decide +kernel
theorem dX8_refusal_53 : decode cX8_refusal 53 = .ok (.aload_n 0, 1) := by decide +kernel
theorem dX8_refusal_54 : decode cX8_refusal 54 = .ok (.getfield 36, 3) := by decide +kernel
theorem dX8_refusal_57 : decode cX8_refusal 57 = .ok (.aload_n 0, 1) := by decide +kernel
theorem dX8_refusal_58 : decode cX8_refusal 58 = .ok (.getfield 10, 3) := by decide +kernel
theorem dX8_refusal_61 : decode cX8_refusal 61 = .ok (.invokevirtual 163, 3) := by decide +kernel
theorem dX8_refusal_64 : decode cX8_refusal 64 = .ok (.aload_n 0, 1) := by decide +kernel
theorem dX8_refusal_65 : decode cX8_refusal 65 = .ok (.getfield 43, 3) := by decide +kernel
theorem dX8_refusal_68 : decode cX8_refusal 68 = .ok (.aload_n 0, 1) := by decide +kernel
theorem dX8_refusal_69 : decode cX8_refusal 69 = .ok (.getfield 10, 3) := by decide +kernel
theorem dX8_refusal_72 : decode cX8_refusal 72 = .ok (.aload_n 0, 1) := by decide +kernel
theorem dX8_refusal_73 : decode cX8_refusal 73 = .ok (.getfield 36, 3) := by decide +kernel
theorem dX8_refusal_76 : decode cX8_refusal 76 = .ok (.aload_n 0, 1) := by decide +kernel
theorem dX8_refusal_77 : decode cX8_refusal 77 = .ok (.getfield 50, 3) := by decide +kernel
theorem dX8_refusal_80 : decode cX8_refusal 80 = .ok (.invokevirtual 166, 3) := by decide +kernel
theorem dX8_refusal_83 : decode cX8_refusal 83 = .ok (.aload_n 0, 1) := by decide +kernel
theorem dX8_refusal_84 : decode cX8_refusal 84 = .ok (.getfield 43, 3) := by decide +kernel
theorem dX8_refusal_87 : decode cX8_refusal 87 = .ok (.getfield 170, 3) := by decide +kernel
theorem dX8_refusal_90 : decode cX8_refusal 90 = .ok (.ireturn, 1) := by decide +kernel
def fX8_refusal_22 (N : Nat) (Z : mZ) (v0 : Nat) (v1 : Int32) (v2 : Int32) (v3 : Int32) (v4 : Int32) (M : mM) : Option ((Int32 ⊕ String) × mM) := ck (okO Z v0 8) (bnd1 (Z.2.2.2 v0 0) (fun c3 => ck (okO Z c3 4) (bnd2 (fX4_hasPlace N Z c3 v2 M) (fun r5 M5 => if r5 = 0 then some (.inr "java/lang/IndexOutOfBoundsException", sT M5) else bnd1 (Z.2.2.2 v0 7) (fun c7 => ck (okO Z c7 7) (bnd2 (fX7_fill N Z c7 v1 v2 v3 v4 M5) (fun _ M9 => bnd1 (Z.2.2.2 v0 5) (fun c10 => ck (okO Z c10 6) (bnd2 (fX6_explore N Z c10 c3 M9) (fun _ M12 => bnd1 (Z.2.2.2 v0 6) (fun c13 => ck (okO Z c13 3) (bnd2 (fX3_examine N Z c13 c3 c10 c7 M12) (fun _ M15 => some (.inl (M15.1 c13 0), M15))))))))))))))
set_option maxHeartbeats 4000000 in
set_option maxRecDepth 100000 in
theorem tX8_refusal_22 {G : mG} {p : Program} {l : Launch} {e : Env} {s : State} {m : MethodId} {args : Array Value} {below : List Frame} {meth : Method} {c : Code} (C : Cx G p l s m args meth c RX8 cX8_refusal 5 (some .int) []) (hnm : meth.name = yX8_refusal.name) (N : Nat) (Z : mZ) : ∀ (v0 : Nat) (v1 : Int32) (v2 : Int32) (v3 : Int32) (v4 : Int32) (M : mM) (r : (Int32 ⊕ String)) (M' : mM), fX8_refusal_22 N Z v0 v1 v2 v3 v4 M = some (r, M') → JJ G p l e rmX8_refusal s m args below meth c 5 (mEnd G below args s rmX8_refusal (oI r) Z M') 0 0 22 [(0, .ref v0), (1, .int v1), (2, .int v2), (3, .int v3), (4, .int v4)] [] Z M := by
  intro v0 v1 v2 v3 v4 M r M' h
  unfold fX8_refusal_22 at h
  refine j_aload_n C dX8_refusal_22 rfl 0 rfl ?_
  obtain ⟨ho2, h⟩ := ck_spec h
  obtain ⟨c3, hr3, h⟩ := bnd1_spec h
  refine j_getR C (cn := RX8) (T := TX8) (N := 11) (ci := 8) rfl iX8 ho2 0 (by decide) rfl fwRX8_10 dX8_refusal_23 hr3 ?_
  refine j_iload_n C dX8_refusal_26 rfl 2 rfl ?_
  obtain ⟨ho4, h⟩ := ck_spec h
  obtain ⟨r5, M5, hq5, h⟩ := bnd2_spec h
  refine j_run1 (c_V C (As := [.int v2]) (rest := []) (ctX4_hasPlace C.2.2.2.2.2.2.2.2.1 N Z hq5) kcRX8_130 oyX4_hasPlace (ci := 4) (T := TX4) (N := 7) rfl (by decide) ho4 ⟨by decide, by decide⟩ ⟨by decide, by decide⟩ (Nat.le_of_ble_eq_true rfl) rfl dX8_refusal_27) ?_
  refine j_if_ne C dX8_refusal_30 (tgt := 41) (by decide) (fun hc6 => ?_) (fun hc6 => ?_)
  · rw [if_neg hc6] at h
    refine j_aload_n C dX8_refusal_41 rfl 0 rfl ?_
    obtain ⟨c7, hr7, h⟩ := bnd1_spec h
    refine j_getR C (cn := RX8) (T := TX8) (N := 11) (ci := 8) rfl iX8 ho2 7 (by decide) rfl fwRX8_50 dX8_refusal_42 hr7 ?_
    refine j_iload_n C dX8_refusal_45 rfl 1 rfl ?_
    refine j_iload_n C dX8_refusal_46 rfl 2 rfl ?_
    refine j_iload_n C dX8_refusal_47 rfl 3 rfl ?_
    refine j_iload C dX8_refusal_48 4 rfl ?_
    obtain ⟨ho8, h⟩ := ck_spec h
    obtain ⟨_, M9, hq9, h⟩ := bnd2_spec h
    refine j_run0 (c_V C (As := [.int v1, .int v2, .int v3, .int v4]) (rest := []) (ctX7_fill C.2.2.2.2.2.2.2.2.1 N Z hq9) kcRX8_134 oyX7_fill (ci := 7) (T := TX7) (N := 5) rfl (by decide) ho8 ⟨by decide, by decide⟩ ⟨by decide, by decide⟩ (Nat.le_of_ble_eq_true rfl) rfl dX8_refusal_50) ?_
    refine j_aload_n C dX8_refusal_53 rfl 0 rfl ?_
    obtain ⟨c10, hr10, h⟩ := bnd1_spec h
    refine j_getR C (cn := RX8) (T := TX8) (N := 11) (ci := 8) rfl iX8 ho2 5 (by decide) rfl fwRX8_36 dX8_refusal_54 hr10 ?_
    refine j_aload_n C dX8_refusal_57 rfl 0 rfl ?_
    refine j_getR C (cn := RX8) (T := TX8) (N := 11) (ci := 8) rfl iX8 ho2 0 (by decide) rfl fwRX8_10 dX8_refusal_58 hr3 ?_
    obtain ⟨ho11, h⟩ := ck_spec h
    obtain ⟨_, M12, hq12, h⟩ := bnd2_spec h
    refine j_run0 (c_V C (As := [.ref c3]) (rest := []) (ctX6_explore C.2.2.2.2.2.2.2.2.1 N Z hq12) kcRX8_163 oyX6_explore (ci := 6) (T := TX6) (N := 4) rfl (by decide) ho11 ⟨by decide, by decide⟩ ⟨by decide, by decide⟩ (Nat.le_of_ble_eq_true rfl) rfl dX8_refusal_61) ?_
    refine j_aload_n C dX8_refusal_64 rfl 0 rfl ?_
    obtain ⟨c13, hr13, h⟩ := bnd1_spec h
    refine j_getR C (cn := RX8) (T := TX8) (N := 11) (ci := 8) rfl iX8 ho2 6 (by decide) rfl fwRX8_43 dX8_refusal_65 hr13 ?_
    refine j_aload_n C dX8_refusal_68 rfl 0 rfl ?_
    refine j_getR C (cn := RX8) (T := TX8) (N := 11) (ci := 8) rfl iX8 ho2 0 (by decide) rfl fwRX8_10 dX8_refusal_69 hr3 ?_
    refine j_aload_n C dX8_refusal_72 rfl 0 rfl ?_
    refine j_getR C (cn := RX8) (T := TX8) (N := 11) (ci := 8) rfl iX8 ho2 5 (by decide) rfl fwRX8_36 dX8_refusal_73 hr10 ?_
    refine j_aload_n C dX8_refusal_76 rfl 0 rfl ?_
    refine j_getR C (cn := RX8) (T := TX8) (N := 11) (ci := 8) rfl iX8 ho2 7 (by decide) rfl fwRX8_50 dX8_refusal_77 hr7 ?_
    obtain ⟨ho14, h⟩ := ck_spec h
    obtain ⟨_, M15, hq15, h⟩ := bnd2_spec h
    refine j_run0 (c_V C (As := [.ref c3, .ref c10, .ref c7]) (rest := []) (ctX3_examine C.2.2.2.2.2.2.2.2.1 N Z hq15) kcRX8_166 oyX3_examine (ci := 3) (T := TX3) (N := 3) rfl (by decide) ho14 ⟨by decide, by decide⟩ ⟨by decide, by decide⟩ (Nat.le_of_ble_eq_true rfl) rfl dX8_refusal_80) ?_
    refine j_aload_n C dX8_refusal_83 rfl 0 rfl ?_
    refine j_getR C (cn := RX8) (T := TX8) (N := 11) (ci := 8) rfl iX8 ho2 6 (by decide) rfl fwRX8_43 dX8_refusal_84 hr13 ?_
    refine j_getI C (cn := RX3) (T := TX3) (N := 3) (ci := 3) rfl iX3 ho14 0 (by decide) rfl fwRX8_170 dX8_refusal_87 ?_
    cases h
    exact j_iret C rfl (by decide) (by decide) dX8_refusal_90
  · rw [if_pos hc6] at h
    cases h
    exact j_throw C (rm := rmX8_refusal) thRX8_124 (by decide) (Nat.le_of_ble_eq_true rfl) ⟨by decide, by decide⟩ (by decide) (by decide) dX8_refusal_33 dX8_refusal_36 dX8_refusal_37 dX8_refusal_40
def fX8_refusal (N : Nat) (Z : mZ) (a0 : Nat) (a1 : Int32) (a2 : Int32) (a3 : Int32) (a4 : Int32) (M : mM) : Option ((Int32 ⊕ String) × mM) := if a1 = 0 then fX8_refusal_22 N Z a0 a1 a2 a3 a4 M else if a1 < (2 : Int32) then some (.inr "java/lang/IllegalArgumentException", sT M) else if a1 ≤ (5 : Int32) then fX8_refusal_22 N Z a0 a1 a2 a3 a4 M else some (.inr "java/lang/IllegalArgumentException", sT M)
set_option maxHeartbeats 4000000 in
set_option maxRecDepth 100000 in
theorem ctX8_refusal {G : mG} {l : Launch} (hl : l.stackTraces = false) (N : Nat) (Z : mZ) {a0 : Nat} {a1 : Int32} {a2 : Int32} {a3 : Int32} {a4 : Int32} {M : mM} {r : (Int32 ⊕ String)} {M' : mM} (h : fX8_refusal N Z a0 a1 a2 a3 a4 M = some (r, M')) : CT G l yX8_refusal (.code yX8_refusal cX8_refusal 5 (some .int)) rmX8_refusal [.ref a0, .int a1, .int a2, .int a3, .int a4] Z M (oI r) Z M' := by
  unfold fX8_refusal at h
  refine CT.of hl (by decide) (Nat.le_of_ble_eq_true rfl) ?_
  intro p e s m args below meth c C hnm
  refine j_sub (L' := [(0, .ref a0), (1, .int a1), (2, .int a2), (3, .int a3), (4, .int a4)]) [0, 1, 2, 3, 4] rfl ?_
  refine j_iload_n C dX8_refusal_0 rfl 1 rfl ?_
  refine j_if_eq C dX8_refusal_1 (tgt := 22) (by decide) (fun hc1 => ?_) (fun hc1 => ?_)
  · rw [if_pos hc1] at h
    refine j_sub (L' := [(0, .ref a0), (1, .int a1), (2, .int a2), (3, .int a3), (4, .int a4)]) [0, 1, 2, 3, 4] rfl ?_
    exact tX8_refusal_22 C hnm N Z a0 a1 a2 a3 a4 M _ _ h
  · rw [if_neg hc1] at h
    refine j_iload_n C dX8_refusal_4 rfl 1 rfl ?_
    refine j_iconst C dX8_refusal_5 (v := (2 : Int32)) (by decide) ?_
    refine j_icmp_lt C dX8_refusal_6 (tgt := 14) (by decide) (fun hc16 => ?_) (fun hc16 => ?_)
    · rw [if_pos hc16] at h
      cases h
      exact j_throw C (rm := rmX8_refusal) thRX8_75 (by decide) (Nat.le_of_ble_eq_true rfl) ⟨by decide, by decide⟩ (by decide) (by decide) dX8_refusal_14 dX8_refusal_17 dX8_refusal_18 dX8_refusal_21
    · rw [if_neg hc16] at h
      refine j_iload_n C dX8_refusal_9 rfl 1 rfl ?_
      refine j_iconst C dX8_refusal_10 (v := (5 : Int32)) (by decide) ?_
      refine j_icmp_le C dX8_refusal_11 (tgt := 22) (by decide) (fun hc17 => ?_) (fun hc17 => ?_)
      · rw [if_pos hc17] at h
        refine j_sub (L' := [(0, .ref a0), (1, .int a1), (2, .int a2), (3, .int a3), (4, .int a4)]) [0, 1, 2, 3, 4] rfl ?_
        exact tX8_refusal_22 C hnm N Z a0 a1 a2 a3 a4 M _ _ h
      · rw [if_neg hc17] at h
        cases h
        exact j_throw C (rm := rmX8_refusal) thRX8_75 (by decide) (Nat.le_of_ble_eq_true rfl) ⟨by decide, by decide⟩ (by decide) (by decide) dX8_refusal_14 dX8_refusal_17 dX8_refusal_18 dX8_refusal_21
-- ScaffoldPlanner report
theorem thRX8_176 : okT RX8 176 178 "java/util/NoSuchElementException" ["java/lang/RuntimeException", "java/lang/Exception"] = true := by decide +kernel
theorem fwRX8_173 : Cond.fieldLink RX8 173 RX5 (TX5 0).2.1 (TX5 0).2.2.1 ∈ gw := by decide +kernel
theorem fwRX8_182 : Cond.fieldLink RX8 182 RX5 (TX5 1).2.1 (TX5 1).2.2.1 ∈ gw := by decide +kernel
theorem fwRX8_179 : Cond.fieldLink RX8 179 RX5 (TX5 2).2.1 (TX5 2).2.2.1 ∈ gw := by decide +kernel
abbrev rmX8_report : Room := { frames := 6, cells := 1, slots := 6, locals := 90 }
theorem dX8_report_0 : decode cX8_report 0 = .ok (.iload_n 1, 1) := by decide +kernel
theorem dX8_report_1 : decode cX8_report 1 = .ok (.ifCond .lt 14, 3) := by decide +kernel
theorem dX8_report_4 : decode cX8_report 4 = .ok (.iload_n 1, 1) := by decide +kernel
theorem dX8_report_5 : decode cX8_report 5 = .ok (.aload_n 0, 1) := by decide +kernel
theorem dX8_report_6 : decode cX8_report 6 = .ok (.getfield 57, 3) := by decide +kernel
theorem dX8_report_9 : decode cX8_report 9 = .ok (.getfield 173, 3) := by decide +kernel
theorem dX8_report_12 : decode cX8_report 12 = .ok (.if_icmp .lt 11, 3) := by decide +kernel
theorem dX8_report_15 : decode cX8_report 15 = .ok (.new 176, 3) := by decide +kernel
theorem dX8_report_18 : decode cX8_report 18 = .ok (.dup, 1) := by decide +kernel
theorem dX8_report_19 : decode cX8_report 19 = .ok (.invokespecial 178, 3) := by decide +kernel
theorem dX8_report_22 : decode cX8_report 22 = .ok (.athrow, 1) := by decide +kernel
theorem dX8_report_23 : decode cX8_report 23 = .ok (.iload_n 2, 1) := by decide +kernel
theorem dX8_report_24 : decode cX8_report 24 = .ok (.ifCond .eq 13, 3) := by decide +kernel
theorem dX8_report_27 : decode cX8_report 27 = .ok (.aload_n 0, 1) := by decide +kernel
theorem dX8_report_28 : decode cX8_report 28 = .ok (.getfield 57, 3) := by decide +kernel
theorem dX8_report_31 : decode cX8_report 31 = .ok (.getfield 179, 3) := by decide +kernel
theorem dX8_report_34 : decode cX8_report 34 = .ok (.goto 10, 3) := by decide +kernel
theorem dX8_report_37 : decode cX8_report 37 = .ok (.aload_n 0, 1) := by decide +kernel
theorem dX8_report_38 : decode cX8_report 38 = .ok (.getfield 57, 3) := by decide +kernel
theorem dX8_report_41 : decode cX8_report 41 = .ok (.getfield 182, 3) := by decide +kernel
theorem dX8_report_44 : decode cX8_report 44 = .ok (.iload_n 1, 1) := by decide +kernel
theorem dX8_report_45 : decode cX8_report 45 = .ok (.invokestatic 96, 3) := by decide +kernel
theorem dX8_report_48 : decode cX8_report 48 = .ok (.ireturn, 1) := by decide +kernel
def fX8_report (N : Nat) (Z : mZ) (a0 : Nat) (a1 : Int32) (a2 : Int32) (M : mM) : Option ((Int32 ⊕ String) × mM) := if a1 < 0 then some (.inr "java/util/NoSuchElementException", sT M) else ck (okO Z a0 8) (bnd1 (Z.2.2.2 a0 8) (fun c3 => ck (okO Z c3 5) (if a1 < (M.1 c3 0) then if a2 = 0 then bnd1 (Z.2.2.2 c3 1) (fun c7 => bnd2 (fX8_at N Z c7 a1 M) (fun r8 M8 => some (.inl r8, M8))) else bnd1 (Z.2.2.2 c3 2) (fun c9 => bnd2 (fX8_at N Z c9 a1 M) (fun r10 M10 => some (.inl r10, M10))) else some (.inr "java/util/NoSuchElementException", sT M))))
set_option maxHeartbeats 4000000 in
set_option maxRecDepth 100000 in
theorem ctX8_report {G : mG} {l : Launch} (hl : l.stackTraces = false) (N : Nat) (Z : mZ) {a0 : Nat} {a1 : Int32} {a2 : Int32} {M : mM} {r : (Int32 ⊕ String)} {M' : mM} (h : fX8_report N Z a0 a1 a2 M = some (r, M')) : CT G l yX8_report (.code yX8_report cX8_report 3 (some .int)) rmX8_report [.ref a0, .int a1, .int a2] Z M (oI r) Z M' := by
  unfold fX8_report at h
  refine CT.of hl (by decide) (Nat.le_of_ble_eq_true rfl) ?_
  intro p e s m args below meth c C hnm
  refine j_sub (L' := [(0, .ref a0), (1, .int a1), (2, .int a2)]) [0, 1, 2] rfl ?_
  refine j_iload_n C dX8_report_0 rfl 1 rfl ?_
  refine j_if_lt C dX8_report_1 (tgt := 15) (by decide) (fun hc1 => ?_) (fun hc1 => ?_)
  · rw [if_pos hc1] at h
    cases h
    exact j_throw C (rm := rmX8_report) thRX8_176 (by decide) (Nat.le_of_ble_eq_true rfl) ⟨by decide, by decide⟩ (by decide) (by decide) dX8_report_15 dX8_report_18 dX8_report_19 dX8_report_22
  · rw [if_neg hc1] at h
    refine j_iload_n C dX8_report_4 rfl 1 rfl ?_
    refine j_aload_n C dX8_report_5 rfl 0 rfl ?_
    obtain ⟨ho2, h⟩ := ck_spec h
    obtain ⟨c3, hr3, h⟩ := bnd1_spec h
    refine j_getR C (cn := RX8) (T := TX8) (N := 11) (ci := 8) rfl iX8 ho2 8 (by decide) rfl fwRX8_57 dX8_report_6 hr3 ?_
    obtain ⟨ho4, h⟩ := ck_spec h
    refine j_getI C (cn := RX5) (T := TX5) (N := 3) (ci := 5) rfl iX5 ho4 0 (by decide) rfl fwRX8_173 dX8_report_9 ?_
    refine j_icmp_lt C dX8_report_12 (tgt := 23) (by decide) (fun hc5 => ?_) (fun hc5 => ?_)
    · rw [if_pos hc5] at h
      refine j_iload_n C dX8_report_23 rfl 2 rfl ?_
      refine j_if_eq C dX8_report_24 (tgt := 37) (by decide) (fun hc6 => ?_) (fun hc6 => ?_)
      · rw [if_pos hc6] at h
        refine j_aload_n C dX8_report_37 rfl 0 rfl ?_
        refine j_getR C (cn := RX8) (T := TX8) (N := 11) (ci := 8) rfl iX8 ho2 8 (by decide) rfl fwRX8_57 dX8_report_38 hr3 ?_
        obtain ⟨c7, hr7, h⟩ := bnd1_spec h
        refine j_getR C (cn := RX5) (T := TX5) (N := 3) (ci := 5) rfl iX5 ho4 1 (by decide) rfl fwRX8_182 dX8_report_41 hr7 ?_
        refine j_iload_n C dX8_report_44 rfl 1 rfl ?_
        obtain ⟨r8, M8, hq8, h⟩ := bnd2_spec h
        refine j_run1 (c_S C (As := [.ref c7, .int a1]) (rest := []) (ctX8_at C.2.2.2.2.2.2.2.2.1 N Z hq8) kcRX8_96 oyX8_at ⟨by decide, by decide⟩ ⟨by decide, by decide⟩ (Nat.le_of_ble_eq_true rfl) rfl dX8_report_45) ?_
        cases h
        exact j_iret C rfl (by decide) (by decide) dX8_report_48
      · rw [if_neg hc6] at h
        refine j_aload_n C dX8_report_27 rfl 0 rfl ?_
        refine j_getR C (cn := RX8) (T := TX8) (N := 11) (ci := 8) rfl iX8 ho2 8 (by decide) rfl fwRX8_57 dX8_report_28 hr3 ?_
        obtain ⟨c9, hr9, h⟩ := bnd1_spec h
        refine j_getR C (cn := RX5) (T := TX5) (N := 3) (ci := 5) rfl iX5 ho4 2 (by decide) rfl fwRX8_179 dX8_report_31 hr9 ?_
        refine j_goto C dX8_report_34 (tgt := 44) (by decide) ?_
        refine j_iload_n C dX8_report_44 rfl 1 rfl ?_
        obtain ⟨r10, M10, hq10, h⟩ := bnd2_spec h
        refine j_run1 (c_S C (As := [.ref c9, .int a1]) (rest := []) (ctX8_at C.2.2.2.2.2.2.2.2.1 N Z hq10) kcRX8_96 oyX8_at ⟨by decide, by decide⟩ ⟨by decide, by decide⟩ (Nat.le_of_ble_eq_true rfl) rfl dX8_report_45) ?_
        cases h
        exact j_iret C rfl (by decide) (by decide) dX8_report_48
    · rw [if_neg hc5] at h
      cases h
      exact j_throw C (rm := rmX8_report) thRX8_176 (by decide) (Nat.le_of_ble_eq_true rfl) ⟨by decide, by decide⟩ (by decide) (by decide) dX8_report_15 dX8_report_18 dX8_report_19 dX8_report_22
