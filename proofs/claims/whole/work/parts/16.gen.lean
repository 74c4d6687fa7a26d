-- ScaffoldPlanner bay
theorem kcRX8_185 : okV RX8 185 yX4_bracedOrHighest (.code yX4_bracedOrHighest cX4_bracedOrHighest 6 (some .int)) = true := by decide +kernel
theorem fwRX8_188 : Cond.fieldLink RX8 188 RX6 (TX6 0).2.1 (TX6 0).2.2.1 ∈ gw := by decide +kernel
abbrev rmX8_bay : Room := { frames := 6, cells := 1, slots := 6, locals := 90 }
theorem dX8_bay_0 : decode cX8_bay 0 = .ok (.aload_n 0, 1) := by decide +kernel
theorem dX8_bay_1 : decode cX8_bay 1 = .ok (.getfield 10, 3) := by decide +kernel
theorem dX8_bay_4 : decode cX8_bay 4 = .ok (.iload_n 1, 1) := by decide +kernel
theorem dX8_bay_5 : decode cX8_bay 5 = .ok (.invokevirtual 130, 3) := by decide +kernel
theorem dX8_bay_8 : decode cX8_bay 8 = .ok (.ifCond .ne 11, 3) := by decide +kernel
theorem dX8_bay_11 : decode cX8_bay 11 = .ok (.new 124, 3) := by decide +kernel
theorem dX8_bay_14 : decode cX8_bay 14 = .ok (.dup, 1) := by decide +kernel
theorem dX8_bay_15 : decode cX8_bay 15 = .ok (.invokespecial 126, 3) := by decide +kernel
theorem dX8_bay_18 : decode cX8_bay 18 = .ok (.athrow, 1) := by decide +kernel
theorem dX8_bay_19 : decode cX8_bay 19 = .ok (.iload_n 2, 1) := by decide +kernel
theorem dX8_bay_20 : decode cX8_bay 20 = .ok (.tableswitch 114 0 5 #[40, 52, 62, 72, 82, 91], 40) := by decide +kernel
theorem dX8_bay_60 : decode cX8_bay 60 = .ok (.aload_n 0, 1) := by decide +kernel
theorem dX8_bay_61 : decode cX8_bay 61 = .ok (.getfield 10, 3) := by decide +kernel
theorem dX8_bay_64 : decode cX8_bay 64 = .ok (.getfield 144, 3) := by decide +kernel
theorem dX8_bay_67 : decode cX8_bay 67 = .ok (.iload_n 1, 1) := by decide +kernel
theorem dX8_bay_68 : decode cX8_bay 68 = .ok (.invokestatic 96, 3) := by decide +kernel
theorem dX8_bay_71 : decode cX8_bay 71 = .ok (.ireturn, 1) := by decide +kernel
theorem dX8_bay_72 : decode cX8_bay 72 = .ok (.aload_n 0, 1) := by decide +kernel
theorem dX8_bay_73 : decode cX8_bay 73 = .ok (.getfield 10, 3) := by decide +kernel
theorem dX8_bay_76 : decode cX8_bay 76 = .ok (.iconst 2, 1) := by decide +kernel
theorem dX8_bay_77 : decode cX8_bay 77 = .ok (.iload_n 1, 1) := by decide +kernel
theorem dX8_bay_78 : decode cX8_bay 78 = .ok (.invokevirtual 150, 3) := by decide +kernel
theorem dX8_bay_81 : decode cX8_bay 81 = .ok (.ireturn, 1) := by decide +kernel
theorem dX8_bay_82 : decode cX8_bay 82 = .ok (.aload_n 0, 1) := by decide +kernel
theorem dX8_bay_83 : decode cX8_bay 83 = .ok (.getfield 10, 3) := by decide +kernel
theorem dX8_bay_86 : decode cX8_bay 86 = .ok (.iconst 3, 1) := by decide +kernel
theorem dX8_bay_87 : decode cX8_bay 87 = .ok (.iload_n 1, 1) := by decide +kernel
theorem dX8_bay_88 : decode cX8_bay 88 = .ok (.invokevirtual 150, 3) := by decide +kernel
theorem dX8_bay_91 : decode cX8_bay 91 = .ok (.ireturn, 1) := by decide +kernel
theorem dX8_bay_92 : decode cX8_bay 92 = .ok (.aload_n 0, 1) := by decide +kernel
theorem dX8_bay_93 : decode cX8_bay 93 = .ok (.getfield 10, 3) := by decide +kernel
theorem dX8_bay_96 : decode cX8_bay 96 = .ok (.iconst 5, 1) := by decide +kernel
theorem dX8_bay_97 : decode cX8_bay 97 = .ok (.iload_n 1, 1) := by decide +kernel
theorem dX8_bay_98 : decode cX8_bay 98 = .ok (.invokevirtual 150, 3) := by decide +kernel
theorem dX8_bay_101 : decode cX8_bay 101 = .ok (.ireturn, 1) := by decide +kernel
theorem dX8_bay_102 : decode cX8_bay 102 = .ok (.aload_n 0, 1) := by decide +kernel
theorem dX8_bay_103 : decode cX8_bay 103 = .ok (.getfield 10, 3) := by decide +kernel
theorem dX8_bay_106 : decode cX8_bay 106 = .ok (.iload_n 1, 1) := by decide +kernel
theorem dX8_bay_107 : decode cX8_bay 107 = .ok (.invokevirtual 185, 3) := by decide +kernel
theorem dX8_bay_110 : decode cX8_bay 110 = .ok (.ireturn, 1) := by decide +kernel
theorem dX8_bay_111 : decode cX8_bay 111 = .ok (.aload_n 0, 1) := by decide +kernel
theorem dX8_bay_112 : decode cX8_bay 112 = .ok (.getfield 36, 3) := by decide +kernel
theorem dX8_bay_115 : decode cX8_bay 115 = .ok (.aload_n 0, 1) := by decide +kernel
theorem dX8_bay_116 : decode cX8_bay 116 = .ok (.getfield 10, 3) := by decide +kernel
theorem dX8_bay_119 : decode cX8_bay 119 = .ok (.invokevirtual 163, 3) := by decide +kernel
theorem dX8_bay_122 : decode cX8_bay 122 = .ok (.aload_n 0, 1) := by decide +kernel
theorem dX8_bay_123 : decode cX8_bay 123 = .ok (.getfield 36, 3) := by decide +kernel
theorem dX8_bay_126 : decode cX8_bay 126 = .ok (.getfield 188, 3) := by decide +kernel
theorem dX8_bay_129 : decode cX8_bay 129 = .ok (.iload_n 1, 1) := by decide +kernel
theorem dX8_bay_130 : decode cX8_bay 130 = .ok (.invokestatic 96, 3) := by decide +kernel
theorem dX8_bay_133 : decode cX8_bay 133 = .ok (.ireturn, 1) := by decide +kernel
theorem dX8_bay_134 : decode cX8_bay 134 = .ok (.new 75, 3) := by decide +kernel
theorem dX8_bay_137 : decode cX8_bay 137 = .ok (.dup, 1) := by decide +kernel
theorem dX8_bay_138 : decode cX8_bay 138 = .ok (.invokespecial 77, 3) := by decide +kernel
theorem dX8_bay_141 : decode cX8_bay 141 = .ok (.athrow, 1) := by decide +kernel
def fX8_bay (N : Nat) (Z : mZ) (a0 : Nat) (a1 : Int32) (a2 : Int32) (M : mM) : Option ((Int32 ⊕ String) × mM) := ck (okO Z a0 8) (bnd1 (Z.2.2.2 a0 0) (fun c2 => ck (okO Z c2 4) (bnd2 (fX4_hasPlace N Z c2 a1 M) (fun r4 M4 => if r4 = 0 then some (.inr "java/lang/IndexOutOfBoundsException", sT M4) else if a2 = nI 0 then bnd1 (Z.2.2.2 c2 2) (fun c7 => bnd2 (fX8_at N Z c7 a1 M4) (fun r8 M8 => some (.inl r8, M8))) else if a2 = nI 1 then bnd2 (fX4_levelsWith N Z c2 (2 : Int32) a1 M4) (fun r10 M10 => some (.inl r10, M10)) else if a2 = nI 2 then bnd2 (fX4_levelsWith N Z c2 (3 : Int32) a1 M4) (fun r12 M12 => some (.inl r12, M12)) else if a2 = nI 3 then bnd2 (fX4_levelsWith N Z c2 (5 : Int32) a1 M4) (fun r14 M14 => some (.inl r14, M14)) else if a2 = nI 4 then bnd2 (fX4_bracedOrHighest N Z c2 a1 M4) (fun r16 M16 => some (.inl r16, M16)) else if a2 = nI 5 then bnd1 (Z.2.2.2 a0 5) (fun c18 => ck (okO Z c18 6) (bnd2 (fX6_explore N Z c18 c2 M4) (fun _ M20 => bnd1 (Z.2.2.2 c18 0) (fun c21 => bnd2 (fX8_at N Z c21 a1 M20) (fun r22 M22 => some (.inl r22, M22)))))) else some (.inr "java/lang/IllegalArgumentException", sT M4)))))
set_option maxHeartbeats 4000000 in
set_option maxRecDepth 100000 in
theorem ctX8_bay {G : mG} {l : Launch} (hl : l.stackTraces = false) (N : Nat) (Z : mZ) {a0 : Nat} {a1 : Int32} {a2 : Int32} {M : mM} {r : (Int32 ⊕ String)} {M' : mM} (h : fX8_bay N Z a0 a1 a2 M = some (r, M')) : CT G l yX8_bay (.code yX8_bay cX8_bay 3 (some .int)) rmX8_bay [.ref a0, .int a1, .int a2] Z M (oI r) Z M' := by
  unfold fX8_bay at h
  refine CT.of hl (by decide) (Nat.le_of_ble_eq_true rfl) ?_
  intro p e s m args below meth c C hnm
  refine j_sub (L' := [(0, .ref a0), (1, .int a1), (2, .int a2)]) [0, 1, 2] rfl ?_
  refine j_aload_n C dX8_bay_0 rfl 0 rfl ?_
  obtain ⟨ho1, h⟩ := ck_spec h
  obtain ⟨c2, hr2, h⟩ := bnd1_spec h
  refine j_getR C (cn := RX8) (T := TX8) (N := 11) (ci := 8) rfl iX8 ho1 0 (by decide) rfl fwRX8_10 dX8_bay_1 hr2 ?_
  refine j_iload_n C dX8_bay_4 rfl 1 rfl ?_
  obtain ⟨ho3, h⟩ := ck_spec h
  obtain ⟨r4, M4, hq4, h⟩ := bnd2_spec h
  refine j_run1 (c_V C (As := [.int a1]) (rest := []) (ctX4_hasPlace C.2.2.2.2.2.2.2.2.1 N Z hq4) kcRX8_130 oyX4_hasPlace (ci := 4) (T := TX4) (N := 7) rfl (by decide) ho3 ⟨by decide, by decide⟩ ⟨by decide, by decide⟩ (Nat.le_of_ble_eq_true rfl) rfl dX8_bay_5) ?_
  refine j_if_ne C dX8_bay_8 (tgt := 19) (by decide) (fun hc5 => ?_) (fun hc5 => ?_)
  · rw [if_neg hc5] at h
    refine j_iload_n C dX8_bay_19 rfl 2 rfl ?_
    by_cases hc6 : a2 = nI 0
    · rw [if_pos hc6] at h
      refine j_tableIn C dX8_bay_20 (by rw [hc6]; decide) (by rw [hc6]; decide) (off := 40) (by rw [hc6]; rfl) (tgt := 60) (by decide) ?_
      refine j_aload_n C dX8_bay_60 rfl 0 rfl ?_
      refine j_getR C (cn := RX8) (T := TX8) (N := 11) (ci := 8) rfl iX8 ho1 0 (by decide) rfl fwRX8_10 dX8_bay_61 hr2 ?_
      obtain ⟨c7, hr7, h⟩ := bnd1_spec h
      refine j_getR C (cn := RX4) (T := TX4) (N := 7) (ci := 4) rfl iX4 ho3 2 (by decide) rfl fwRX8_144 dX8_bay_64 hr7 ?_
      refine j_iload_n C dX8_bay_67 rfl 1 rfl ?_
      obtain ⟨r8, M8, hq8, h⟩ := bnd2_spec h
      refine j_run1 (c_S C (As := [.ref c7, .int a1]) (rest := []) (ctX8_at C.2.2.2.2.2.2.2.2.1 N Z hq8) kcRX8_96 oyX8_at ⟨by decide, by decide⟩ ⟨by decide, by decide⟩ (Nat.le_of_ble_eq_true rfl) rfl dX8_bay_68) ?_
      cases h
      exact j_iret C rfl (by decide) (by decide) dX8_bay_71
    rw [if_neg hc6] at h
    by_cases hc9 : a2 = nI 1
    · rw [if_pos hc9] at h
      refine j_tableIn C dX8_bay_20 (by rw [hc9]; decide) (by rw [hc9]; decide) (off := 52) (by rw [hc9]; rfl) (tgt := 72) (by decide) ?_
      refine j_aload_n C dX8_bay_72 rfl 0 rfl ?_
      refine j_getR C (cn := RX8) (T := TX8) (N := 11) (ci := 8) rfl iX8 ho1 0 (by decide) rfl fwRX8_10 dX8_bay_73 hr2 ?_
      refine j_iconst C dX8_bay_76 (v := (2 : Int32)) (by decide) ?_
      refine j_iload_n C dX8_bay_77 rfl 1 rfl ?_
      obtain ⟨r10, M10, hq10, h⟩ := bnd2_spec h
      refine j_run1 (c_V C (As := [.int (2 : Int32), .int a1]) (rest := []) (ctX4_levelsWith C.2.2.2.2.2.2.2.2.1 N Z hq10) kcRX8_150 oyX4_levelsWith (ci := 4) (T := TX4) (N := 7) rfl (by decide) ho3 ⟨by decide, by decide⟩ ⟨by decide, by decide⟩ (Nat.le_of_ble_eq_true rfl) rfl dX8_bay_78) ?_
      cases h
      exact j_iret C rfl (by decide) (by decide) dX8_bay_81
    rw [if_neg hc9] at h
    by_cases hc11 : a2 = nI 2
    · rw [if_pos hc11] at h
      refine j_tableIn C dX8_bay_20 (by rw [hc11]; decide) (by rw [hc11]; decide) (off := 62) (by rw [hc11]; rfl) (tgt := 82) (by decide) ?_
      refine j_aload_n C dX8_bay_82 rfl 0 rfl ?_
      refine j_getR C (cn := RX8) (T := TX8) (N := 11) (ci := 8) rfl iX8 ho1 0 (by decide) rfl fwRX8_10 dX8_bay_83 hr2 ?_
      refine j_iconst C dX8_bay_86 (v := (3 : Int32)) (by decide) ?_
      refine j_iload_n C dX8_bay_87 rfl 1 rfl ?_
      obtain ⟨r12, M12, hq12, h⟩ := bnd2_spec h
      refine j_run1 (c_V C (As := [.int (3 : Int32), .int a1]) (rest := []) (ctX4_levelsWith C.2.2.2.2.2.2.2.2.1 N Z hq12) kcRX8_150 oyX4_levelsWith (ci := 4) (T := TX4) (N := 7) rfl (by decide) ho3 ⟨by decide, by decide⟩ ⟨by decide, by decide⟩ (Nat.le_of_ble_eq_true rfl) rfl dX8_bay_88) ?_
      cases h
      exact j_iret C rfl (by decide) (by decide) dX8_bay_91
    rw [if_neg hc11] at h
    by_cases hc13 : a2 = nI 3
    · rw [if_pos hc13] at h
      refine j_tableIn C dX8_bay_20 (by rw [hc13]; decide) (by rw [hc13]; decide) (off := 72) (by rw [hc13]; rfl) (tgt := 92) (by decide) ?_
      refine j_aload_n C dX8_bay_92 rfl 0 rfl ?_
      refine j_getR C (cn := RX8) (T := TX8) (N := 11) (ci := 8) rfl iX8 ho1 0 (by decide) rfl fwRX8_10 dX8_bay_93 hr2 ?_
      refine j_iconst C dX8_bay_96 (v := (5 : Int32)) (by decide) ?_
      refine j_iload_n C dX8_bay_97 rfl 1 rfl ?_
      obtain ⟨r14, M14, hq14, h⟩ := bnd2_spec h
      refine j_run1 (c_V C (As := [.int (5 : Int32), .int a1]) (rest := []) (ctX4_levelsWith C.2.2.2.2.2.2.2.2.1 N Z hq14) kcRX8_150 oyX4_levelsWith (ci := 4) (T := TX4) (N := 7) rfl (by decide) ho3 ⟨by decide, by decide⟩ ⟨by decide, by decide⟩ (Nat.le_of_ble_eq_true rfl) rfl dX8_bay_98) ?_
      cases h
      exact j_iret C rfl (by decide) (by decide) dX8_bay_101
    rw [if_neg hc13] at h
    by_cases hc15 : a2 = nI 4
    · rw [if_pos hc15] at h
      refine j_tableIn C dX8_bay_20 (by rw [hc15]; decide) (by rw [hc15]; decide) (off := 82) (by rw [hc15]; rfl) (tgt := 102) (by decide) ?_
      refine j_aload_n C dX8_bay_102 rfl 0 rfl ?_
      refine j_getR C (cn := RX8) (T := TX8) (N := 11) (ci := 8) rfl iX8 ho1 0 (by decide) rfl fwRX8_10 dX8_bay_103 hr2 ?_
      refine j_iload_n C dX8_bay_106 rfl 1 rfl ?_
      obtain ⟨r16, M16, hq16, h⟩ := bnd2_spec h
      refine j_run1 (c_V C (As := [.int a1]) (rest := []) (ctX4_bracedOrHighest C.2.2.2.2.2.2.2.2.1 N Z hq16) kcRX8_185 oyX4_bracedOrHighest (ci := 4) (T := TX4) (N := 7) rfl (by decide) ho3 ⟨by decide, by decide⟩ ⟨by decide, by decide⟩ (Nat.le_of_ble_eq_true rfl) rfl dX8_bay_107) ?_
      cases h
      exact j_iret C rfl (by decide) (by decide) dX8_bay_110
    rw [if_neg hc15] at h
    by_cases hc17 : a2 = nI 5
    · rw [if_pos hc17] at h
      refine j_tableIn C dX8_bay_20 (by rw [hc17]; decide) (by rw [hc17]; decide) (off := 91) (by rw [hc17]; rfl) (tgt := 111) (by decide) ?_
      refine j_aload_n C dX8_bay_111 rfl 0 rfl ?_
      obtain ⟨c18, hr18, h⟩ := bnd1_spec h
      refine j_getR C (cn := RX8) (T := TX8) (N := 11) (ci := 8) rfl iX8 ho1 5 (by decide) rfl fwRX8_36 dX8_bay_112 hr18 ?_
      refine j_aload_n C dX8_bay_115 rfl 0 rfl ?_
      refine j_getR C (cn := RX8) (T := TX8) (N := 11) (ci := 8) rfl iX8 ho1 0 (by decide) rfl fwRX8_10 dX8_bay_116 hr2 ?_
      obtain ⟨ho19, h⟩ := ck_spec h
      obtain ⟨_, M20, hq20, h⟩ := bnd2_spec h
      refine j_run0 (c_V C (As := [.ref c2]) (rest := []) (ctX6_explore C.2.2.2.2.2.2.2.2.1 N Z hq20) kcRX8_163 oyX6_explore (ci := 6) (T := TX6) (N := 4) rfl (by decide) ho19 ⟨by decide, by decide⟩ ⟨by decide, by decide⟩ (Nat.le_of_ble_eq_true rfl) rfl dX8_bay_119) ?_
      refine j_aload_n C dX8_bay_122 rfl 0 rfl ?_
      refine j_getR C (cn := RX8) (T := TX8) (N := 11) (ci := 8) rfl iX8 ho1 5 (by decide) rfl fwRX8_36 dX8_bay_123 hr18 ?_
      obtain ⟨c21, hr21, h⟩ := bnd1_spec h
      refine j_getR C (cn := RX6) (T := TX6) (N := 4) (ci := 6) rfl iX6 ho19 0 (by decide) rfl fwRX8_188 dX8_bay_126 hr21 ?_
      refine j_iload_n C dX8_bay_129 rfl 1 rfl ?_
      obtain ⟨r22, M22, hq22, h⟩ := bnd2_spec h
      refine j_run1 (c_S C (As := [.ref c21, .int a1]) (rest := []) (ctX8_at C.2.2.2.2.2.2.2.2.1 N Z hq22) kcRX8_96 oyX8_at ⟨by decide, by decide⟩ ⟨by decide, by decide⟩ (Nat.le_of_ble_eq_true rfl) rfl dX8_bay_130) ?_
      cases h
      exact j_iret C rfl (by decide) (by decide) dX8_bay_133
    rw [if_neg hc17] at h
    refine j_tableOut C dX8_bay_20 (sw_out (n := 5) (by decide) (fun j hj => by rcases (show j = 0 ∨ j = 1 ∨ j = 2 ∨ j = 3 ∨ j = 4 ∨ j = 5 by omega) with rfl | rfl | rfl | rfl | rfl | rfl <;> assumption)) (tgt := 134) (by decide) ?_
    cases h
    exact j_throw C (rm := rmX8_bay) thRX8_75 (by decide) (Nat.le_of_ble_eq_true rfl) ⟨by decide, by decide⟩ (by decide) (by decide) dX8_bay_134 dX8_bay_137 dX8_bay_138 dX8_bay_141
  · rw [if_pos hc5] at h
    cases h
    exact j_throw C (rm := rmX8_bay) thRX8_124 (by decide) (Nat.le_of_ble_eq_true rfl) ⟨by decide, by decide⟩ (by decide) (by decide) dX8_bay_11 dX8_bay_14 dX8_bay_15 dX8_bay_18
-- ScaffoldPlanner post
theorem kcRX8_191 : okV RX8 191 yX4_postHeight (.code yX4_postHeight cX4_postHeight 2 (some .int)) = true := by decide +kernel
theorem kcRX8_194 : okV RX8 194 yX4_postLoad (.code yX4_postLoad cX4_postLoad 6 (some .int)) = true := by decide +kernel
theorem kcRX8_197 : okV RX8 197 yX4_neededTies (.code yX4_neededTies cX4_neededTies 7 (some .int)) = true := by decide +kernel
theorem oyX4_neededTies : okY yX4_neededTies 1 := ⟨by decide +kernel, by decide +kernel, by decide +kernel⟩
theorem kcRX8_200 : okV RX8 200 yX4_tiesForOneLevelMore (.code yX4_tiesForOneLevelMore cX4_tiesForOneLevelMore 7 (some .int)) = true := by decide +kernel
theorem oyX4_tiesForOneLevelMore : okY yX4_tiesForOneLevelMore 1 := ⟨by decide +kernel, by decide +kernel, by decide +kernel⟩
abbrev rmX8_post : Room := { frames := 6, cells := 1, slots := 6, locals := 90 }
theorem dX8_post_0 : decode cX8_post 0 = .ok (.aload_n 0, 1) := by decide +kernel
theorem dX8_post_1 : decode cX8_post 1 = .ok (.getfield 10, 3) := by decide +kernel
theorem dX8_post_4 : decode cX8_post 4 = .ok (.iload_n 1, 1) := by decide +kernel
theorem dX8_post_5 : decode cX8_post 5 = .ok (.invokevirtual 130, 3) := by decide +kernel
theorem dX8_post_8 : decode cX8_post 8 = .ok (.ifCond .ne 11, 3) := by decide +kernel
theorem dX8_post_11 : decode cX8_post 11 = .ok (.new 124, 3) := by decide +kernel
theorem dX8_post_14 : decode cX8_post 14 = .ok (.dup, 1) := by decide +kernel
theorem dX8_post_15 : decode cX8_post 15 = .ok (.invokespecial 126, 3) := by decide +kernel
theorem dX8_post_18 : decode cX8_post 18 = .ok (.athrow, 1) := by decide +kernel
theorem dX8_post_19 : decode cX8_post 19 = .ok (.iload_n 2, 1) := by decide +kernel
theorem dX8_post_20 : decode cX8_post 20 = .ok (.tableswitch 82 0 4 #[36, 45, 55, 64, 73], 36) := by decide +kernel
theorem dX8_post_56 : decode cX8_post 56 = .ok (.aload_n 0, 1) := by decide +kernel
theorem dX8_post_57 : decode cX8_post 57 = .ok (.getfield 10, 3) := by decide +kernel
theorem dX8_post_60 : decode cX8_post 60 = .ok (.iload_n 1, 1) := by decide +kernel
theorem dX8_post_61 : decode cX8_post 61 = .ok (.invokevirtual 191, 3) := by decide +kernel
theorem dX8_post_64 : decode cX8_post 64 = .ok (.ireturn, 1) := by decide +kernel
theorem dX8_post_65 : decode cX8_post 65 = .ok (.aload_n 0, 1) := by decide +kernel
theorem dX8_post_66 : decode cX8_post 66 = .ok (.getfield 10, 3) := by decide +kernel
theorem dX8_post_69 : decode cX8_post 69 = .ok (.iconst 4, 1) := by decide +kernel
theorem dX8_post_70 : decode cX8_post 70 = .ok (.iload_n 1, 1) := by decide +kernel
theorem dX8_post_71 : decode cX8_post 71 = .ok (.invokevirtual 150, 3) := by decide +kernel
theorem dX8_post_74 : decode cX8_post 74 = .ok (.ireturn, 1) := by decide +kernel
theorem dX8_post_75 : decode cX8_post 75 = .ok (.aload_n 0, 1) := by decide +kernel
theorem dX8_post_76 : decode cX8_post 76 = .ok (.getfield 10, 3) := by decide +kernel
theorem dX8_post_79 : decode cX8_post 79 = .ok (.iload_n 1, 1) := by decide +kernel
theorem dX8_post_80 : decode cX8_post 80 = .ok (.invokevirtual 194, 3) := by decide +kernel
theorem dX8_post_83 : decode cX8_post 83 = .ok (.ireturn, 1) := by decide +kernel
theorem dX8_post_84 : decode cX8_post 84 = .ok (.aload_n 0, 1) := by decide +kernel
theorem dX8_post_85 : decode cX8_post 85 = .ok (.getfield 10, 3) := by decide +kernel
theorem dX8_post_88 : decode cX8_post 88 = .ok (.iload_n 1, 1) := by decide +kernel
theorem dX8_post_89 : decode cX8_post 89 = .ok (.invokevirtual 197, 3) := by decide +kernel
theorem dX8_post_92 : decode cX8_post 92 = .ok (.ireturn, 1) := by decide +kernel
theorem dX8_post_93 : decode cX8_post 93 = .ok (.aload_n 0, 1) := by decide +kernel
theorem dX8_post_94 : decode cX8_post 94 = .ok (.getfield 10, 3) := by decide +kernel
theorem dX8_post_97 : decode cX8_post 97 = .ok (.iload_n 1, 1) := by decide +kernel
theorem dX8_post_98 : decode cX8_post 98 = .ok (.invokevirtual 200, 3) := by decide +kernel
theorem dX8_post_101 : decode cX8_post 101 = .ok (.ireturn, 1) := by decide +kernel
theorem dX8_post_102 : decode cX8_post 102 = .ok (.new 75, 3) := by decide +kernel
theorem dX8_post_105 : decode cX8_post 105 = .ok (.dup, 1) := by decide +kernel
theorem dX8_post_106 : decode cX8_post 106 = .ok (.invokespecial 77, 3) := by decide +kernel
theorem dX8_post_109 : decode cX8_post 109 = .ok (.athrow, 1) := by decide +kernel
def fX8_post (N : Nat) (Z : mZ) (a0 : Nat) (a1 : Int32) (a2 : Int32) (M : mM) : Option ((Int32 ⊕ String) × mM) := ck (okO Z a0 8) (bnd1 (Z.2.2.2 a0 0) (fun c2 => ck (okO Z c2 4) (bnd2 (fX4_hasPlace N Z c2 a1 M) (fun r4 M4 => if r4 = 0 then some (.inr "java/lang/IndexOutOfBoundsException", sT M4) else if a2 = nI 0 then bnd2 (fX4_postHeight N Z c2 a1 M4) (fun r7 M7 => some (.inl r7, M7)) else if a2 = nI 1 then bnd2 (fX4_levelsWith N Z c2 (4 : Int32) a1 M4) (fun r9 M9 => some (.inl r9, M9)) else if a2 = nI 2 then bnd2 (fX4_postLoad N Z c2 a1 M4) (fun r11 M11 => some (.inl r11, M11)) else if a2 = nI 3 then bnd2 (fX4_neededTies N Z c2 a1 M4) (fun r13 M13 => some (.inl r13, M13)) else if a2 = nI 4 then bnd2 (fX4_tiesForOneLevelMore N Z c2 a1 M4) (fun r15 M15 => some (.inl r15, M15)) else some (.inr "java/lang/IllegalArgumentException", sT M4)))))
set_option maxHeartbeats 4000000 in
set_option maxRecDepth 100000 in
theorem ctX8_post {G : mG} {l : Launch} (hl : l.stackTraces = false) (N : Nat) (Z : mZ) {a0 : Nat} {a1 : Int32} {a2 : Int32} {M : mM} {r : (Int32 ⊕ String)} {M' : mM} (h : fX8_post N Z a0 a1 a2 M = some (r, M')) : CT G l yX8_post (.code yX8_post cX8_post 3 (some .int)) rmX8_post [.ref a0, .int a1, .int a2] Z M (oI r) Z M' := by
  unfold fX8_post at h
  refine CT.of hl (by decide) (Nat.le_of_ble_eq_true rfl) ?_
  intro p e s m args below meth c C hnm
  refine j_sub (L' := [(0, .ref a0), (1, .int a1), (2, .int a2)]) [0, 1, 2] rfl ?_
  refine j_aload_n C dX8_post_0 rfl 0 rfl ?_
  obtain ⟨ho1, h⟩ := ck_spec h
  obtain ⟨c2, hr2, h⟩ := bnd1_spec h
  refine j_getR C (cn := RX8) (T := TX8) (N := 11) (ci := 8) rfl iX8 ho1 0 (by decide) rfl fwRX8_10 dX8_post_1 hr2 ?_
  refine j_iload_n C dX8_post_4 rfl 1 rfl ?_
  obtain ⟨ho3, h⟩ := ck_spec h
  obtain ⟨r4, M4, hq4, h⟩ := bnd2_spec h
  refine j_run1 (c_V C (As := [.int a1]) (rest := []) (ctX4_hasPlace C.2.2.2.2.2.2.2.2.1 N Z hq4) kcRX8_130 oyX4_hasPlace (ci := 4) (T := TX4) (N := 7) rfl (by decide) ho3 ⟨by decide, by decide⟩ ⟨by decide, by decide⟩ (Nat.le_of_ble_eq_true rfl) rfl dX8_post_5) ?_
  refine j_if_ne C dX8_post_8 (tgt := 19) (by decide) (fun hc5 => ?_) (fun hc5 => ?_)
  · rw [if_neg hc5] at h
    refine j_iload_n C dX8_post_19 rfl 2 rfl ?_
    by_cases hc6 : a2 = nI 0
    · rw [if_pos hc6] at h
      refine j_tableIn C dX8_post_20 (by rw [hc6]; decide) (by rw [hc6]; decide) (off := 36) (by rw [hc6]; rfl) (tgt := 56) (by decide) ?_
      refine j_aload_n C dX8_post_56 rfl 0 rfl ?_
      refine j_getR C (cn := RX8) (T := TX8) (N := 11) (ci := 8) rfl iX8 ho1 0 (by decide) rfl fwRX8_10 dX8_post_57 hr2 ?_
      refine j_iload_n C dX8_post_60 rfl 1 rfl ?_
      obtain ⟨r7, M7, hq7, h⟩ := bnd2_spec h
      refine j_run1 (c_V C (As := [.int a1]) (rest := []) (ctX4_postHeight C.2.2.2.2.2.2.2.2.1 N Z hq7) kcRX8_191 oyX4_postHeight (ci := 4) (T := TX4) (N := 7) rfl (by decide) ho3 ⟨by decide, by decide⟩ ⟨by decide, by decide⟩ (Nat.le_of_ble_eq_true rfl) rfl dX8_post_61) ?_
      cases h
      exact j_iret C rfl (by decide) (by decide) dX8_post_64
    rw [if_neg hc6] at h
    by_cases hc8 : a2 = nI 1
    · rw [if_pos hc8] at h
      refine j_tableIn C dX8_post_20 (by rw [hc8]; decide) (by rw [hc8]; decide) (off := 45) (by rw [hc8]; rfl) (tgt := 65) (by decide) ?_
      refine j_aload_n C dX8_post_65 rfl 0 rfl ?_
      refine j_getR C (cn := RX8) (T := TX8) (N := 11) (ci := 8) rfl iX8 ho1 0 (by decide) rfl fwRX8_10 dX8_post_66 hr2 ?_
      refine j_iconst C dX8_post_69 (v := (4 : Int32)) (by decide) ?_
      refine j_iload_n C dX8_post_70 rfl 1 rfl ?_
      obtain ⟨r9, M9, hq9, h⟩ := bnd2_spec h
      refine j_run1 (c_V C (As := [.int (4 : Int32), .int a1]) (rest := []) (ctX4_levelsWith C.2.2.2.2.2.2.2.2.1 N Z hq9) kcRX8_150 oyX4_levelsWith (ci := 4) (T := TX4) (N := 7) rfl (by decide) ho3 ⟨by decide, by decide⟩ ⟨by decide, by decide⟩ (Nat.le_of_ble_eq_true rfl) rfl dX8_post_71) ?_
      cases h
      exact j_iret C rfl (by decide) (by decide) dX8_post_74
    rw [if_neg hc8] at h
    by_cases hc10 : a2 = nI 2
    · rw [if_pos hc10] at h
      refine j_tableIn C dX8_post_20 (by rw [hc10]; decide) (by rw [hc10]; decide) (off := 55) (by rw [hc10]; rfl) (tgt := 75) (by decide) ?_
      refine j_aload_n C dX8_post_75 rfl 0 rfl ?_
      refine j_getR C (cn := RX8) (T := TX8) (N := 11) (ci := 8) rfl iX8 ho1 0 (by decide) rfl fwRX8_10 dX8_post_76 hr2 ?_
      refine j_iload_n C dX8_post_79 rfl 1 rfl ?_
      obtain ⟨r11, M11, hq11, h⟩ := bnd2_spec h
      refine j_run1 (c_V C (As := [.int a1]) (rest := []) (ctX4_postLoad C.2.2.2.2.2.2.2.2.1 N Z hq11) kcRX8_194 oyX4_postLoad (ci := 4) (T := TX4) (N := 7) rfl (by decide) ho3 ⟨by decide, by decide⟩ ⟨by decide, by decide⟩ (Nat.le_of_ble_eq_true rfl) rfl dX8_post_80) ?_
      cases h
      exact j_iret C rfl (by decide) (by decide) dX8_post_83
    rw [if_neg hc10] at h
    by_cases hc12 : a2 = nI 3
    · rw [if_pos hc12] at h
      refine j_tableIn C dX8_post_20 (by rw [hc12]; decide) (by rw [hc12]; decide) (off := 64) (by rw [hc12]; rfl) (tgt := 84) (by decide) ?_
      refine j_aload_n C dX8_post_84 rfl 0 rfl ?_
      refine j_getR C (cn := RX8) (T := TX8) (N := 11) (ci := 8) rfl iX8 ho1 0 (by decide) rfl fwRX8_10 dX8_post_85 hr2 ?_
      refine j_iload_n C dX8_post_88 rfl 1 rfl ?_
      obtain ⟨r13, M13, hq13, h⟩ := bnd2_spec h
      refine j_run1 (c_V C (As := [.int a1]) (rest := []) (ctX4_neededTies C.2.2.2.2.2.2.2.2.1 N Z hq13) kcRX8_197 oyX4_neededTies (ci := 4) (T := TX4) (N := 7) rfl (by decide) ho3 ⟨by decide, by decide⟩ ⟨by decide, by decide⟩ (Nat.le_of_ble_eq_true rfl) rfl dX8_post_89) ?_
      cases h
      exact j_iret C rfl (by decide) (by decide) dX8_post_92
    rw [if_neg hc12] at h
    by_cases hc14 : a2 = nI 4
    · rw [if_pos hc14] at h
      refine j_tableIn C dX8_post_20 (by rw [hc14]; decide) (by rw [hc14]; decide) (off := 73) (by rw [hc14]; rfl) (tgt := 93) (by decide) ?_
      refine j_aload_n C dX8_post_93 rfl 0 rfl ?_
      refine j_getR C (cn := RX8) (T := TX8) (N := 11) (ci := 8) rfl iX8 ho1 0 (by decide) rfl fwRX8_10 dX8_post_94 hr2 ?_
      refine j_iload_n C dX8_post_97 rfl 1 rfl ?_
      obtain ⟨r15, M15, hq15, h⟩ := bnd2_spec h
      refine j_run1 (c_V C (As := [.int a1]) (rest := []) (ctX4_tiesForOneLevelMore C.2.2.2.2.2.2.2.2.1 N Z hq15) kcRX8_200 oyX4_tiesForOneLevelMore (ci := 4) (T := TX4) (N := 7) rfl (by decide) ho3 ⟨by decide, by decide⟩ ⟨by decide, by decide⟩ (Nat.le_of_ble_eq_true rfl) rfl dX8_post_98) ?_
      cases h
      exact j_iret C rfl (by decide) (by decide) dX8_post_101
    rw [if_neg hc14] at h
    refine j_tableOut C dX8_post_20 (sw_out (n := 4) (by decide) (fun j hj => by rcases (show j = 0 ∨ j = 1 ∨ j = 2 ∨ j = 3 ∨ j = 4 by omega) with rfl | rfl | rfl | rfl | rfl <;> assumption)) (tgt := 102) (by decide) ?_
    cases h
    exact j_throw C (rm := rmX8_post) thRX8_75 (by decide) (Nat.le_of_ble_eq_true rfl) ⟨by decide, by decide⟩ (by decide) (by decide) dX8_post_102 dX8_post_105 dX8_post_106 dX8_post_109
  · rw [if_pos hc5] at h
    cases h
    exact j_throw C (rm := rmX8_post) thRX8_124 (by decide) (Nat.le_of_ble_eq_true rfl) ⟨by decide, by decide⟩ (by decide) (by decide) dX8_post_11 dX8_post_14 dX8_post_15 dX8_post_18
-- ScaffoldPlanner load
theorem kcRX8_203 : okV RX8 203 yX4_has (.code yX4_has cX4_has 4 (some .boolean)) = true := by decide +kernel
theorem fwRX8_207 : Cond.fieldLink RX8 207 RX4 (TX4 4).2.1 (TX4 4).2.2.1 ∈ gw := by decide +kernel
abbrev rmX8_load : Room := { frames := 6, cells := 1, slots := 6, locals := 90 }
theorem dX8_load_0 : decode cX8_load 0 = .ok (.aload_n 0, 1) := by decide +kernel
theorem dX8_load_1 : decode cX8_load 1 = .ok (.getfield 10, 3) := by decide +kernel
theorem dX8_load_4 : decode cX8_load 4 = .ok (.iload_n 1, 1) := by decide +kernel
theorem dX8_load_5 : decode cX8_load 5 = .ok (.invokevirtual 130, 3) := by decide +kernel
theorem dX8_load_8 : decode cX8_load 8 = .ok (.ifCond .ne 11, 3) := by decide +kernel
theorem dX8_load_11 : decode cX8_load 11 = .ok (.new 124, 3) := by decide +kernel
theorem dX8_load_14 : decode cX8_load 14 = .ok (.dup, 1) := by decide +kernel
theorem dX8_load_15 : decode cX8_load 15 = .ok (.invokespecial 126, 3) := by decide +kernel
theorem dX8_load_18 : decode cX8_load 18 = .ok (.athrow, 1) := by decide +kernel
theorem dX8_load_19 : decode cX8_load 19 = .ok (.aload_n 0, 1) := by decide +kernel
theorem dX8_load_20 : decode cX8_load 20 = .ok (.getfield 10, 3) := by decide +kernel
theorem dX8_load_23 : decode cX8_load 23 = .ok (.iconst 2, 1) := by decide +kernel
theorem dX8_load_24 : decode cX8_load 24 = .ok (.iload_n 1, 1) := by decide +kernel
theorem dX8_load_25 : decode cX8_load 25 = .ok (.iload_n 2, 1) := by decide +kernel
theorem dX8_load_26 : decode cX8_load 26 = .ok (.invokevirtual 203, 3) := by decide +kernel
theorem dX8_load_29 : decode cX8_load 29 = .ok (.ifCond .ne 11, 3) := by decide +kernel
theorem dX8_load_32 : decode cX8_load 32 = .ok (.new 176, 3) := by decide +kernel
theorem dX8_load_35 : decode cX8_load 35 = .ok (.dup, 1) := by decide +kernel
theorem dX8_load_36 : decode cX8_load 36 = .ok (.invokespecial 178, 3) := by decide +kernel
theorem dX8_load_39 : decode cX8_load 39 = .ok (.athrow, 1) := by decide +kernel
theorem dX8_load_40 : decode cX8_load 40 = .ok (.aload_n 0, 1) := by decide +kernel
theorem dX8_load_41 : decode cX8_load 41 = .ok (.getfield 10, 3) := by decide +kernel
theorem dX8_load_44 : decode cX8_load 44 = .ok (.getfield 207, 3) := by decide +kernel
theorem dX8_load_47 : decode cX8_load 47 = .ok (.iload_n 1, 1) := by decide +kernel
theorem dX8_load_48 : decode cX8_load 48 = .ok (.bipush 7, 2) := by decide +kernel
theorem dX8_load_50 : decode cX8_load 50 = .ok (.imul, 1) := by decide +kernel
theorem dX8_load_51 : decode cX8_load 51 = .ok (.iload_n 2, 1) := by decide +kernel
theorem dX8_load_52 : decode cX8_load 52 = .ok (.iadd, 1) := by decide +kernel
theorem dX8_load_53 : decode cX8_load 53 = .ok (.invokestatic 96, 3) := by decide +kernel
theorem dX8_load_56 : decode cX8_load 56 = .ok (.ireturn, 1) := by decide +kernel
def fX8_load (N : Nat) (Z : mZ) (a0 : Nat) (a1 : Int32) (a2 : Int32) (M : mM) : Option ((Int32 ⊕ String) × mM) := ck (okO Z a0 8) (bnd1 (Z.2.2.2 a0 0) (fun c2 => ck (okO Z c2 4) (bnd2 (fX4_hasPlace N Z c2 a1 M) (fun r4 M4 => if r4 = 0 then some (.inr "java/lang/IndexOutOfBoundsException", sT M4) else bnd2 (fX4_has N Z c2 (2 : Int32) a1 a2 M4) (fun r6 M6 => if r6 = 0 then some (.inr "java/util/NoSuchElementException", sT M6) else bnd1 (Z.2.2.2 c2 4) (fun c8 => bnd2 (fX8_at N Z c8 ((a1 * (7 : Int32)) + a2) M6) (fun r9 M9 => some (.inl r9, M9))))))))
set_option maxHeartbeats 4000000 in
set_option maxRecDepth 100000 in
theorem ctX8_load {G : mG} {l : Launch} (hl : l.stackTraces = false) (N : Nat) (Z : mZ) {a0 : Nat} {a1 : Int32} {a2 : Int32} {M : mM} {r : (Int32 ⊕ String)} {M' : mM} (h : fX8_load N Z a0 a1 a2 M = some (r, M')) : CT G l yX8_load (.code yX8_load cX8_load 3 (some .int)) rmX8_load [.ref a0, .int a1, .int a2] Z M (oI r) Z M' := by
  unfold fX8_load at h
  refine CT.of hl (by decide) (Nat.le_of_ble_eq_true rfl) ?_
  intro p e s m args below meth c C hnm
  refine j_sub (L' := [(0, .ref a0), (1, .int a1), (2, .int a2)]) [0, 1, 2] rfl ?_
  refine j_aload_n C dX8_load_0 rfl 0 rfl ?_
  obtain ⟨ho1, h⟩ := ck_spec h
  obtain ⟨c2, hr2, h⟩ := bnd1_spec h
  refine j_getR C (cn := RX8) (T := TX8) (N := 11) (ci := 8) rfl iX8 ho1 0 (by decide) rfl fwRX8_10 dX8_load_1 hr2 ?_
  refine j_iload_n C dX8_load_4 rfl 1 rfl ?_
  obtain ⟨ho3, h⟩ := ck_spec h
  obtain ⟨r4, M4, hq4, h⟩ := bnd2_spec h
  refine j_run1 (c_V C (As := [.int a1]) (rest := []) (ctX4_hasPlace C.2.2.2.2.2.2.2.2.1 N Z hq4) kcRX8_130 oyX4_hasPlace (ci := 4) (T := TX4) (N := 7) rfl (by decide) ho3 ⟨by decide, by decide⟩ ⟨by decide, by decide⟩ (Nat.le_of_ble_eq_true rfl) rfl dX8_load_5) ?_
  refine j_if_ne C dX8_load_8 (tgt := 19) (by decide) (fun hc5 => ?_) (fun hc5 => ?_)
  · rw [if_neg hc5] at h
    refine j_aload_n C dX8_load_19 rfl 0 rfl ?_
    refine j_getR C (cn := RX8) (T := TX8) (N := 11) (ci := 8) rfl iX8 ho1 0 (by decide) rfl fwRX8_10 dX8_load_20 hr2 ?_
    refine j_iconst C dX8_load_23 (v := (2 : Int32)) (by decide) ?_
    refine j_iload_n C dX8_load_24 rfl 1 rfl ?_
    refine j_iload_n C dX8_load_25 rfl 2 rfl ?_
    obtain ⟨r6, M6, hq6, h⟩ := bnd2_spec h
    refine j_run1 (c_V C (As := [.int (2 : Int32), .int a1, .int a2]) (rest := []) (ctX4_has C.2.2.2.2.2.2.2.2.1 N Z hq6) kcRX8_203 oyX4_has (ci := 4) (T := TX4) (N := 7) rfl (by decide) ho3 ⟨by decide, by decide⟩ ⟨by decide, by decide⟩ (Nat.le_of_ble_eq_true rfl) rfl dX8_load_26) ?_
    refine j_if_ne C dX8_load_29 (tgt := 40) (by decide) (fun hc7 => ?_) (fun hc7 => ?_)
    · rw [if_neg hc7] at h
      refine j_aload_n C dX8_load_40 rfl 0 rfl ?_
      refine j_getR C (cn := RX8) (T := TX8) (N := 11) (ci := 8) rfl iX8 ho1 0 (by decide) rfl fwRX8_10 dX8_load_41 hr2 ?_
      obtain ⟨c8, hr8, h⟩ := bnd1_spec h
      refine j_getR C (cn := RX4) (T := TX4) (N := 7) (ci := 4) rfl iX4 ho3 4 (by decide) rfl fwRX8_207 dX8_load_44 hr8 ?_
      refine j_iload_n C dX8_load_47 rfl 1 rfl ?_
      refine j_bipush C dX8_load_48 (v := (7 : Int32)) (by decide) ?_
      refine j_imul C dX8_load_50 ?_
      refine j_iload_n C dX8_load_51 rfl 2 rfl ?_
      refine j_iadd C dX8_load_52 ?_
      obtain ⟨r9, M9, hq9, h⟩ := bnd2_spec h
      refine j_run1 (c_S C (As := [.ref c8, .int ((a1 * (7 : Int32)) + a2)]) (rest := []) (ctX8_at C.2.2.2.2.2.2.2.2.1 N Z hq9) kcRX8_96 oyX8_at ⟨by decide, by decide⟩ ⟨by decide, by decide⟩ (Nat.le_of_ble_eq_true rfl) rfl dX8_load_53) ?_
      cases h
      exact j_iret C rfl (by decide) (by decide) dX8_load_56
    · rw [if_pos hc7] at h
      cases h
      exact j_throw C (rm := rmX8_load) thRX8_176 (by decide) (Nat.le_of_ble_eq_true rfl) ⟨by decide, by decide⟩ (by decide) (by decide) dX8_load_32 dX8_load_35 dX8_load_36 dX8_load_39
  · rw [if_pos hc5] at h
    cases h
    exact j_throw C (rm := rmX8_load) thRX8_124 (by decide) (Nat.le_of_ble_eq_true rfl) ⟨by decide, by decide⟩ (by decide) (by decide) dX8_load_11 dX8_load_14 dX8_load_15 dX8_load_18
-- ScaffoldPlanner steps
theorem kcRX8_210 : okV RX8 210 yX6_isReached (.code yX6_isReached cX6_isReached 3 (some .boolean)) = true := by decide +kernel
theorem fwRX8_214 : Cond.fieldLink RX8 214 RX6 (TX6 1).2.1 (TX6 1).2.2.1 ∈ gw := by decide +kernel
abbrev rmX8_steps : Room := { frames := 6, cells := 1, slots := 6, locals := 90 }
theorem dX8_steps_0 : decode cX8_steps 0 = .ok (.aload_n 0, 1) := by decide +kernel
theorem dX8_steps_1 : decode cX8_steps 1 = .ok (.getfield 10, 3) := by decide +kernel
theorem dX8_steps_4 : decode cX8_steps 4 = .ok (.iload_n 1, 1) := by decide +kernel
theorem dX8_steps_5 : decode cX8_steps 5 = .ok (.invokevirtual 130, 3) := by decide +kernel
theorem dX8_steps_8 : decode cX8_steps 8 = .ok (.ifCond .ne 11, 3) := by decide +kernel
theorem dX8_steps_11 : decode cX8_steps 11 = .ok (.new 124, 3) := by decide +kernel
theorem dX8_steps_14 : decode cX8_steps 14 = .ok (.dup, 1) := by decide +kernel
theorem dX8_steps_15 : decode cX8_steps 15 = .ok (.invokespecial 126, 3) := by decide +kernel
theorem dX8_steps_18 : decode cX8_steps 18 = .ok (.athrow, 1) := by decide +kernel
theorem dX8_steps_19 : decode cX8_steps 19 = .ok (.aload_n 0, 1) := by decide +kernel
theorem dX8_steps_20 : decode cX8_steps 20 = .ok (.getfield 36, 3) := by decide +kernel
theorem dX8_steps_23 : decode cX8_steps 23 = .ok (.aload_n 0, 1) := by decide +kernel
theorem dX8_steps_24 : decode cX8_steps 24 = .ok (.getfield 10, 3) := by decide +kernel
theorem dX8_steps_27 : decode cX8_steps 27 = .ok (.invokevirtual 163, 3) := by decide +kernel
theorem dX8_steps_30 : decode cX8_steps 30 = .ok (.aload_n 0, 1) := by decide +kernel
theorem dX8_steps_31 : decode cX8_steps 31 = .ok (.getfield 36, 3) := by decide +kernel
theorem dX8_steps_34 : decode cX8_steps 34 = .ok (.iload_n 1, 1) := by decide +kernel
theorem dX8_steps_35 : decode cX8_steps 35 = .ok (.iload_n 2, 1) := by decide +kernel
theorem dX8_steps_36 : decode cX8_steps 36 = .ok (.invokevirtual 210, 3) := by decide +kernel
theorem dX8_steps_39 : decode cX8_steps 39 = .ok (.ifCond .ne 11, 3) := by decide +kernel
theorem dX8_steps_42 : decode cX8_steps 42 = .ok (.new 176, 3) := by decide +kernel
theorem dX8_steps_45 : decode cX8_steps 45 = .ok (.dup, 1) := by decide +kernel
theorem dX8_steps_46 : decode cX8_steps 46 = .ok (.invokespecial 178, 3) := by decide +kernel
theorem dX8_steps_49 : decode cX8_steps 49 = .ok (.athrow, 1) := by decide +kernel
theorem dX8_steps_50 : decode cX8_steps 50 = .ok (.aload_n 0, 1) := by decide +kernel
theorem dX8_steps_51 : decode cX8_steps 51 = .ok (.getfield 36, 3) := by decide +kernel
theorem dX8_steps_54 : decode cX8_steps 54 = .ok (.getfield 214, 3) := by decide +kernel
theorem dX8_steps_57 : decode cX8_steps 57 = .ok (.iload_n 1, 1) := by decide +kernel
theorem dX8_steps_58 : decode cX8_steps 58 = .ok (.bipush 7, 2) := by decide +kernel
theorem dX8_steps_60 : decode cX8_steps 60 = .ok (.imul, 1) := by decide +kernel
theorem dX8_steps_61 : decode cX8_steps 61 = .ok (.iload_n 2, 1) := by decide +kernel
theorem dX8_steps_62 : decode cX8_steps 62 = .ok (.iadd, 1) := by decide +kernel
theorem dX8_steps_63 : decode cX8_steps 63 = .ok (.invokestatic 96, 3) := by decide +kernel
theorem dX8_steps_66 : decode cX8_steps 66 = .ok (.ireturn, 1) := by decide +kernel
def fX8_steps (N : Nat) (Z : mZ) (a0 : Nat) (a1 : Int32) (a2 : Int32) (M : mM) : Option ((Int32 ⊕ String) × mM) := ck (okO Z a0 8) (bnd1 (Z.2.2.2 a0 0) (fun c2 => ck (okO Z c2 4) (bnd2 (fX4_hasPlace N Z c2 a1 M) (fun r4 M4 => if r4 = 0 then some (.inr "java/lang/IndexOutOfBoundsException", sT M4) else bnd1 (Z.2.2.2 a0 5) (fun c6 => ck (okO Z c6 6) (bnd2 (fX6_explore N Z c6 c2 M4) (fun _ M8 => bnd2 (fX6_isReached N Z c6 a1 a2 M8) (fun r9 M9 => if r9 = 0 then some (.inr "java/util/NoSuchElementException", sT M9) else bnd1 (Z.2.2.2 c6 1) (fun c11 => bnd2 (fX8_at N Z c11 ((a1 * (7 : Int32)) + a2) M9) (fun r12 M12 => some (.inl r12, M12)))))))))))
set_option maxHeartbeats 4000000 in
set_option maxRecDepth 100000 in
theorem ctX8_steps {G : mG} {l : Launch} (hl : l.stackTraces = false) (N : Nat) (Z : mZ) {a0 : Nat} {a1 : Int32} {a2 : Int32} {M : mM} {r : (Int32 ⊕ String)} {M' : mM} (h : fX8_steps N Z a0 a1 a2 M = some (r, M')) : CT G l yX8_steps (.code yX8_steps cX8_steps 3 (some .int)) rmX8_steps [.ref a0, .int a1, .int a2] Z M (oI r) Z M' := by
  unfold fX8_steps at h
  refine CT.of hl (by decide) (Nat.le_of_ble_eq_true rfl) ?_
  intro p e s m args below meth c C hnm
  refine j_sub (L' := [(0, .ref a0), (1, .int a1), (2, .int a2)]) [0, 1, 2] rfl ?_
  refine j_aload_n C dX8_steps_0 rfl 0 rfl ?_
  obtain ⟨ho1, h⟩ := ck_spec h
  obtain ⟨c2, hr2, h⟩ := bnd1_spec h
  refine j_getR C (cn := RX8) (T := TX8) (N := 11) (ci := 8) rfl iX8 ho1 0 (by decide) rfl fwRX8_10 dX8_steps_1 hr2 ?_
  refine j_iload_n C dX8_steps_4 rfl 1 rfl ?_
  obtain ⟨ho3, h⟩ := ck_spec h
  obtain ⟨r4, M4, hq4, h⟩ := bnd2_spec h
  refine j_run1 (c_V C (As := [.int a1]) (rest := []) (ctX4_hasPlace C.2.2.2.2.2.2.2.2.1 N Z hq4) kcRX8_130 oyX4_hasPlace (ci := 4) (T := TX4) (N := 7) rfl (by decide) ho3 ⟨by decide, by decide⟩ ⟨by decide, by decide⟩ (Nat.le_of_ble_eq_true rfl) rfl dX8_steps_5) ?_
  refine j_if_ne C dX8_steps_8 (tgt := 19) (by decide) (fun hc5 => ?_) (fun hc5 => ?_)
  · rw [if_neg hc5] at h
    refine j_aload_n C dX8_steps_19 rfl 0 rfl ?_
    obtain ⟨c6, hr6, h⟩ := bnd1_spec h
    refine j_getR C (cn := RX8) (T := TX8) (N := 11) (ci := 8) rfl iX8 ho1 5 (by decide) rfl fwRX8_36 dX8_steps_20 hr6 ?_
    refine j_aload_n C dX8_steps_23 rfl 0 rfl ?_
    refine j_getR C (cn := RX8) (T := TX8) (N := 11) (ci := 8) rfl iX8 ho1 0 (by decide) rfl fwRX8_10 dX8_steps_24 hr2 ?_
    obtain ⟨ho7, h⟩ := ck_spec h
    obtain ⟨_, M8, hq8, h⟩ := bnd2_spec h
    refine j_run0 (c_V C (As := [.ref c2]) (rest := []) (ctX6_explore C.2.2.2.2.2.2.2.2.1 N Z hq8) kcRX8_163 oyX6_explore (ci := 6) (T := TX6) (N := 4) rfl (by decide) ho7 ⟨by decide, by decide⟩ ⟨by decide, by decide⟩ (Nat.le_of_ble_eq_true rfl) rfl dX8_steps_27) ?_
    refine j_aload_n C dX8_steps_30 rfl 0 rfl ?_
    refine j_getR C (cn := RX8) (T := TX8) (N := 11) (ci := 8) rfl iX8 ho1 5 (by decide) rfl fwRX8_36 dX8_steps_31 hr6 ?_
    refine j_iload_n C dX8_steps_34 rfl 1 rfl ?_
    refine j_iload_n C dX8_steps_35 rfl 2 rfl ?_
    obtain ⟨r9, M9, hq9, h⟩ := bnd2_spec h
    refine j_run1 (c_V C (As := [.int a1, .int a2]) (rest := []) (ctX6_isReached C.2.2.2.2.2.2.2.2.1 N Z hq9) kcRX8_210 oyX6_isReached (ci := 6) (T := TX6) (N := 4) rfl (by decide) ho7 ⟨by decide, by decide⟩ ⟨by decide, by decide⟩ (Nat.le_of_ble_eq_true rfl) rfl dX8_steps_36) ?_
    refine j_if_ne C dX8_steps_39 (tgt := 50) (by decide) (fun hc10 => ?_) (fun hc10 => ?_)
    · rw [if_neg hc10] at h
      refine j_aload_n C dX8_steps_50 rfl 0 rfl ?_
      refine j_getR C (cn := RX8) (T := TX8) (N := 11) (ci := 8) rfl iX8 ho1 5 (by decide) rfl fwRX8_36 dX8_steps_51 hr6 ?_
      obtain ⟨c11, hr11, h⟩ := bnd1_spec h
      refine j_getR C (cn := RX6) (T := TX6) (N := 4) (ci := 6) rfl iX6 ho7 1 (by decide) rfl fwRX8_214 dX8_steps_54 hr11 ?_
      refine j_iload_n C dX8_steps_57 rfl 1 rfl ?_
      refine j_bipush C dX8_steps_58 (v := (7 : Int32)) (by decide) ?_
      refine j_imul C dX8_steps_60 ?_
      refine j_iload_n C dX8_steps_61 rfl 2 rfl ?_
      refine j_iadd C dX8_steps_62 ?_
      obtain ⟨r12, M12, hq12, h⟩ := bnd2_spec h
      refine j_run1 (c_S C (As := [.ref c11, .int ((a1 * (7 : Int32)) + a2)]) (rest := []) (ctX8_at C.2.2.2.2.2.2.2.2.1 N Z hq12) kcRX8_96 oyX8_at ⟨by decide, by decide⟩ ⟨by decide, by decide⟩ (Nat.le_of_ble_eq_true rfl) rfl dX8_steps_63) ?_
      cases h
      exact j_iret C rfl (by decide) (by decide) dX8_steps_66
    · rw [if_pos hc10] at h
      cases h
      exact j_throw C (rm := rmX8_steps) thRX8_176 (by decide) (Nat.le_of_ble_eq_true rfl) ⟨by decide, by decide⟩ (by decide) (by decide) dX8_steps_42 dX8_steps_45 dX8_steps_46 dX8_steps_49
  · rw [if_pos hc5] at h
    cases h
    exact j_throw C (rm := rmX8_steps) thRX8_124 (by decide) (Nat.le_of_ble_eq_true rfl) ⟨by decide, by decide⟩ (by decide) (by decide) dX8_steps_11 dX8_steps_14 dX8_steps_15 dX8_steps_18
-- ScaffoldPlanner leastTieSet
theorem kcRX8_313 : okS RX8 313 yX8_isHeld (.code yX8_isHeld cX8_isHeld 6 (some .boolean)) = true := by decide +kernel
abbrev rmX8_leastTieSet : Room := { frames := 1, cells := 0, slots := 0, locals := 25 }
theorem dX8_leastTieSet_0 : decode cX8_leastTieSet 0 = .ok (.aload_n 0, 1) := by decide +kernel
theorem dX8_leastTieSet_1 : decode cX8_leastTieSet 1 = .ok (.getfield 10, 3) := by decide +kernel
theorem dX8_leastTieSet_4 : decode cX8_leastTieSet 4 = .ok (.getfield 107, 3) := by decide +kernel
theorem dX8_leastTieSet_7 : decode cX8_leastTieSet 7 = .ok (.iconst 0, 1) := by decide +kernel
theorem dX8_leastTieSet_8 : decode cX8_leastTieSet 8 = .ok (.invokestatic 96, 3) := by decide +kernel
theorem dX8_leastTieSet_11 : decode cX8_leastTieSet 11 = .ok (.istore_n 2, 1) := by decide +kernel
theorem dX8_leastTieSet_12 : decode cX8_leastTieSet 12 = .ok (.aload_n 0, 1) := by decide +kernel
theorem dX8_leastTieSet_13 : decode cX8_leastTieSet 13 = .ok (.getfield 10, 3) := by decide +kernel
theorem dX8_leastTieSet_16 : decode cX8_leastTieSet 16 = .ok (.getfield 107, 3) := by decide +kernel
theorem dX8_leastTieSet_19 : decode cX8_leastTieSet 19 = .ok (.iconst 1, 1) := by decide +kernel
theorem dX8_leastTieSet_20 : decode cX8_leastTieSet 20 = .ok (.invokestatic 96, 3) := by decide +kernel
theorem dX8_leastTieSet_23 : decode cX8_leastTieSet 23 = .ok (.istore_n 3, 1) := by decide +kernel
theorem dX8_leastTieSet_24 : decode cX8_leastTieSet 24 = .ok (.iconst 0, 1) := by decide +kernel
theorem dX8_leastTieSet_25 : decode cX8_leastTieSet 25 = .ok (.istore 4, 2) := by decide +kernel
theorem dX8_leastTieSet_27 : decode cX8_leastTieSet 27 = .ok (.iload_n 1, 1) := by decide +kernel
theorem dX8_leastTieSet_28 : decode cX8_leastTieSet 28 = .ok (.iconst 1, 1) := by decide +kernel
theorem dX8_leastTieSet_29 : decode cX8_leastTieSet 29 = .ok (.iadd, 1) := by decide +kernel
theorem dX8_leastTieSet_30 : decode cX8_leastTieSet 30 = .ok (.istore 5, 2) := by decide +kernel
theorem dX8_leastTieSet_32 : decode cX8_leastTieSet 32 = .ok (.iconst 0, 1) := by decide +kernel
theorem dX8_leastTieSet_33 : decode cX8_leastTieSet 33 = .ok (.istore 6, 2) := by decide +kernel
theorem dX8_leastTieSet_35 : decode cX8_leastTieSet 35 = .ok (.iload 6, 2) := by decide +kernel
theorem dX8_leastTieSet_37 : decode cX8_leastTieSet 37 = .ok (.iconst 2, 1) := by decide +kernel
theorem dX8_leastTieSet_38 : decode cX8_leastTieSet 38 = .ok (.iload_n 1, 1) := by decide +kernel
theorem dX8_leastTieSet_39 : decode cX8_leastTieSet 39 = .ok (.ishl, 1) := by decide +kernel
theorem dX8_leastTieSet_40 : decode cX8_leastTieSet 40 = .ok (.if_icmp .ge 42, 3) := by decide +kernel
theorem dX8_leastTieSet_43 : decode cX8_leastTieSet 43 = .ok (.iload 6, 2) := by decide +kernel
theorem dX8_leastTieSet_45 : decode cX8_leastTieSet 45 = .ok (.invokestatic 154, 3) := by decide +kernel
theorem dX8_leastTieSet_48 : decode cX8_leastTieSet 48 = .ok (.istore 7, 2) := by decide +kernel
theorem dX8_leastTieSet_50 : decode cX8_leastTieSet 50 = .ok (.iload 7, 2) := by decide +kernel
theorem dX8_leastTieSet_52 : decode cX8_leastTieSet 52 = .ok (.iload 5, 2) := by decide +kernel
theorem dX8_leastTieSet_54 : decode cX8_leastTieSet 54 = .ok (.if_icmp .ge 22, 3) := by decide +kernel
theorem dX8_leastTieSet_57 : decode cX8_leastTieSet 57 = .ok (.iload 6, 2) := by decide +kernel
theorem dX8_leastTieSet_59 : decode cX8_leastTieSet 59 = .ok (.iload_n 1, 1) := by decide +kernel
theorem dX8_leastTieSet_60 : decode cX8_leastTieSet 60 = .ok (.iload_n 2, 1) := by decide +kernel
theorem dX8_leastTieSet_61 : decode cX8_leastTieSet 61 = .ok (.iload_n 3, 1) := by decide +kernel
theorem dX8_leastTieSet_62 : decode cX8_leastTieSet 62 = .ok (.invokestatic 313, 3) := by decide +kernel
theorem dX8_leastTieSet_65 : decode cX8_leastTieSet 65 = .ok (.ifCond .eq 11, 3) := by decide +kernel
theorem dX8_leastTieSet_68 : decode cX8_leastTieSet 68 = .ok (.iload 6, 2) := by decide +kernel
theorem dX8_leastTieSet_70 : decode cX8_leastTieSet 70 = .ok (.istore 4, 2) := by decide +kernel
theorem dX8_leastTieSet_72 : decode cX8_leastTieSet 72 = .ok (.iload 7, 2) := by decide +kernel
theorem dX8_leastTieSet_74 : decode cX8_leastTieSet 74 = .ok (.istore 5, 2) := by decide +kernel
theorem dX8_leastTieSet_76 : decode cX8_leastTieSet 76 = .ok (.iinc 6 2, 3) := by decide +kernel
theorem dX8_leastTieSet_79 : decode cX8_leastTieSet 79 = .ok (.goto (-44), 3) := by decide +kernel
theorem dX8_leastTieSet_82 : decode cX8_leastTieSet 82 = .ok (.iload 4, 2) := by decide +kernel
theorem dX8_leastTieSet_84 : decode cX8_leastTieSet 84 = .ok (.ireturn, 1) := by decide +kernel
def fX8_leastTieSet_35 (N : Nat) (Z : mZ) : Nat → Int32 → Int32 → Int32 → Int32 → Int32 → Int32 → mM → Option (Int32 × mM)
  | 0, _, _, _, _, _, _, _ => none
  | fu + 1, v1, v2, v3, v4, v5, v6, M => if ((2 : Int32) <<< (v1 &&& 31)) ≤ v6 then some (v4, M) else bnd2 (fJ6_bitCount_0f7a4 N Z v6 M) (fun r8 M8 => if v5 ≤ r8 then fX8_leastTieSet_35 N Z fu v1 v2 v3 v4 v5 (v6 + (2 : Int32)) M8 else bnd2 (fX8_isHeld N Z v6 v1 v2 v3 M8) (fun r10 M10 => if r10 = 0 then fX8_leastTieSet_35 N Z fu v1 v2 v3 v4 v5 (v6 + (2 : Int32)) M10 else fX8_leastTieSet_35 N Z fu v1 v2 v3 v6 r8 (v6 + (2 : Int32)) M10))
set_option maxHeartbeats 4000000 in
set_option maxRecDepth 100000 in
theorem tX8_leastTieSet_35 {G : mG} {p : Program} {l : Launch} {e : Env} {s : State} {m : MethodId} {args : Array Value} {below : List Frame} {meth : Method} {c : Code} (C : Cx G p l s m args meth c RX8 cX8_leastTieSet 8 (some .int) []) (hnm : meth.name = yX8_leastTieSet.name) (N : Nat) (Z : mZ) : ∀ (fu : Nat) (v1 : Int32) (v2 : Int32) (v3 : Int32) (v4 : Int32) (v5 : Int32) (v6 : Int32) (M : mM) (r : Int32) (M' : mM), fX8_leastTieSet_35 N Z fu v1 v2 v3 v4 v5 v6 M = some (r, M') → JJ G p l e rmX8_leastTieSet s m args below meth c 8 (mEnd G below args s rmX8_leastTieSet (.inl (some (.int r))) Z M') 0 0 35 [(1, .int v1), (2, .int v2), (3, .int v3), (4, .int v4), (5, .int v5), (6, .int v6)] [] Z M := by
  intro fu
  induction fu with
  | zero =>
    intro v1 v2 v3 v4 v5 v6 M r M' h
    cases h
  | succ fu ih =>
    intro v1 v2 v3 v4 v5 v6 M r M' h
    rw [fX8_leastTieSet_35] at h
    refine j_iload C dX8_leastTieSet_35 5 rfl ?_
    refine j_iconst C dX8_leastTieSet_37 (v := (2 : Int32)) (by decide) ?_
    refine j_iload_n C dX8_leastTieSet_38 rfl 0 rfl ?_
    refine j_ishl C dX8_leastTieSet_39 ?_
    refine j_icmp_ge C dX8_leastTieSet_40 (tgt := 82) (by decide) (fun hc7 => ?_) (fun hc7 => ?_)
    · rw [if_pos hc7] at h
      refine j_iload C dX8_leastTieSet_82 3 rfl ?_
      cases h
      exact j_iret C rfl (by decide) (by decide) dX8_leastTieSet_84
    · rw [if_neg hc7] at h
      refine j_iload C dX8_leastTieSet_43 5 rfl ?_
      obtain ⟨r8, M8, hq8, h⟩ := bnd2_spec h
      refine j_run1 (c_S C (As := [.int v6]) (rest := []) (ctJ6_bitCount_0f7a4 C.2.2.2.2.2.2.2.2.1 N Z hq8) kcRX8_154 oyJ6_bitCount_0f7a4 ⟨by decide, by decide⟩ ⟨by decide, by decide⟩ (Nat.le_of_ble_eq_true rfl) rfl dX8_leastTieSet_45) ?_
      refine j_istore C dX8_leastTieSet_48 (by decide) (L' := [(7, .int r8), (1, .int v1), (2, .int v2), (3, .int v3), (4, .int v4), (5, .int v5), (6, .int v6)]) rfl ?_
      refine j_iload C dX8_leastTieSet_50 0 rfl ?_
      refine j_iload C dX8_leastTieSet_52 5 rfl ?_
      refine j_icmp_ge C dX8_leastTieSet_54 (tgt := 76) (by decide) (fun hc9 => ?_) (fun hc9 => ?_)
      · rw [if_pos hc9] at h
        refine j_iinc C dX8_leastTieSet_76 6 rfl (v := (v6 + (2 : Int32))) (by first | rfl | decide) (by decide) (L' := [(6, .int (v6 + (2 : Int32))), (7, .int r8), (1, .int v1), (2, .int v2), (3, .int v3), (4, .int v4), (5, .int v5)]) rfl ?_
        refine j_goto C dX8_leastTieSet_79 (tgt := 35) (by decide) ?_
        refine j_sub (L' := [(1, .int v1), (2, .int v2), (3, .int v3), (4, .int v4), (5, .int v5), (6, .int (v6 + (2 : Int32)))]) [2, 3, 4, 5, 6, 0] rfl ?_
        exact ih v1 v2 v3 v4 v5 (v6 + (2 : Int32)) M8 r M' h
      · rw [if_neg hc9] at h
        refine j_iload C dX8_leastTieSet_57 6 rfl ?_
        refine j_iload_n C dX8_leastTieSet_59 rfl 1 rfl ?_
        refine j_iload_n C dX8_leastTieSet_60 rfl 2 rfl ?_
        refine j_iload_n C dX8_leastTieSet_61 rfl 3 rfl ?_
        obtain ⟨r10, M10, hq10, h⟩ := bnd2_spec h
        refine j_run1 (c_S C (As := [.int v6, .int v1, .int v2, .int v3]) (rest := []) (ctX8_isHeld C.2.2.2.2.2.2.2.2.1 N Z hq10) kcRX8_313 oyX8_isHeld ⟨by decide, by decide⟩ ⟨by decide, by decide⟩ (Nat.le_of_ble_eq_true rfl) rfl dX8_leastTieSet_62) ?_
        refine j_if_eq C dX8_leastTieSet_65 (tgt := 76) (by decide) (fun hc11 => ?_) (fun hc11 => ?_)
        · rw [if_pos hc11] at h
          refine j_iinc C dX8_leastTieSet_76 6 rfl (v := (v6 + (2 : Int32))) (by first | rfl | decide) (by decide) (L' := [(6, .int (v6 + (2 : Int32))), (7, .int r8), (1, .int v1), (2, .int v2), (3, .int v3), (4, .int v4), (5, .int v5)]) rfl ?_
          refine j_goto C dX8_leastTieSet_79 (tgt := 35) (by decide) ?_
          refine j_sub (L' := [(1, .int v1), (2, .int v2), (3, .int v3), (4, .int v4), (5, .int v5), (6, .int (v6 + (2 : Int32)))]) [2, 3, 4, 5, 6, 0] rfl ?_
          exact ih v1 v2 v3 v4 v5 (v6 + (2 : Int32)) M10 r M' h
        · rw [if_neg hc11] at h
          refine j_iload C dX8_leastTieSet_68 6 rfl ?_
          refine j_istore C dX8_leastTieSet_70 (by decide) (L' := [(4, .int v6), (7, .int r8), (1, .int v1), (2, .int v2), (3, .int v3), (5, .int v5), (6, .int v6)]) rfl ?_
          refine j_iload C dX8_leastTieSet_72 1 rfl ?_
          refine j_istore C dX8_leastTieSet_74 (by decide) (L' := [(5, .int r8), (4, .int v6), (7, .int r8), (1, .int v1), (2, .int v2), (3, .int v3), (6, .int v6)]) rfl ?_
          refine j_iinc C dX8_leastTieSet_76 6 rfl (v := (v6 + (2 : Int32))) (by first | rfl | decide) (by decide) (L' := [(6, .int (v6 + (2 : Int32))), (5, .int r8), (4, .int v6), (7, .int r8), (1, .int v1), (2, .int v2), (3, .int v3)]) rfl ?_
          refine j_goto C dX8_leastTieSet_79 (tgt := 35) (by decide) ?_
          refine j_sub (L' := [(1, .int v1), (2, .int v2), (3, .int v3), (4, .int v6), (5, .int r8), (6, .int (v6 + (2 : Int32)))]) [4, 5, 6, 2, 1, 0] rfl ?_
          exact ih v1 v2 v3 v6 r8 (v6 + (2 : Int32)) M10 r M' h
def fX8_leastTieSet (N : Nat) (Z : mZ) (a0 : Nat) (a1 : Int32) (M : mM) : Option (Int32 × mM) := ck (okO Z a0 8) (bnd1 (Z.2.2.2 a0 0) (fun c2 => ck (okO Z c2 4) (bnd1 (Z.2.2.2 c2 5) (fun c4 => bnd2 (fX8_at N Z c4 (0 : Int32) M) (fun r5 M5 => bnd2 (fX8_at N Z c4 (1 : Int32) M5) (fun r6 M6 => fX8_leastTieSet_35 N Z N a1 r5 r6 (0 : Int32) (a1 + (1 : Int32)) (0 : Int32) M6))))))
set_option maxHeartbeats 4000000 in
set_option maxRecDepth 100000 in
theorem ctX8_leastTieSet {G : mG} {l : Launch} (hl : l.stackTraces = false) (N : Nat) (Z : mZ) {a0 : Nat} {a1 : Int32} {M : mM} {r : Int32} {M' : mM} (h : fX8_leastTieSet N Z a0 a1 M = some (r, M')) : CT G l yX8_leastTieSet (.code yX8_leastTieSet cX8_leastTieSet 8 (some .int)) rmX8_leastTieSet [.ref a0, .int a1] Z M (.inl (some (.int r))) Z M' := by
  unfold fX8_leastTieSet at h
  refine CT.of hl (by decide) (Nat.le_of_ble_eq_true rfl) ?_
  intro p e s m args below meth c C hnm
  refine j_sub (L' := [(0, .ref a0), (1, .int a1)]) [0, 1] rfl ?_
  refine j_aload_n C dX8_leastTieSet_0 rfl 0 rfl ?_
  obtain ⟨ho1, h⟩ := ck_spec h
  obtain ⟨c2, hr2, h⟩ := bnd1_spec h
  refine j_getR C (cn := RX8) (T := TX8) (N := 11) (ci := 8) rfl iX8 ho1 0 (by decide) rfl fwRX8_10 dX8_leastTieSet_1 hr2 ?_
  obtain ⟨ho3, h⟩ := ck_spec h
  obtain ⟨c4, hr4, h⟩ := bnd1_spec h
  refine j_getR C (cn := RX4) (T := TX4) (N := 7) (ci := 4) rfl iX4 ho3 5 (by decide) rfl fwRX8_107 dX8_leastTieSet_4 hr4 ?_
  refine j_iconst C dX8_leastTieSet_7 (v := (0 : Int32)) (by decide) ?_
  obtain ⟨r5, M5, hq5, h⟩ := bnd2_spec h
  refine j_run1 (c_S C (As := [.ref c4, .int (0 : Int32)]) (rest := []) (ctX8_at C.2.2.2.2.2.2.2.2.1 N Z hq5) kcRX8_96 oyX8_at ⟨by decide, by decide⟩ ⟨by decide, by decide⟩ (Nat.le_of_ble_eq_true rfl) rfl dX8_leastTieSet_8) ?_
  refine j_istore_n C dX8_leastTieSet_11 rfl (by decide) (L' := [(2, .int r5), (0, .ref a0), (1, .int a1)]) rfl ?_
  refine j_aload_n C dX8_leastTieSet_12 rfl 1 rfl ?_
  refine j_getR C (cn := RX8) (T := TX8) (N := 11) (ci := 8) rfl iX8 ho1 0 (by decide) rfl fwRX8_10 dX8_leastTieSet_13 hr2 ?_
  refine j_getR C (cn := RX4) (T := TX4) (N := 7) (ci := 4) rfl iX4 ho3 5 (by decide) rfl fwRX8_107 dX8_leastTieSet_16 hr4 ?_
  refine j_iconst C dX8_leastTieSet_19 (v := (1 : Int32)) (by decide) ?_
  obtain ⟨r6, M6, hq6, h⟩ := bnd2_spec h
  refine j_run1 (c_S C (As := [.ref c4, .int (1 : Int32)]) (rest := []) (ctX8_at C.2.2.2.2.2.2.2.2.1 N Z hq6) kcRX8_96 oyX8_at ⟨by decide, by decide⟩ ⟨by decide, by decide⟩ (Nat.le_of_ble_eq_true rfl) rfl dX8_leastTieSet_20) ?_
  refine j_istore_n C dX8_leastTieSet_23 rfl (by decide) (L' := [(3, .int r6), (2, .int r5), (0, .ref a0), (1, .int a1)]) rfl ?_
  refine j_iconst C dX8_leastTieSet_24 (v := (0 : Int32)) (by decide) ?_
  refine j_istore C dX8_leastTieSet_25 (by decide) (L' := [(4, .int (0 : Int32)), (3, .int r6), (2, .int r5), (0, .ref a0), (1, .int a1)]) rfl ?_
  refine j_iload_n C dX8_leastTieSet_27 rfl 4 rfl ?_
  refine j_iconst C dX8_leastTieSet_28 (v := (1 : Int32)) (by decide) ?_
  refine j_iadd C dX8_leastTieSet_29 ?_
  refine j_istore C dX8_leastTieSet_30 (by decide) (L' := [(5, .int (a1 + (1 : Int32))), (4, .int (0 : Int32)), (3, .int r6), (2, .int r5), (0, .ref a0), (1, .int a1)]) rfl ?_
  refine j_iconst C dX8_leastTieSet_32 (v := (0 : Int32)) (by decide) ?_
  refine j_istore C dX8_leastTieSet_33 (by decide) (L' := [(6, .int (0 : Int32)), (5, .int (a1 + (1 : Int32))), (4, .int (0 : Int32)), (3, .int r6), (2, .int r5), (0, .ref a0), (1, .int a1)]) rfl ?_
  refine j_sub (L' := [(1, .int a1), (2, .int r5), (3, .int r6), (4, .int (0 : Int32)), (5, .int (a1 + (1 : Int32))), (6, .int (0 : Int32))]) [6, 4, 3, 2, 1, 0] rfl ?_
  exact tX8_leastTieSet_35 C hnm N Z N a1 r5 r6 (0 : Int32) (a1 + (1 : Int32)) (0 : Int32) M6 _ _ h
-- ScaffoldPlanner fewestTies
theorem kcRX8_217 : okV RX8 217 yX8_leastTieSet (.code yX8_leastTieSet cX8_leastTieSet 8 (some .int)) = true := by decide +kernel
theorem oyX8_leastTieSet : okY yX8_leastTieSet 1 := ⟨by decide +kernel, by decide +kernel, by decide +kernel⟩
abbrev rmX8_fewestTies : Room := { frames := 6, cells := 1, slots := 6, locals := 90 }
theorem dX8_fewestTies_0 : decode cX8_fewestTies 0 = .ok (.iload_n 1, 1) := by decide +kernel
theorem dX8_fewestTies_1 : decode cX8_fewestTies 1 = .ok (.ifCond .lt 9, 3) := by decide +kernel
theorem dX8_fewestTies_4 : decode cX8_fewestTies 4 = .ok (.iload_n 1, 1) := by decide +kernel
theorem dX8_fewestTies_5 : decode cX8_fewestTies 5 = .ok (.bipush 12, 2) := by decide +kernel
theorem dX8_fewestTies_7 : decode cX8_fewestTies 7 = .ok (.if_icmp .le 11, 3) := by decide +kernel
theorem dX8_fewestTies_10 : decode cX8_fewestTies 10 = .ok (.new 75, 3) := by decide +kernel
theorem dX8_fewestTies_13 : decode cX8_fewestTies 13 = .ok (.dup, 1) := by decide +kernel
theorem dX8_fewestTies_14 : decode cX8_fewestTies 14 = .ok (.invokespecial 77, 3) := by decide +kernel
theorem dX8_fewestTies_17 : decode cX8_fewestTies 17 = .ok (.athrow, 1) := by decide +kernel
theorem dX8_fewestTies_18 : decode cX8_fewestTies 18 = .ok (.aload_n 0, 1) := by decide +kernel
theorem dX8_fewestTies_19 : decode cX8_fewestTies 19 = .ok (.iload_n 1, 1) := by decide +kernel
theorem dX8_fewestTies_20 : decode cX8_fewestTies 20 = .ok (.invokevirtual 217, 3) := by decide +kernel
theorem dX8_fewestTies_23 : decode cX8_fewestTies 23 = .ok (.invokestatic 154, 3) := by decide +kernel
theorem dX8_fewestTies_26 : decode cX8_fewestTies 26 = .ok (.ireturn, 1) := by decide +kernel
def fX8_fewestTies (N : Nat) (Z : mZ) (a0 : Nat) (a1 : Int32) (M : mM) : Option ((Int32 ⊕ String) × mM) := if a1 < 0 then some (.inr "java/lang/IllegalArgumentException", sT M) else if a1 ≤ (12 : Int32) then ck (okO Z a0 8) (bnd2 (fX8_leastTieSet N Z a0 a1 M) (fun r4 M4 => bnd2 (fJ6_bitCount_0f7a4 N Z r4 M4) (fun r5 M5 => some (.inl r5, M5)))) else some (.inr "java/lang/IllegalArgumentException", sT M)
set_option maxHeartbeats 4000000 in
set_option maxRecDepth 100000 in
theorem ctX8_fewestTies {G : mG} {l : Launch} (hl : l.stackTraces = false) (N : Nat) (Z : mZ) {a0 : Nat} {a1 : Int32} {M : mM} {r : (Int32 ⊕ String)} {M' : mM} (h : fX8_fewestTies N Z a0 a1 M = some (r, M')) : CT G l yX8_fewestTies (.code yX8_fewestTies cX8_fewestTies 2 (some .int)) rmX8_fewestTies [.ref a0, .int a1] Z M (oI r) Z M' := by
  unfold fX8_fewestTies at h
  refine CT.of hl (by decide) (Nat.le_of_ble_eq_true rfl) ?_
  intro p e s m args below meth c C hnm
  refine j_sub (L' := [(0, .ref a0), (1, .int a1)]) [0, 1] rfl ?_
  refine j_iload_n C dX8_fewestTies_0 rfl 1 rfl ?_
  refine j_if_lt C dX8_fewestTies_1 (tgt := 10) (by decide) (fun hc1 => ?_) (fun hc1 => ?_)
  · rw [if_pos hc1] at h
    cases h
    exact j_throw C (rm := rmX8_fewestTies) thRX8_75 (by decide) (Nat.le_of_ble_eq_true rfl) ⟨by decide, by decide⟩ (by decide) (by decide) dX8_fewestTies_10 dX8_fewestTies_13 dX8_fewestTies_14 dX8_fewestTies_17
  · rw [if_neg hc1] at h
    refine j_iload_n C dX8_fewestTies_4 rfl 1 rfl ?_
    refine j_bipush C dX8_fewestTies_5 (v := (12 : Int32)) (by decide) ?_
    refine j_icmp_le C dX8_fewestTies_7 (tgt := 18) (by decide) (fun hc2 => ?_) (fun hc2 => ?_)
    · rw [if_pos hc2] at h
      refine j_aload_n C dX8_fewestTies_18 rfl 0 rfl ?_
      refine j_iload_n C dX8_fewestTies_19 rfl 1 rfl ?_
      obtain ⟨ho3, h⟩ := ck_spec h
      obtain ⟨r4, M4, hq4, h⟩ := bnd2_spec h
      refine j_run1 (c_V C (As := [.int a1]) (rest := []) (ctX8_leastTieSet C.2.2.2.2.2.2.2.2.1 N Z hq4) kcRX8_217 oyX8_leastTieSet (ci := 8) (T := TX8) (N := 11) rfl (by decide) ho3 ⟨by decide, by decide⟩ ⟨by decide, by decide⟩ (Nat.le_of_ble_eq_true rfl) rfl dX8_fewestTies_20) ?_
      obtain ⟨r5, M5, hq5, h⟩ := bnd2_spec h
      refine j_run1 (c_S C (As := [.int r4]) (rest := []) (ctJ6_bitCount_0f7a4 C.2.2.2.2.2.2.2.2.1 N Z hq5) kcRX8_154 oyJ6_bitCount_0f7a4 ⟨by decide, by decide⟩ ⟨by decide, by decide⟩ (Nat.le_of_ble_eq_true rfl) rfl dX8_fewestTies_23) ?_
      cases h
      exact j_iret C rfl (by decide) (by decide) dX8_fewestTies_26
    · rw [if_neg hc2] at h
      cases h
      exact j_throw C (rm := rmX8_fewestTies) thRX8_75 (by decide) (Nat.le_of_ble_eq_true rfl) ⟨by decide, by decide⟩ (by decide) (by decide) dX8_fewestTies_10 dX8_fewestTies_13 dX8_fewestTies_14 dX8_fewestTies_17
-- ScaffoldPlanner tieLevels
abbrev rmX8_tieLevels : Room := { frames := 6, cells := 1, slots := 6, locals := 90 }
theorem dX8_tieLevels_0 : decode cX8_tieLevels 0 = .ok (.iload_n 1, 1) := by decide +kernel
theorem dX8_tieLevels_1 : decode cX8_tieLevels 1 = .ok (.ifCond .lt 9, 3) := by decide +kernel
theorem dX8_tieLevels_4 : decode cX8_tieLevels 4 = .ok (.iload_n 1, 1) := by decide +kernel
theorem dX8_tieLevels_5 : decode cX8_tieLevels 5 = .ok (.bipush 12, 2) := by decide +kernel
theorem dX8_tieLevels_7 : decode cX8_tieLevels 7 = .ok (.if_icmp .le 11, 3) := by decide +kernel
theorem dX8_tieLevels_10 : decode cX8_tieLevels 10 = .ok (.new 75, 3) := by decide +kernel
theorem dX8_tieLevels_13 : decode cX8_tieLevels 13 = .ok (.dup, 1) := by decide +kernel
theorem dX8_tieLevels_14 : decode cX8_tieLevels 14 = .ok (.invokespecial 77, 3) := by decide +kernel
theorem dX8_tieLevels_17 : decode cX8_tieLevels 17 = .ok (.athrow, 1) := by decide +kernel
theorem dX8_tieLevels_18 : decode cX8_tieLevels 18 = .ok (.aload_n 0, 1) := by decide +kernel
theorem dX8_tieLevels_19 : decode cX8_tieLevels 19 = .ok (.iload_n 1, 1) := by decide +kernel
theorem dX8_tieLevels_20 : decode cX8_tieLevels 20 = .ok (.invokevirtual 217, 3) := by decide +kernel
theorem dX8_tieLevels_23 : decode cX8_tieLevels 23 = .ok (.ireturn, 1) := by decide +kernel
def fX8_tieLevels (N : Nat) (Z : mZ) (a0 : Nat) (a1 : Int32) (M : mM) : Option ((Int32 ⊕ String) × mM) := if a1 < 0 then some (.inr "java/lang/IllegalArgumentException", sT M) else if a1 ≤ (12 : Int32) then ck (okO Z a0 8) (bnd2 (fX8_leastTieSet N Z a0 a1 M) (fun r4 M4 => some (.inl r4, M4))) else some (.inr "java/lang/IllegalArgumentException", sT M)
set_option maxHeartbeats 4000000 in
set_option maxRecDepth 100000 in
theorem ctX8_tieLevels {G : mG} {l : Launch} (hl : l.stackTraces = false) (N : Nat) (Z : mZ) {a0 : Nat} {a1 : Int32} {M : mM} {r : (Int32 ⊕ String)} {M' : mM} (h : fX8_tieLevels N Z a0 a1 M = some (r, M')) : CT G l yX8_tieLevels (.code yX8_tieLevels cX8_tieLevels 2 (some .int)) rmX8_tieLevels [.ref a0, .int a1] Z M (oI r) Z M' := by
  unfold fX8_tieLevels at h
  refine CT.of hl (by decide) (Nat.le_of_ble_eq_true rfl) ?_
  intro p e s m args below meth c C hnm
  refine j_sub (L' := [(0, .ref a0), (1, .int a1)]) [0, 1] rfl ?_
  refine j_iload_n C dX8_tieLevels_0 rfl 1 rfl ?_
  refine j_if_lt C dX8_tieLevels_1 (tgt := 10) (by decide) (fun hc1 => ?_) (fun hc1 => ?_)
  · rw [if_pos hc1] at h
    cases h
    exact j_throw C (rm := rmX8_tieLevels) thRX8_75 (by decide) (Nat.le_of_ble_eq_true rfl) ⟨by decide, by decide⟩ (by decide) (by decide) dX8_tieLevels_10 dX8_tieLevels_13 dX8_tieLevels_14 dX8_tieLevels_17
  · rw [if_neg hc1] at h
    refine j_iload_n C dX8_tieLevels_4 rfl 1 rfl ?_
    refine j_bipush C dX8_tieLevels_5 (v := (12 : Int32)) (by decide) ?_
    refine j_icmp_le C dX8_tieLevels_7 (tgt := 18) (by decide) (fun hc2 => ?_) (fun hc2 => ?_)
    · rw [if_pos hc2] at h
      refine j_aload_n C dX8_tieLevels_18 rfl 0 rfl ?_
      refine j_iload_n C dX8_tieLevels_19 rfl 1 rfl ?_
      obtain ⟨ho3, h⟩ := ck_spec h
      obtain ⟨r4, M4, hq4, h⟩ := bnd2_spec h
      refine j_run1 (c_V C (As := [.int a1]) (rest := []) (ctX8_leastTieSet C.2.2.2.2.2.2.2.2.1 N Z hq4) kcRX8_217 oyX8_leastTieSet (ci := 8) (T := TX8) (N := 11) rfl (by decide) ho3 ⟨by decide, by decide⟩ ⟨by decide, by decide⟩ (Nat.le_of_ble_eq_true rfl) rfl dX8_tieLevels_20) ?_
      cases h
      exact j_iret C rfl (by decide) (by decide) dX8_tieLevels_23
    · rw [if_neg hc2] at h
      cases h
      exact j_throw C (rm := rmX8_tieLevels) thRX8_75 (by decide) (Nat.le_of_ble_eq_true rfl) ⟨by decide, by decide⟩ (by decide) (by decide) dX8_tieLevels_10 dX8_tieLevels_13 dX8_tieLevels_14 dX8_tieLevels_17
-- ScaffoldPlanner missing
theorem kcRX8_220 : okV RX8 220 yX4_raiseAllTo (.code yX4_raiseAllTo cX4_raiseAllTo 3 none) = true := by decide +kernel
theorem oyX4_raiseAllTo : okY yX4_raiseAllTo 1 := ⟨by decide +kernel, by decide +kernel, by decide +kernel⟩
theorem mmRX8_223 : okM RX8 223 Lib.Math.max.name Lib.Math.max.code = true := by decide +kernel
abbrev rmX8_missing : Room := { frames := 6, cells := 1, slots := 6, locals := 90 }
theorem dX8_missing_0 : decode cX8_missing 0 = .ok (.iload_n 1, 1) := by decide +kernel
theorem dX8_missing_1 : decode cX8_missing 1 = .ok (.ifCond .eq 16, 3) := by decide +kernel
theorem dX8_missing_4 : decode cX8_missing 4 = .ok (.iload_n 1, 1) := by decide +kernel
theorem dX8_missing_5 : decode cX8_missing 5 = .ok (.iconst 1, 1) := by decide +kernel
theorem dX8_missing_6 : decode cX8_missing 6 = .ok (.if_icmp .eq 11, 3) := by decide +kernel
theorem dX8_missing_9 : decode cX8_missing 9 = .ok (.new 75, 3) := by decide +kernel
theorem dX8_missing_12 : decode cX8_missing 12 = .ok (.dup, 1) := by decide +kernel
theorem dX8_missing_13 : decode cX8_missing 13 = .ok (.invokespecial 77, 3) := by decide +kernel
theorem dX8_missing_16 : decode cX8_missing 16 = .ok (.athrow, 1) := by decide +kernel
theorem dX8_missing_17 : decode cX8_missing 17 = .ok (.iload_n 2, 1) := by decide +kernel
theorem dX8_missing_18 : decode cX8_missing 18 = .ok (.ifCond .lt 9, 3) := by decide +kernel
theorem dX8_missing_21 : decode cX8_missing 21 = .ok (.iload_n 2, 1) := by decide +kernel
theorem dX8_missing_22 : decode cX8_missing 22 = .ok (.bipush 6, 2) := by decide +kernel
theorem dX8_missing_24 : decode cX8_missing 24 = .ok (.if_icmp .le 11, 3) := by decide +kernel
theorem dX8_missing_27 : decode cX8_missing 27 = .ok (.new 75, 3) := by decide +kernel
theorem dX8_missing_30 : decode cX8_missing 30 = .ok (.dup, 1) := by decide +kernel
theorem dX8_missing_31 : decode cX8_missing 31 = .ok (.invokespecial 77, 3) := by decide +kernel
theorem dX8_missing_34 : decode cX8_missing 34 = .ok (.athrow, 1) := by decide +kernel
theorem dX8_missing_35 : decode cX8_missing 35 = .ok (.aload_n 0, 1) := by decide +kernel
theorem dX8_missing_36 : decode cX8_missing 36 = .ok (.getfield 16, 3) := by decide +kernel
theorem dX8_missing_39 : decode cX8_missing 39 = .ok (.aload_n 0, 1) := by decide +kernel
theorem dX8_missing_40 : decode cX8_missing 40 = .ok (.getfield 10, 3) := by decide +kernel
theorem dX8_missing_43 : decode cX8_missing 43 = .ok (.invokevirtual 103, 3) := by decide +kernel
theorem dX8_missing_46 : decode cX8_missing 46 = .ok (.aload_n 0, 1) := by decide +kernel
theorem dX8_missing_47 : decode cX8_missing 47 = .ok (.getfield 16, 3) := by decide +kernel
theorem dX8_missing_50 : decode cX8_missing 50 = .ok (.iload_n 2, 1) := by decide +kernel
theorem dX8_missing_51 : decode cX8_missing 51 = .ok (.invokevirtual 220, 3) := by decide +kernel
theorem dX8_missing_54 : decode cX8_missing 54 = .ok (.aload_n 0, 1) := by decide +kernel
theorem dX8_missing_55 : decode cX8_missing 55 = .ok (.getfield 16, 3) := by decide +kernel
theorem dX8_missing_58 : decode cX8_missing 58 = .ok (.iload_n 1, 1) := by decide +kernel
theorem dX8_missing_59 : decode cX8_missing 59 = .ok (.invokevirtual 160, 3) := by decide +kernel
theorem dX8_missing_62 : decode cX8_missing 62 = .ok (.aload_n 0, 1) := by decide +kernel
theorem dX8_missing_63 : decode cX8_missing 63 = .ok (.getfield 10, 3) := by decide +kernel
theorem dX8_missing_66 : decode cX8_missing 66 = .ok (.iload_n 1, 1) := by decide +kernel
theorem dX8_missing_67 : decode cX8_missing 67 = .ok (.invokevirtual 160, 3) := by decide +kernel
theorem dX8_missing_70 : decode cX8_missing 70 = .ok (.isub, 1) := by decide +kernel
theorem dX8_missing_71 : decode cX8_missing 71 = .ok (.istore_n 3, 1) := by decide +kernel
theorem dX8_missing_72 : decode cX8_missing 72 = .ok (.iconst 0, 1) := by decide +kernel
theorem dX8_missing_73 : decode cX8_missing 73 = .ok (.iload_n 3, 1) := by decide +kernel
theorem dX8_missing_74 : decode cX8_missing 74 = .ok (.aload_n 0, 1) := by decide +kernel
theorem dX8_missing_75 : decode cX8_missing 75 = .ok (.getfield 10, 3) := by decide +kernel
theorem dX8_missing_78 : decode cX8_missing 78 = .ok (.getfield 127, 3) := by decide +kernel
theorem dX8_missing_81 : decode cX8_missing 81 = .ok (.iload_n 1, 1) := by decide +kernel
theorem dX8_missing_82 : decode cX8_missing 82 = .ok (.invokestatic 96, 3) := by decide +kernel
theorem dX8_missing_85 : decode cX8_missing 85 = .ok (.isub, 1) := by decide +kernel
theorem dX8_missing_86 : decode cX8_missing 86 = .ok (.invokestatic 223, 3) := by decide +kernel
theorem dX8_missing_89 : decode cX8_missing 89 = .ok (.ireturn, 1) := by decide +kernel
def fX8_missing_17 (N : Nat) (Z : mZ) (v0 : Nat) (v1 : Int32) (v2 : Int32) (M : mM) : Option ((Int32 ⊕ String) × mM) := if v2 < 0 then some (.inr "java/lang/IllegalArgumentException", sT M) else if v2 ≤ (6 : Int32) then ck (okO Z v0 8) (bnd1 (Z.2.2.2 v0 1) (fun c5 => bnd1 (Z.2.2.2 v0 0) (fun c6 => ck (okO Z c5 4) (bnd2 (fX4_copyFrom N Z c5 c6 M) (fun _ M8 => bnd2 (fX4_raiseAllTo N Z c5 v2 M8) (fun _ M9 => bnd2 (fX4_piecesPlaced N Z c5 v1 M9) (fun r10 M10 => ck (okO Z c6 4) (bnd2 (fX4_piecesPlaced N Z c6 v1 M10) (fun r12 M12 => bnd1 (Z.2.2.2 c6 6) (fun c13 => bnd2 (fX8_at N Z c13 v1 M12) (fun r14 M14 => some (.inl (if (0 : Int32) < ((r10 - r12) - r14) then ((r10 - r12) - r14) else (0 : Int32)), M14)))))))))))) else some (.inr "java/lang/IllegalArgumentException", sT M)
set_option maxHeartbeats 4000000 in
set_option maxRecDepth 100000 in
theorem tX8_missing_17 {G : mG} {p : Program} {l : Launch} {e : Env} {s : State} {m : MethodId} {args : Array Value} {below : List Frame} {meth : Method} {c : Code} (C : Cx G p l s m args meth c RX8 cX8_missing 4 (some .int) []) (hnm : meth.name = yX8_missing.name) (N : Nat) (Z : mZ) : ∀ (v0 : Nat) (v1 : Int32) (v2 : Int32) (M : mM) (r : (Int32 ⊕ String)) (M' : mM), fX8_missing_17 N Z v0 v1 v2 M = some (r, M') → JJ G p l e rmX8_missing s m args below meth c 4 (mEnd G below args s rmX8_missing (oI r) Z M') 0 0 17 [(0, .ref v0), (1, .int v1), (2, .int v2)] [] Z M := by
  intro v0 v1 v2 M r M' h
  unfold fX8_missing_17 at h
  refine j_iload_n C dX8_missing_17 rfl 2 rfl ?_
  refine j_if_lt C dX8_missing_18 (tgt := 27) (by decide) (fun hc2 => ?_) (fun hc2 => ?_)
  · rw [if_pos hc2] at h
    cases h
    exact j_throw C (rm := rmX8_missing) thRX8_75 (by decide) (Nat.le_of_ble_eq_true rfl) ⟨by decide, by decide⟩ (by decide) (by decide) dX8_missing_27 dX8_missing_30 dX8_missing_31 dX8_missing_34
  · rw [if_neg hc2] at h
    refine j_iload_n C dX8_missing_21 rfl 2 rfl ?_
    refine j_bipush C dX8_missing_22 (v := (6 : Int32)) (by decide) ?_
    refine j_icmp_le C dX8_missing_24 (tgt := 35) (by decide) (fun hc3 => ?_) (fun hc3 => ?_)
    · rw [if_pos hc3] at h
      refine j_aload_n C dX8_missing_35 rfl 0 rfl ?_
      obtain ⟨ho4, h⟩ := ck_spec h
      obtain ⟨c5, hr5, h⟩ := bnd1_spec h
      refine j_getR C (cn := RX8) (T := TX8) (N := 11) (ci := 8) rfl iX8 ho4 1 (by decide) rfl fwRX8_16 dX8_missing_36 hr5 ?_
      refine j_aload_n C dX8_missing_39 rfl 0 rfl ?_
      obtain ⟨c6, hr6, h⟩ := bnd1_spec h
      refine j_getR C (cn := RX8) (T := TX8) (N := 11) (ci := 8) rfl iX8 ho4 0 (by decide) rfl fwRX8_10 dX8_missing_40 hr6 ?_
      obtain ⟨ho7, h⟩ := ck_spec h
      obtain ⟨_, M8, hq8, h⟩ := bnd2_spec h
      refine j_run0 (c_V C (As := [.ref c6]) (rest := []) (ctX4_copyFrom C.2.2.2.2.2.2.2.2.1 N Z hq8) kcRX8_103 oyX4_copyFrom (ci := 4) (T := TX4) (N := 7) rfl (by decide) ho7 ⟨by decide, by decide⟩ ⟨by decide, by decide⟩ (Nat.le_of_ble_eq_true rfl) rfl dX8_missing_43) ?_
      refine j_aload_n C dX8_missing_46 rfl 0 rfl ?_
      refine j_getR C (cn := RX8) (T := TX8) (N := 11) (ci := 8) rfl iX8 ho4 1 (by decide) rfl fwRX8_16 dX8_missing_47 hr5 ?_
      refine j_iload_n C dX8_missing_50 rfl 2 rfl ?_
      obtain ⟨_, M9, hq9, h⟩ := bnd2_spec h
      refine j_run0 (c_V C (As := [.int v2]) (rest := []) (ctX4_raiseAllTo C.2.2.2.2.2.2.2.2.1 N Z hq9) kcRX8_220 oyX4_raiseAllTo (ci := 4) (T := TX4) (N := 7) rfl (by decide) ho7 ⟨by decide, by decide⟩ ⟨by decide, by decide⟩ (Nat.le_of_ble_eq_true rfl) rfl dX8_missing_51) ?_
      refine j_aload_n C dX8_missing_54 rfl 0 rfl ?_
      refine j_getR C (cn := RX8) (T := TX8) (N := 11) (ci := 8) rfl iX8 ho4 1 (by decide) rfl fwRX8_16 dX8_missing_55 hr5 ?_
      refine j_iload_n C dX8_missing_58 rfl 1 rfl ?_
      obtain ⟨r10, M10, hq10, h⟩ := bnd2_spec h
      refine j_run1 (c_V C (As := [.int v1]) (rest := []) (ctX4_piecesPlaced C.2.2.2.2.2.2.2.2.1 N Z hq10) kcRX8_160 oyX4_piecesPlaced (ci := 4) (T := TX4) (N := 7) rfl (by decide) ho7 ⟨by decide, by decide⟩ ⟨by decide, by decide⟩ (Nat.le_of_ble_eq_true rfl) rfl dX8_missing_59) ?_
      refine j_aload_n C dX8_missing_62 rfl 0 rfl ?_
      refine j_getR C (cn := RX8) (T := TX8) (N := 11) (ci := 8) rfl iX8 ho4 0 (by decide) rfl fwRX8_10 dX8_missing_63 hr6 ?_
      refine j_iload_n C dX8_missing_66 rfl 1 rfl ?_
      obtain ⟨ho11, h⟩ := ck_spec h
      obtain ⟨r12, M12, hq12, h⟩ := bnd2_spec h
      refine j_run1 (c_V C (As := [.int v1]) (rest := [.int r10]) (ctX4_piecesPlaced C.2.2.2.2.2.2.2.2.1 N Z hq12) kcRX8_160 oyX4_piecesPlaced (ci := 4) (T := TX4) (N := 7) rfl (by decide) ho11 ⟨by decide, by decide⟩ ⟨by decide, by decide⟩ (Nat.le_of_ble_eq_true rfl) rfl dX8_missing_67) ?_
      refine j_isub C dX8_missing_70 ?_
      refine j_istore_n C dX8_missing_71 rfl (by decide) (L' := [(3, .int (r10 - r12)), (0, .ref v0), (1, .int v1), (2, .int v2)]) rfl ?_
      refine j_iconst C dX8_missing_72 (v := (0 : Int32)) (by decide) ?_
      refine j_iload_n C dX8_missing_73 rfl 0 rfl ?_
      refine j_aload_n C dX8_missing_74 rfl 1 rfl ?_
      refine j_getR C (cn := RX8) (T := TX8) (N := 11) (ci := 8) rfl iX8 ho4 0 (by decide) rfl fwRX8_10 dX8_missing_75 hr6 ?_
      obtain ⟨c13, hr13, h⟩ := bnd1_spec h
      refine j_getR C (cn := RX4) (T := TX4) (N := 7) (ci := 4) rfl iX4 ho11 6 (by decide) rfl fwRX8_127 dX8_missing_78 hr13 ?_
      refine j_iload_n C dX8_missing_81 rfl 2 rfl ?_
      obtain ⟨r14, M14, hq14, h⟩ := bnd2_spec h
      refine j_run1 (c_S C (As := [.ref c13, .int v1]) (rest := [.int (r10 - r12), .int (0 : Int32)]) (ctX8_at C.2.2.2.2.2.2.2.2.1 N Z hq14) kcRX8_96 oyX8_at ⟨by decide, by decide⟩ ⟨by decide, by decide⟩ (Nat.le_of_ble_eq_true rfl) rfl dX8_missing_82) ?_
      refine j_isub C dX8_missing_85 ?_
      refine j_mmax C mmRX8_223 (by decide) (Nat.le_of_ble_eq_true rfl) (by decide) (by decide) dX8_missing_86 ?_
      cases h
      exact j_iret C rfl (by decide) (by decide) dX8_missing_89
    · rw [if_neg hc3] at h
      cases h
      exact j_throw C (rm := rmX8_missing) thRX8_75 (by decide) (Nat.le_of_ble_eq_true rfl) ⟨by decide, by decide⟩ (by decide) (by decide) dX8_missing_27 dX8_missing_30 dX8_missing_31 dX8_missing_34
def fX8_missing (N : Nat) (Z : mZ) (a0 : Nat) (a1 : Int32) (a2 : Int32) (M : mM) : Option ((Int32 ⊕ String) × mM) := if a1 = 0 then fX8_missing_17 N Z a0 a1 a2 M else if a1 = (1 : Int32) then fX8_missing_17 N Z a0 a1 a2 M else some (.inr "java/lang/IllegalArgumentException", sT M)
set_option maxHeartbeats 4000000 in
set_option maxRecDepth 100000 in
theorem ctX8_missing {G : mG} {l : Launch} (hl : l.stackTraces = false) (N : Nat) (Z : mZ) {a0 : Nat} {a1 : Int32} {a2 : Int32} {M : mM} {r : (Int32 ⊕ String)} {M' : mM} (h : fX8_missing N Z a0 a1 a2 M = some (r, M')) : CT G l yX8_missing (.code yX8_missing cX8_missing 4 (some .int)) rmX8_missing [.ref a0, .int a1, .int a2] Z M (oI r) Z M' := by
  unfold fX8_missing at h
  refine CT.of hl (by decide) (Nat.le_of_ble_eq_true rfl) ?_
  intro p e s m args below meth c C hnm
  refine j_sub (L' := [(0, .ref a0), (1, .int a1), (2, .int a2)]) [0, 1, 2] rfl ?_
  refine j_iload_n C dX8_missing_0 rfl 1 rfl ?_
  refine j_if_eq C dX8_missing_1 (tgt := 17) (by decide) (fun hc1 => ?_) (fun hc1 => ?_)
  · rw [if_pos hc1] at h
    refine j_sub (L' := [(0, .ref a0), (1, .int a1), (2, .int a2)]) [0, 1, 2] rfl ?_
    exact tX8_missing_17 C hnm N Z a0 a1 a2 M _ _ h
  · rw [if_neg hc1] at h
    refine j_iload_n C dX8_missing_4 rfl 1 rfl ?_
    refine j_iconst C dX8_missing_5 (v := (1 : Int32)) (by decide) ?_
    refine j_icmp_eq C dX8_missing_6 (tgt := 17) (by decide) (fun hc15 => ?_) (fun hc15 => ?_)
    · rw [if_pos hc15] at h
      refine j_sub (L' := [(0, .ref a0), (1, .int a1), (2, .int a2)]) [0, 1, 2] rfl ?_
      exact tX8_missing_17 C hnm N Z a0 a1 a2 M _ _ h
    · rw [if_neg hc15] at h
      cases h
      exact j_throw C (rm := rmX8_missing) thRX8_75 (by decide) (Nat.le_of_ble_eq_true rfl) ⟨by decide, by decide⟩ (by decide) (by decide) dX8_missing_9 dX8_missing_12 dX8_missing_13 dX8_missing_16
-- ScaffoldPlanner dismantling
theorem kcRX8_228 : okV RX8 228 yX1_update (.code yX1_update cX1_update 4 none) = true := by decide +kernel
theorem oyX1_update : okY yX1_update 1 := ⟨by decide +kernel, by decide +kernel, by decide +kernel⟩
theorem fwRX8_231 : Cond.fieldLink RX8 231 RX1 (TX1 1).2.1 (TX1 1).2.2.1 ∈ gw := by decide +kernel
theorem fwRX8_234 : Cond.fieldLink RX8 234 RX1 (TX1 0).2.1 (TX1 0).2.2.1 ∈ gw := by decide +kernel
abbrev rmX8_dismantling : Room := { frames := 7, cells := 1, slots := 6, locals := 165 }
theorem dX8_dismantling_0 : decode cX8_dismantling 0 = .ok (.aload_n 0, 1) := by decide +kernel
theorem dX8_dismantling_1 : decode cX8_dismantling 1 = .ok (.getfield 64, 3) := by decide +kernel
theorem dX8_dismantling_4 : decode cX8_dismantling 4 = .ok (.aload_n 0, 1) := by decide +kernel
theorem dX8_dismantling_5 : decode cX8_dismantling 5 = .ok (.getfield 10, 3) := by decide +kernel
theorem dX8_dismantling_8 : decode cX8_dismantling 8 = .ok (.invokevirtual 228, 3) := by decide +kernel
theorem dX8_dismantling_11 : decode cX8_dismantling 11 = .ok (.aload_n 0, 1) := by decide +kernel
theorem dX8_dismantling_12 : decode cX8_dismantling 12 = .ok (.getfield 64, 3) := by decide +kernel
theorem dX8_dismantling_15 : decode cX8_dismantling 15 = .ok (.getfield 231, 3) := by decide +kernel
theorem dX8_dismantling_18 : decode cX8_dismantling 18 = .ok (.ifCond .ne 11, 3) := by decide +kernel
theorem dX8_dismantling_21 : decode cX8_dismantling 21 = .ok (.new 176, 3) := by decide +kernel
theorem dX8_dismantling_24 : decode cX8_dismantling 24 = .ok (.dup, 1) := by decide +kernel
theorem dX8_dismantling_25 : decode cX8_dismantling 25 = .ok (.invokespecial 178, 3) := by decide +kernel
theorem dX8_dismantling_28 : decode cX8_dismantling 28 = .ok (.athrow, 1) := by decide +kernel
theorem dX8_dismantling_29 : decode cX8_dismantling 29 = .ok (.aload_n 0, 1) := by decide +kernel
theorem dX8_dismantling_30 : decode cX8_dismantling 30 = .ok (.getfield 64, 3) := by decide +kernel
theorem dX8_dismantling_33 : decode cX8_dismantling 33 = .ok (.getfield 234, 3) := by decide +kernel
theorem dX8_dismantling_36 : decode cX8_dismantling 36 = .ok (.ireturn, 1) := by decide +kernel
def fX8_dismantling (N : Nat) (Z : mZ) (a0 : Nat) (M : mM) : Option ((Int32 ⊕ String) × mM) := ck (okO Z a0 8) (bnd1 (Z.2.2.2 a0 9) (fun c2 => bnd1 (Z.2.2.2 a0 0) (fun c3 => ck (okO Z c2 1) (bnd2 (fX1_update N Z c2 c3 M) (fun _ M5 => if (M5.1 c2 1) = 0 then some (.inr "java/util/NoSuchElementException", sT M5) else some (.inl (M5.1 c2 0), M5))))))
set_option maxHeartbeats 4000000 in
set_option maxRecDepth 100000 in
theorem ctX8_dismantling {G : mG} {l : Launch} (hl : l.stackTraces = false) (N : Nat) (Z : mZ) {a0 : Nat} {M : mM} {r : (Int32 ⊕ String)} {M' : mM} (h : fX8_dismantling N Z a0 M = some (r, M')) : CT G l yX8_dismantling (.code yX8_dismantling cX8_dismantling 1 (some .int)) rmX8_dismantling [.ref a0] Z M (oI r) Z M' := by
  unfold fX8_dismantling at h
  refine CT.of hl (by decide) (Nat.le_of_ble_eq_true rfl) ?_
  intro p e s m args below meth c C hnm
  refine j_sub (L' := [(0, .ref a0)]) [0] rfl ?_
  refine j_aload_n C dX8_dismantling_0 rfl 0 rfl ?_
  obtain ⟨ho1, h⟩ := ck_spec h
  obtain ⟨c2, hr2, h⟩ := bnd1_spec h
  refine j_getR C (cn := RX8) (T := TX8) (N := 11) (ci := 8) rfl iX8 ho1 9 (by decide) rfl fwRX8_64 dX8_dismantling_1 hr2 ?_
  refine j_aload_n C dX8_dismantling_4 rfl 0 rfl ?_
  obtain ⟨c3, hr3, h⟩ := bnd1_spec h
  refine j_getR C (cn := RX8) (T := TX8) (N := 11) (ci := 8) rfl iX8 ho1 0 (by decide) rfl fwRX8_10 dX8_dismantling_5 hr3 ?_
  obtain ⟨ho4, h⟩ := ck_spec h
  obtain ⟨_, M5, hq5, h⟩ := bnd2_spec h
  refine j_run0 (c_V C (As := [.ref c3]) (rest := []) (ctX1_update C.2.2.2.2.2.2.2.2.1 N Z hq5) kcRX8_228 oyX1_update (ci := 1) (T := TX1) (N := 8) rfl (by decide) ho4 ⟨by decide, by decide⟩ ⟨by decide, by decide⟩ (Nat.le_of_ble_eq_true rfl) rfl dX8_dismantling_8) ?_
  refine j_aload_n C dX8_dismantling_11 rfl 0 rfl ?_
  refine j_getR C (cn := RX8) (T := TX8) (N := 11) (ci := 8) rfl iX8 ho1 9 (by decide) rfl fwRX8_64 dX8_dismantling_12 hr2 ?_
  refine j_getI C (cn := RX1) (T := TX1) (N := 8) (ci := 1) rfl iX1 ho4 1 (by decide) rfl fwRX8_231 dX8_dismantling_15 ?_
  refine j_if_ne C dX8_dismantling_18 (tgt := 29) (by decide) (fun hc6 => ?_) (fun hc6 => ?_)
  · rw [if_neg hc6] at h
    refine j_aload_n C dX8_dismantling_29 rfl 0 rfl ?_
    refine j_getR C (cn := RX8) (T := TX8) (N := 11) (ci := 8) rfl iX8 ho1 9 (by decide) rfl fwRX8_64 dX8_dismantling_30 hr2 ?_
    refine j_getI C (cn := RX1) (T := TX1) (N := 8) (ci := 1) rfl iX1 ho4 0 (by decide) rfl fwRX8_234 dX8_dismantling_33 ?_
    cases h
    exact j_iret C rfl (by decide) (by decide) dX8_dismantling_36
  · rw [if_pos hc6] at h
    cases h
    exact j_throw C (rm := rmX8_dismantling) thRX8_176 (by decide) (Nat.le_of_ble_eq_true rfl) ⟨by decide, by decide⟩ (by decide) (by decide) dX8_dismantling_21 dX8_dismantling_24 dX8_dismantling_25 dX8_dismantling_28
-- ScaffoldPlanner work
theorem fwRX8_235 : Cond.fieldLink RX8 235 RX1 (TX1 3).2.1 (TX1 3).2.2.1 ∈ gw := by decide +kernel
abbrev rmX8_work : Room := { frames := 7, cells := 1, slots := 6, locals := 165 }
theorem dX8_work_0 : decode cX8_work 0 = .ok (.iload_n 2, 1) := by decide +kernel
theorem dX8_work_1 : decode cX8_work 1 = .ok (.ifCond .lt 8, 3) := by decide +kernel
theorem dX8_work_4 : decode cX8_work 4 = .ok (.iload_n 2, 1) := by decide +kernel
theorem dX8_work_5 : decode cX8_work 5 = .ok (.iconst 3, 1) := by decide +kernel
theorem dX8_work_6 : decode cX8_work 6 = .ok (.if_icmp .lt 11, 3) := by decide +kernel
theorem dX8_work_9 : decode cX8_work 9 = .ok (.new 75, 3) := by decide +kernel
theorem dX8_work_12 : decode cX8_work 12 = .ok (.dup, 1) := by decide +kernel
theorem dX8_work_13 : decode cX8_work 13 = .ok (.invokespecial 77, 3) := by decide +kernel
theorem dX8_work_16 : decode cX8_work 16 = .ok (.athrow, 1) := by decide +kernel
theorem dX8_work_17 : decode cX8_work 17 = .ok (.aload_n 0, 1) := by decide +kernel
theorem dX8_work_18 : decode cX8_work 18 = .ok (.getfield 64, 3) := by decide +kernel
theorem dX8_work_21 : decode cX8_work 21 = .ok (.aload_n 0, 1) := by decide +kernel
theorem dX8_work_22 : decode cX8_work 22 = .ok (.getfield 10, 3) := by decide +kernel
theorem dX8_work_25 : decode cX8_work 25 = .ok (.invokevirtual 228, 3) := by decide +kernel
theorem dX8_work_28 : decode cX8_work 28 = .ok (.iload_n 1, 1) := by decide +kernel
theorem dX8_work_29 : decode cX8_work 29 = .ok (.ifCond .lt 14, 3) := by decide +kernel
theorem dX8_work_32 : decode cX8_work 32 = .ok (.iload_n 1, 1) := by decide +kernel
theorem dX8_work_33 : decode cX8_work 33 = .ok (.aload_n 0, 1) := by decide +kernel
theorem dX8_work_34 : decode cX8_work 34 = .ok (.getfield 64, 3) := by decide +kernel
theorem dX8_work_37 : decode cX8_work 37 = .ok (.getfield 234, 3) := by decide +kernel
theorem dX8_work_40 : decode cX8_work 40 = .ok (.if_icmp .lt 11, 3) := by decide +kernel
theorem dX8_work_43 : decode cX8_work 43 = .ok (.new 124, 3) := by decide +kernel
theorem dX8_work_46 : decode cX8_work 46 = .ok (.dup, 1) := by decide +kernel
theorem dX8_work_47 : decode cX8_work 47 = .ok (.invokespecial 126, 3) := by decide +kernel
theorem dX8_work_50 : decode cX8_work 50 = .ok (.athrow, 1) := by decide +kernel
theorem dX8_work_51 : decode cX8_work 51 = .ok (.aload_n 0, 1) := by decide +kernel
theorem dX8_work_52 : decode cX8_work 52 = .ok (.getfield 64, 3) := by decide +kernel
theorem dX8_work_55 : decode cX8_work 55 = .ok (.getfield 235, 3) := by decide +kernel
theorem dX8_work_58 : decode cX8_work 58 = .ok (.iload_n 1, 1) := by decide +kernel
theorem dX8_work_59 : decode cX8_work 59 = .ok (.iconst 3, 1) := by decide +kernel
theorem dX8_work_60 : decode cX8_work 60 = .ok (.imul, 1) := by decide +kernel
theorem dX8_work_61 : decode cX8_work 61 = .ok (.iload_n 2, 1) := by decide +kernel
theorem dX8_work_62 : decode cX8_work 62 = .ok (.iadd, 1) := by decide +kernel
theorem dX8_work_63 : decode cX8_work 63 = .ok (.invokestatic 96, 3) := by decide +kernel
theorem dX8_work_66 : decode cX8_work 66 = .ok (.ireturn, 1) := by decide +kernel
def fX8_work (N : Nat) (Z : mZ) (a0 : Nat) (a1 : Int32) (a2 : Int32) (M : mM) : Option ((Int32 ⊕ String) × mM) := if a2 < 0 then some (.inr "java/lang/IllegalArgumentException", sT M) else if a2 < (3 : Int32) then ck (okO Z a0 8) (bnd1 (Z.2.2.2 a0 9) (fun c4 => bnd1 (Z.2.2.2 a0 0) (fun c5 => ck (okO Z c4 1) (bnd2 (fX1_update N Z c4 c5 M) (fun _ M7 => if a1 < 0 then some (.inr "java/lang/IndexOutOfBoundsException", sT M7) else if a1 < (M7.1 c4 0) then bnd1 (Z.2.2.2 c4 3) (fun c10 => bnd2 (fX8_at N Z c10 ((a1 * (3 : Int32)) + a2) M7) (fun r11 M11 => some (.inl r11, M11))) else some (.inr "java/lang/IndexOutOfBoundsException", sT M7)))))) else some (.inr "java/lang/IllegalArgumentException", sT M)
set_option maxHeartbeats 4000000 in
set_option maxRecDepth 100000 in
theorem ctX8_work {G : mG} {l : Launch} (hl : l.stackTraces = false) (N : Nat) (Z : mZ) {a0 : Nat} {a1 : Int32} {a2 : Int32} {M : mM} {r : (Int32 ⊕ String)} {M' : mM} (h : fX8_work N Z a0 a1 a2 M = some (r, M')) : CT G l yX8_work (.code yX8_work cX8_work 3 (some .int)) rmX8_work [.ref a0, .int a1, .int a2] Z M (oI r) Z M' := by
  unfold fX8_work at h
  refine CT.of hl (by decide) (Nat.le_of_ble_eq_true rfl) ?_
  intro p e s m args below meth c C hnm
  refine j_sub (L' := [(0, .ref a0), (1, .int a1), (2, .int a2)]) [0, 1, 2] rfl ?_
  refine j_iload_n C dX8_work_0 rfl 2 rfl ?_
  refine j_if_lt C dX8_work_1 (tgt := 9) (by decide) (fun hc1 => ?_) (fun hc1 => ?_)
  · rw [if_pos hc1] at h
    cases h
    exact j_throw C (rm := rmX8_work) thRX8_75 (by decide) (Nat.le_of_ble_eq_true rfl) ⟨by decide, by decide⟩ (by decide) (by decide) dX8_work_9 dX8_work_12 dX8_work_13 dX8_work_16
  · rw [if_neg hc1] at h
    refine j_iload_n C dX8_work_4 rfl 2 rfl ?_
    refine j_iconst C dX8_work_5 (v := (3 : Int32)) (by decide) ?_
    refine j_icmp_lt C dX8_work_6 (tgt := 17) (by decide) (fun hc2 => ?_) (fun hc2 => ?_)
    · rw [if_pos hc2] at h
      refine j_aload_n C dX8_work_17 rfl 0 rfl ?_
      obtain ⟨ho3, h⟩ := ck_spec h
      obtain ⟨c4, hr4, h⟩ := bnd1_spec h
      refine j_getR C (cn := RX8) (T := TX8) (N := 11) (ci := 8) rfl iX8 ho3 9 (by decide) rfl fwRX8_64 dX8_work_18 hr4 ?_
      refine j_aload_n C dX8_work_21 rfl 0 rfl ?_
      obtain ⟨c5, hr5, h⟩ := bnd1_spec h
      refine j_getR C (cn := RX8) (T := TX8) (N := 11) (ci := 8) rfl iX8 ho3 0 (by decide) rfl fwRX8_10 dX8_work_22 hr5 ?_
      obtain ⟨ho6, h⟩ := ck_spec h
      obtain ⟨_, M7, hq7, h⟩ := bnd2_spec h
      refine j_run0 (c_V C (As := [.ref c5]) (rest := []) (ctX1_update C.2.2.2.2.2.2.2.2.1 N Z hq7) kcRX8_228 oyX1_update (ci := 1) (T := TX1) (N := 8) rfl (by decide) ho6 ⟨by decide, by decide⟩ ⟨by decide, by decide⟩ (Nat.le_of_ble_eq_true rfl) rfl dX8_work_25) ?_
      refine j_iload_n C dX8_work_28 rfl 1 rfl ?_
      refine j_if_lt C dX8_work_29 (tgt := 43) (by decide) (fun hc8 => ?_) (fun hc8 => ?_)
      · rw [if_pos hc8] at h
        cases h
        exact j_throw C (rm := rmX8_work) thRX8_124 (by decide) (Nat.le_of_ble_eq_true rfl) ⟨by decide, by decide⟩ (by decide) (by decide) dX8_work_43 dX8_work_46 dX8_work_47 dX8_work_50
      · rw [if_neg hc8] at h
        refine j_iload_n C dX8_work_32 rfl 1 rfl ?_
        refine j_aload_n C dX8_work_33 rfl 0 rfl ?_
        refine j_getR C (cn := RX8) (T := TX8) (N := 11) (ci := 8) rfl iX8 ho3 9 (by decide) rfl fwRX8_64 dX8_work_34 hr4 ?_
        refine j_getI C (cn := RX1) (T := TX1) (N := 8) (ci := 1) rfl iX1 ho6 0 (by decide) rfl fwRX8_234 dX8_work_37 ?_
        refine j_icmp_lt C dX8_work_40 (tgt := 51) (by decide) (fun hc9 => ?_) (fun hc9 => ?_)
        · rw [if_pos hc9] at h
          refine j_aload_n C dX8_work_51 rfl 0 rfl ?_
          refine j_getR C (cn := RX8) (T := TX8) (N := 11) (ci := 8) rfl iX8 ho3 9 (by decide) rfl fwRX8_64 dX8_work_52 hr4 ?_
          obtain ⟨c10, hr10, h⟩ := bnd1_spec h
          refine j_getR C (cn := RX1) (T := TX1) (N := 8) (ci := 1) rfl iX1 ho6 3 (by decide) rfl fwRX8_235 dX8_work_55 hr10 ?_
          refine j_iload_n C dX8_work_58 rfl 1 rfl ?_
          refine j_iconst C dX8_work_59 (v := (3 : Int32)) (by decide) ?_
          refine j_imul C dX8_work_60 ?_
          refine j_iload_n C dX8_work_61 rfl 2 rfl ?_
          refine j_iadd C dX8_work_62 ?_
          obtain ⟨r11, M11, hq11, h⟩ := bnd2_spec h
          refine j_run1 (c_S C (As := [.ref c10, .int ((a1 * (3 : Int32)) + a2)]) (rest := []) (ctX8_at C.2.2.2.2.2.2.2.2.1 N Z hq11) kcRX8_96 oyX8_at ⟨by decide, by decide⟩ ⟨by decide, by decide⟩ (Nat.le_of_ble_eq_true rfl) rfl dX8_work_63) ?_
          cases h
          exact j_iret C rfl (by decide) (by decide) dX8_work_66
        · rw [if_neg hc9] at h
          cases h
          exact j_throw C (rm := rmX8_work) thRX8_124 (by decide) (Nat.le_of_ble_eq_true rfl) ⟨by decide, by decide⟩ (by decide) (by decide) dX8_work_43 dX8_work_46 dX8_work_47 dX8_work_50
    · rw [if_neg hc2] at h
      cases h
      exact j_throw C (rm := rmX8_work) thRX8_75 (by decide) (Nat.le_of_ble_eq_true rfl) ⟨by decide, by decide⟩ (by decide) (by decide) dX8_work_9 dX8_work_12 dX8_work_13 dX8_work_16
-- ScaffoldPlanner account
theorem fwRX8_238 : Cond.fieldLink RX8 238 RX4 (TX4 1).2.1 (TX4 1).2.2.1 ∈ gw := by decide +kernel
theorem kcRX8_241 : okV RX8 241 yX6_countReached (.code yX6_countReached cX6_countReached 3 (some .int)) = true := by decide +kernel
theorem oyX6_countReached : okY yX6_countReached 0 := ⟨by decide +kernel, by decide +kernel, by decide +kernel⟩
abbrev rmX8_account : Room := { frames := 6, cells := 1, slots := 6, locals := 90 }
theorem dX8_account_0 : decode cX8_account 0 = .ok (.iload_n 1, 1) := by decide +kernel
theorem dX8_account_1 : decode cX8_account 1 = .ok (.ifCond .lt 9, 3) := by decide +kernel
theorem dX8_account_4 : decode cX8_account 4 = .ok (.iload_n 1, 1) := by decide +kernel
theorem dX8_account_5 : decode cX8_account 5 = .ok (.bipush 17, 2) := by decide +kernel
theorem dX8_account_7 : decode cX8_account 7 = .ok (.if_icmp .le 11, 3) := by decide +kernel
theorem dX8_account_10 : decode cX8_account 10 = .ok (.new 75, 3) := by decide +kernel
theorem dX8_account_13 : decode cX8_account 13 = .ok (.dup, 1) := by decide +kernel
theorem dX8_account_14 : decode cX8_account 14 = .ok (.invokespecial 77, 3) := by decide +kernel
theorem dX8_account_17 : decode cX8_account 17 = .ok (.athrow, 1) := by decide +kernel
theorem dX8_account_18 : decode cX8_account 18 = .ok (.iload_n 1, 1) := by decide +kernel
theorem dX8_account_19 : decode cX8_account 19 = .ok (.bipush 6, 2) := by decide +kernel
theorem dX8_account_21 : decode cX8_account 21 = .ok (.if_icmp .ge 12, 3) := by decide +kernel
theorem dX8_account_24 : decode cX8_account 24 = .ok (.aload_n 0, 1) := by decide +kernel
theorem dX8_account_25 : decode cX8_account 25 = .ok (.getfield 10, 3) := by decide +kernel
theorem dX8_account_28 : decode cX8_account 28 = .ok (.iload_n 1, 1) := by decide +kernel
theorem dX8_account_29 : decode cX8_account 29 = .ok (.invokevirtual 160, 3) := by decide +kernel
theorem dX8_account_32 : decode cX8_account 32 = .ok (.ireturn, 1) := by decide +kernel
theorem dX8_account_33 : decode cX8_account 33 = .ok (.iload_n 1, 1) := by decide +kernel
theorem dX8_account_34 : decode cX8_account 34 = .ok (.bipush 12, 2) := by decide +kernel
theorem dX8_account_36 : decode cX8_account 36 = .ok (.if_icmp .ge 18, 3) := by decide +kernel
theorem dX8_account_39 : decode cX8_account 39 = .ok (.aload_n 0, 1) := by decide +kernel
theorem dX8_account_40 : decode cX8_account 40 = .ok (.getfield 10, 3) := by decide +kernel
theorem dX8_account_43 : decode cX8_account 43 = .ok (.getfield 127, 3) := by decide +kernel
theorem dX8_account_46 : decode cX8_account 46 = .ok (.iload_n 1, 1) := by decide +kernel
theorem dX8_account_47 : decode cX8_account 47 = .ok (.bipush 6, 2) := by decide +kernel
theorem dX8_account_49 : decode cX8_account 49 = .ok (.isub, 1) := by decide +kernel
theorem dX8_account_50 : decode cX8_account 50 = .ok (.invokestatic 96, 3) := by decide +kernel
theorem dX8_account_53 : decode cX8_account 53 = .ok (.ireturn, 1) := by decide +kernel
theorem dX8_account_54 : decode cX8_account 54 = .ok (.iload_n 1, 1) := by decide +kernel
theorem dX8_account_55 : decode cX8_account 55 = .ok (.bipush 12, 2) := by decide +kernel
theorem dX8_account_57 : decode cX8_account 57 = .ok (.if_icmp .ne 11, 3) := by decide +kernel
theorem dX8_account_60 : decode cX8_account 60 = .ok (.aload_n 0, 1) := by decide +kernel
theorem dX8_account_61 : decode cX8_account 61 = .ok (.getfield 10, 3) := by decide +kernel
theorem dX8_account_64 : decode cX8_account 64 = .ok (.getfield 78, 3) := by decide +kernel
theorem dX8_account_67 : decode cX8_account 67 = .ok (.ireturn, 1) := by decide +kernel
theorem dX8_account_68 : decode cX8_account 68 = .ok (.iload_n 1, 1) := by decide +kernel
theorem dX8_account_69 : decode cX8_account 69 = .ok (.bipush 13, 2) := by decide +kernel
theorem dX8_account_71 : decode cX8_account 71 = .ok (.if_icmp .ne 11, 3) := by decide +kernel
theorem dX8_account_74 : decode cX8_account 74 = .ok (.aload_n 0, 1) := by decide +kernel
theorem dX8_account_75 : decode cX8_account 75 = .ok (.getfield 10, 3) := by decide +kernel
theorem dX8_account_78 : decode cX8_account 78 = .ok (.getfield 238, 3) := by decide +kernel
theorem dX8_account_81 : decode cX8_account 81 = .ok (.ireturn, 1) := by decide +kernel
theorem dX8_account_82 : decode cX8_account 82 = .ok (.iload_n 1, 1) := by decide +kernel
theorem dX8_account_83 : decode cX8_account 83 = .ok (.bipush 14, 2) := by decide +kernel
theorem dX8_account_85 : decode cX8_account 85 = .ok (.if_icmp .le 18, 3) := by decide +kernel
theorem dX8_account_88 : decode cX8_account 88 = .ok (.aload_n 0, 1) := by decide +kernel
theorem dX8_account_89 : decode cX8_account 89 = .ok (.getfield 10, 3) := by decide +kernel
theorem dX8_account_92 : decode cX8_account 92 = .ok (.getfield 107, 3) := by decide +kernel
theorem dX8_account_95 : decode cX8_account 95 = .ok (.iload_n 1, 1) := by decide +kernel
theorem dX8_account_96 : decode cX8_account 96 = .ok (.bipush 15, 2) := by decide +kernel
theorem dX8_account_98 : decode cX8_account 98 = .ok (.isub, 1) := by decide +kernel
theorem dX8_account_99 : decode cX8_account 99 = .ok (.invokestatic 96, 3) := by decide +kernel
theorem dX8_account_102 : decode cX8_account 102 = .ok (.ireturn, 1) := by decide +kernel
theorem dX8_account_103 : decode cX8_account 103 = .ok (.aload_n 0, 1) := by decide +kernel
theorem dX8_account_104 : decode cX8_account 104 = .ok (.getfield 36, 3) := by decide +kernel
theorem dX8_account_107 : decode cX8_account 107 = .ok (.aload_n 0, 1) := by decide +kernel
theorem dX8_account_108 : decode cX8_account 108 = .ok (.getfield 10, 3) := by decide +kernel
theorem dX8_account_111 : decode cX8_account 111 = .ok (.invokevirtual 163, 3) := by decide +kernel
theorem dX8_account_114 : decode cX8_account 114 = .ok (.aload_n 0, 1) := by decide +kernel
theorem dX8_account_115 : decode cX8_account 115 = .ok (.getfield 36, 3) := by decide +kernel
theorem dX8_account_118 : decode cX8_account 118 = .ok (.invokevirtual 241, 3) := by decide +kernel
theorem dX8_account_121 : decode cX8_account 121 = .ok (.ireturn, 1) := by decide +kernel
def fX8_account (N : Nat) (Z : mZ) (a0 : Nat) (a1 : Int32) (M : mM) : Option ((Int32 ⊕ String) × mM) := if a1 < 0 then some (.inr "java/lang/IllegalArgumentException", sT M) else if a1 ≤ (17 : Int32) then if (6 : Int32) ≤ a1 then if (12 : Int32) ≤ a1 then if a1 = (12 : Int32) then ck (okO Z a0 8) (bnd1 (Z.2.2.2 a0 0) (fun c7 => ck (okO Z c7 4) (some (.inl (M.1 c7 0), M)))) else if a1 = (13 : Int32) then ck (okO Z a0 8) (bnd1 (Z.2.2.2 a0 0) (fun c11 => ck (okO Z c11 4) (some (.inl (M.1 c11 1), M)))) else if a1 ≤ (14 : Int32) then ck (okO Z a0 8) (bnd1 (Z.2.2.2 a0 5) (fun c15 => bnd1 (Z.2.2.2 a0 0) (fun c16 => ck (okO Z c15 6) (bnd2 (fX6_explore N Z c15 c16 M) (fun _ M18 => bnd2 (fX6_countReached N Z c15 M18) (fun r19 M19 => some (.inl r19, M19))))))) else ck (okO Z a0 8) (bnd1 (Z.2.2.2 a0 0) (fun c21 => ck (okO Z c21 4) (bnd1 (Z.2.2.2 c21 5) (fun c23 => bnd2 (fX8_at N Z c23 (a1 - (15 : Int32)) M) (fun r24 M24 => some (.inl r24, M24)))))) else ck (okO Z a0 8) (bnd1 (Z.2.2.2 a0 0) (fun c26 => ck (okO Z c26 4) (bnd1 (Z.2.2.2 c26 6) (fun c28 => bnd2 (fX8_at N Z c28 (a1 - (6 : Int32)) M) (fun r29 M29 => some (.inl r29, M29)))))) else ck (okO Z a0 8) (bnd1 (Z.2.2.2 a0 0) (fun c31 => ck (okO Z c31 4) (bnd2 (fX4_piecesPlaced N Z c31 a1 M) (fun r33 M33 => some (.inl r33, M33))))) else some (.inr "java/lang/IllegalArgumentException", sT M)
set_option maxHeartbeats 4000000 in
set_option maxRecDepth 100000 in
theorem ctX8_account {G : mG} {l : Launch} (hl : l.stackTraces = false) (N : Nat) (Z : mZ) {a0 : Nat} {a1 : Int32} {M : mM} {r : (Int32 ⊕ String)} {M' : mM} (h : fX8_account N Z a0 a1 M = some (r, M')) : CT G l yX8_account (.code yX8_account cX8_account 2 (some .int)) rmX8_account [.ref a0, .int a1] Z M (oI r) Z M' := by
  unfold fX8_account at h
  refine CT.of hl (by decide) (Nat.le_of_ble_eq_true rfl) ?_
  intro p e s m args below meth c C hnm
  refine j_sub (L' := [(0, .ref a0), (1, .int a1)]) [0, 1] rfl ?_
  refine j_iload_n C dX8_account_0 rfl 1 rfl ?_
  refine j_if_lt C dX8_account_1 (tgt := 10) (by decide) (fun hc1 => ?_) (fun hc1 => ?_)
  · rw [if_pos hc1] at h
    cases h
    exact j_throw C (rm := rmX8_account) thRX8_75 (by decide) (Nat.le_of_ble_eq_true rfl) ⟨by decide, by decide⟩ (by decide) (by decide) dX8_account_10 dX8_account_13 dX8_account_14 dX8_account_17
  · rw [if_neg hc1] at h
    refine j_iload_n C dX8_account_4 rfl 1 rfl ?_
    refine j_bipush C dX8_account_5 (v := (17 : Int32)) (by decide) ?_
    refine j_icmp_le C dX8_account_7 (tgt := 18) (by decide) (fun hc2 => ?_) (fun hc2 => ?_)
    · rw [if_pos hc2] at h
      refine j_iload_n C dX8_account_18 rfl 1 rfl ?_
      refine j_bipush C dX8_account_19 (v := (6 : Int32)) (by decide) ?_
      refine j_icmp_ge C dX8_account_21 (tgt := 33) (by decide) (fun hc3 => ?_) (fun hc3 => ?_)
      · rw [if_pos hc3] at h
        refine j_iload_n C dX8_account_33 rfl 1 rfl ?_
        refine j_bipush C dX8_account_34 (v := (12 : Int32)) (by decide) ?_
        refine j_icmp_ge C dX8_account_36 (tgt := 54) (by decide) (fun hc4 => ?_) (fun hc4 => ?_)
        · rw [if_pos hc4] at h
          refine j_iload_n C dX8_account_54 rfl 1 rfl ?_
          refine j_bipush C dX8_account_55 (v := (12 : Int32)) (by decide) ?_
          refine j_icmp_ne C dX8_account_57 (tgt := 68) (by decide) (fun hc5 => ?_) (fun hc5 => ?_)
          · rw [if_neg hc5] at h
            refine j_iload_n C dX8_account_68 rfl 1 rfl ?_
            refine j_bipush C dX8_account_69 (v := (13 : Int32)) (by decide) ?_
            refine j_icmp_ne C dX8_account_71 (tgt := 82) (by decide) (fun hc9 => ?_) (fun hc9 => ?_)
            · rw [if_neg hc9] at h
              refine j_iload_n C dX8_account_82 rfl 1 rfl ?_
              refine j_bipush C dX8_account_83 (v := (14 : Int32)) (by decide) ?_
              refine j_icmp_le C dX8_account_85 (tgt := 103) (by decide) (fun hc13 => ?_) (fun hc13 => ?_)
              · rw [if_pos hc13] at h
                refine j_aload_n C dX8_account_103 rfl 0 rfl ?_
                obtain ⟨ho14, h⟩ := ck_spec h
                obtain ⟨c15, hr15, h⟩ := bnd1_spec h
                refine j_getR C (cn := RX8) (T := TX8) (N := 11) (ci := 8) rfl iX8 ho14 5 (by decide) rfl fwRX8_36 dX8_account_104 hr15 ?_
                refine j_aload_n C dX8_account_107 rfl 0 rfl ?_
                obtain ⟨c16, hr16, h⟩ := bnd1_spec h
                refine j_getR C (cn := RX8) (T := TX8) (N := 11) (ci := 8) rfl iX8 ho14 0 (by decide) rfl fwRX8_10 dX8_account_108 hr16 ?_
                obtain ⟨ho17, h⟩ := ck_spec h
                obtain ⟨_, M18, hq18, h⟩ := bnd2_spec h
                refine j_run0 (c_V C (As := [.ref c16]) (rest := []) (ctX6_explore C.2.2.2.2.2.2.2.2.1 N Z hq18) kcRX8_163 oyX6_explore (ci := 6) (T := TX6) (N := 4) rfl (by decide) ho17 ⟨by decide, by decide⟩ ⟨by decide, by decide⟩ (Nat.le_of_ble_eq_true rfl) rfl dX8_account_111) ?_
                refine j_aload_n C dX8_account_114 rfl 0 rfl ?_
                refine j_getR C (cn := RX8) (T := TX8) (N := 11) (ci := 8) rfl iX8 ho14 5 (by decide) rfl fwRX8_36 dX8_account_115 hr15 ?_
                obtain ⟨r19, M19, hq19, h⟩ := bnd2_spec h
                refine j_run1 (c_V C (As := []) (rest := []) (ctX6_countReached C.2.2.2.2.2.2.2.2.1 N Z hq19) kcRX8_241 oyX6_countReached (ci := 6) (T := TX6) (N := 4) rfl (by decide) ho17 ⟨by decide, by decide⟩ ⟨by decide, by decide⟩ (Nat.le_of_ble_eq_true rfl) rfl dX8_account_118) ?_
                cases h
                exact j_iret C rfl (by decide) (by decide) dX8_account_121
              · rw [if_neg hc13] at h
                refine j_aload_n C dX8_account_88 rfl 0 rfl ?_
                obtain ⟨ho20, h⟩ := ck_spec h
                obtain ⟨c21, hr21, h⟩ := bnd1_spec h
                refine j_getR C (cn := RX8) (T := TX8) (N := 11) (ci := 8) rfl iX8 ho20 0 (by decide) rfl fwRX8_10 dX8_account_89 hr21 ?_
                obtain ⟨ho22, h⟩ := ck_spec h
                obtain ⟨c23, hr23, h⟩ := bnd1_spec h
                refine j_getR C (cn := RX4) (T := TX4) (N := 7) (ci := 4) rfl iX4 ho22 5 (by decide) rfl fwRX8_107 dX8_account_92 hr23 ?_
                refine j_iload_n C dX8_account_95 rfl 1 rfl ?_
                refine j_bipush C dX8_account_96 (v := (15 : Int32)) (by decide) ?_
                refine j_isub C dX8_account_98 ?_
                obtain ⟨r24, M24, hq24, h⟩ := bnd2_spec h
                refine j_run1 (c_S C (As := [.ref c23, .int (a1 - (15 : Int32))]) (rest := []) (ctX8_at C.2.2.2.2.2.2.2.2.1 N Z hq24) kcRX8_96 oyX8_at ⟨by decide, by decide⟩ ⟨by decide, by decide⟩ (Nat.le_of_ble_eq_true rfl) rfl dX8_account_99) ?_
                cases h
                exact j_iret C rfl (by decide) (by decide) dX8_account_102
            · rw [if_pos hc9] at h
              refine j_aload_n C dX8_account_74 rfl 0 rfl ?_
              obtain ⟨ho10, h⟩ := ck_spec h
              obtain ⟨c11, hr11, h⟩ := bnd1_spec h
              refine j_getR C (cn := RX8) (T := TX8) (N := 11) (ci := 8) rfl iX8 ho10 0 (by decide) rfl fwRX8_10 dX8_account_75 hr11 ?_
              obtain ⟨ho12, h⟩ := ck_spec h
              refine j_getI C (cn := RX4) (T := TX4) (N := 7) (ci := 4) rfl iX4 ho12 1 (by decide) rfl fwRX8_238 dX8_account_78 ?_
              cases h
              exact j_iret C rfl (by decide) (by decide) dX8_account_81
          · rw [if_pos hc5] at h
            refine j_aload_n C dX8_account_60 rfl 0 rfl ?_
            obtain ⟨ho6, h⟩ := ck_spec h
            obtain ⟨c7, hr7, h⟩ := bnd1_spec h
            refine j_getR C (cn := RX8) (T := TX8) (N := 11) (ci := 8) rfl iX8 ho6 0 (by decide) rfl fwRX8_10 dX8_account_61 hr7 ?_
            obtain ⟨ho8, h⟩ := ck_spec h
            refine j_getI C (cn := RX4) (T := TX4) (N := 7) (ci := 4) rfl iX4 ho8 0 (by decide) rfl fwRX8_78 dX8_account_64 ?_
            cases h
            exact j_iret C rfl (by decide) (by decide) dX8_account_67
        · rw [if_neg hc4] at h
          refine j_aload_n C dX8_account_39 rfl 0 rfl ?_
          obtain ⟨ho25, h⟩ := ck_spec h
          obtain ⟨c26, hr26, h⟩ := bnd1_spec h
          refine j_getR C (cn := RX8) (T := TX8) (N := 11) (ci := 8) rfl iX8 ho25 0 (by decide) rfl fwRX8_10 dX8_account_40 hr26 ?_
          obtain ⟨ho27, h⟩ := ck_spec h
          obtain ⟨c28, hr28, h⟩ := bnd1_spec h
          refine j_getR C (cn := RX4) (T := TX4) (N := 7) (ci := 4) rfl iX4 ho27 6 (by decide) rfl fwRX8_127 dX8_account_43 hr28 ?_
          refine j_iload_n C dX8_account_46 rfl 1 rfl ?_
          refine j_bipush C dX8_account_47 (v := (6 : Int32)) (by decide) ?_
          refine j_isub C dX8_account_49 ?_
          obtain ⟨r29, M29, hq29, h⟩ := bnd2_spec h
          refine j_run1 (c_S C (As := [.ref c28, .int (a1 - (6 : Int32))]) (rest := []) (ctX8_at C.2.2.2.2.2.2.2.2.1 N Z hq29) kcRX8_96 oyX8_at ⟨by decide, by decide⟩ ⟨by decide, by decide⟩ (Nat.le_of_ble_eq_true rfl) rfl dX8_account_50) ?_
          cases h
          exact j_iret C rfl (by decide) (by decide) dX8_account_53
      · rw [if_neg hc3] at h
        refine j_aload_n C dX8_account_24 rfl 0 rfl ?_
        obtain ⟨ho30, h⟩ := ck_spec h
        obtain ⟨c31, hr31, h⟩ := bnd1_spec h
        refine j_getR C (cn := RX8) (T := TX8) (N := 11) (ci := 8) rfl iX8 ho30 0 (by decide) rfl fwRX8_10 dX8_account_25 hr31 ?_
        refine j_iload_n C dX8_account_28 rfl 1 rfl ?_
        obtain ⟨ho32, h⟩ := ck_spec h
        obtain ⟨r33, M33, hq33, h⟩ := bnd2_spec h
        refine j_run1 (c_V C (As := [.int a1]) (rest := []) (ctX4_piecesPlaced C.2.2.2.2.2.2.2.2.1 N Z hq33) kcRX8_160 oyX4_piecesPlaced (ci := 4) (T := TX4) (N := 7) rfl (by decide) ho32 ⟨by decide, by decide⟩ ⟨by decide, by decide⟩ (Nat.le_of_ble_eq_true rfl) rfl dX8_account_29) ?_
        cases h
        exact j_iret C rfl (by decide) (by decide) dX8_account_32
    · rw [if_neg hc2] at h
      cases h
      exact j_throw C (rm := rmX8_account) thRX8_75 (by decide) (Nat.le_of_ble_eq_true rfl) ⟨by decide, by decide⟩ (by decide) (by decide) dX8_account_10 dX8_account_13 dX8_account_14 dX8_account_17
-- ScaffoldPlanner use
abbrev rmX8_use : Room := { frames := 6, cells := 1, slots := 6, locals := 90 }
theorem dX8_use_0 : decode cX8_use 0 = .ok (.aload_n 0, 1) := by decide +kernel
theorem dX8_use_1 : decode cX8_use 1 = .ok (.getfield 10, 3) := by decide +kernel
theorem dX8_use_4 : decode cX8_use 4 = .ok (.iload_n 1, 1) := by decide +kernel
theorem dX8_use_5 : decode cX8_use 5 = .ok (.invokevirtual 130, 3) := by decide +kernel
theorem dX8_use_8 : decode cX8_use 8 = .ok (.ifCond .ne 11, 3) := by decide +kernel
theorem dX8_use_11 : decode cX8_use 11 = .ok (.new 124, 3) := by decide +kernel
theorem dX8_use_14 : decode cX8_use 14 = .ok (.dup, 1) := by decide +kernel
theorem dX8_use_15 : decode cX8_use 15 = .ok (.invokespecial 126, 3) := by decide +kernel
theorem dX8_use_18 : decode cX8_use 18 = .ok (.athrow, 1) := by decide +kernel
theorem dX8_use_19 : decode cX8_use 19 = .ok (.aload_n 0, 1) := by decide +kernel
theorem dX8_use_20 : decode cX8_use 20 = .ok (.getfield 10, 3) := by decide +kernel
theorem dX8_use_23 : decode cX8_use 23 = .ok (.getfield 107, 3) := by decide +kernel
theorem dX8_use_26 : decode cX8_use 26 = .ok (.iconst 2, 1) := by decide +kernel
theorem dX8_use_27 : decode cX8_use 27 = .ok (.invokestatic 96, 3) := by decide +kernel
theorem dX8_use_30 : decode cX8_use 30 = .ok (.i2f, 1) := by decide +kernel
theorem dX8_use_31 : decode cX8_use 31 = .ok (.fstore_n 2, 1) := by decide +kernel
theorem dX8_use_32 : decode cX8_use 32 = .ok (.fload_n 2, 1) := by decide +kernel
theorem dX8_use_33 : decode cX8_use 33 = .ok (.fconst 0, 1) := by decide +kernel
theorem dX8_use_34 : decode cX8_use 34 = .ok (.fcmp .l, 1) := by decide +kernel
theorem dX8_use_35 : decode cX8_use 35 = .ok (.ifCond .le 17, 3) := by decide +kernel
theorem dX8_use_38 : decode cX8_use 38 = .ok (.aload_n 0, 1) := by decide +kernel
theorem dX8_use_39 : decode cX8_use 39 = .ok (.getfield 10, 3) := by decide +kernel
theorem dX8_use_42 : decode cX8_use 42 = .ok (.iload_n 1, 1) := by decide +kernel
theorem dX8_use_43 : decode cX8_use 43 = .ok (.invokevirtual 194, 3) := by decide +kernel
theorem dX8_use_46 : decode cX8_use 46 = .ok (.i2f, 1) := by decide +kernel
theorem dX8_use_47 : decode cX8_use 47 = .ok (.fload_n 2, 1) := by decide +kernel
theorem dX8_use_48 : decode cX8_use 48 = .ok (.fdiv, 1) := by decide +kernel
theorem dX8_use_49 : decode cX8_use 49 = .ok (.goto 4, 3) := by decide +kernel
theorem dX8_use_52 : decode cX8_use 52 = .ok (.fconst 0, 1) := by decide +kernel
theorem dX8_use_53 : decode cX8_use 53 = .ok (.freturn, 1) := by decide +kernel
def fX8_use (N : Nat) (Z : mZ) (a0 : Nat) (a1 : Int32) (M : mM) : Option ((UInt32 ⊕ String) × mM) := ck (okO Z a0 8) (bnd1 (Z.2.2.2 a0 0) (fun c2 => ck (okO Z c2 4) (bnd2 (fX4_hasPlace N Z c2 a1 M) (fun r4 M4 => if r4 = 0 then some (.inr "java/lang/IndexOutOfBoundsException", sT M4) else bnd1 (Z.2.2.2 c2 5) (fun c6 => bnd2 (fX8_at N Z c6 (2 : Int32) M4) (fun r7 M7 => if (Op.cmpValue (FP.fcmp ((FP.i2f r7)) (0 : UInt32)) CmpOp.l) ≤ 0 then some (.inl (0 : UInt32), M7) else bnd2 (fX4_postLoad N Z c2 a1 M7) (fun r9 M9 => ck (nn32 (FP.fdiv ((FP.i2f r9)) ((FP.i2f r7)))) (some (.inl (FP.fdiv ((FP.i2f r9)) ((FP.i2f r7))), M9)))))))))
set_option maxHeartbeats 4000000 in
set_option maxRecDepth 100000 in
theorem ctX8_use {G : mG} {l : Launch} (hl : l.stackTraces = false) (N : Nat) (Z : mZ) {a0 : Nat} {a1 : Int32} {M : mM} {r : (UInt32 ⊕ String)} {M' : mM} (h : fX8_use N Z a0 a1 M = some (r, M')) : CT G l yX8_use (.code yX8_use cX8_use 3 (some .float)) rmX8_use [.ref a0, .int a1] Z M (oF r) Z M' := by
  unfold fX8_use at h
  refine CT.of hl (by decide) (Nat.le_of_ble_eq_true rfl) ?_
  intro p e s m args below meth c C hnm
  refine j_sub (L' := [(0, .ref a0), (1, .int a1)]) [0, 1] rfl ?_
  refine j_aload_n C dX8_use_0 rfl 0 rfl ?_
  obtain ⟨ho1, h⟩ := ck_spec h
  obtain ⟨c2, hr2, h⟩ := bnd1_spec h
  refine j_getR C (cn := RX8) (T := TX8) (N := 11) (ci := 8) rfl iX8 ho1 0 (by decide) rfl fwRX8_10 dX8_use_1 hr2 ?_
  refine j_iload_n C dX8_use_4 rfl 1 rfl ?_
  obtain ⟨ho3, h⟩ := ck_spec h
  obtain ⟨r4, M4, hq4, h⟩ := bnd2_spec h
  refine j_run1 (c_V C (As := [.int a1]) (rest := []) (ctX4_hasPlace C.2.2.2.2.2.2.2.2.1 N Z hq4) kcRX8_130 oyX4_hasPlace (ci := 4) (T := TX4) (N := 7) rfl (by decide) ho3 ⟨by decide, by decide⟩ ⟨by decide, by decide⟩ (Nat.le_of_ble_eq_true rfl) rfl dX8_use_5) ?_
  refine j_if_ne C dX8_use_8 (tgt := 19) (by decide) (fun hc5 => ?_) (fun hc5 => ?_)
  · rw [if_neg hc5] at h
    refine j_aload_n C dX8_use_19 rfl 0 rfl ?_
    refine j_getR C (cn := RX8) (T := TX8) (N := 11) (ci := 8) rfl iX8 ho1 0 (by decide) rfl fwRX8_10 dX8_use_20 hr2 ?_
    obtain ⟨c6, hr6, h⟩ := bnd1_spec h
    refine j_getR C (cn := RX4) (T := TX4) (N := 7) (ci := 4) rfl iX4 ho3 5 (by decide) rfl fwRX8_107 dX8_use_23 hr6 ?_
    refine j_iconst C dX8_use_26 (v := (2 : Int32)) (by decide) ?_
    obtain ⟨r7, M7, hq7, h⟩ := bnd2_spec h
    refine j_run1 (c_S C (As := [.ref c6, .int (2 : Int32)]) (rest := []) (ctX8_at C.2.2.2.2.2.2.2.2.1 N Z hq7) kcRX8_96 oyX8_at ⟨by decide, by decide⟩ ⟨by decide, by decide⟩ (Nat.le_of_ble_eq_true rfl) rfl dX8_use_27) ?_
    refine j_i2f C dX8_use_30 ?_
    refine j_fstore_n C dX8_use_31 rfl (by decide) (L' := [(2, .float ((FP.i2f r7))), (0, .ref a0), (1, .int a1)]) rfl ?_
    refine j_fload_n C dX8_use_32 rfl 0 rfl ?_
    refine j_fconst0 C dX8_use_33 ?_
    refine j_fcmp C dX8_use_34 ?_
    refine j_if_le C dX8_use_35 (tgt := 52) (by decide) (fun hc8 => ?_) (fun hc8 => ?_)
    · rw [if_pos hc8] at h
      refine j_fconst0 C dX8_use_52 ?_
      cases h
      exact j_fret C rfl (by decide) (by decide) dX8_use_53
    · rw [if_neg hc8] at h
      refine j_aload_n C dX8_use_38 rfl 1 rfl ?_
      refine j_getR C (cn := RX8) (T := TX8) (N := 11) (ci := 8) rfl iX8 ho1 0 (by decide) rfl fwRX8_10 dX8_use_39 hr2 ?_
      refine j_iload_n C dX8_use_42 rfl 2 rfl ?_
      obtain ⟨r9, M9, hq9, h⟩ := bnd2_spec h
      refine j_run1 (c_V C (As := [.int a1]) (rest := []) (ctX4_postLoad C.2.2.2.2.2.2.2.2.1 N Z hq9) kcRX8_194 oyX4_postLoad (ci := 4) (T := TX4) (N := 7) rfl (by decide) ho3 ⟨by decide, by decide⟩ ⟨by decide, by decide⟩ (Nat.le_of_ble_eq_true rfl) rfl dX8_use_43) ?_
      refine j_i2f C dX8_use_46 ?_
      refine j_fload_n C dX8_use_47 rfl 0 rfl ?_
      obtain ⟨ho10, h⟩ := ck_spec h
      refine j_fdiv C dX8_use_48 (nn32_spec ho10) ?_
      refine j_goto C dX8_use_49 (tgt := 53) (by decide) ?_
      cases h
      exact j_fret C rfl (by decide) (by decide) dX8_use_53
  · rw [if_pos hc5] at h
    cases h
    exact j_throw C (rm := rmX8_use) thRX8_124 (by decide) (Nat.le_of_ble_eq_true rfl) ⟨by decide, by decide⟩ (by decide) (by decide) dX8_use_11 dX8_use_14 dX8_use_15 dX8_use_18
-- ScaffoldPlanner meanClass
theorem thRX8_245 : okT RX8 245 247 "java/lang/ArithmeticException" ["java/lang/RuntimeException", "java/lang/Exception"] = true := by decide +kernel
theorem kcRX8_248 : okV RX8 248 yX4_sumOfClasses (.code yX4_sumOfClasses cX4_sumOfClasses 3 (some .int)) = true := by decide +kernel
theorem oyX4_sumOfClasses : okY yX4_sumOfClasses 0 := ⟨by decide +kernel, by decide +kernel, by decide +kernel⟩
abbrev rmX8_meanClass : Room := { frames := 6, cells := 1, slots := 6, locals := 90 }
theorem dX8_meanClass_0 : decode cX8_meanClass 0 = .ok (.aload_n 0, 1) := by decide +kernel
theorem dX8_meanClass_1 : decode cX8_meanClass 1 = .ok (.getfield 10, 3) := by decide +kernel
theorem dX8_meanClass_4 : decode cX8_meanClass 4 = .ok (.iconst 2, 1) := by decide +kernel
theorem dX8_meanClass_5 : decode cX8_meanClass 5 = .ok (.invokevirtual 160, 3) := by decide +kernel
theorem dX8_meanClass_8 : decode cX8_meanClass 8 = .ok (.istore_n 1, 1) := by decide +kernel
theorem dX8_meanClass_9 : decode cX8_meanClass 9 = .ok (.iload_n 1, 1) := by decide +kernel
theorem dX8_meanClass_10 : decode cX8_meanClass 10 = .ok (.ifCond .ne 11, 3) := by decide +kernel
theorem dX8_meanClass_13 : decode cX8_meanClass 13 = .ok (.new 245, 3) := by decide +kernel
theorem dX8_meanClass_16 : decode cX8_meanClass 16 = .ok (.dup, 1) := by decide +kernel
theorem dX8_meanClass_17 : decode cX8_meanClass 17 = .ok (.invokespecial 247, 3) := by decide +kernel
theorem dX8_meanClass_20 : decode cX8_meanClass 20 = .ok (.athrow, 1) := by decide +kernel
theorem dX8_meanClass_21 : decode cX8_meanClass 21 = .ok (.aload_n 0, 1) := by decide +kernel
theorem dX8_meanClass_22 : decode cX8_meanClass 22 = .ok (.getfield 10, 3) := by decide +kernel
theorem dX8_meanClass_25 : decode cX8_meanClass 25 = .ok (.invokevirtual 248, 3) := by decide +kernel
theorem dX8_meanClass_28 : decode cX8_meanClass 28 = .ok (.i2d, 1) := by decide +kernel
theorem dX8_meanClass_29 : decode cX8_meanClass 29 = .ok (.iload_n 1, 1) := by decide +kernel
theorem dX8_meanClass_30 : decode cX8_meanClass 30 = .ok (.i2d, 1) := by decide +kernel
theorem dX8_meanClass_31 : decode cX8_meanClass 31 = .ok (.ddiv, 1) := by decide +kernel
theorem dX8_meanClass_32 : decode cX8_meanClass 32 = .ok (.dreturn, 1) := by decide +kernel
def fX8_meanClass (N : Nat) (Z : mZ) (a0 : Nat) (M : mM) : Option ((UInt64 ⊕ String) × mM) := ck (okO Z a0 8) (bnd1 (Z.2.2.2 a0 0) (fun c2 => ck (okO Z c2 4) (bnd2 (fX4_piecesPlaced N Z c2 (2 : Int32) M) (fun r4 M4 => if r4 = 0 then some (.inr "java/lang/ArithmeticException", sT M4) else bnd2 (fX4_sumOfClasses N Z c2 M4) (fun r6 M6 => ck (nn64 (FP.ddiv ((FP.i2d r6)) ((FP.i2d r4)))) (some (.inl (FP.ddiv ((FP.i2d r6)) ((FP.i2d r4))), M6)))))))
set_option maxHeartbeats 4000000 in
set_option maxRecDepth 100000 in
theorem ctX8_meanClass {G : mG} {l : Launch} (hl : l.stackTraces = false) (N : Nat) (Z : mZ) {a0 : Nat} {M : mM} {r : (UInt64 ⊕ String)} {M' : mM} (h : fX8_meanClass N Z a0 M = some (r, M')) : CT G l yX8_meanClass (.code yX8_meanClass cX8_meanClass 2 (some .double)) rmX8_meanClass [.ref a0] Z M (oD r) Z M' := by
  unfold fX8_meanClass at h
  refine CT.of hl (by decide) (Nat.le_of_ble_eq_true rfl) ?_
  intro p e s m args below meth c C hnm
  refine j_sub (L' := [(0, .ref a0)]) [0] rfl ?_
  refine j_aload_n C dX8_meanClass_0 rfl 0 rfl ?_
  obtain ⟨ho1, h⟩ := ck_spec h
  obtain ⟨c2, hr2, h⟩ := bnd1_spec h
  refine j_getR C (cn := RX8) (T := TX8) (N := 11) (ci := 8) rfl iX8 ho1 0 (by decide) rfl fwRX8_10 dX8_meanClass_1 hr2 ?_
  refine j_iconst C dX8_meanClass_4 (v := (2 : Int32)) (by decide) ?_
  obtain ⟨ho3, h⟩ := ck_spec h
  obtain ⟨r4, M4, hq4, h⟩ := bnd2_spec h
  refine j_run1 (c_V C (As := [.int (2 : Int32)]) (rest := []) (ctX4_piecesPlaced C.2.2.2.2.2.2.2.2.1 N Z hq4) kcRX8_160 oyX4_piecesPlaced (ci := 4) (T := TX4) (N := 7) rfl (by decide) ho3 ⟨by decide, by decide⟩ ⟨by decide, by decide⟩ (Nat.le_of_ble_eq_true rfl) rfl dX8_meanClass_5) ?_
  refine j_istore_n C dX8_meanClass_8 rfl (by decide) (L' := [(1, .int r4), (0, .ref a0)]) rfl ?_
  refine j_iload_n C dX8_meanClass_9 rfl 0 rfl ?_
  refine j_if_ne C dX8_meanClass_10 (tgt := 21) (by decide) (fun hc5 => ?_) (fun hc5 => ?_)
  · rw [if_neg hc5] at h
    refine j_aload_n C dX8_meanClass_21 rfl 1 rfl ?_
    refine j_getR C (cn := RX8) (T := TX8) (N := 11) (ci := 8) rfl iX8 ho1 0 (by decide) rfl fwRX8_10 dX8_meanClass_22 hr2 ?_
    obtain ⟨r6, M6, hq6, h⟩ := bnd2_spec h
    refine j_run1 (c_V C (As := []) (rest := []) (ctX4_sumOfClasses C.2.2.2.2.2.2.2.2.1 N Z hq6) kcRX8_248 oyX4_sumOfClasses (ci := 4) (T := TX4) (N := 7) rfl (by decide) ho3 ⟨by decide, by decide⟩ ⟨by decide, by decide⟩ (Nat.le_of_ble_eq_true rfl) rfl dX8_meanClass_25) ?_
    refine j_i2d C dX8_meanClass_28 ?_
    refine j_iload_n C dX8_meanClass_29 rfl 0 rfl ?_
    refine j_i2d C dX8_meanClass_30 ?_
    obtain ⟨ho7, h⟩ := ck_spec h
    refine j_ddiv C dX8_meanClass_31 (nn64_spec ho7) ?_
    cases h
    exact j_dret C rfl (by decide) (by decide) dX8_meanClass_32
  · rw [if_pos hc5] at h
    cases h
    exact j_throw C (rm := rmX8_meanClass) thRX8_245 (by decide) (Nat.le_of_ble_eq_true rfl) ⟨by decide, by decide⟩ (by decide) (by decide) dX8_meanClass_13 dX8_meanClass_16 dX8_meanClass_17 dX8_meanClass_20
-- ScaffoldPlanner feed
theorem fwRX8_251 : Cond.fieldLink RX8 251 RX0 (TX0 0).2.1 (TX0 0).2.2.1 ∈ gw := by decide +kernel
theorem kcRX8_254 : okV RX8 254 yX0_append (.code yX0_append cX0_append 2 none) = true := by decide +kernel
theorem oyX0_append : okY yX0_append 1 := ⟨by decide +kernel, by decide +kernel, by decide +kernel⟩
abbrev rmX8_feed : Room := { frames := 6, cells := 1, slots := 6, locals := 90 }
theorem dX8_feed_0 : decode cX8_feed 0 = .ok (.aload_n 0, 1) := by decide +kernel
theorem dX8_feed_1 : decode cX8_feed 1 = .ok (.getfield 71, 3) := by decide +kernel
theorem dX8_feed_4 : decode cX8_feed 4 = .ok (.getfield 251, 3) := by decide +kernel
theorem dX8_feed_7 : decode cX8_feed 7 = .ok (.bipush 80, 2) := by decide +kernel
theorem dX8_feed_9 : decode cX8_feed 9 = .ok (.if_icmp .lt 11, 3) := by decide +kernel
theorem dX8_feed_12 : decode cX8_feed 12 = .ok (.new 118, 3) := by decide +kernel
theorem dX8_feed_15 : decode cX8_feed 15 = .ok (.dup, 1) := by decide +kernel
theorem dX8_feed_16 : decode cX8_feed 16 = .ok (.invokespecial 120, 3) := by decide +kernel
theorem dX8_feed_19 : decode cX8_feed 19 = .ok (.athrow, 1) := by decide +kernel
theorem dX8_feed_20 : decode cX8_feed 20 = .ok (.aload_n 0, 1) := by decide +kernel
theorem dX8_feed_21 : decode cX8_feed 21 = .ok (.getfield 71, 3) := by decide +kernel
theorem dX8_feed_24 : decode cX8_feed 24 = .ok (.iload_n 1, 1) := by decide +kernel
theorem dX8_feed_25 : decode cX8_feed 25 = .ok (.invokevirtual 254, 3) := by decide +kernel
theorem dX8_feed_28 : decode cX8_feed 28 = .ok (.aload_n 0, 1) := by decide +kernel
theorem dX8_feed_29 : decode cX8_feed 29 = .ok (.getfield 71, 3) := by decide +kernel
theorem dX8_feed_32 : decode cX8_feed 32 = .ok (.getfield 251, 3) := by decide +kernel
theorem dX8_feed_35 : decode cX8_feed 35 = .ok (.ireturn, 1) := by decide +kernel
def fX8_feed (N : Nat) (Z : mZ) (a0 : Nat) (a1 : Int32) (M : mM) : Option ((Int32 ⊕ String) × mM) := ck (okO Z a0 8) (bnd1 (Z.2.2.2 a0 10) (fun c2 => ck (okO Z c2 0) (if (M.1 c2 0) < (80 : Int32) then bnd2 (fX0_append N Z c2 a1 M) (fun _ M5 => some (.inl (M5.1 c2 0), M5)) else some (.inr "java/lang/IllegalStateException", sT M))))
set_option maxHeartbeats 4000000 in
set_option maxRecDepth 100000 in
theorem ctX8_feed {G : mG} {l : Launch} (hl : l.stackTraces = false) (N : Nat) (Z : mZ) {a0 : Nat} {a1 : Int32} {M : mM} {r : (Int32 ⊕ String)} {M' : mM} (h : fX8_feed N Z a0 a1 M = some (r, M')) : CT G l yX8_feed (.code yX8_feed cX8_feed 2 (some .int)) rmX8_feed [.ref a0, .int a1] Z M (oI r) Z M' := by
  unfold fX8_feed at h
  refine CT.of hl (by decide) (Nat.le_of_ble_eq_true rfl) ?_
  intro p e s m args below meth c C hnm
  refine j_sub (L' := [(0, .ref a0), (1, .int a1)]) [0, 1] rfl ?_
  refine j_aload_n C dX8_feed_0 rfl 0 rfl ?_
  obtain ⟨ho1, h⟩ := ck_spec h
  obtain ⟨c2, hr2, h⟩ := bnd1_spec h
  refine j_getR C (cn := RX8) (T := TX8) (N := 11) (ci := 8) rfl iX8 ho1 10 (by decide) rfl fwRX8_71 dX8_feed_1 hr2 ?_
  obtain ⟨ho3, h⟩ := ck_spec h
  refine j_getI C (cn := RX0) (T := TX0) (N := 3) (ci := 0) rfl iX0 ho3 0 (by decide) rfl fwRX8_251 dX8_feed_4 ?_
  refine j_bipush C dX8_feed_7 (v := (80 : Int32)) (by decide) ?_
  refine j_icmp_lt C dX8_feed_9 (tgt := 20) (by decide) (fun hc4 => ?_) (fun hc4 => ?_)
  · rw [if_pos hc4] at h
    refine j_aload_n C dX8_feed_20 rfl 0 rfl ?_
    refine j_getR C (cn := RX8) (T := TX8) (N := 11) (ci := 8) rfl iX8 ho1 10 (by decide) rfl fwRX8_71 dX8_feed_21 hr2 ?_
    refine j_iload_n C dX8_feed_24 rfl 1 rfl ?_
    obtain ⟨_, M5, hq5, h⟩ := bnd2_spec h
    refine j_run0 (c_V C (As := [.int a1]) (rest := []) (ctX0_append C.2.2.2.2.2.2.2.2.1 N Z hq5) kcRX8_254 oyX0_append (ci := 0) (T := TX0) (N := 3) rfl (by decide) ho3 ⟨by decide, by decide⟩ ⟨by decide, by decide⟩ (Nat.le_of_ble_eq_true rfl) rfl dX8_feed_25) ?_
    refine j_aload_n C dX8_feed_28 rfl 0 rfl ?_
    refine j_getR C (cn := RX8) (T := TX8) (N := 11) (ci := 8) rfl iX8 ho1 10 (by decide) rfl fwRX8_71 dX8_feed_29 hr2 ?_
    refine j_getI C (cn := RX0) (T := TX0) (N := 3) (ci := 0) rfl iX0 ho3 0 (by decide) rfl fwRX8_251 dX8_feed_32 ?_
    cases h
    exact j_iret C rfl (by decide) (by decide) dX8_feed_35
  · rw [if_neg hc4] at h
    cases h
    exact j_throw C (rm := rmX8_feed) thRX8_118 (by decide) (Nat.le_of_ble_eq_true rfl) ⟨by decide, by decide⟩ (by decide) (by decide) dX8_feed_12 dX8_feed_15 dX8_feed_16 dX8_feed_19
-- ScaffoldPlanner isInRange
theorem fwRX8_310 : Cond.fieldLink RX8 310 RX7 (TX7 4).2.1 (TX7 4).2.2.1 ∈ gw := by decide +kernel
abbrev rmX8_isInRange : Room := { frames := 1, cells := 0, slots := 0, locals := 21 }
theorem dX8_isInRange_0 : decode cX8_isInRange 0 = .ok (.aload_n 0, 1) := by decide +kernel
theorem dX8_isInRange_1 : decode cX8_isInRange 1 = .ok (.getfield 10, 3) := by decide +kernel
theorem dX8_isInRange_4 : decode cX8_isInRange 4 = .ok (.aload_n 1, 1) := by decide +kernel
theorem dX8_isInRange_5 : decode cX8_isInRange 5 = .ok (.getfield 304, 3) := by decide +kernel
theorem dX8_isInRange_8 : decode cX8_isInRange 8 = .ok (.invokevirtual 130, 3) := by decide +kernel
theorem dX8_isInRange_11 : decode cX8_isInRange 11 = .ok (.ifCond .ne 5, 3) := by decide +kernel
theorem dX8_isInRange_14 : decode cX8_isInRange 14 = .ok (.iconst 0, 1) := by decide +kernel
theorem dX8_isInRange_15 : decode cX8_isInRange 15 = .ok (.ireturn, 1) := by decide +kernel
theorem dX8_isInRange_16 : decode cX8_isInRange 16 = .ok (.aload_n 1, 1) := by decide +kernel
theorem dX8_isInRange_17 : decode cX8_isInRange 17 = .ok (.getfield 301, 3) := by decide +kernel
theorem dX8_isInRange_20 : decode cX8_isInRange 20 = .ok (.iconst 2, 1) := by decide +kernel
theorem dX8_isInRange_21 : decode cX8_isInRange 21 = .ok (.if_icmp .ne 14, 3) := by decide +kernel
theorem dX8_isInRange_24 : decode cX8_isInRange 24 = .ok (.aload_n 1, 1) := by decide +kernel
theorem dX8_isInRange_25 : decode cX8_isInRange 25 = .ok (.getfield 310, 3) := by decide +kernel
theorem dX8_isInRange_28 : decode cX8_isInRange 28 = .ok (.ifCond .ne 7, 3) := by decide +kernel
theorem dX8_isInRange_31 : decode cX8_isInRange 31 = .ok (.iconst 1, 1) := by decide +kernel
theorem dX8_isInRange_32 : decode cX8_isInRange 32 = .ok (.goto 4, 3) := by decide +kernel
theorem dX8_isInRange_35 : decode cX8_isInRange 35 = .ok (.iconst 0, 1) := by decide +kernel
theorem dX8_isInRange_36 : decode cX8_isInRange 36 = .ok (.istore_n 2, 1) := by decide +kernel
theorem dX8_isInRange_37 : decode cX8_isInRange 37 = .ok (.iload_n 2, 1) := by decide +kernel
theorem dX8_isInRange_38 : decode cX8_isInRange 38 = .ok (.ifCond .eq 19, 3) := by decide +kernel
theorem dX8_isInRange_41 : decode cX8_isInRange 41 = .ok (.aload_n 1, 1) := by decide +kernel
theorem dX8_isInRange_42 : decode cX8_isInRange 42 = .ok (.getfield 147, 3) := by decide +kernel
theorem dX8_isInRange_45 : decode cX8_isInRange 45 = .ok (.iconst 1, 1) := by decide +kernel
theorem dX8_isInRange_46 : decode cX8_isInRange 46 = .ok (.if_icmp .lt 15, 3) := by decide +kernel
theorem dX8_isInRange_49 : decode cX8_isInRange 49 = .ok (.aload_n 1, 1) := by decide +kernel
theorem dX8_isInRange_50 : decode cX8_isInRange 50 = .ok (.getfield 147, 3) := by decide +kernel
theorem dX8_isInRange_53 : decode cX8_isInRange 53 = .ok (.iconst 4, 1) := by decide +kernel
theorem dX8_isInRange_54 : decode cX8_isInRange 54 = .ok (.if_icmp .gt 7, 3) := by decide +kernel
theorem dX8_isInRange_57 : decode cX8_isInRange 57 = .ok (.iconst 1, 1) := by decide +kernel
theorem dX8_isInRange_58 : decode cX8_isInRange 58 = .ok (.goto 4, 3) := by decide +kernel
theorem dX8_isInRange_61 : decode cX8_isInRange 61 = .ok (.iconst 0, 1) := by decide +kernel
theorem dX8_isInRange_62 : decode cX8_isInRange 62 = .ok (.ireturn, 1) := by decide +kernel
def fX8_isInRange_36 (N : Nat) (Z : mZ) (v1 : Nat) (x0 : Int32) (M : mM) : Option (Int32 × mM) := if x0 = 0 then some ((1 : Int32), M) else ck (okO Z v1 7) (if (M.1 v1 3) < (1 : Int32) then some ((0 : Int32), M) else if (4 : Int32) < (M.1 v1 3) then some ((0 : Int32), M) else some ((1 : Int32), M))
set_option maxHeartbeats 4000000 in
set_option maxRecDepth 100000 in
theorem tX8_isInRange_36 {G : mG} {p : Program} {l : Launch} {e : Env} {s : State} {m : MethodId} {args : Array Value} {below : List Frame} {meth : Method} {c : Code} (C : Cx G p l s m args meth c RX8 cX8_isInRange 3 (some .boolean) []) (hnm : meth.name = yX8_isInRange.name) (N : Nat) (Z : mZ) : ∀ (v1 : Nat) (x0 : Int32) (M : mM) (r : Int32) (M' : mM), fX8_isInRange_36 N Z v1 x0 M = some (r, M') → JJ G p l e rmX8_isInRange s m args below meth c 3 (mEnd G below args s rmX8_isInRange (.inl (some (.int r))) Z M') 0 0 36 [(1, .ref v1)] [.int x0] Z M := by
  intro v1 x0 M r M' h
  unfold fX8_isInRange_36 at h
  refine j_istore_n C dX8_isInRange_36 rfl (by decide) (L' := [(2, .int x0), (1, .ref v1)]) rfl ?_
  refine j_iload_n C dX8_isInRange_37 rfl 0 rfl ?_
  refine j_if_eq C dX8_isInRange_38 (tgt := 57) (by decide) (fun hc9 => ?_) (fun hc9 => ?_)
  · rw [if_pos hc9] at h
    refine j_iconst C dX8_isInRange_57 (v := (1 : Int32)) (by decide) ?_
    refine j_goto C dX8_isInRange_58 (tgt := 62) (by decide) ?_
    cases h
    exact j_zret C rfl (by decide) (by decide) (by decide) dX8_isInRange_62
  · rw [if_neg hc9] at h
    refine j_aload_n C dX8_isInRange_41 rfl 1 rfl ?_
    obtain ⟨ho10, h⟩ := ck_spec h
    refine j_getI C (cn := RX7) (T := TX7) (N := 5) (ci := 7) rfl iX7 ho10 3 (by decide) rfl fwRX8_147 dX8_isInRange_42 ?_
    refine j_iconst C dX8_isInRange_45 (v := (1 : Int32)) (by decide) ?_
    refine j_icmp_lt C dX8_isInRange_46 (tgt := 61) (by decide) (fun hc11 => ?_) (fun hc11 => ?_)
    · rw [if_pos hc11] at h
      refine j_iconst C dX8_isInRange_61 (v := (0 : Int32)) (by decide) ?_
      cases h
      exact j_zret C rfl (by decide) (by decide) (by decide) dX8_isInRange_62
    · rw [if_neg hc11] at h
      refine j_aload_n C dX8_isInRange_49 rfl 1 rfl ?_
      refine j_getI C (cn := RX7) (T := TX7) (N := 5) (ci := 7) rfl iX7 ho10 3 (by decide) rfl fwRX8_147 dX8_isInRange_50 ?_
      refine j_iconst C dX8_isInRange_53 (v := (4 : Int32)) (by decide) ?_
      refine j_icmp_gt C dX8_isInRange_54 (tgt := 61) (by decide) (fun hc12 => ?_) (fun hc12 => ?_)
      · rw [if_pos hc12] at h
        refine j_iconst C dX8_isInRange_61 (v := (0 : Int32)) (by decide) ?_
        cases h
        exact j_zret C rfl (by decide) (by decide) (by decide) dX8_isInRange_62
      · rw [if_neg hc12] at h
        refine j_iconst C dX8_isInRange_57 (v := (1 : Int32)) (by decide) ?_
        refine j_goto C dX8_isInRange_58 (tgt := 62) (by decide) ?_
        cases h
        exact j_zret C rfl (by decide) (by decide) (by decide) dX8_isInRange_62
def fX8_isInRange (N : Nat) (Z : mZ) (a0 : Nat) (a1 : Nat) (M : mM) : Option (Int32 × mM) := ck (okO Z a0 8) (bnd1 (Z.2.2.2 a0 0) (fun c2 => ck (okO Z a1 7) (ck (okO Z c2 4) (bnd2 (fX4_hasPlace N Z c2 (M.1 a1 1) M) (fun r5 M5 => if r5 = 0 then some ((0 : Int32), M5) else if (M5.1 a1 0) = (2 : Int32) then if (M5.1 a1 4) = 0 then fX8_isInRange_36 N Z a1 (1 : Int32) M5 else fX8_isInRange_36 N Z a1 (0 : Int32) M5 else fX8_isInRange_36 N Z a1 (0 : Int32) M5)))))
set_option maxHeartbeats 4000000 in
set_option maxRecDepth 100000 in
theorem ctX8_isInRange {G : mG} {l : Launch} (hl : l.stackTraces = false) (N : Nat) (Z : mZ) {a0 : Nat} {a1 : Nat} {M : mM} {r : Int32} {M' : mM} (h : fX8_isInRange N Z a0 a1 M = some (r, M')) : CT G l yX8_isInRange (.code yX8_isInRange cX8_isInRange 3 (some .boolean)) rmX8_isInRange [.ref a0, .ref a1] Z M (.inl (some (.int r))) Z M' := by
  unfold fX8_isInRange at h
  refine CT.of hl (by decide) (Nat.le_of_ble_eq_true rfl) ?_
  intro p e s m args below meth c C hnm
  refine j_sub (L' := [(0, .ref a0), (1, .ref a1)]) [0, 1] rfl ?_
  refine j_aload_n C dX8_isInRange_0 rfl 0 rfl ?_
  obtain ⟨ho1, h⟩ := ck_spec h
  obtain ⟨c2, hr2, h⟩ := bnd1_spec h
  refine j_getR C (cn := RX8) (T := TX8) (N := 11) (ci := 8) rfl iX8 ho1 0 (by decide) rfl fwRX8_10 dX8_isInRange_1 hr2 ?_
  refine j_aload_n C dX8_isInRange_4 rfl 1 rfl ?_
  obtain ⟨ho3, h⟩ := ck_spec h
  refine j_getI C (cn := RX7) (T := TX7) (N := 5) (ci := 7) rfl iX7 ho3 1 (by decide) rfl fwRX8_304 dX8_isInRange_5 ?_
  obtain ⟨ho4, h⟩ := ck_spec h
  obtain ⟨r5, M5, hq5, h⟩ := bnd2_spec h
  refine j_run1 (c_V C (As := [.int (M.1 a1 1)]) (rest := []) (ctX4_hasPlace C.2.2.2.2.2.2.2.2.1 N Z hq5) kcRX8_130 oyX4_hasPlace (ci := 4) (T := TX4) (N := 7) rfl (by decide) ho4 ⟨by decide, by decide⟩ ⟨by decide, by decide⟩ (Nat.le_of_ble_eq_true rfl) rfl dX8_isInRange_8) ?_
  refine j_if_ne C dX8_isInRange_11 (tgt := 16) (by decide) (fun hc6 => ?_) (fun hc6 => ?_)
  · rw [if_neg hc6] at h
    refine j_aload_n C dX8_isInRange_16 rfl 1 rfl ?_
    refine j_getI C (cn := RX7) (T := TX7) (N := 5) (ci := 7) rfl iX7 ho3 0 (by decide) rfl fwRX8_301 dX8_isInRange_17 ?_
    refine j_iconst C dX8_isInRange_20 (v := (2 : Int32)) (by decide) ?_
    refine j_icmp_ne C dX8_isInRange_21 (tgt := 35) (by decide) (fun hc7 => ?_) (fun hc7 => ?_)
    · rw [if_neg hc7] at h
      refine j_iconst C dX8_isInRange_35 (v := (0 : Int32)) (by decide) ?_
      refine j_sub (L' := [(1, .ref a1)]) [1] rfl ?_
      exact tX8_isInRange_36 C hnm N Z a1 (0 : Int32) M5 _ _ h
    · rw [if_pos hc7] at h
      refine j_aload_n C dX8_isInRange_24 rfl 1 rfl ?_
      refine j_getI C (cn := RX7) (T := TX7) (N := 5) (ci := 7) rfl iX7 ho3 4 (by decide) rfl fwRX8_310 dX8_isInRange_25 ?_
      refine j_if_ne C dX8_isInRange_28 (tgt := 35) (by decide) (fun hc8 => ?_) (fun hc8 => ?_)
      · rw [if_neg hc8] at h
        refine j_iconst C dX8_isInRange_35 (v := (0 : Int32)) (by decide) ?_
        refine j_sub (L' := [(1, .ref a1)]) [1] rfl ?_
        exact tX8_isInRange_36 C hnm N Z a1 (0 : Int32) M5 _ _ h
      · rw [if_pos hc8] at h
        refine j_iconst C dX8_isInRange_31 (v := (1 : Int32)) (by decide) ?_
        refine j_goto C dX8_isInRange_32 (tgt := 36) (by decide) ?_
        refine j_sub (L' := [(1, .ref a1)]) [1] rfl ?_
        exact tX8_isInRange_36 C hnm N Z a1 (1 : Int32) M5 _ _ h
  · rw [if_pos hc6] at h
    refine j_iconst C dX8_isInRange_14 (v := (0 : Int32)) (by decide) ?_
    cases h
    exact j_zret C rfl (by decide) (by decide) (by decide) dX8_isInRange_15
