-- ScaffoldPlanner carryOutCommands
theorem fwRX8_283 : Cond.fieldLink RX8 283 RX0 (TX0 1).2.1 (TX0 1).2.2.1 ∈ gw := by decide +kernel
theorem kcRX8_286 : okV RX8 286 yX0_isCommandRead (.code yX0_isCommandRead cX0_isCommandRead 5 (some .boolean)) = true := by decide +kernel
theorem kcRX8_290 : okV RX8 290 yX8_isInRange (.code yX8_isInRange cX8_isInRange 3 (some .boolean)) = true := by decide +kernel
theorem oyX8_isInRange : okY yX8_isInRange 1 := ⟨by decide +kernel, by decide +kernel, by decide +kernel⟩
theorem kcRX8_297 : okV RX8 297 yX0_isPassed (.code yX0_isPassed cX0_isPassed 2 (some .boolean)) = true := by decide +kernel
abbrev rmX8_carryOutCommands : Room := { frames := 5, cells := 0, slots := 0, locals := 116 }
theorem dX8_carryOutCommands_0 : decode cX8_carryOutCommands 0 = .ok (.aload_n 0, 1) := by decide +kernel
theorem dX8_carryOutCommands_1 : decode cX8_carryOutCommands 1 = .ok (.getfield 16, 3) := by decide +kernel
theorem dX8_carryOutCommands_4 : decode cX8_carryOutCommands 4 = .ok (.aload_n 0, 1) := by decide +kernel
theorem dX8_carryOutCommands_5 : decode cX8_carryOutCommands 5 = .ok (.getfield 10, 3) := by decide +kernel
theorem dX8_carryOutCommands_8 : decode cX8_carryOutCommands 8 = .ok (.invokevirtual 103, 3) := by decide +kernel
theorem dX8_carryOutCommands_11 : decode cX8_carryOutCommands 11 = .ok (.aload_n 0, 1) := by decide +kernel
theorem dX8_carryOutCommands_12 : decode cX8_carryOutCommands 12 = .ok (.getfield 71, 3) := by decide +kernel
theorem dX8_carryOutCommands_15 : decode cX8_carryOutCommands 15 = .ok (.iconst 0, 1) := by decide +kernel
theorem dX8_carryOutCommands_16 : decode cX8_carryOutCommands 16 = .ok (.putfield 283, 3) := by decide +kernel
theorem dX8_carryOutCommands_19 : decode cX8_carryOutCommands 19 = .ok (.iconst 0, 1) := by decide +kernel
theorem dX8_carryOutCommands_20 : decode cX8_carryOutCommands 20 = .ok (.istore_n 1, 1) := by decide +kernel
theorem dX8_carryOutCommands_21 : decode cX8_carryOutCommands 21 = .ok (.aload_n 0, 1) := by decide +kernel
theorem dX8_carryOutCommands_22 : decode cX8_carryOutCommands 22 = .ok (.getfield 71, 3) := by decide +kernel
theorem dX8_carryOutCommands_25 : decode cX8_carryOutCommands 25 = .ok (.aload_n 0, 1) := by decide +kernel
theorem dX8_carryOutCommands_26 : decode cX8_carryOutCommands 26 = .ok (.getfield 50, 3) := by decide +kernel
theorem dX8_carryOutCommands_29 : decode cX8_carryOutCommands 29 = .ok (.invokevirtual 286, 3) := by decide +kernel
theorem dX8_carryOutCommands_32 : decode cX8_carryOutCommands 32 = .ok (.ifCond .ne 6, 3) := by decide +kernel
theorem dX8_carryOutCommands_35 : decode cX8_carryOutCommands 35 = .ok (.goto 111, 3) := by decide +kernel
theorem dX8_carryOutCommands_38 : decode cX8_carryOutCommands 38 = .ok (.aload_n 0, 1) := by decide +kernel
theorem dX8_carryOutCommands_39 : decode cX8_carryOutCommands 39 = .ok (.aload_n 0, 1) := by decide +kernel
theorem dX8_carryOutCommands_40 : decode cX8_carryOutCommands 40 = .ok (.getfield 50, 3) := by decide +kernel
theorem dX8_carryOutCommands_43 : decode cX8_carryOutCommands 43 = .ok (.invokevirtual 290, 3) := by decide +kernel
theorem dX8_carryOutCommands_46 : decode cX8_carryOutCommands 46 = .ok (.ifCond .ne 5, 3) := by decide +kernel
theorem dX8_carryOutCommands_49 : decode cX8_carryOutCommands 49 = .ok (.iconst (-1), 1) := by decide +kernel
theorem dX8_carryOutCommands_50 : decode cX8_carryOutCommands 50 = .ok (.ireturn, 1) := by decide +kernel
theorem dX8_carryOutCommands_51 : decode cX8_carryOutCommands 51 = .ok (.aload_n 0, 1) := by decide +kernel
theorem dX8_carryOutCommands_52 : decode cX8_carryOutCommands 52 = .ok (.getfield 36, 3) := by decide +kernel
theorem dX8_carryOutCommands_55 : decode cX8_carryOutCommands 55 = .ok (.aload_n 0, 1) := by decide +kernel
theorem dX8_carryOutCommands_56 : decode cX8_carryOutCommands 56 = .ok (.getfield 16, 3) := by decide +kernel
theorem dX8_carryOutCommands_59 : decode cX8_carryOutCommands 59 = .ok (.invokevirtual 163, 3) := by decide +kernel
theorem dX8_carryOutCommands_62 : decode cX8_carryOutCommands 62 = .ok (.aload_n 0, 1) := by decide +kernel
theorem dX8_carryOutCommands_63 : decode cX8_carryOutCommands 63 = .ok (.getfield 43, 3) := by decide +kernel
theorem dX8_carryOutCommands_66 : decode cX8_carryOutCommands 66 = .ok (.aload_n 0, 1) := by decide +kernel
theorem dX8_carryOutCommands_67 : decode cX8_carryOutCommands 67 = .ok (.getfield 16, 3) := by decide +kernel
theorem dX8_carryOutCommands_70 : decode cX8_carryOutCommands 70 = .ok (.aload_n 0, 1) := by decide +kernel
theorem dX8_carryOutCommands_71 : decode cX8_carryOutCommands 71 = .ok (.getfield 36, 3) := by decide +kernel
theorem dX8_carryOutCommands_74 : decode cX8_carryOutCommands 74 = .ok (.aload_n 0, 1) := by decide +kernel
theorem dX8_carryOutCommands_75 : decode cX8_carryOutCommands 75 = .ok (.getfield 50, 3) := by decide +kernel
theorem dX8_carryOutCommands_78 : decode cX8_carryOutCommands 78 = .ok (.invokevirtual 166, 3) := by decide +kernel
theorem dX8_carryOutCommands_81 : decode cX8_carryOutCommands 81 = .ok (.aload_n 0, 1) := by decide +kernel
theorem dX8_carryOutCommands_82 : decode cX8_carryOutCommands 82 = .ok (.getfield 43, 3) := by decide +kernel
theorem dX8_carryOutCommands_85 : decode cX8_carryOutCommands 85 = .ok (.getfield 170, 3) := by decide +kernel
theorem dX8_carryOutCommands_88 : decode cX8_carryOutCommands 88 = .ok (.ifCond .eq 26, 3) := by decide +kernel
theorem dX8_carryOutCommands_91 : decode cX8_carryOutCommands 91 = .ok (.aload_n 0, 1) := by decide +kernel
theorem dX8_carryOutCommands_92 : decode cX8_carryOutCommands 92 = .ok (.getfield 57, 3) := by decide +kernel
theorem dX8_carryOutCommands_95 : decode cX8_carryOutCommands 95 = .ok (.invokevirtual 275, 3) := by decide +kernel
theorem dX8_carryOutCommands_98 : decode cX8_carryOutCommands 98 = .ok (.aload_n 0, 1) := by decide +kernel
theorem dX8_carryOutCommands_99 : decode cX8_carryOutCommands 99 = .ok (.getfield 57, 3) := by decide +kernel
theorem dX8_carryOutCommands_102 : decode cX8_carryOutCommands 102 = .ok (.bipush 9, 2) := by decide +kernel
theorem dX8_carryOutCommands_104 : decode cX8_carryOutCommands 104 = .ok (.iload_n 1, 1) := by decide +kernel
theorem dX8_carryOutCommands_105 : decode cX8_carryOutCommands 105 = .ok (.invokevirtual 293, 3) := by decide +kernel
theorem dX8_carryOutCommands_108 : decode cX8_carryOutCommands 108 = .ok (.aload_n 0, 1) := by decide +kernel
theorem dX8_carryOutCommands_109 : decode cX8_carryOutCommands 109 = .ok (.invokevirtual 276, 3) := by decide +kernel
theorem dX8_carryOutCommands_112 : decode cX8_carryOutCommands 112 = .ok (.iconst (-1), 1) := by decide +kernel
theorem dX8_carryOutCommands_113 : decode cX8_carryOutCommands 113 = .ok (.ireturn, 1) := by decide +kernel
theorem dX8_carryOutCommands_114 : decode cX8_carryOutCommands 114 = .ok (.aload_n 0, 1) := by decide +kernel
theorem dX8_carryOutCommands_115 : decode cX8_carryOutCommands 115 = .ok (.getfield 16, 3) := by decide +kernel
theorem dX8_carryOutCommands_118 : decode cX8_carryOutCommands 118 = .ok (.aload_n 0, 1) := by decide +kernel
theorem dX8_carryOutCommands_119 : decode cX8_carryOutCommands 119 = .ok (.getfield 50, 3) := by decide +kernel
theorem dX8_carryOutCommands_122 : decode cX8_carryOutCommands 122 = .ok (.invokevirtual 279, 3) := by decide +kernel
theorem dX8_carryOutCommands_125 : decode cX8_carryOutCommands 125 = .ok (.iinc 1 1, 3) := by decide +kernel
theorem dX8_carryOutCommands_128 : decode cX8_carryOutCommands 128 = .ok (.aload_n 0, 1) := by decide +kernel
theorem dX8_carryOutCommands_129 : decode cX8_carryOutCommands 129 = .ok (.getfield 71, 3) := by decide +kernel
theorem dX8_carryOutCommands_132 : decode cX8_carryOutCommands 132 = .ok (.bipush 59, 2) := by decide +kernel
theorem dX8_carryOutCommands_134 : decode cX8_carryOutCommands 134 = .ok (.invokevirtual 297, 3) := by decide +kernel
theorem dX8_carryOutCommands_137 : decode cX8_carryOutCommands 137 = .ok (.ifCond .eq 9, 3) := by decide +kernel
theorem dX8_carryOutCommands_140 : decode cX8_carryOutCommands 140 = .ok (.iload_n 1, 1) := by decide +kernel
theorem dX8_carryOutCommands_141 : decode cX8_carryOutCommands 141 = .ok (.bipush 80, 2) := by decide +kernel
theorem dX8_carryOutCommands_143 : decode cX8_carryOutCommands 143 = .ok (.if_icmp .lt (-122), 3) := by decide +kernel
theorem dX8_carryOutCommands_146 : decode cX8_carryOutCommands 146 = .ok (.aload_n 0, 1) := by decide +kernel
theorem dX8_carryOutCommands_147 : decode cX8_carryOutCommands 147 = .ok (.invokevirtual 121, 3) := by decide +kernel
theorem dX8_carryOutCommands_150 : decode cX8_carryOutCommands 150 = .ok (.aload_n 0, 1) := by decide +kernel
theorem dX8_carryOutCommands_151 : decode cX8_carryOutCommands 151 = .ok (.getfield 10, 3) := by decide +kernel
theorem dX8_carryOutCommands_154 : decode cX8_carryOutCommands 154 = .ok (.aload_n 0, 1) := by decide +kernel
theorem dX8_carryOutCommands_155 : decode cX8_carryOutCommands 155 = .ok (.getfield 16, 3) := by decide +kernel
theorem dX8_carryOutCommands_158 : decode cX8_carryOutCommands 158 = .ok (.invokevirtual 103, 3) := by decide +kernel
theorem dX8_carryOutCommands_161 : decode cX8_carryOutCommands 161 = .ok (.iload_n 1, 1) := by decide +kernel
theorem dX8_carryOutCommands_162 : decode cX8_carryOutCommands 162 = .ok (.ireturn, 1) := by decide +kernel
def fX8_carryOutCommands_21 (N : Nat) (Z : mZ) : Nat → Nat → Int32 → mM → Option (Int32 × mM)
  | 0, _, _, _ => none
  | fu + 1, v0, v1, M => ck (okO Z v0 8) (bnd1 (Z.2.2.2 v0 10) (fun c9 => bnd1 (Z.2.2.2 v0 7) (fun c10 => ck (okO Z c9 0) (bnd2 (fX0_isCommandRead N Z c9 c10 M) (fun r12 M12 => if r12 = 0 then bnd2 (fX8_keepChange N Z v0 M12) (fun _ M14 => bnd1 (Z.2.2.2 v0 0) (fun c15 => bnd1 (Z.2.2.2 v0 1) (fun c16 => ck (okO Z c15 4) (bnd2 (fX4_copyFrom N Z c15 c16 M14) (fun _ M18 => some (v1, M18)))))) else bnd2 (fX8_isInRange N Z v0 c10 M12) (fun r19 M19 => if r19 = 0 then some ((-1 : Int32), M19) else bnd1 (Z.2.2.2 v0 5) (fun c21 => bnd1 (Z.2.2.2 v0 1) (fun c22 => ck (okO Z c21 6) (bnd2 (fX6_explore N Z c21 c22 M19) (fun _ M24 => bnd1 (Z.2.2.2 v0 6) (fun c25 => ck (okO Z c25 3) (bnd2 (fX3_examine N Z c25 c22 c21 c10 M24) (fun _ M27 => if (M27.1 c25 0) = 0 then ck (okO Z c22 4) (bnd2 (fX4_carryOut N Z c22 c10 M27) (fun _ M30 => bnd2 (fX0_isPassed N Z c9 (59 : Int32) M30) (fun r31 M31 => if r31 = 0 then bnd2 (fX8_keepChange N Z v0 M31) (fun _ M33 => bnd1 (Z.2.2.2 v0 0) (fun c34 => ck (okO Z c34 4) (bnd2 (fX4_copyFrom N Z c34 c22 M33) (fun _ M36 => some ((v1 + (1 : Int32)), M36))))) else if (v1 + (1 : Int32)) < (80 : Int32) then fX8_carryOutCommands_21 N Z fu v0 (v1 + (1 : Int32)) M31 else bnd2 (fX8_keepChange N Z v0 M31) (fun _ M38 => bnd1 (Z.2.2.2 v0 0) (fun c39 => ck (okO Z c39 4) (bnd2 (fX4_copyFrom N Z c39 c22 M38) (fun _ M41 => some ((v1 + (1 : Int32)), M41)))))))) else bnd1 (Z.2.2.2 v0 8) (fun c42 => ck (okO Z c42 5) (bnd2 (fX5_clear N Z c42 M27) (fun _ M44 => bnd2 (fX5_add N Z c42 (9 : Int32) v1 M44) (fun _ M45 => bnd2 (fX8_addRefusal N Z v0 M45) (fun _ M46 => some ((-1 : Int32), M46)))))))))))))))))))
set_option maxHeartbeats 4000000 in
set_option maxRecDepth 100000 in
theorem tX8_carryOutCommands_21 {G : mG} {p : Program} {l : Launch} {e : Env} {s : State} {m : MethodId} {args : Array Value} {below : List Frame} {meth : Method} {c : Code} (C : Cx G p l s m args meth c RX8 cX8_carryOutCommands 2 (some .int) []) (hnm : meth.name = yX8_carryOutCommands.name) (N : Nat) (Z : mZ) : ∀ (fu : Nat) (v0 : Nat) (v1 : Int32) (M : mM) (r : Int32) (M' : mM), fX8_carryOutCommands_21 N Z fu v0 v1 M = some (r, M') → JJ G p l e rmX8_carryOutCommands s m args below meth c 2 (mEnd G below args s rmX8_carryOutCommands (.inl (some (.int r))) Z M') 0 0 21 [(0, .ref v0), (1, .int v1)] [] Z M := by
  intro fu
  induction fu with
  | zero =>
    intro v0 v1 M r M' h
    cases h
  | succ fu ih =>
    intro v0 v1 M r M' h
    rw [fX8_carryOutCommands_21] at h
    refine j_aload_n C dX8_carryOutCommands_21 rfl 0 rfl ?_
    obtain ⟨ho8, h⟩ := ck_spec h
    obtain ⟨c9, hr9, h⟩ := bnd1_spec h
    refine j_getR C (cn := RX8) (T := TX8) (N := 11) (ci := 8) rfl iX8 ho8 10 (by decide) rfl fwRX8_71 dX8_carryOutCommands_22 hr9 ?_
    refine j_aload_n C dX8_carryOutCommands_25 rfl 0 rfl ?_
    obtain ⟨c10, hr10, h⟩ := bnd1_spec h
    refine j_getR C (cn := RX8) (T := TX8) (N := 11) (ci := 8) rfl iX8 ho8 7 (by decide) rfl fwRX8_50 dX8_carryOutCommands_26 hr10 ?_
    obtain ⟨ho11, h⟩ := ck_spec h
    obtain ⟨r12, M12, hq12, h⟩ := bnd2_spec h
    refine j_run1 (c_V C (As := [.ref c10]) (rest := []) (ctX0_isCommandRead C.2.2.2.2.2.2.2.2.1 N Z hq12) kcRX8_286 oyX0_isCommandRead (ci := 0) (T := TX0) (N := 3) rfl (by decide) ho11 ⟨by decide, by decide⟩ ⟨by decide, by decide⟩ (Nat.le_of_ble_eq_true rfl) rfl dX8_carryOutCommands_29) ?_
    refine j_if_ne C dX8_carryOutCommands_32 (tgt := 38) (by decide) (fun hc13 => ?_) (fun hc13 => ?_)
    · rw [if_neg hc13] at h
      refine j_aload_n C dX8_carryOutCommands_38 rfl 0 rfl ?_
      refine j_aload_n C dX8_carryOutCommands_39 rfl 0 rfl ?_
      refine j_getR C (cn := RX8) (T := TX8) (N := 11) (ci := 8) rfl iX8 ho8 7 (by decide) rfl fwRX8_50 dX8_carryOutCommands_40 hr10 ?_
      obtain ⟨r19, M19, hq19, h⟩ := bnd2_spec h
      refine j_run1 (c_V C (As := [.ref c10]) (rest := []) (ctX8_isInRange C.2.2.2.2.2.2.2.2.1 N Z hq19) kcRX8_290 oyX8_isInRange (ci := 8) (T := TX8) (N := 11) rfl (by decide) ho8 ⟨by decide, by decide⟩ ⟨by decide, by decide⟩ (Nat.le_of_ble_eq_true rfl) rfl dX8_carryOutCommands_43) ?_
      refine j_if_ne C dX8_carryOutCommands_46 (tgt := 51) (by decide) (fun hc20 => ?_) (fun hc20 => ?_)
      · rw [if_neg hc20] at h
        refine j_aload_n C dX8_carryOutCommands_51 rfl 0 rfl ?_
        obtain ⟨c21, hr21, h⟩ := bnd1_spec h
        refine j_getR C (cn := RX8) (T := TX8) (N := 11) (ci := 8) rfl iX8 ho8 5 (by decide) rfl fwRX8_36 dX8_carryOutCommands_52 hr21 ?_
        refine j_aload_n C dX8_carryOutCommands_55 rfl 0 rfl ?_
        obtain ⟨c22, hr22, h⟩ := bnd1_spec h
        refine j_getR C (cn := RX8) (T := TX8) (N := 11) (ci := 8) rfl iX8 ho8 1 (by decide) rfl fwRX8_16 dX8_carryOutCommands_56 hr22 ?_
        obtain ⟨ho23, h⟩ := ck_spec h
        obtain ⟨_, M24, hq24, h⟩ := bnd2_spec h
        refine j_run0 (c_V C (As := [.ref c22]) (rest := []) (ctX6_explore C.2.2.2.2.2.2.2.2.1 N Z hq24) kcRX8_163 oyX6_explore (ci := 6) (T := TX6) (N := 4) rfl (by decide) ho23 ⟨by decide, by decide⟩ ⟨by decide, by decide⟩ (Nat.le_of_ble_eq_true rfl) rfl dX8_carryOutCommands_59) ?_
        refine j_aload_n C dX8_carryOutCommands_62 rfl 0 rfl ?_
        obtain ⟨c25, hr25, h⟩ := bnd1_spec h
        refine j_getR C (cn := RX8) (T := TX8) (N := 11) (ci := 8) rfl iX8 ho8 6 (by decide) rfl fwRX8_43 dX8_carryOutCommands_63 hr25 ?_
        refine j_aload_n C dX8_carryOutCommands_66 rfl 0 rfl ?_
        refine j_getR C (cn := RX8) (T := TX8) (N := 11) (ci := 8) rfl iX8 ho8 1 (by decide) rfl fwRX8_16 dX8_carryOutCommands_67 hr22 ?_
        refine j_aload_n C dX8_carryOutCommands_70 rfl 0 rfl ?_
        refine j_getR C (cn := RX8) (T := TX8) (N := 11) (ci := 8) rfl iX8 ho8 5 (by decide) rfl fwRX8_36 dX8_carryOutCommands_71 hr21 ?_
        refine j_aload_n C dX8_carryOutCommands_74 rfl 0 rfl ?_
        refine j_getR C (cn := RX8) (T := TX8) (N := 11) (ci := 8) rfl iX8 ho8 7 (by decide) rfl fwRX8_50 dX8_carryOutCommands_75 hr10 ?_
        obtain ⟨ho26, h⟩ := ck_spec h
        obtain ⟨_, M27, hq27, h⟩ := bnd2_spec h
        refine j_run0 (c_V C (As := [.ref c22, .ref c21, .ref c10]) (rest := []) (ctX3_examine C.2.2.2.2.2.2.2.2.1 N Z hq27) kcRX8_166 oyX3_examine (ci := 3) (T := TX3) (N := 3) rfl (by decide) ho26 ⟨by decide, by decide⟩ ⟨by decide, by decide⟩ (Nat.le_of_ble_eq_true rfl) rfl dX8_carryOutCommands_78) ?_
        refine j_aload_n C dX8_carryOutCommands_81 rfl 0 rfl ?_
        refine j_getR C (cn := RX8) (T := TX8) (N := 11) (ci := 8) rfl iX8 ho8 6 (by decide) rfl fwRX8_43 dX8_carryOutCommands_82 hr25 ?_
        refine j_getI C (cn := RX3) (T := TX3) (N := 3) (ci := 3) rfl iX3 ho26 0 (by decide) rfl fwRX8_170 dX8_carryOutCommands_85 ?_
        refine j_if_eq C dX8_carryOutCommands_88 (tgt := 114) (by decide) (fun hc28 => ?_) (fun hc28 => ?_)
        · rw [if_pos hc28] at h
          refine j_aload_n C dX8_carryOutCommands_114 rfl 0 rfl ?_
          refine j_getR C (cn := RX8) (T := TX8) (N := 11) (ci := 8) rfl iX8 ho8 1 (by decide) rfl fwRX8_16 dX8_carryOutCommands_115 hr22 ?_
          refine j_aload_n C dX8_carryOutCommands_118 rfl 0 rfl ?_
          refine j_getR C (cn := RX8) (T := TX8) (N := 11) (ci := 8) rfl iX8 ho8 7 (by decide) rfl fwRX8_50 dX8_carryOutCommands_119 hr10 ?_
          obtain ⟨ho29, h⟩ := ck_spec h
          obtain ⟨_, M30, hq30, h⟩ := bnd2_spec h
          refine j_run0 (c_V C (As := [.ref c10]) (rest := []) (ctX4_carryOut C.2.2.2.2.2.2.2.2.1 N Z hq30) kcRX8_279 oyX4_carryOut (ci := 4) (T := TX4) (N := 7) rfl (by decide) ho29 ⟨by decide, by decide⟩ ⟨by decide, by decide⟩ (Nat.le_of_ble_eq_true rfl) rfl dX8_carryOutCommands_122) ?_
          refine j_iinc C dX8_carryOutCommands_125 1 rfl (v := (v1 + (1 : Int32))) (by first | rfl | decide) (by decide) (L' := [(1, .int (v1 + (1 : Int32))), (0, .ref v0)]) rfl ?_
          refine j_aload_n C dX8_carryOutCommands_128 rfl 1 rfl ?_
          refine j_getR C (cn := RX8) (T := TX8) (N := 11) (ci := 8) rfl iX8 ho8 10 (by decide) rfl fwRX8_71 dX8_carryOutCommands_129 hr9 ?_
          refine j_bipush C dX8_carryOutCommands_132 (v := (59 : Int32)) (by decide) ?_
          obtain ⟨r31, M31, hq31, h⟩ := bnd2_spec h
          refine j_run1 (c_V C (As := [.int (59 : Int32)]) (rest := []) (ctX0_isPassed C.2.2.2.2.2.2.2.2.1 N Z hq31) kcRX8_297 oyX0_isPassed (ci := 0) (T := TX0) (N := 3) rfl (by decide) ho11 ⟨by decide, by decide⟩ ⟨by decide, by decide⟩ (Nat.le_of_ble_eq_true rfl) rfl dX8_carryOutCommands_134) ?_
          refine j_if_eq C dX8_carryOutCommands_137 (tgt := 146) (by decide) (fun hc32 => ?_) (fun hc32 => ?_)
          · rw [if_pos hc32] at h
            refine j_aload_n C dX8_carryOutCommands_146 rfl 1 rfl ?_
            obtain ⟨_, M33, hq33, h⟩ := bnd2_spec h
            refine j_run0 (c_V C (As := []) (rest := []) (ctX8_keepChange C.2.2.2.2.2.2.2.2.1 N Z hq33) kcRX8_121 oyX8_keepChange (ci := 8) (T := TX8) (N := 11) rfl (by decide) ho8 ⟨by decide, by decide⟩ ⟨by decide, by decide⟩ (Nat.le_of_ble_eq_true rfl) rfl dX8_carryOutCommands_147) ?_
            refine j_aload_n C dX8_carryOutCommands_150 rfl 1 rfl ?_
            obtain ⟨c34, hr34, h⟩ := bnd1_spec h
            refine j_getR C (cn := RX8) (T := TX8) (N := 11) (ci := 8) rfl iX8 ho8 0 (by decide) rfl fwRX8_10 dX8_carryOutCommands_151 hr34 ?_
            refine j_aload_n C dX8_carryOutCommands_154 rfl 1 rfl ?_
            refine j_getR C (cn := RX8) (T := TX8) (N := 11) (ci := 8) rfl iX8 ho8 1 (by decide) rfl fwRX8_16 dX8_carryOutCommands_155 hr22 ?_
            obtain ⟨ho35, h⟩ := ck_spec h
            obtain ⟨_, M36, hq36, h⟩ := bnd2_spec h
            refine j_run0 (c_V C (As := [.ref c22]) (rest := []) (ctX4_copyFrom C.2.2.2.2.2.2.2.2.1 N Z hq36) kcRX8_103 oyX4_copyFrom (ci := 4) (T := TX4) (N := 7) rfl (by decide) ho35 ⟨by decide, by decide⟩ ⟨by decide, by decide⟩ (Nat.le_of_ble_eq_true rfl) rfl dX8_carryOutCommands_158) ?_
            refine j_iload_n C dX8_carryOutCommands_161 rfl 0 rfl ?_
            cases h
            exact j_iret C rfl (by decide) (by decide) dX8_carryOutCommands_162
          · rw [if_neg hc32] at h
            refine j_iload_n C dX8_carryOutCommands_140 rfl 0 rfl ?_
            refine j_bipush C dX8_carryOutCommands_141 (v := (80 : Int32)) (by decide) ?_
            refine j_icmp_lt C dX8_carryOutCommands_143 (tgt := 21) (by decide) (fun hc37 => ?_) (fun hc37 => ?_)
            · rw [if_pos hc37] at h
              refine j_sub (L' := [(0, .ref v0), (1, .int (v1 + (1 : Int32)))]) [1, 0] rfl ?_
              exact ih v0 (v1 + (1 : Int32)) M31 r M' h
            · rw [if_neg hc37] at h
              refine j_aload_n C dX8_carryOutCommands_146 rfl 1 rfl ?_
              obtain ⟨_, M38, hq38, h⟩ := bnd2_spec h
              refine j_run0 (c_V C (As := []) (rest := []) (ctX8_keepChange C.2.2.2.2.2.2.2.2.1 N Z hq38) kcRX8_121 oyX8_keepChange (ci := 8) (T := TX8) (N := 11) rfl (by decide) ho8 ⟨by decide, by decide⟩ ⟨by decide, by decide⟩ (Nat.le_of_ble_eq_true rfl) rfl dX8_carryOutCommands_147) ?_
              refine j_aload_n C dX8_carryOutCommands_150 rfl 1 rfl ?_
              obtain ⟨c39, hr39, h⟩ := bnd1_spec h
              refine j_getR C (cn := RX8) (T := TX8) (N := 11) (ci := 8) rfl iX8 ho8 0 (by decide) rfl fwRX8_10 dX8_carryOutCommands_151 hr39 ?_
              refine j_aload_n C dX8_carryOutCommands_154 rfl 1 rfl ?_
              refine j_getR C (cn := RX8) (T := TX8) (N := 11) (ci := 8) rfl iX8 ho8 1 (by decide) rfl fwRX8_16 dX8_carryOutCommands_155 hr22 ?_
              obtain ⟨ho40, h⟩ := ck_spec h
              obtain ⟨_, M41, hq41, h⟩ := bnd2_spec h
              refine j_run0 (c_V C (As := [.ref c22]) (rest := []) (ctX4_copyFrom C.2.2.2.2.2.2.2.2.1 N Z hq41) kcRX8_103 oyX4_copyFrom (ci := 4) (T := TX4) (N := 7) rfl (by decide) ho40 ⟨by decide, by decide⟩ ⟨by decide, by decide⟩ (Nat.le_of_ble_eq_true rfl) rfl dX8_carryOutCommands_158) ?_
              refine j_iload_n C dX8_carryOutCommands_161 rfl 0 rfl ?_
              cases h
              exact j_iret C rfl (by decide) (by decide) dX8_carryOutCommands_162
        · rw [if_neg hc28] at h
          refine j_aload_n C dX8_carryOutCommands_91 rfl 0 rfl ?_
          obtain ⟨c42, hr42, h⟩ := bnd1_spec h
          refine j_getR C (cn := RX8) (T := TX8) (N := 11) (ci := 8) rfl iX8 ho8 8 (by decide) rfl fwRX8_57 dX8_carryOutCommands_92 hr42 ?_
          obtain ⟨ho43, h⟩ := ck_spec h
          obtain ⟨_, M44, hq44, h⟩ := bnd2_spec h
          refine j_run0 (c_V C (As := []) (rest := []) (ctX5_clear C.2.2.2.2.2.2.2.2.1 N Z hq44) kcRX8_275 oyX5_clear (ci := 5) (T := TX5) (N := 3) rfl (by decide) ho43 ⟨by decide, by decide⟩ ⟨by decide, by decide⟩ (Nat.le_of_ble_eq_true rfl) rfl dX8_carryOutCommands_95) ?_
          refine j_aload_n C dX8_carryOutCommands_98 rfl 0 rfl ?_
          refine j_getR C (cn := RX8) (T := TX8) (N := 11) (ci := 8) rfl iX8 ho8 8 (by decide) rfl fwRX8_57 dX8_carryOutCommands_99 hr42 ?_
          refine j_bipush C dX8_carryOutCommands_102 (v := (9 : Int32)) (by decide) ?_
          refine j_iload_n C dX8_carryOutCommands_104 rfl 1 rfl ?_
          obtain ⟨_, M45, hq45, h⟩ := bnd2_spec h
          refine j_run0 (c_V C (As := [.int (9 : Int32), .int v1]) (rest := []) (ctX5_add C.2.2.2.2.2.2.2.2.1 N Z hq45) kcRX8_293 oyX5_add (ci := 5) (T := TX5) (N := 3) rfl (by decide) ho43 ⟨by decide, by decide⟩ ⟨by decide, by decide⟩ (Nat.le_of_ble_eq_true rfl) rfl dX8_carryOutCommands_105) ?_
          refine j_aload_n C dX8_carryOutCommands_108 rfl 0 rfl ?_
          obtain ⟨_, M46, hq46, h⟩ := bnd2_spec h
          refine j_run0 (c_V C (As := []) (rest := []) (ctX8_addRefusal C.2.2.2.2.2.2.2.2.1 N Z hq46) kcRX8_276 oyX8_addRefusal (ci := 8) (T := TX8) (N := 11) rfl (by decide) ho8 ⟨by decide, by decide⟩ ⟨by decide, by decide⟩ (Nat.le_of_ble_eq_true rfl) rfl dX8_carryOutCommands_109) ?_
          refine j_iconst C dX8_carryOutCommands_112 (v := (-1 : Int32)) (by decide) ?_
          cases h
          exact j_iret C rfl (by decide) (by decide) dX8_carryOutCommands_113
      · rw [if_pos hc20] at h
        refine j_iconst C dX8_carryOutCommands_49 (v := (-1 : Int32)) (by decide) ?_
        cases h
        exact j_iret C rfl (by decide) (by decide) dX8_carryOutCommands_50
    · rw [if_pos hc13] at h
      refine j_goto C dX8_carryOutCommands_35 (tgt := 146) (by decide) ?_
      refine j_aload_n C dX8_carryOutCommands_146 rfl 0 rfl ?_
      obtain ⟨_, M14, hq14, h⟩ := bnd2_spec h
      refine j_run0 (c_V C (As := []) (rest := []) (ctX8_keepChange C.2.2.2.2.2.2.2.2.1 N Z hq14) kcRX8_121 oyX8_keepChange (ci := 8) (T := TX8) (N := 11) rfl (by decide) ho8 ⟨by decide, by decide⟩ ⟨by decide, by decide⟩ (Nat.le_of_ble_eq_true rfl) rfl dX8_carryOutCommands_147) ?_
      refine j_aload_n C dX8_carryOutCommands_150 rfl 0 rfl ?_
      obtain ⟨c15, hr15, h⟩ := bnd1_spec h
      refine j_getR C (cn := RX8) (T := TX8) (N := 11) (ci := 8) rfl iX8 ho8 0 (by decide) rfl fwRX8_10 dX8_carryOutCommands_151 hr15 ?_
      refine j_aload_n C dX8_carryOutCommands_154 rfl 0 rfl ?_
      obtain ⟨c16, hr16, h⟩ := bnd1_spec h
      refine j_getR C (cn := RX8) (T := TX8) (N := 11) (ci := 8) rfl iX8 ho8 1 (by decide) rfl fwRX8_16 dX8_carryOutCommands_155 hr16 ?_
      obtain ⟨ho17, h⟩ := ck_spec h
      obtain ⟨_, M18, hq18, h⟩ := bnd2_spec h
      refine j_run0 (c_V C (As := [.ref c16]) (rest := []) (ctX4_copyFrom C.2.2.2.2.2.2.2.2.1 N Z hq18) kcRX8_103 oyX4_copyFrom (ci := 4) (T := TX4) (N := 7) rfl (by decide) ho17 ⟨by decide, by decide⟩ ⟨by decide, by decide⟩ (Nat.le_of_ble_eq_true rfl) rfl dX8_carryOutCommands_158) ?_
      refine j_iload_n C dX8_carryOutCommands_161 rfl 1 rfl ?_
      cases h
      exact j_iret C rfl (by decide) (by decide) dX8_carryOutCommands_162
def fX8_carryOutCommands (N : Nat) (Z : mZ) (a0 : Nat) (M : mM) : Option (Int32 × mM) := ck (okO Z a0 8) (bnd1 (Z.2.2.2 a0 1) (fun c2 => bnd1 (Z.2.2.2 a0 0) (fun c3 => ck (okO Z c2 4) (bnd2 (fX4_copyFrom N Z c2 c3 M) (fun _ M5 => bnd1 (Z.2.2.2 a0 10) (fun c6 => ck (okO Z c6 0) (fX8_carryOutCommands_21 N Z N a0 (0 : Int32) (sI M5 c6 1 (0 : Int32)))))))))
set_option maxHeartbeats 4000000 in
set_option maxRecDepth 100000 in
theorem ctX8_carryOutCommands {G : mG} {l : Launch} (hl : l.stackTraces = false) (N : Nat) (Z : mZ) {a0 : Nat} {M : mM} {r : Int32} {M' : mM} (h : fX8_carryOutCommands N Z a0 M = some (r, M')) : CT G l yX8_carryOutCommands (.code yX8_carryOutCommands cX8_carryOutCommands 2 (some .int)) rmX8_carryOutCommands [.ref a0] Z M (.inl (some (.int r))) Z M' := by
  unfold fX8_carryOutCommands at h
  refine CT.of hl (by decide) (Nat.le_of_ble_eq_true rfl) ?_
  intro p e s m args below meth c C hnm
  refine j_sub (L' := [(0, .ref a0)]) [0] rfl ?_
  refine j_aload_n C dX8_carryOutCommands_0 rfl 0 rfl ?_
  obtain ⟨ho1, h⟩ := ck_spec h
  obtain ⟨c2, hr2, h⟩ := bnd1_spec h
  refine j_getR C (cn := RX8) (T := TX8) (N := 11) (ci := 8) rfl iX8 ho1 1 (by decide) rfl fwRX8_16 dX8_carryOutCommands_1 hr2 ?_
  refine j_aload_n C dX8_carryOutCommands_4 rfl 0 rfl ?_
  obtain ⟨c3, hr3, h⟩ := bnd1_spec h
  refine j_getR C (cn := RX8) (T := TX8) (N := 11) (ci := 8) rfl iX8 ho1 0 (by decide) rfl fwRX8_10 dX8_carryOutCommands_5 hr3 ?_
  obtain ⟨ho4, h⟩ := ck_spec h
  obtain ⟨_, M5, hq5, h⟩ := bnd2_spec h
  refine j_run0 (c_V C (As := [.ref c3]) (rest := []) (ctX4_copyFrom C.2.2.2.2.2.2.2.2.1 N Z hq5) kcRX8_103 oyX4_copyFrom (ci := 4) (T := TX4) (N := 7) rfl (by decide) ho4 ⟨by decide, by decide⟩ ⟨by decide, by decide⟩ (Nat.le_of_ble_eq_true rfl) rfl dX8_carryOutCommands_8) ?_
  refine j_aload_n C dX8_carryOutCommands_11 rfl 0 rfl ?_
  obtain ⟨c6, hr6, h⟩ := bnd1_spec h
  refine j_getR C (cn := RX8) (T := TX8) (N := 11) (ci := 8) rfl iX8 ho1 10 (by decide) rfl fwRX8_71 dX8_carryOutCommands_12 hr6 ?_
  refine j_iconst C dX8_carryOutCommands_15 (v := (0 : Int32)) (by decide) ?_
  obtain ⟨ho7, h⟩ := ck_spec h
  refine j_putI C tyX0 tyX0_ok nmX0 (cn := RX0) (T := TX0) (N := 3) (ci := 0) rfl iX0 ho7 1 (by decide) rfl fwRX8_283 ⟨rfl, rfl⟩ dX8_carryOutCommands_16 ?_
  refine j_iconst C dX8_carryOutCommands_19 (v := (0 : Int32)) (by decide) ?_
  refine j_istore_n C dX8_carryOutCommands_20 rfl (by decide) (L' := [(1, .int (0 : Int32)), (0, .ref a0)]) rfl ?_
  refine j_sub (L' := [(0, .ref a0), (1, .int (0 : Int32))]) [1, 0] rfl ?_
  exact tX8_carryOutCommands_21 C hnm N Z N a0 (0 : Int32) (sI M5 c6 1 (0 : Int32)) _ _ h
-- ScaffoldPlanner perform
theorem kcRX8_258 : okV RX8 258 yX0_errorPosition (.code yX0_errorPosition cX0_errorPosition 3 (some .int)) = true := by decide +kernel
theorem oyX0_errorPosition : okY yX0_errorPosition 1 := ⟨by decide +kernel, by decide +kernel, by decide +kernel⟩
theorem kcRX8_265 : okV RX8 265 yX8_carryOutCommands (.code yX8_carryOutCommands cX8_carryOutCommands 2 (some .int)) = true := by decide +kernel
theorem oyX8_carryOutCommands : okY yX8_carryOutCommands 0 := ⟨by decide +kernel, by decide +kernel, by decide +kernel⟩
theorem kcRX8_262 : okV RX8 262 yX0_clear (.code yX0_clear cX0_clear 1 none) = true := by decide +kernel
theorem oyX0_clear : okY yX0_clear 0 := ⟨by decide +kernel, by decide +kernel, by decide +kernel⟩
abbrev rmX8_perform : Room := { frames := 6, cells := 1, slots := 6, locals := 137 }
theorem dX8_perform_0 : decode cX8_perform 0 = .ok (.aload_n 0, 1) := by decide +kernel
theorem dX8_perform_1 : decode cX8_perform 1 = .ok (.getfield 71, 3) := by decide +kernel
theorem dX8_perform_4 : decode cX8_perform 4 = .ok (.aload_n 0, 1) := by decide +kernel
theorem dX8_perform_5 : decode cX8_perform 5 = .ok (.getfield 50, 3) := by decide +kernel
theorem dX8_perform_8 : decode cX8_perform 8 = .ok (.invokevirtual 258, 3) := by decide +kernel
theorem dX8_perform_11 : decode cX8_perform 11 = .ok (.istore_n 1, 1) := by decide +kernel
theorem dX8_perform_12 : decode cX8_perform 12 = .ok (.iload_n 1, 1) := by decide +kernel
theorem dX8_perform_13 : decode cX8_perform 13 = .ok (.iconst (-1), 1) := by decide +kernel
theorem dX8_perform_14 : decode cX8_perform 14 = .ok (.if_icmp .eq 15, 3) := by decide +kernel
theorem dX8_perform_17 : decode cX8_perform 17 = .ok (.aload_n 0, 1) := by decide +kernel
theorem dX8_perform_18 : decode cX8_perform 18 = .ok (.getfield 71, 3) := by decide +kernel
theorem dX8_perform_21 : decode cX8_perform 21 = .ok (.invokevirtual 262, 3) := by decide +kernel
theorem dX8_perform_24 : decode cX8_perform 24 = .ok (.bipush (-100), 2) := by decide +kernel
theorem dX8_perform_26 : decode cX8_perform 26 = .ok (.iload_n 1, 1) := by decide +kernel
theorem dX8_perform_27 : decode cX8_perform 27 = .ok (.isub, 1) := by decide +kernel
theorem dX8_perform_28 : decode cX8_perform 28 = .ok (.ireturn, 1) := by decide +kernel
theorem dX8_perform_29 : decode cX8_perform 29 = .ok (.aload_n 0, 1) := by decide +kernel
theorem dX8_perform_30 : decode cX8_perform 30 = .ok (.invokevirtual 265, 3) := by decide +kernel
theorem dX8_perform_33 : decode cX8_perform 33 = .ok (.istore_n 2, 1) := by decide +kernel
theorem dX8_perform_34 : decode cX8_perform 34 = .ok (.aload_n 0, 1) := by decide +kernel
theorem dX8_perform_35 : decode cX8_perform 35 = .ok (.getfield 71, 3) := by decide +kernel
theorem dX8_perform_38 : decode cX8_perform 38 = .ok (.invokevirtual 262, 3) := by decide +kernel
theorem dX8_perform_41 : decode cX8_perform 41 = .ok (.iload_n 2, 1) := by decide +kernel
theorem dX8_perform_42 : decode cX8_perform 42 = .ok (.iconst (-1), 1) := by decide +kernel
theorem dX8_perform_43 : decode cX8_perform 43 = .ok (.if_icmp .ne 11, 3) := by decide +kernel
theorem dX8_perform_46 : decode cX8_perform 46 = .ok (.new 141, 3) := by decide +kernel
theorem dX8_perform_49 : decode cX8_perform 49 = .ok (.dup, 1) := by decide +kernel
theorem dX8_perform_50 : decode cX8_perform 50 = .ok (.invokespecial 143, 3) := by decide +kernel
theorem dX8_perform_53 : decode cX8_perform 53 = .ok (.athrow, 1) := by decide +kernel
theorem dX8_perform_54 : decode cX8_perform 54 = .ok (.iload_n 2, 1) := by decide +kernel
theorem dX8_perform_55 : decode cX8_perform 55 = .ok (.ireturn, 1) := by decide +kernel
def fX8_perform (N : Nat) (Z : mZ) (a0 : Nat) (M : mM) : Option ((Int32 ⊕ String) × mM) := ck (okO Z a0 8) (bnd1 (Z.2.2.2 a0 10) (fun c2 => bnd1 (Z.2.2.2 a0 7) (fun c3 => ck (okO Z c2 0) (bnd2 (fX0_errorPosition N Z c2 c3 M) (fun r5 M5 => if r5 = (-1 : Int32) then bnd2 (fX8_carryOutCommands N Z a0 M5) (fun r7 M7 => bnd2 (fX0_clear N Z c2 M7) (fun _ M8 => if r7 = (-1 : Int32) then some (.inr "java/lang/UnsupportedOperationException", sT M8) else some (.inl r7, M8))) else bnd2 (fX0_clear N Z c2 M5) (fun _ M10 => some (.inl ((-100 : Int32) - r5), M10)))))))
set_option maxHeartbeats 4000000 in
set_option maxRecDepth 100000 in
theorem ctX8_perform {G : mG} {l : Launch} (hl : l.stackTraces = false) (N : Nat) (Z : mZ) {a0 : Nat} {M : mM} {r : (Int32 ⊕ String)} {M' : mM} (h : fX8_perform N Z a0 M = some (r, M')) : CT G l yX8_perform (.code yX8_perform cX8_perform 3 (some .int)) rmX8_perform [.ref a0] Z M (oI r) Z M' := by
  unfold fX8_perform at h
  refine CT.of hl (by decide) (Nat.le_of_ble_eq_true rfl) ?_
  intro p e s m args below meth c C hnm
  refine j_sub (L' := [(0, .ref a0)]) [0] rfl ?_
  refine j_aload_n C dX8_perform_0 rfl 0 rfl ?_
  obtain ⟨ho1, h⟩ := ck_spec h
  obtain ⟨c2, hr2, h⟩ := bnd1_spec h
  refine j_getR C (cn := RX8) (T := TX8) (N := 11) (ci := 8) rfl iX8 ho1 10 (by decide) rfl fwRX8_71 dX8_perform_1 hr2 ?_
  refine j_aload_n C dX8_perform_4 rfl 0 rfl ?_
  obtain ⟨c3, hr3, h⟩ := bnd1_spec h
  refine j_getR C (cn := RX8) (T := TX8) (N := 11) (ci := 8) rfl iX8 ho1 7 (by decide) rfl fwRX8_50 dX8_perform_5 hr3 ?_
  obtain ⟨ho4, h⟩ := ck_spec h
  obtain ⟨r5, M5, hq5, h⟩ := bnd2_spec h
  refine j_run1 (c_V C (As := [.ref c3]) (rest := []) (ctX0_errorPosition C.2.2.2.2.2.2.2.2.1 N Z hq5) kcRX8_258 oyX0_errorPosition (ci := 0) (T := TX0) (N := 3) rfl (by decide) ho4 ⟨by decide, by decide⟩ ⟨by decide, by decide⟩ (Nat.le_of_ble_eq_true rfl) rfl dX8_perform_8) ?_
  refine j_istore_n C dX8_perform_11 rfl (by decide) (L' := [(1, .int r5), (0, .ref a0)]) rfl ?_
  refine j_iload_n C dX8_perform_12 rfl 0 rfl ?_
  refine j_iconst C dX8_perform_13 (v := (-1 : Int32)) (by decide) ?_
  refine j_icmp_eq C dX8_perform_14 (tgt := 29) (by decide) (fun hc6 => ?_) (fun hc6 => ?_)
  · rw [if_pos hc6] at h
    refine j_aload_n C dX8_perform_29 rfl 1 rfl ?_
    obtain ⟨r7, M7, hq7, h⟩ := bnd2_spec h
    refine j_run1 (c_V C (As := []) (rest := []) (ctX8_carryOutCommands C.2.2.2.2.2.2.2.2.1 N Z hq7) kcRX8_265 oyX8_carryOutCommands (ci := 8) (T := TX8) (N := 11) rfl (by decide) ho1 ⟨by decide, by decide⟩ ⟨by decide, by decide⟩ (Nat.le_of_ble_eq_true rfl) rfl dX8_perform_30) ?_
    refine j_istore_n C dX8_perform_33 rfl (by decide) (L' := [(2, .int r7), (1, .int r5), (0, .ref a0)]) rfl ?_
    refine j_aload_n C dX8_perform_34 rfl 2 rfl ?_
    refine j_getR C (cn := RX8) (T := TX8) (N := 11) (ci := 8) rfl iX8 ho1 10 (by decide) rfl fwRX8_71 dX8_perform_35 hr2 ?_
    obtain ⟨_, M8, hq8, h⟩ := bnd2_spec h
    refine j_run0 (c_V C (As := []) (rest := []) (ctX0_clear C.2.2.2.2.2.2.2.2.1 N Z hq8) kcRX8_262 oyX0_clear (ci := 0) (T := TX0) (N := 3) rfl (by decide) ho4 ⟨by decide, by decide⟩ ⟨by decide, by decide⟩ (Nat.le_of_ble_eq_true rfl) rfl dX8_perform_38) ?_
    refine j_iload_n C dX8_perform_41 rfl 0 rfl ?_
    refine j_iconst C dX8_perform_42 (v := (-1 : Int32)) (by decide) ?_
    refine j_icmp_ne C dX8_perform_43 (tgt := 54) (by decide) (fun hc9 => ?_) (fun hc9 => ?_)
    · rw [if_neg hc9] at h
      refine j_iload_n C dX8_perform_54 rfl 0 rfl ?_
      cases h
      exact j_iret C rfl (by decide) (by decide) dX8_perform_55
    · rw [if_pos hc9] at h
      cases h
      exact j_throw C (rm := rmX8_perform) thRX8_141 (by decide) (Nat.le_of_ble_eq_true rfl) ⟨by decide, by decide⟩ (by decide) (by decide) dX8_perform_46 dX8_perform_49 dX8_perform_50 dX8_perform_53
  · rw [if_neg hc6] at h
    refine j_aload_n C dX8_perform_17 rfl 1 rfl ?_
    refine j_getR C (cn := RX8) (T := TX8) (N := 11) (ci := 8) rfl iX8 ho1 10 (by decide) rfl fwRX8_71 dX8_perform_18 hr2 ?_
    obtain ⟨_, M10, hq10, h⟩ := bnd2_spec h
    refine j_run0 (c_V C (As := []) (rest := []) (ctX0_clear C.2.2.2.2.2.2.2.2.1 N Z hq10) kcRX8_262 oyX0_clear (ci := 0) (T := TX0) (N := 3) rfl (by decide) ho4 ⟨by decide, by decide⟩ ⟨by decide, by decide⟩ (Nat.le_of_ble_eq_true rfl) rfl dX8_perform_21) ?_
    refine j_bipush C dX8_perform_24 (v := (-100 : Int32)) (by decide) ?_
    refine j_iload_n C dX8_perform_26 rfl 0 rfl ?_
    refine j_isub C dX8_perform_27 ?_
    cases h
    exact j_iret C rfl (by decide) (by decide) dX8_perform_28
-- ScaffoldPlanner undo
theorem fwRX8_268 : Cond.fieldLink RX8 268 RX2 (TX2 0).2.1 (TX2 0).2.2.1 ∈ gw := by decide +kernel
theorem kcRX8_269 : okV RX8 269 yX2_takeBack (.code yX2_takeBack cX2_takeBack 4 none) = true := by decide +kernel
theorem oyX2_takeBack : okY yX2_takeBack 1 := ⟨by decide +kernel, by decide +kernel, by decide +kernel⟩
abbrev rmX8_undo : Room := { frames := 6, cells := 1, slots := 6, locals := 90 }
theorem dX8_undo_0 : decode cX8_undo 0 = .ok (.aload_n 0, 1) := by decide +kernel
theorem dX8_undo_1 : decode cX8_undo 1 = .ok (.getfield 29, 3) := by decide +kernel
theorem dX8_undo_4 : decode cX8_undo 4 = .ok (.getfield 268, 3) := by decide +kernel
theorem dX8_undo_7 : decode cX8_undo 7 = .ok (.ifCond .ne 11, 3) := by decide +kernel
theorem dX8_undo_10 : decode cX8_undo 10 = .ok (.new 118, 3) := by decide +kernel
theorem dX8_undo_13 : decode cX8_undo 13 = .ok (.dup, 1) := by decide +kernel
theorem dX8_undo_14 : decode cX8_undo 14 = .ok (.invokespecial 120, 3) := by decide +kernel
theorem dX8_undo_17 : decode cX8_undo 17 = .ok (.athrow, 1) := by decide +kernel
theorem dX8_undo_18 : decode cX8_undo 18 = .ok (.aload_n 0, 1) := by decide +kernel
theorem dX8_undo_19 : decode cX8_undo 19 = .ok (.getfield 29, 3) := by decide +kernel
theorem dX8_undo_22 : decode cX8_undo 22 = .ok (.aload_n 0, 1) := by decide +kernel
theorem dX8_undo_23 : decode cX8_undo 23 = .ok (.getfield 10, 3) := by decide +kernel
theorem dX8_undo_26 : decode cX8_undo 26 = .ok (.invokevirtual 269, 3) := by decide +kernel
theorem dX8_undo_29 : decode cX8_undo 29 = .ok (.aload_n 0, 1) := by decide +kernel
theorem dX8_undo_30 : decode cX8_undo 30 = .ok (.getfield 64, 3) := by decide +kernel
theorem dX8_undo_33 : decode cX8_undo 33 = .ok (.iconst 0, 1) := by decide +kernel
theorem dX8_undo_34 : decode cX8_undo 34 = .ok (.putfield 89, 3) := by decide +kernel
theorem dX8_undo_37 : decode cX8_undo 37 = .ok (.aload_n 0, 1) := by decide +kernel
theorem dX8_undo_38 : decode cX8_undo 38 = .ok (.getfield 29, 3) := by decide +kernel
theorem dX8_undo_41 : decode cX8_undo 41 = .ok (.getfield 268, 3) := by decide +kernel
theorem dX8_undo_44 : decode cX8_undo 44 = .ok (.ireturn, 1) := by decide +kernel
def fX8_undo (N : Nat) (Z : mZ) (a0 : Nat) (M : mM) : Option ((Int32 ⊕ String) × mM) := ck (okO Z a0 8) (bnd1 (Z.2.2.2 a0 4) (fun c2 => ck (okO Z c2 2) (if (M.1 c2 0) = 0 then some (.inr "java/lang/IllegalStateException", sT M) else bnd1 (Z.2.2.2 a0 0) (fun c5 => bnd2 (fX2_takeBack N Z c2 c5 M) (fun _ M6 => bnd1 (Z.2.2.2 a0 9) (fun c7 => ck (okO Z c7 1) (some (.inl ((sI M6 c7 2 (0 : Int32)).1 c2 0), (sI M6 c7 2 (0 : Int32))))))))))
set_option maxHeartbeats 4000000 in
set_option maxRecDepth 100000 in
theorem ctX8_undo {G : mG} {l : Launch} (hl : l.stackTraces = false) (N : Nat) (Z : mZ) {a0 : Nat} {M : mM} {r : (Int32 ⊕ String)} {M' : mM} (h : fX8_undo N Z a0 M = some (r, M')) : CT G l yX8_undo (.code yX8_undo cX8_undo 1 (some .int)) rmX8_undo [.ref a0] Z M (oI r) Z M' := by
  unfold fX8_undo at h
  refine CT.of hl (by decide) (Nat.le_of_ble_eq_true rfl) ?_
  intro p e s m args below meth c C hnm
  refine j_sub (L' := [(0, .ref a0)]) [0] rfl ?_
  refine j_aload_n C dX8_undo_0 rfl 0 rfl ?_
  obtain ⟨ho1, h⟩ := ck_spec h
  obtain ⟨c2, hr2, h⟩ := bnd1_spec h
  refine j_getR C (cn := RX8) (T := TX8) (N := 11) (ci := 8) rfl iX8 ho1 4 (by decide) rfl fwRX8_29 dX8_undo_1 hr2 ?_
  obtain ⟨ho3, h⟩ := ck_spec h
  refine j_getI C (cn := RX2) (T := TX2) (N := 3) (ci := 2) rfl iX2 ho3 0 (by decide) rfl fwRX8_268 dX8_undo_4 ?_
  refine j_if_ne C dX8_undo_7 (tgt := 18) (by decide) (fun hc4 => ?_) (fun hc4 => ?_)
  · rw [if_neg hc4] at h
    refine j_aload_n C dX8_undo_18 rfl 0 rfl ?_
    refine j_getR C (cn := RX8) (T := TX8) (N := 11) (ci := 8) rfl iX8 ho1 4 (by decide) rfl fwRX8_29 dX8_undo_19 hr2 ?_
    refine j_aload_n C dX8_undo_22 rfl 0 rfl ?_
    obtain ⟨c5, hr5, h⟩ := bnd1_spec h
    refine j_getR C (cn := RX8) (T := TX8) (N := 11) (ci := 8) rfl iX8 ho1 0 (by decide) rfl fwRX8_10 dX8_undo_23 hr5 ?_
    obtain ⟨_, M6, hq6, h⟩ := bnd2_spec h
    refine j_run0 (c_V C (As := [.ref c5]) (rest := []) (ctX2_takeBack C.2.2.2.2.2.2.2.2.1 N Z hq6) kcRX8_269 oyX2_takeBack (ci := 2) (T := TX2) (N := 3) rfl (by decide) ho3 ⟨by decide, by decide⟩ ⟨by decide, by decide⟩ (Nat.le_of_ble_eq_true rfl) rfl dX8_undo_26) ?_
    refine j_aload_n C dX8_undo_29 rfl 0 rfl ?_
    obtain ⟨c7, hr7, h⟩ := bnd1_spec h
    refine j_getR C (cn := RX8) (T := TX8) (N := 11) (ci := 8) rfl iX8 ho1 9 (by decide) rfl fwRX8_64 dX8_undo_30 hr7 ?_
    refine j_iconst C dX8_undo_33 (v := (0 : Int32)) (by decide) ?_
    obtain ⟨ho8, h⟩ := ck_spec h
    refine j_putI C tyX1 tyX1_ok nmX1 (cn := RX1) (T := TX1) (N := 8) (ci := 1) rfl iX1 ho8 2 (by decide) rfl fwRX8_89 ⟨rfl, rfl⟩ dX8_undo_34 ?_
    refine j_aload_n C dX8_undo_37 rfl 0 rfl ?_
    refine j_getR C (cn := RX8) (T := TX8) (N := 11) (ci := 8) rfl iX8 ho1 4 (by decide) rfl fwRX8_29 dX8_undo_38 hr2 ?_
    refine j_getI C (cn := RX2) (T := TX2) (N := 3) (ci := 2) rfl iX2 ho3 0 (by decide) rfl fwRX8_268 dX8_undo_41 ?_
    cases h
    exact j_iret C rfl (by decide) (by decide) dX8_undo_44
  · rw [if_pos hc4] at h
    cases h
    exact j_throw C (rm := rmX8_undo) thRX8_118 (by decide) (Nat.le_of_ble_eq_true rfl) ⟨by decide, by decide⟩ (by decide) (by decide) dX8_undo_10 dX8_undo_13 dX8_undo_14 dX8_undo_17
-- ScaffoldPlanner save
abbrev rmX8_save : Room := { frames := 2, cells := 0, slots := 0, locals := 43 }
theorem dX8_save_0 : decode cX8_save 0 = .ok (.aload_n 0, 1) := by decide +kernel
theorem dX8_save_1 : decode cX8_save 1 = .ok (.getfield 19, 3) := by decide +kernel
theorem dX8_save_4 : decode cX8_save 4 = .ok (.aload_n 0, 1) := by decide +kernel
theorem dX8_save_5 : decode cX8_save 5 = .ok (.getfield 10, 3) := by decide +kernel
theorem dX8_save_8 : decode cX8_save 8 = .ok (.invokevirtual 103, 3) := by decide +kernel
theorem dX8_save_11 : decode cX8_save 11 = .ok (.aload_n 0, 1) := by decide +kernel
theorem dX8_save_12 : decode cX8_save 12 = .ok (.iconst 1, 1) := by decide +kernel
theorem dX8_save_13 : decode cX8_save 13 = .ok (.putfield 22, 3) := by decide +kernel
theorem dX8_save_16 : decode cX8_save 16 = .ok (.aload_n 0, 1) := by decide +kernel
theorem dX8_save_17 : decode cX8_save 17 = .ok (.getfield 10, 3) := by decide +kernel
theorem dX8_save_20 : decode cX8_save 20 = .ok (.getfield 78, 3) := by decide +kernel
theorem dX8_save_23 : decode cX8_save 23 = .ok (.ireturn, 1) := by decide +kernel
def fX8_save (N : Nat) (Z : mZ) (a0 : Nat) (M : mM) : Option (Int32 × mM) := ck (okO Z a0 8) (bnd1 (Z.2.2.2 a0 2) (fun c2 => bnd1 (Z.2.2.2 a0 0) (fun c3 => ck (okO Z c2 4) (bnd2 (fX4_copyFrom N Z c2 c3 M) (fun _ M5 => ck (okO Z c3 4) (some (((sI M5 a0 3 (1 : Int32)).1 c3 0), (sI M5 a0 3 (1 : Int32)))))))))
set_option maxHeartbeats 4000000 in
set_option maxRecDepth 100000 in
theorem ctX8_save {G : mG} {l : Launch} (hl : l.stackTraces = false) (N : Nat) (Z : mZ) {a0 : Nat} {M : mM} {r : Int32} {M' : mM} (h : fX8_save N Z a0 M = some (r, M')) : CT G l yX8_save (.code yX8_save cX8_save 1 (some .int)) rmX8_save [.ref a0] Z M (.inl (some (.int r))) Z M' := by
  unfold fX8_save at h
  refine CT.of hl (by decide) (Nat.le_of_ble_eq_true rfl) ?_
  intro p e s m args below meth c C hnm
  refine j_sub (L' := [(0, .ref a0)]) [0] rfl ?_
  refine j_aload_n C dX8_save_0 rfl 0 rfl ?_
  obtain ⟨ho1, h⟩ := ck_spec h
  obtain ⟨c2, hr2, h⟩ := bnd1_spec h
  refine j_getR C (cn := RX8) (T := TX8) (N := 11) (ci := 8) rfl iX8 ho1 2 (by decide) rfl fwRX8_19 dX8_save_1 hr2 ?_
  refine j_aload_n C dX8_save_4 rfl 0 rfl ?_
  obtain ⟨c3, hr3, h⟩ := bnd1_spec h
  refine j_getR C (cn := RX8) (T := TX8) (N := 11) (ci := 8) rfl iX8 ho1 0 (by decide) rfl fwRX8_10 dX8_save_5 hr3 ?_
  obtain ⟨ho4, h⟩ := ck_spec h
  obtain ⟨_, M5, hq5, h⟩ := bnd2_spec h
  refine j_run0 (c_V C (As := [.ref c3]) (rest := []) (ctX4_copyFrom C.2.2.2.2.2.2.2.2.1 N Z hq5) kcRX8_103 oyX4_copyFrom (ci := 4) (T := TX4) (N := 7) rfl (by decide) ho4 ⟨by decide, by decide⟩ ⟨by decide, by decide⟩ (Nat.le_of_ble_eq_true rfl) rfl dX8_save_8) ?_
  refine j_aload_n C dX8_save_11 rfl 0 rfl ?_
  refine j_iconst C dX8_save_12 (v := (1 : Int32)) (by decide) ?_
  refine j_putI C tyX8 tyX8_ok nmX8 (cn := RX8) (T := TX8) (N := 11) (ci := 8) rfl iX8 ho1 3 (by decide) rfl fwRX8_22 ⟨rfl, rfl⟩ dX8_save_13 ?_
  refine j_aload_n C dX8_save_16 rfl 0 rfl ?_
  refine j_getR C (cn := RX8) (T := TX8) (N := 11) (ci := 8) rfl iX8 ho1 0 (by decide) rfl fwRX8_10 dX8_save_17 hr3 ?_
  obtain ⟨ho6, h⟩ := ck_spec h
  refine j_getI C (cn := RX4) (T := TX4) (N := 7) (ci := 4) rfl iX4 ho6 0 (by decide) rfl fwRX8_78 dX8_save_20 ?_
  cases h
  exact j_iret C rfl (by decide) (by decide) dX8_save_23
-- ScaffoldPlanner restore
abbrev rmX8_restore : Room := { frames := 6, cells := 1, slots := 6, locals := 90 }
theorem dX8_restore_0 : decode cX8_restore 0 = .ok (.aload_n 0, 1) := by decide +kernel
theorem dX8_restore_1 : decode cX8_restore 1 = .ok (.getfield 22, 3) := by decide +kernel
theorem dX8_restore_4 : decode cX8_restore 4 = .ok (.ifCond .ne 11, 3) := by decide +kernel
theorem dX8_restore_7 : decode cX8_restore 7 = .ok (.new 118, 3) := by decide +kernel
theorem dX8_restore_10 : decode cX8_restore 10 = .ok (.dup, 1) := by decide +kernel
theorem dX8_restore_11 : decode cX8_restore 11 = .ok (.invokespecial 120, 3) := by decide +kernel
theorem dX8_restore_14 : decode cX8_restore 14 = .ok (.athrow, 1) := by decide +kernel
theorem dX8_restore_15 : decode cX8_restore 15 = .ok (.aload_n 0, 1) := by decide +kernel
theorem dX8_restore_16 : decode cX8_restore 16 = .ok (.getfield 10, 3) := by decide +kernel
theorem dX8_restore_19 : decode cX8_restore 19 = .ok (.aload_n 0, 1) := by decide +kernel
theorem dX8_restore_20 : decode cX8_restore 20 = .ok (.getfield 19, 3) := by decide +kernel
theorem dX8_restore_23 : decode cX8_restore 23 = .ok (.invokevirtual 103, 3) := by decide +kernel
theorem dX8_restore_26 : decode cX8_restore 26 = .ok (.aload_n 0, 1) := by decide +kernel
theorem dX8_restore_27 : decode cX8_restore 27 = .ok (.getfield 29, 3) := by decide +kernel
theorem dX8_restore_30 : decode cX8_restore 30 = .ok (.invokevirtual 86, 3) := by decide +kernel
theorem dX8_restore_33 : decode cX8_restore 33 = .ok (.aload_n 0, 1) := by decide +kernel
theorem dX8_restore_34 : decode cX8_restore 34 = .ok (.getfield 64, 3) := by decide +kernel
theorem dX8_restore_37 : decode cX8_restore 37 = .ok (.iconst 0, 1) := by decide +kernel
theorem dX8_restore_38 : decode cX8_restore 38 = .ok (.putfield 89, 3) := by decide +kernel
theorem dX8_restore_41 : decode cX8_restore 41 = .ok (.aload_n 0, 1) := by decide +kernel
theorem dX8_restore_42 : decode cX8_restore 42 = .ok (.getfield 10, 3) := by decide +kernel
theorem dX8_restore_45 : decode cX8_restore 45 = .ok (.getfield 78, 3) := by decide +kernel
theorem dX8_restore_48 : decode cX8_restore 48 = .ok (.ireturn, 1) := by decide +kernel
def fX8_restore (N : Nat) (Z : mZ) (a0 : Nat) (M : mM) : Option ((Int32 ⊕ String) × mM) := ck (okO Z a0 8) (if (M.1 a0 3) = 0 then some (.inr "java/lang/IllegalStateException", sT M) else bnd1 (Z.2.2.2 a0 0) (fun c3 => bnd1 (Z.2.2.2 a0 2) (fun c4 => ck (okO Z c3 4) (bnd2 (fX4_copyFrom N Z c3 c4 M) (fun _ M6 => bnd1 (Z.2.2.2 a0 4) (fun c7 => ck (okO Z c7 2) (bnd2 (fX2_forget N Z c7 M6) (fun _ M9 => bnd1 (Z.2.2.2 a0 9) (fun c10 => ck (okO Z c10 1) (some (.inl ((sI M9 c10 2 (0 : Int32)).1 c3 0), (sI M9 c10 2 (0 : Int32)))))))))))))
set_option maxHeartbeats 4000000 in
set_option maxRecDepth 100000 in
theorem ctX8_restore {G : mG} {l : Launch} (hl : l.stackTraces = false) (N : Nat) (Z : mZ) {a0 : Nat} {M : mM} {r : (Int32 ⊕ String)} {M' : mM} (h : fX8_restore N Z a0 M = some (r, M')) : CT G l yX8_restore (.code yX8_restore cX8_restore 1 (some .int)) rmX8_restore [.ref a0] Z M (oI r) Z M' := by
  unfold fX8_restore at h
  refine CT.of hl (by decide) (Nat.le_of_ble_eq_true rfl) ?_
  intro p e s m args below meth c C hnm
  refine j_sub (L' := [(0, .ref a0)]) [0] rfl ?_
  refine j_aload_n C dX8_restore_0 rfl 0 rfl ?_
  obtain ⟨ho1, h⟩ := ck_spec h
  refine j_getI C (cn := RX8) (T := TX8) (N := 11) (ci := 8) rfl iX8 ho1 3 (by decide) rfl fwRX8_22 dX8_restore_1 ?_
  refine j_if_ne C dX8_restore_4 (tgt := 15) (by decide) (fun hc2 => ?_) (fun hc2 => ?_)
  · rw [if_neg hc2] at h
    refine j_aload_n C dX8_restore_15 rfl 0 rfl ?_
    obtain ⟨c3, hr3, h⟩ := bnd1_spec h
    refine j_getR C (cn := RX8) (T := TX8) (N := 11) (ci := 8) rfl iX8 ho1 0 (by decide) rfl fwRX8_10 dX8_restore_16 hr3 ?_
    refine j_aload_n C dX8_restore_19 rfl 0 rfl ?_
    obtain ⟨c4, hr4, h⟩ := bnd1_spec h
    refine j_getR C (cn := RX8) (T := TX8) (N := 11) (ci := 8) rfl iX8 ho1 2 (by decide) rfl fwRX8_19 dX8_restore_20 hr4 ?_
    obtain ⟨ho5, h⟩ := ck_spec h
    obtain ⟨_, M6, hq6, h⟩ := bnd2_spec h
    refine j_run0 (c_V C (As := [.ref c4]) (rest := []) (ctX4_copyFrom C.2.2.2.2.2.2.2.2.1 N Z hq6) kcRX8_103 oyX4_copyFrom (ci := 4) (T := TX4) (N := 7) rfl (by decide) ho5 ⟨by decide, by decide⟩ ⟨by decide, by decide⟩ (Nat.le_of_ble_eq_true rfl) rfl dX8_restore_23) ?_
    refine j_aload_n C dX8_restore_26 rfl 0 rfl ?_
    obtain ⟨c7, hr7, h⟩ := bnd1_spec h
    refine j_getR C (cn := RX8) (T := TX8) (N := 11) (ci := 8) rfl iX8 ho1 4 (by decide) rfl fwRX8_29 dX8_restore_27 hr7 ?_
    obtain ⟨ho8, h⟩ := ck_spec h
    obtain ⟨_, M9, hq9, h⟩ := bnd2_spec h
    refine j_run0 (c_V C (As := []) (rest := []) (ctX2_forget C.2.2.2.2.2.2.2.2.1 N Z hq9) kcRX8_86 oyX2_forget (ci := 2) (T := TX2) (N := 3) rfl (by decide) ho8 ⟨by decide, by decide⟩ ⟨by decide, by decide⟩ (Nat.le_of_ble_eq_true rfl) rfl dX8_restore_30) ?_
    refine j_aload_n C dX8_restore_33 rfl 0 rfl ?_
    obtain ⟨c10, hr10, h⟩ := bnd1_spec h
    refine j_getR C (cn := RX8) (T := TX8) (N := 11) (ci := 8) rfl iX8 ho1 9 (by decide) rfl fwRX8_64 dX8_restore_34 hr10 ?_
    refine j_iconst C dX8_restore_37 (v := (0 : Int32)) (by decide) ?_
    obtain ⟨ho11, h⟩ := ck_spec h
    refine j_putI C tyX1 tyX1_ok nmX1 (cn := RX1) (T := TX1) (N := 8) (ci := 1) rfl iX1 ho11 2 (by decide) rfl fwRX8_89 ⟨rfl, rfl⟩ dX8_restore_38 ?_
    refine j_aload_n C dX8_restore_41 rfl 0 rfl ?_
    refine j_getR C (cn := RX8) (T := TX8) (N := 11) (ci := 8) rfl iX8 ho1 0 (by decide) rfl fwRX8_10 dX8_restore_42 hr3 ?_
    refine j_getI C (cn := RX4) (T := TX4) (N := 7) (ci := 4) rfl iX4 ho5 0 (by decide) rfl fwRX8_78 dX8_restore_45 ?_
    cases h
    exact j_iret C rfl (by decide) (by decide) dX8_restore_48
  · rw [if_pos hc2] at h
    cases h
    exact j_throw C (rm := rmX8_restore) thRX8_118 (by decide) (Nat.le_of_ble_eq_true rfl) ⟨by decide, by decide⟩ (by decide) (by decide) dX8_restore_7 dX8_restore_10 dX8_restore_11 dX8_restore_14
-- ScaffoldPlannerModel in
abbrev rmX9_in : Room := { frames := 0, cells := 0, slots := 0, locals := 0 }
theorem dX9_in_0 : decode cX9_in 0 = .ok (.iload_n 0, 1) := by decide +kernel
theorem dX9_in_1 : decode cX9_in 1 = .ok (.iload_n 1, 1) := by decide +kernel
theorem dX9_in_2 : decode cX9_in 2 = .ok (.if_icmp .lt 12, 3) := by decide +kernel
theorem dX9_in_5 : decode cX9_in 5 = .ok (.iload_n 0, 1) := by decide +kernel
theorem dX9_in_6 : decode cX9_in 6 = .ok (.iload_n 2, 1) := by decide +kernel
theorem dX9_in_7 : decode cX9_in 7 = .ok (.if_icmp .gt 7, 3) := by decide +kernel
theorem dX9_in_10 : decode cX9_in 10 = .ok (.iconst 1, 1) := by decide +kernel
theorem dX9_in_11 : decode cX9_in 11 = .ok (.goto 4, 3) := by decide +kernel
theorem dX9_in_14 : decode cX9_in 14 = .ok (.iconst 0, 1) := by decide +kernel
theorem dX9_in_15 : decode cX9_in 15 = .ok (.ireturn, 1) := by decide +kernel
def fX9_in (N : Nat) (Z : mZ) (a0 : Int32) (a1 : Int32) (a2 : Int32) (M : mM) : Option (Int32 × mM) := if a0 < a1 then some ((0 : Int32), M) else if a2 < a0 then some ((0 : Int32), M) else some ((1 : Int32), M)
set_option maxHeartbeats 4000000 in
set_option maxRecDepth 100000 in
theorem ctX9_in {G : mG} {l : Launch} (hl : l.stackTraces = false) (N : Nat) (Z : mZ) {a0 : Int32} {a1 : Int32} {a2 : Int32} {M : mM} {r : Int32} {M' : mM} (h : fX9_in N Z a0 a1 a2 M = some (r, M')) : CT G l yX9_in (.code yX9_in cX9_in 3 (some .boolean)) rmX9_in [.int a0, .int a1, .int a2] Z M (.inl (some (.int r))) Z M' := by
  unfold fX9_in at h
  refine CT.of hl (by decide) (Nat.le_of_ble_eq_true rfl) ?_
  intro p e s m args below meth c C hnm
  refine j_sub (L' := [(0, .int a0), (1, .int a1), (2, .int a2)]) [0, 1, 2] rfl ?_
  refine j_iload_n C dX9_in_0 rfl 0 rfl ?_
  refine j_iload_n C dX9_in_1 rfl 1 rfl ?_
  refine j_icmp_lt C dX9_in_2 (tgt := 14) (by decide) (fun hc1 => ?_) (fun hc1 => ?_)
  · rw [if_pos hc1] at h
    refine j_iconst C dX9_in_14 (v := (0 : Int32)) (by decide) ?_
    cases h
    exact j_zret C rfl (by decide) (by decide) (by decide) dX9_in_15
  · rw [if_neg hc1] at h
    refine j_iload_n C dX9_in_5 rfl 0 rfl ?_
    refine j_iload_n C dX9_in_6 rfl 2 rfl ?_
    refine j_icmp_gt C dX9_in_7 (tgt := 14) (by decide) (fun hc2 => ?_) (fun hc2 => ?_)
    · rw [if_pos hc2] at h
      refine j_iconst C dX9_in_14 (v := (0 : Int32)) (by decide) ?_
      cases h
      exact j_zret C rfl (by decide) (by decide) (by decide) dX9_in_15
    · rw [if_neg hc2] at h
      refine j_iconst C dX9_in_10 (v := (1 : Int32)) (by decide) ?_
      refine j_goto C dX9_in_11 (tgt := 15) (by decide) ?_
      cases h
      exact j_zret C rfl (by decide) (by decide) (by decide) dX9_in_15
-- ScaffoldPlannerModel begins
theorem fwRX9_7 : Cond.fieldLink RX9 7 RX9 (TX9 0).2.1 (TX9 0).2.2.1 ∈ gw := by decide +kernel
theorem fwRX9_58 : Cond.fieldLink RX9 58 RX9 (TX9 6).2.1 (TX9 6).2.2.1 ∈ gw := by decide +kernel
theorem kcRX9_54 : okS RX9 54 yX9_in (.code yX9_in cX9_in 3 (some .boolean)) = true := by decide +kernel
theorem oyX9_in : okY yX9_in 3 := ⟨by decide +kernel, by decide +kernel, by decide +kernel⟩
abbrev rmX9_begins : Room := { frames := 1, cells := 0, slots := 0, locals := 22 }
theorem dX9_begins_0 : decode cX9_begins 0 = .ok (.iconst 0, 1) := by decide +kernel
theorem dX9_begins_1 : decode cX9_begins 1 = .ok (.istore_n 2, 1) := by decide +kernel
theorem dX9_begins_2 : decode cX9_begins 2 = .ok (.iload_n 2, 1) := by decide +kernel
theorem dX9_begins_3 : decode cX9_begins 3 = .ok (.bipush 121, 2) := by decide +kernel
theorem dX9_begins_5 : decode cX9_begins 5 = .ok (.if_icmp .ge 31, 3) := by decide +kernel
theorem dX9_begins_8 : decode cX9_begins 8 = .ok (.aload_n 0, 1) := by decide +kernel
theorem dX9_begins_9 : decode cX9_begins 9 = .ok (.getfield 7, 3) := by decide +kernel
theorem dX9_begins_12 : decode cX9_begins 12 = .ok (.iload_n 2, 1) := by decide +kernel
theorem dX9_begins_13 : decode cX9_begins 13 = .ok (.iload_n 2, 1) := by decide +kernel
theorem dX9_begins_14 : decode cX9_begins 14 = .ok (.iconst 5, 1) := by decide +kernel
theorem dX9_begins_15 : decode cX9_begins 15 = .ok (.bipush 10, 2) := by decide +kernel
theorem dX9_begins_17 : decode cX9_begins 17 = .ok (.invokestatic 54, 3) := by decide +kernel
theorem dX9_begins_20 : decode cX9_begins 20 = .ok (.ifCond .eq 8, 3) := by decide +kernel
theorem dX9_begins_23 : decode cX9_begins 23 = .ok (.bipush 60, 2) := by decide +kernel
theorem dX9_begins_25 : decode cX9_begins 25 = .ok (.goto 4, 3) := by decide +kernel
theorem dX9_begins_28 : decode cX9_begins 28 = .ok (.iconst 0, 1) := by decide +kernel
theorem dX9_begins_29 : decode cX9_begins 29 = .ok (.iastore, 1) := by decide +kernel
theorem dX9_begins_30 : decode cX9_begins 30 = .ok (.iinc 2 1, 3) := by decide +kernel
theorem dX9_begins_33 : decode cX9_begins 33 = .ok (.goto (-31), 3) := by decide +kernel
theorem dX9_begins_36 : decode cX9_begins 36 = .ok (.aload_n 0, 1) := by decide +kernel
theorem dX9_begins_37 : decode cX9_begins 37 = .ok (.getfield 7, 3) := by decide +kernel
theorem dX9_begins_40 : decode cX9_begins 40 = .ok (.iconst 0, 1) := by decide +kernel
theorem dX9_begins_41 : decode cX9_begins 41 = .ok (.iload_n 1, 1) := by decide +kernel
theorem dX9_begins_42 : decode cX9_begins 42 = .ok (.iastore, 1) := by decide +kernel
theorem dX9_begins_43 : decode cX9_begins 43 = .ok (.aload_n 0, 1) := by decide +kernel
theorem dX9_begins_44 : decode cX9_begins 44 = .ok (.getfield 7, 3) := by decide +kernel
theorem dX9_begins_47 : decode cX9_begins 47 = .ok (.iconst 1, 1) := by decide +kernel
theorem dX9_begins_48 : decode cX9_begins 48 = .ok (.iconst 3, 1) := by decide +kernel
theorem dX9_begins_49 : decode cX9_begins 49 = .ok (.iastore, 1) := by decide +kernel
theorem dX9_begins_50 : decode cX9_begins 50 = .ok (.aload_n 0, 1) := by decide +kernel
theorem dX9_begins_51 : decode cX9_begins 51 = .ok (.getfield 7, 3) := by decide +kernel
theorem dX9_begins_54 : decode cX9_begins 54 = .ok (.iconst 2, 1) := by decide +kernel
theorem dX9_begins_55 : decode cX9_begins 55 = .ok (.iconst 2, 1) := by decide +kernel
theorem dX9_begins_56 : decode cX9_begins 56 = .ok (.iastore, 1) := by decide +kernel
theorem dX9_begins_57 : decode cX9_begins 57 = .ok (.aload_n 0, 1) := by decide +kernel
theorem dX9_begins_58 : decode cX9_begins 58 = .ok (.getfield 7, 3) := by decide +kernel
theorem dX9_begins_61 : decode cX9_begins 61 = .ok (.iconst 3, 1) := by decide +kernel
theorem dX9_begins_62 : decode cX9_begins 62 = .ok (.sipush 600, 3) := by decide +kernel
theorem dX9_begins_65 : decode cX9_begins 65 = .ok (.iastore, 1) := by decide +kernel
theorem dX9_begins_66 : decode cX9_begins 66 = .ok (.aload_n 0, 1) := by decide +kernel
theorem dX9_begins_67 : decode cX9_begins 67 = .ok (.iconst 0, 1) := by decide +kernel
theorem dX9_begins_68 : decode cX9_begins 68 = .ok (.putfield 58, 3) := by decide +kernel
theorem dX9_begins_71 : decode cX9_begins 71 = .ok (.return_, 1) := by decide +kernel
def fX9_begins_2 (N : Nat) (Z : mZ) : Nat → Nat → Int32 → Int32 → mM → Option (Unit × mM)
  | 0, _, _, _, _ => none
  | fu + 1, v0, v1, v2, M => if (121 : Int32) ≤ v2 then ck (okO Z v0 9) (bnd1 (Z.2.2.2 v0 0) (fun c3 => ck (okO Z c3 20) (ck (inB (0 : Int32) (Z.2.2.1 c3)) (ck (inB (1 : Int32) (Z.2.2.1 c3)) (ck (inB (2 : Int32) (Z.2.2.1 c3)) (ck (inB (3 : Int32) (Z.2.2.1 c3)) (some ((), (sI (sI (sI (sI (sI M c3 ((0 : Int32)).toNatClampNeg v1) c3 ((1 : Int32)).toNatClampNeg (3 : Int32)) c3 ((2 : Int32)).toNatClampNeg (2 : Int32)) c3 ((3 : Int32)).toNatClampNeg (600 : Int32)) v0 6 (0 : Int32)))))))))) else ck (okO Z v0 9) (bnd1 (Z.2.2.2 v0 0) (fun c10 => bnd2 (fX9_in N Z v2 (5 : Int32) (10 : Int32) M) (fun r11 M11 => if r11 = 0 then ck (okO Z c10 20) (ck (inB v2 (Z.2.2.1 c10)) (fX9_begins_2 N Z fu v0 v1 (v2 + (1 : Int32)) (sI M11 c10 (v2).toNatClampNeg (0 : Int32)))) else ck (okO Z c10 20) (ck (inB v2 (Z.2.2.1 c10)) (fX9_begins_2 N Z fu v0 v1 (v2 + (1 : Int32)) (sI M11 c10 (v2).toNatClampNeg (60 : Int32)))))))
set_option maxHeartbeats 4000000 in
set_option maxRecDepth 100000 in
theorem tX9_begins_2 {G : mG} {p : Program} {l : Launch} {e : Env} {s : State} {m : MethodId} {args : Array Value} {below : List Frame} {meth : Method} {c : Code} (C : Cx G p l s m args meth c RX9 cX9_begins 3 none []) (hnm : meth.name = yX9_begins.name) (N : Nat) (Z : mZ) : ∀ (fu : Nat) (v0 : Nat) (v1 : Int32) (v2 : Int32) (M : mM) (r : Unit) (M' : mM), fX9_begins_2 N Z fu v0 v1 v2 M = some (r, M') → JJ G p l e rmX9_begins s m args below meth c 3 (mEnd G below args s rmX9_begins (.inl none) Z M') 0 0 2 [(0, .ref v0), (1, .int v1), (2, .int v2)] [] Z M := by
  intro fu
  induction fu with
  | zero =>
    intro v0 v1 v2 M r M' h
    cases h
  | succ fu ih =>
    intro v0 v1 v2 M r M' h
    rw [fX9_begins_2] at h
    refine j_iload_n C dX9_begins_2 rfl 2 rfl ?_
    refine j_bipush C dX9_begins_3 (v := (121 : Int32)) (by decide) ?_
    refine j_icmp_ge C dX9_begins_5 (tgt := 36) (by decide) (fun hc1 => ?_) (fun hc1 => ?_)
    · rw [if_pos hc1] at h
      refine j_aload_n C dX9_begins_36 rfl 0 rfl ?_
      obtain ⟨ho2, h⟩ := ck_spec h
      obtain ⟨c3, hr3, h⟩ := bnd1_spec h
      refine j_getR C (cn := RX9) (T := TX9) (N := 23) (ci := 9) rfl iX9 ho2 0 (by decide) rfl fwRX9_7 dX9_begins_37 hr3 ?_
      refine j_iconst C dX9_begins_40 (v := (0 : Int32)) (by decide) ?_
      refine j_iload_n C dX9_begins_41 rfl 1 rfl ?_
      obtain ⟨ho4, h⟩ := ck_spec h
      obtain ⟨ho5, h⟩ := ck_spec h
      refine j_iast C ho4 ho5 dX9_begins_42 ?_
      refine j_aload_n C dX9_begins_43 rfl 0 rfl ?_
      refine j_getR C (cn := RX9) (T := TX9) (N := 23) (ci := 9) rfl iX9 ho2 0 (by decide) rfl fwRX9_7 dX9_begins_44 hr3 ?_
      refine j_iconst C dX9_begins_47 (v := (1 : Int32)) (by decide) ?_
      refine j_iconst C dX9_begins_48 (v := (3 : Int32)) (by decide) ?_
      obtain ⟨ho6, h⟩ := ck_spec h
      refine j_iast C ho4 ho6 dX9_begins_49 ?_
      refine j_aload_n C dX9_begins_50 rfl 0 rfl ?_
      refine j_getR C (cn := RX9) (T := TX9) (N := 23) (ci := 9) rfl iX9 ho2 0 (by decide) rfl fwRX9_7 dX9_begins_51 hr3 ?_
      refine j_iconst C dX9_begins_54 (v := (2 : Int32)) (by decide) ?_
      refine j_iconst C dX9_begins_55 (v := (2 : Int32)) (by decide) ?_
      obtain ⟨ho7, h⟩ := ck_spec h
      refine j_iast C ho4 ho7 dX9_begins_56 ?_
      refine j_aload_n C dX9_begins_57 rfl 0 rfl ?_
      refine j_getR C (cn := RX9) (T := TX9) (N := 23) (ci := 9) rfl iX9 ho2 0 (by decide) rfl fwRX9_7 dX9_begins_58 hr3 ?_
      refine j_iconst C dX9_begins_61 (v := (3 : Int32)) (by decide) ?_
      refine j_sipush C dX9_begins_62 (v := (600 : Int32)) (by decide) ?_
      obtain ⟨ho8, h⟩ := ck_spec h
      refine j_iast C ho4 ho8 dX9_begins_65 ?_
      refine j_aload_n C dX9_begins_66 rfl 0 rfl ?_
      refine j_iconst C dX9_begins_67 (v := (0 : Int32)) (by decide) ?_
      refine j_putI C tyX9 tyX9_ok nmX9 (cn := RX9) (T := TX9) (N := 23) (ci := 9) rfl iX9 ho2 6 (by decide) rfl fwRX9_58 ⟨rfl, rfl⟩ dX9_begins_68 ?_
      cases h
      exact j_vret C rfl (by decide) (by decide) dX9_begins_71
    · rw [if_neg hc1] at h
      refine j_aload_n C dX9_begins_8 rfl 0 rfl ?_
      obtain ⟨ho9, h⟩ := ck_spec h
      obtain ⟨c10, hr10, h⟩ := bnd1_spec h
      refine j_getR C (cn := RX9) (T := TX9) (N := 23) (ci := 9) rfl iX9 ho9 0 (by decide) rfl fwRX9_7 dX9_begins_9 hr10 ?_
      refine j_iload_n C dX9_begins_12 rfl 2 rfl ?_
      refine j_iload_n C dX9_begins_13 rfl 2 rfl ?_
      refine j_iconst C dX9_begins_14 (v := (5 : Int32)) (by decide) ?_
      refine j_bipush C dX9_begins_15 (v := (10 : Int32)) (by decide) ?_
      obtain ⟨r11, M11, hq11, h⟩ := bnd2_spec h
      refine j_run1 (c_S C (As := [.int v2, .int (5 : Int32), .int (10 : Int32)]) (rest := [.int v2, .ref c10]) (ctX9_in C.2.2.2.2.2.2.2.2.1 N Z hq11) kcRX9_54 oyX9_in ⟨by decide, by decide⟩ ⟨by decide, by decide⟩ (Nat.le_of_ble_eq_true rfl) rfl dX9_begins_17) ?_
      refine j_if_eq C dX9_begins_20 (tgt := 28) (by decide) (fun hc12 => ?_) (fun hc12 => ?_)
      · rw [if_pos hc12] at h
        refine j_iconst C dX9_begins_28 (v := (0 : Int32)) (by decide) ?_
        obtain ⟨ho13, h⟩ := ck_spec h
        obtain ⟨ho14, h⟩ := ck_spec h
        refine j_iast C ho13 ho14 dX9_begins_29 ?_
        refine j_iinc C dX9_begins_30 2 rfl (v := (v2 + (1 : Int32))) (by first | rfl | decide) (by decide) (L' := [(2, .int (v2 + (1 : Int32))), (0, .ref v0), (1, .int v1)]) rfl ?_
        refine j_goto C dX9_begins_33 (tgt := 2) (by decide) ?_
        refine j_sub (L' := [(0, .ref v0), (1, .int v1), (2, .int (v2 + (1 : Int32)))]) [1, 2, 0] rfl ?_
        exact ih v0 v1 (v2 + (1 : Int32)) (sI M11 c10 (v2).toNatClampNeg (0 : Int32)) r M' h
      · rw [if_neg hc12] at h
        refine j_bipush C dX9_begins_23 (v := (60 : Int32)) (by decide) ?_
        refine j_goto C dX9_begins_25 (tgt := 29) (by decide) ?_
        obtain ⟨ho15, h⟩ := ck_spec h
        obtain ⟨ho16, h⟩ := ck_spec h
        refine j_iast C ho15 ho16 dX9_begins_29 ?_
        refine j_iinc C dX9_begins_30 2 rfl (v := (v2 + (1 : Int32))) (by first | rfl | decide) (by decide) (L' := [(2, .int (v2 + (1 : Int32))), (0, .ref v0), (1, .int v1)]) rfl ?_
        refine j_goto C dX9_begins_33 (tgt := 2) (by decide) ?_
        refine j_sub (L' := [(0, .ref v0), (1, .int v1), (2, .int (v2 + (1 : Int32)))]) [1, 2, 0] rfl ?_
        exact ih v0 v1 (v2 + (1 : Int32)) (sI M11 c10 (v2).toNatClampNeg (60 : Int32)) r M' h
def fX9_begins (N : Nat) (Z : mZ) (a0 : Nat) (a1 : Int32) (M : mM) : Option (Unit × mM) := fX9_begins_2 N Z N a0 a1 (0 : Int32) M
set_option maxHeartbeats 4000000 in
set_option maxRecDepth 100000 in
theorem ctX9_begins {G : mG} {l : Launch} (hl : l.stackTraces = false) (N : Nat) (Z : mZ) {a0 : Nat} {a1 : Int32} {M : mM} {r : Unit} {M' : mM} (h : fX9_begins N Z a0 a1 M = some (r, M')) : CT G l yX9_begins (.code yX9_begins cX9_begins 3 none) rmX9_begins [.ref a0, .int a1] Z M (.inl none) Z M' := by
  unfold fX9_begins at h
  refine CT.of hl (by decide) (Nat.le_of_ble_eq_true rfl) ?_
  intro p e s m args below meth c C hnm
  refine j_sub (L' := [(0, .ref a0), (1, .int a1)]) [0, 1] rfl ?_
  refine j_iconst C dX9_begins_0 (v := (0 : Int32)) (by decide) ?_
  refine j_istore_n C dX9_begins_1 rfl (by decide) (L' := [(2, .int (0 : Int32)), (0, .ref a0), (1, .int a1)]) rfl ?_
  refine j_sub (L' := [(0, .ref a0), (1, .int a1), (2, .int (0 : Int32))]) [1, 2, 0] rfl ?_
  exact tX9_begins_2 C hnm N Z N a0 a1 (0 : Int32) M _ _ h
-- ScaffoldPlannerModel <init>
theorem ojRX9_1 : Cond.methodLink RX9 1 Lib.objectInit ∈ gw ∧ Cond.instanceMethod Lib.objectInit ∈ gw ∧ Cond.code Lib.objectInit ⟨#[0xb1]⟩ 1 none ∈ gw := ⟨by decide +kernel, by decide +kernel, by decide +kernel⟩
theorem fwRX9_13 : Cond.fieldLink RX9 13 RX9 (TX9 1).2.1 (TX9 1).2.2.1 ∈ gw := by decide +kernel
theorem fwRX9_16 : Cond.fieldLink RX9 16 RX9 (TX9 2).2.1 (TX9 2).2.2.1 ∈ gw := by decide +kernel
theorem fwRX9_19 : Cond.fieldLink RX9 19 RX9 (TX9 3).2.1 (TX9 3).2.2.1 ∈ gw := by decide +kernel
theorem fwRX9_22 : Cond.fieldLink RX9 22 RX9 (TX9 5).2.1 (TX9 5).2.2.1 ∈ gw := by decide +kernel
theorem fwRX9_25 : Cond.fieldLink RX9 25 RX9 (TX9 7).2.1 (TX9 7).2.2.1 ∈ gw := by decide +kernel
theorem fwRX9_28 : Cond.fieldLink RX9 28 RX9 (TX9 11).2.1 (TX9 11).2.2.1 ∈ gw := by decide +kernel
theorem fwRX9_31 : Cond.fieldLink RX9 31 RX9 (TX9 12).2.1 (TX9 12).2.2.1 ∈ gw := by decide +kernel
theorem fwRX9_34 : Cond.fieldLink RX9 34 RX9 (TX9 15).2.1 (TX9 15).2.2.1 ∈ gw := by decide +kernel
theorem fwRX9_37 : Cond.fieldLink RX9 37 RX9 (TX9 17).2.1 (TX9 17).2.2.1 ∈ gw := by decide +kernel
theorem fwRX9_40 : Cond.fieldLink RX9 40 RX9 (TX9 20).2.1 (TX9 20).2.2.1 ∈ gw := by decide +kernel
theorem fwRX9_43 : Cond.fieldLink RX9 43 RX9 (TX9 22).2.1 (TX9 22).2.2.1 ∈ gw := by decide +kernel
theorem kcRX9_46 : okV RX9 46 yX9_begins (.code yX9_begins cX9_begins 3 none) = true := by decide +kernel
theorem oyX9_begins : okY yX9_begins 1 := ⟨by decide +kernel, by decide +kernel, by decide +kernel⟩
abbrev rmX9_init : Room := { frames := 2, cells := 12, slots := 2899, locals := 44 }
theorem dX9_init_0 : decode cX9_init 0 = .ok (.aload_n 0, 1) := by decide +kernel
theorem dX9_init_1 : decode cX9_init 1 = .ok (.invokespecial 1, 3) := by decide +kernel
theorem dX9_init_4 : decode cX9_init 4 = .ok (.aload_n 0, 1) := by decide +kernel
theorem dX9_init_5 : decode cX9_init 5 = .ok (.bipush 121, 2) := by decide +kernel
theorem dX9_init_7 : decode cX9_init 7 = .ok (.newarray .int, 2) := by decide +kernel
theorem dX9_init_9 : decode cX9_init 9 = .ok (.putfield 7, 3) := by decide +kernel
theorem dX9_init_12 : decode cX9_init 12 = .ok (.aload_n 0, 1) := by decide +kernel
theorem dX9_init_13 : decode cX9_init 13 = .ok (.bipush 121, 2) := by decide +kernel
theorem dX9_init_15 : decode cX9_init 15 = .ok (.newarray .int, 2) := by decide +kernel
theorem dX9_init_17 : decode cX9_init 17 = .ok (.putfield 13, 3) := by decide +kernel
theorem dX9_init_20 : decode cX9_init 20 = .ok (.aload_n 0, 1) := by decide +kernel
theorem dX9_init_21 : decode cX9_init 21 = .ok (.bipush 121, 2) := by decide +kernel
theorem dX9_init_23 : decode cX9_init 23 = .ok (.newarray .int, 2) := by decide +kernel
theorem dX9_init_25 : decode cX9_init 25 = .ok (.putfield 16, 3) := by decide +kernel
theorem dX9_init_28 : decode cX9_init 28 = .ok (.aload_n 0, 1) := by decide +kernel
theorem dX9_init_29 : decode cX9_init 29 = .ok (.bipush 121, 2) := by decide +kernel
theorem dX9_init_31 : decode cX9_init 31 = .ok (.newarray .int, 2) := by decide +kernel
theorem dX9_init_33 : decode cX9_init 33 = .ok (.putfield 19, 3) := by decide +kernel
theorem dX9_init_36 : decode cX9_init 36 = .ok (.aload_n 0, 1) := by decide +kernel
theorem dX9_init_37 : decode cX9_init 37 = .ok (.sipush 968, 3) := by decide +kernel
theorem dX9_init_40 : decode cX9_init 40 = .ok (.newarray .int, 2) := by decide +kernel
theorem dX9_init_42 : decode cX9_init 42 = .ok (.putfield 22, 3) := by decide +kernel
theorem dX9_init_45 : decode cX9_init 45 = .ok (.aload_n 0, 1) := by decide +kernel
theorem dX9_init_46 : decode cX9_init 46 = .ok (.bipush 6, 2) := by decide +kernel
theorem dX9_init_48 : decode cX9_init 48 = .ok (.newarray .int, 2) := by decide +kernel
theorem dX9_init_50 : decode cX9_init 50 = .ok (.putfield 25, 3) := by decide +kernel
theorem dX9_init_53 : decode cX9_init 53 = .ok (.aload_n 0, 1) := by decide +kernel
theorem dX9_init_54 : decode cX9_init 54 = .ok (.bipush 70, 2) := by decide +kernel
theorem dX9_init_56 : decode cX9_init 56 = .ok (.newarray .int, 2) := by decide +kernel
theorem dX9_init_58 : decode cX9_init 58 = .ok (.putfield 28, 3) := by decide +kernel
theorem dX9_init_61 : decode cX9_init 61 = .ok (.aload_n 0, 1) := by decide +kernel
theorem dX9_init_62 : decode cX9_init 62 = .ok (.bipush 70, 2) := by decide +kernel
theorem dX9_init_64 : decode cX9_init 64 = .ok (.newarray .int, 2) := by decide +kernel
theorem dX9_init_66 : decode cX9_init 66 = .ok (.putfield 31, 3) := by decide +kernel
theorem dX9_init_69 : decode cX9_init 69 = .ok (.aload_n 0, 1) := by decide +kernel
theorem dX9_init_70 : decode cX9_init 70 = .ok (.sipush 900, 3) := by decide +kernel
theorem dX9_init_73 : decode cX9_init 73 = .ok (.newarray .int, 2) := by decide +kernel
theorem dX9_init_75 : decode cX9_init 75 = .ok (.putfield 34, 3) := by decide +kernel
theorem dX9_init_78 : decode cX9_init 78 = .ok (.aload_n 0, 1) := by decide +kernel
theorem dX9_init_79 : decode cX9_init 79 = .ok (.bipush 80, 2) := by decide +kernel
theorem dX9_init_81 : decode cX9_init 81 = .ok (.newarray .int, 2) := by decide +kernel
theorem dX9_init_83 : decode cX9_init 83 = .ok (.putfield 37, 3) := by decide +kernel
theorem dX9_init_86 : decode cX9_init 86 = .ok (.aload_n 0, 1) := by decide +kernel
theorem dX9_init_87 : decode cX9_init 87 = .ok (.sipush 200, 3) := by decide +kernel
theorem dX9_init_90 : decode cX9_init 90 = .ok (.newarray .int, 2) := by decide +kernel
theorem dX9_init_92 : decode cX9_init 92 = .ok (.putfield 40, 3) := by decide +kernel
theorem dX9_init_95 : decode cX9_init 95 = .ok (.aload_n 0, 1) := by decide +kernel
theorem dX9_init_96 : decode cX9_init 96 = .ok (.bipush 121, 2) := by decide +kernel
theorem dX9_init_98 : decode cX9_init 98 = .ok (.newarray .int, 2) := by decide +kernel
theorem dX9_init_100 : decode cX9_init 100 = .ok (.putfield 43, 3) := by decide +kernel
theorem dX9_init_103 : decode cX9_init 103 = .ok (.aload_n 0, 1) := by decide +kernel
theorem dX9_init_104 : decode cX9_init 104 = .ok (.iconst 4, 1) := by decide +kernel
theorem dX9_init_105 : decode cX9_init 105 = .ok (.invokevirtual 46, 3) := by decide +kernel
theorem dX9_init_108 : decode cX9_init 108 = .ok (.return_, 1) := by decide +kernel
def fX9_init (N : Nat) (Z : mZ) (a0 : Nat) (M : mM) : Option (Unit × (mZ × mM)) := ck (decide (M.2.2.2 = 0)) (nameZ (zNew Z 20 121) (mNew M (Z.1)) (fun Z2 M2 => ck (okO Z2 a0 9) (nameZ (sR Z2 a0 0 (Z.1)) M2 (fun Z4 M4 => ck (decide (M4.2.2.2 = 0)) (nameZ (zNew Z4 20 121) (mNew M4 (Z4.1)) (fun Z6 M6 => ck (okO Z6 a0 9) (nameZ (sR Z6 a0 1 (Z4.1)) M6 (fun Z8 M8 => ck (decide (M8.2.2.2 = 0)) (nameZ (zNew Z8 20 121) (mNew M8 (Z8.1)) (fun Z10 M10 => ck (okO Z10 a0 9) (nameZ (sR Z10 a0 2 (Z8.1)) M10 (fun Z12 M12 => ck (decide (M12.2.2.2 = 0)) (nameZ (zNew Z12 20 121) (mNew M12 (Z12.1)) (fun Z14 M14 => ck (okO Z14 a0 9) (nameZ (sR Z14 a0 3 (Z12.1)) M14 (fun Z16 M16 => ck (decide (M16.2.2.2 = 0)) (nameZ (zNew Z16 20 968) (mNew M16 (Z16.1)) (fun Z18 M18 => ck (okO Z18 a0 9) (nameZ (sR Z18 a0 5 (Z16.1)) M18 (fun Z20 M20 => ck (decide (M20.2.2.2 = 0)) (nameZ (zNew Z20 20 6) (mNew M20 (Z20.1)) (fun Z22 M22 => ck (okO Z22 a0 9) (nameZ (sR Z22 a0 7 (Z20.1)) M22 (fun Z24 M24 => ck (decide (M24.2.2.2 = 0)) (nameZ (zNew Z24 20 70) (mNew M24 (Z24.1)) (fun Z26 M26 => ck (okO Z26 a0 9) (nameZ (sR Z26 a0 11 (Z24.1)) M26 (fun Z28 M28 => ck (decide (M28.2.2.2 = 0)) (nameZ (zNew Z28 20 70) (mNew M28 (Z28.1)) (fun Z30 M30 => ck (okO Z30 a0 9) (nameZ (sR Z30 a0 12 (Z28.1)) M30 (fun Z32 M32 => ck (decide (M32.2.2.2 = 0)) (nameZ (zNew Z32 20 900) (mNew M32 (Z32.1)) (fun Z34 M34 => ck (okO Z34 a0 9) (nameZ (sR Z34 a0 15 (Z32.1)) M34 (fun Z36 M36 => ck (decide (M36.2.2.2 = 0)) (nameZ (zNew Z36 20 80) (mNew M36 (Z36.1)) (fun Z38 M38 => ck (okO Z38 a0 9) (nameZ (sR Z38 a0 17 (Z36.1)) M38 (fun Z40 M40 => ck (decide (M40.2.2.2 = 0)) (nameZ (zNew Z40 20 200) (mNew M40 (Z40.1)) (fun Z42 M42 => ck (okO Z42 a0 9) (nameZ (sR Z42 a0 20 (Z40.1)) M42 (fun Z44 M44 => ck (decide (M44.2.2.2 = 0)) (nameZ (zNew Z44 20 121) (mNew M44 (Z44.1)) (fun Z46 M46 => ck (okO Z46 a0 9) (nameZ (sR Z46 a0 22 (Z44.1)) M46 (fun Z48 M48 => ck (okO Z48 a0 9) (bnd2 (fX9_begins N Z48 a0 (4 : Int32) M48) (fun _ M50 => some ((), (Z48, M50))))))))))))))))))))))))))))))))))))))))))))))))))))
set_option maxHeartbeats 4000000 in
set_option maxRecDepth 100000 in
theorem ctX9_init {G : mG} {l : Launch} (hl : l.stackTraces = false) (N : Nat) (Z : mZ) {a0 : Nat} {M : mM} {r : Unit} {ZM' : (mZ × mM)} (h : fX9_init N Z a0 M = some (r, ZM')) : CT G l yX9_init (.code yX9_init cX9_init 1 none) rmX9_init [.ref a0] Z M (.inl none) ZM'.1 ZM'.2 := by
  unfold fX9_init at h
  refine CT.of hl (by decide) (Nat.le_of_ble_eq_true rfl) ?_
  intro p e s m args below meth c C hnm
  refine j_sub (L' := [(0, .ref a0)]) [0] rfl ?_
  refine j_aload_n C dX9_init_0 rfl 0 rfl ?_
  refine j_objInit C ojRX9_1 (by decide) (Nat.le_of_ble_eq_true rfl) dX9_init_1 ?_
  refine j_aload_n C dX9_init_4 rfl 0 rfl ?_
  refine j_bipush C dX9_init_5 (v := (121 : Int32)) (by decide) ?_
  obtain ⟨ho1, h⟩ := ck_spec h
  refine j_newa C (ln := 121) (t := 20) (Or.inl ⟨rfl, rfl⟩) aw_20 (by decide) (by decide) (by decide) (of_decide_eq_true ho1) ⟨by decide, by decide⟩ dX9_init_7 ?_
  obtain ⟨Z2, M2, eZ2, eM2, h⟩ := nameZ_spec h
  refine j_nm eZ2 eM2 ?_
  obtain ⟨ho3, h⟩ := ck_spec h
  refine j_putR C hnm tyX9 tyX9_ok nmX9 (T := TX9) (N := 23) (ci := 9) rfl iX9 ho3 0 (by decide) rfl fwRX9_7 (fun _ => ⟨rfl, rfl⟩) dX9_init_9 ?_
  obtain ⟨Z4, M4, eZ4, eM4, h⟩ := nameZ_spec h
  refine j_nm eZ4 eM4 ?_
  refine j_aload_n C dX9_init_12 rfl 0 rfl ?_
  refine j_bipush C dX9_init_13 (v := (121 : Int32)) (by decide) ?_
  obtain ⟨ho5, h⟩ := ck_spec h
  refine j_newa C (ln := 121) (t := 20) (Or.inl ⟨rfl, rfl⟩) aw_20 (by decide) (by decide) (by decide) (of_decide_eq_true ho5) ⟨by decide, by decide⟩ dX9_init_15 ?_
  obtain ⟨Z6, M6, eZ6, eM6, h⟩ := nameZ_spec h
  refine j_nm eZ6 eM6 ?_
  obtain ⟨ho7, h⟩ := ck_spec h
  refine j_putR C hnm tyX9 tyX9_ok nmX9 (T := TX9) (N := 23) (ci := 9) rfl iX9 ho7 1 (by decide) rfl fwRX9_13 (fun _ => ⟨rfl, rfl⟩) dX9_init_17 ?_
  obtain ⟨Z8, M8, eZ8, eM8, h⟩ := nameZ_spec h
  refine j_nm eZ8 eM8 ?_
  refine j_aload_n C dX9_init_20 rfl 0 rfl ?_
  refine j_bipush C dX9_init_21 (v := (121 : Int32)) (by decide) ?_
  obtain ⟨ho9, h⟩ := ck_spec h
  refine j_newa C (ln := 121) (t := 20) (Or.inl ⟨rfl, rfl⟩) aw_20 (by decide) (by decide) (by decide) (of_decide_eq_true ho9) ⟨by decide, by decide⟩ dX9_init_23 ?_
  obtain ⟨Z10, M10, eZ10, eM10, h⟩ := nameZ_spec h
  refine j_nm eZ10 eM10 ?_
  obtain ⟨ho11, h⟩ := ck_spec h
  refine j_putR C hnm tyX9 tyX9_ok nmX9 (T := TX9) (N := 23) (ci := 9) rfl iX9 ho11 2 (by decide) rfl fwRX9_16 (fun _ => ⟨rfl, rfl⟩) dX9_init_25 ?_
  obtain ⟨Z12, M12, eZ12, eM12, h⟩ := nameZ_spec h
  refine j_nm eZ12 eM12 ?_
  refine j_aload_n C dX9_init_28 rfl 0 rfl ?_
  refine j_bipush C dX9_init_29 (v := (121 : Int32)) (by decide) ?_
  obtain ⟨ho13, h⟩ := ck_spec h
  refine j_newa C (ln := 121) (t := 20) (Or.inl ⟨rfl, rfl⟩) aw_20 (by decide) (by decide) (by decide) (of_decide_eq_true ho13) ⟨by decide, by decide⟩ dX9_init_31 ?_
  obtain ⟨Z14, M14, eZ14, eM14, h⟩ := nameZ_spec h
  refine j_nm eZ14 eM14 ?_
  obtain ⟨ho15, h⟩ := ck_spec h
  refine j_putR C hnm tyX9 tyX9_ok nmX9 (T := TX9) (N := 23) (ci := 9) rfl iX9 ho15 3 (by decide) rfl fwRX9_19 (fun _ => ⟨rfl, rfl⟩) dX9_init_33 ?_
  obtain ⟨Z16, M16, eZ16, eM16, h⟩ := nameZ_spec h
  refine j_nm eZ16 eM16 ?_
  refine j_aload_n C dX9_init_36 rfl 0 rfl ?_
  refine j_sipush C dX9_init_37 (v := (968 : Int32)) (by decide) ?_
  obtain ⟨ho17, h⟩ := ck_spec h
  refine j_newa C (ln := 968) (t := 20) (Or.inl ⟨rfl, rfl⟩) aw_20 (by decide) (by decide) (by decide) (of_decide_eq_true ho17) ⟨by decide, by decide⟩ dX9_init_40 ?_
  obtain ⟨Z18, M18, eZ18, eM18, h⟩ := nameZ_spec h
  refine j_nm eZ18 eM18 ?_
  obtain ⟨ho19, h⟩ := ck_spec h
  refine j_putR C hnm tyX9 tyX9_ok nmX9 (T := TX9) (N := 23) (ci := 9) rfl iX9 ho19 5 (by decide) rfl fwRX9_22 (fun _ => ⟨rfl, rfl⟩) dX9_init_42 ?_
  obtain ⟨Z20, M20, eZ20, eM20, h⟩ := nameZ_spec h
  refine j_nm eZ20 eM20 ?_
  refine j_aload_n C dX9_init_45 rfl 0 rfl ?_
  refine j_bipush C dX9_init_46 (v := (6 : Int32)) (by decide) ?_
  obtain ⟨ho21, h⟩ := ck_spec h
  refine j_newa C (ln := 6) (t := 20) (Or.inl ⟨rfl, rfl⟩) aw_20 (by decide) (by decide) (by decide) (of_decide_eq_true ho21) ⟨by decide, by decide⟩ dX9_init_48 ?_
  obtain ⟨Z22, M22, eZ22, eM22, h⟩ := nameZ_spec h
  refine j_nm eZ22 eM22 ?_
  obtain ⟨ho23, h⟩ := ck_spec h
  refine j_putR C hnm tyX9 tyX9_ok nmX9 (T := TX9) (N := 23) (ci := 9) rfl iX9 ho23 7 (by decide) rfl fwRX9_25 (fun _ => ⟨rfl, rfl⟩) dX9_init_50 ?_
  obtain ⟨Z24, M24, eZ24, eM24, h⟩ := nameZ_spec h
  refine j_nm eZ24 eM24 ?_
  refine j_aload_n C dX9_init_53 rfl 0 rfl ?_
  refine j_bipush C dX9_init_54 (v := (70 : Int32)) (by decide) ?_
  obtain ⟨ho25, h⟩ := ck_spec h
  refine j_newa C (ln := 70) (t := 20) (Or.inl ⟨rfl, rfl⟩) aw_20 (by decide) (by decide) (by decide) (of_decide_eq_true ho25) ⟨by decide, by decide⟩ dX9_init_56 ?_
  obtain ⟨Z26, M26, eZ26, eM26, h⟩ := nameZ_spec h
  refine j_nm eZ26 eM26 ?_
  obtain ⟨ho27, h⟩ := ck_spec h
  refine j_putR C hnm tyX9 tyX9_ok nmX9 (T := TX9) (N := 23) (ci := 9) rfl iX9 ho27 11 (by decide) rfl fwRX9_28 (fun _ => ⟨rfl, rfl⟩) dX9_init_58 ?_
  obtain ⟨Z28, M28, eZ28, eM28, h⟩ := nameZ_spec h
  refine j_nm eZ28 eM28 ?_
  refine j_aload_n C dX9_init_61 rfl 0 rfl ?_
  refine j_bipush C dX9_init_62 (v := (70 : Int32)) (by decide) ?_
  obtain ⟨ho29, h⟩ := ck_spec h
  refine j_newa C (ln := 70) (t := 20) (Or.inl ⟨rfl, rfl⟩) aw_20 (by decide) (by decide) (by decide) (of_decide_eq_true ho29) ⟨by decide, by decide⟩ dX9_init_64 ?_
  obtain ⟨Z30, M30, eZ30, eM30, h⟩ := nameZ_spec h
  refine j_nm eZ30 eM30 ?_
  obtain ⟨ho31, h⟩ := ck_spec h
  refine j_putR C hnm tyX9 tyX9_ok nmX9 (T := TX9) (N := 23) (ci := 9) rfl iX9 ho31 12 (by decide) rfl fwRX9_31 (fun _ => ⟨rfl, rfl⟩) dX9_init_66 ?_
  obtain ⟨Z32, M32, eZ32, eM32, h⟩ := nameZ_spec h
  refine j_nm eZ32 eM32 ?_
  refine j_aload_n C dX9_init_69 rfl 0 rfl ?_
  refine j_sipush C dX9_init_70 (v := (900 : Int32)) (by decide) ?_
  obtain ⟨ho33, h⟩ := ck_spec h
  refine j_newa C (ln := 900) (t := 20) (Or.inl ⟨rfl, rfl⟩) aw_20 (by decide) (by decide) (by decide) (of_decide_eq_true ho33) ⟨by decide, by decide⟩ dX9_init_73 ?_
  obtain ⟨Z34, M34, eZ34, eM34, h⟩ := nameZ_spec h
  refine j_nm eZ34 eM34 ?_
  obtain ⟨ho35, h⟩ := ck_spec h
  refine j_putR C hnm tyX9 tyX9_ok nmX9 (T := TX9) (N := 23) (ci := 9) rfl iX9 ho35 15 (by decide) rfl fwRX9_34 (fun _ => ⟨rfl, rfl⟩) dX9_init_75 ?_
  obtain ⟨Z36, M36, eZ36, eM36, h⟩ := nameZ_spec h
  refine j_nm eZ36 eM36 ?_
  refine j_aload_n C dX9_init_78 rfl 0 rfl ?_
  refine j_bipush C dX9_init_79 (v := (80 : Int32)) (by decide) ?_
  obtain ⟨ho37, h⟩ := ck_spec h
  refine j_newa C (ln := 80) (t := 20) (Or.inl ⟨rfl, rfl⟩) aw_20 (by decide) (by decide) (by decide) (of_decide_eq_true ho37) ⟨by decide, by decide⟩ dX9_init_81 ?_
  obtain ⟨Z38, M38, eZ38, eM38, h⟩ := nameZ_spec h
  refine j_nm eZ38 eM38 ?_
  obtain ⟨ho39, h⟩ := ck_spec h
  refine j_putR C hnm tyX9 tyX9_ok nmX9 (T := TX9) (N := 23) (ci := 9) rfl iX9 ho39 17 (by decide) rfl fwRX9_37 (fun _ => ⟨rfl, rfl⟩) dX9_init_83 ?_
  obtain ⟨Z40, M40, eZ40, eM40, h⟩ := nameZ_spec h
  refine j_nm eZ40 eM40 ?_
  refine j_aload_n C dX9_init_86 rfl 0 rfl ?_
  refine j_sipush C dX9_init_87 (v := (200 : Int32)) (by decide) ?_
  obtain ⟨ho41, h⟩ := ck_spec h
  refine j_newa C (ln := 200) (t := 20) (Or.inl ⟨rfl, rfl⟩) aw_20 (by decide) (by decide) (by decide) (of_decide_eq_true ho41) ⟨by decide, by decide⟩ dX9_init_90 ?_
  obtain ⟨Z42, M42, eZ42, eM42, h⟩ := nameZ_spec h
  refine j_nm eZ42 eM42 ?_
  obtain ⟨ho43, h⟩ := ck_spec h
  refine j_putR C hnm tyX9 tyX9_ok nmX9 (T := TX9) (N := 23) (ci := 9) rfl iX9 ho43 20 (by decide) rfl fwRX9_40 (fun _ => ⟨rfl, rfl⟩) dX9_init_92 ?_
  obtain ⟨Z44, M44, eZ44, eM44, h⟩ := nameZ_spec h
  refine j_nm eZ44 eM44 ?_
  refine j_aload_n C dX9_init_95 rfl 0 rfl ?_
  refine j_bipush C dX9_init_96 (v := (121 : Int32)) (by decide) ?_
  obtain ⟨ho45, h⟩ := ck_spec h
  refine j_newa C (ln := 121) (t := 20) (Or.inl ⟨rfl, rfl⟩) aw_20 (by decide) (by decide) (by decide) (of_decide_eq_true ho45) ⟨by decide, by decide⟩ dX9_init_98 ?_
  obtain ⟨Z46, M46, eZ46, eM46, h⟩ := nameZ_spec h
  refine j_nm eZ46 eM46 ?_
  obtain ⟨ho47, h⟩ := ck_spec h
  refine j_putR C hnm tyX9 tyX9_ok nmX9 (T := TX9) (N := 23) (ci := 9) rfl iX9 ho47 22 (by decide) rfl fwRX9_43 (fun _ => ⟨rfl, rfl⟩) dX9_init_100 ?_
  obtain ⟨Z48, M48, eZ48, eM48, h⟩ := nameZ_spec h
  refine j_nm eZ48 eM48 ?_
  refine j_aload_n C dX9_init_103 rfl 0 rfl ?_
  refine j_iconst C dX9_init_104 (v := (4 : Int32)) (by decide) ?_
  obtain ⟨ho49, h⟩ := ck_spec h
  obtain ⟨_, M50, hq50, h⟩ := bnd2_spec h
  refine j_run0 (c_V C (As := [.int (4 : Int32)]) (rest := []) (ctX9_begins C.2.2.2.2.2.2.2.2.1 N Z48 hq50) kcRX9_46 oyX9_begins (ci := 9) (T := TX9) (N := 23) rfl (by decide) ho49 ⟨by decide, by decide⟩ ⟨by decide, by decide⟩ (Nat.le_of_ble_eq_true rfl) rfl dX9_init_105) ?_
  cases h
  exact j_vret C rfl (by decide) (by decide) dX9_init_108
-- ScaffoldPlannerModel thrown
theorem fwRX9_50 : Cond.fieldLink RX9 50 RX9 (TX9 9).2.1 (TX9 9).2.2.1 ∈ gw := by decide +kernel
abbrev rmX9_thrown : Room := { frames := 0, cells := 0, slots := 0, locals := 0 }
theorem dX9_thrown_0 : decode cX9_thrown 0 = .ok (.aload_n 0, 1) := by decide +kernel
theorem dX9_thrown_1 : decode cX9_thrown 1 = .ok (.getfield 50, 3) := by decide +kernel
theorem dX9_thrown_4 : decode cX9_thrown 4 = .ok (.ireturn, 1) := by decide +kernel
def fX9_thrown (N : Nat) (Z : mZ) (a0 : Nat) (M : mM) : Option (Int32 × mM) := ck (okO Z a0 9) (some ((M.1 a0 9), M))
set_option maxHeartbeats 4000000 in
set_option maxRecDepth 100000 in
theorem ctX9_thrown {G : mG} {l : Launch} (hl : l.stackTraces = false) (N : Nat) (Z : mZ) {a0 : Nat} {M : mM} {r : Int32} {M' : mM} (h : fX9_thrown N Z a0 M = some (r, M')) : CT G l yX9_thrown (.code yX9_thrown cX9_thrown 1 (some .int)) rmX9_thrown [.ref a0] Z M (.inl (some (.int r))) Z M' := by
  unfold fX9_thrown at h
  refine CT.of hl (by decide) (Nat.le_of_ble_eq_true rfl) ?_
  intro p e s m args below meth c C hnm
  refine j_sub (L' := [(0, .ref a0)]) [0] rfl ?_
  refine j_aload_n C dX9_thrown_0 rfl 0 rfl ?_
  obtain ⟨ho1, h⟩ := ck_spec h
  refine j_getI C (cn := RX9) (T := TX9) (N := 23) (ci := 9) rfl iX9 ho1 9 (by decide) rfl fwRX9_50 dX9_thrown_1 ?_
  cases h
  exact j_iret C rfl (by decide) (by decide) dX9_thrown_4
-- ScaffoldPlannerModel fails
abbrev rmX9_fails : Room := { frames := 0, cells := 0, slots := 0, locals := 0 }
theorem dX9_fails_0 : decode cX9_fails 0 = .ok (.aload_n 0, 1) := by decide +kernel
theorem dX9_fails_1 : decode cX9_fails 1 = .ok (.iload_n 1, 1) := by decide +kernel
theorem dX9_fails_2 : decode cX9_fails 2 = .ok (.putfield 50, 3) := by decide +kernel
theorem dX9_fails_5 : decode cX9_fails 5 = .ok (.iconst 0, 1) := by decide +kernel
theorem dX9_fails_6 : decode cX9_fails 6 = .ok (.ireturn, 1) := by decide +kernel
def fX9_fails (N : Nat) (Z : mZ) (a0 : Nat) (a1 : Int32) (M : mM) : Option (Int32 × mM) := ck (okO Z a0 9) (some ((0 : Int32), (sI M a0 9 a1)))
set_option maxHeartbeats 4000000 in
set_option maxRecDepth 100000 in
theorem ctX9_fails {G : mG} {l : Launch} (hl : l.stackTraces = false) (N : Nat) (Z : mZ) {a0 : Nat} {a1 : Int32} {M : mM} {r : Int32} {M' : mM} (h : fX9_fails N Z a0 a1 M = some (r, M')) : CT G l yX9_fails (.code yX9_fails cX9_fails 2 (some .int)) rmX9_fails [.ref a0, .int a1] Z M (.inl (some (.int r))) Z M' := by
  unfold fX9_fails at h
  refine CT.of hl (by decide) (Nat.le_of_ble_eq_true rfl) ?_
  intro p e s m args below meth c C hnm
  refine j_sub (L' := [(0, .ref a0), (1, .int a1)]) [0, 1] rfl ?_
  refine j_aload_n C dX9_fails_0 rfl 0 rfl ?_
  refine j_iload_n C dX9_fails_1 rfl 1 rfl ?_
  obtain ⟨ho1, h⟩ := ck_spec h
  refine j_putI C tyX9 tyX9_ok nmX9 (cn := RX9) (T := TX9) (N := 23) (ci := 9) rfl iX9 ho1 9 (by decide) rfl fwRX9_50 ⟨rfl, rfl⟩ dX9_fails_2 ?_
  refine j_iconst C dX9_fails_5 (v := (0 : Int32)) (by decide) ?_
  cases h
  exact j_iret C rfl (by decide) (by decide) dX9_fails_6
-- ScaffoldPlannerModel isPlace
abbrev rmX9_isPlace : Room := { frames := 1, cells := 0, slots := 0, locals := 22 }
theorem dX9_isPlace_0 : decode cX9_isPlace 0 = .ok (.iload_n 1, 1) := by decide +kernel
theorem dX9_isPlace_1 : decode cX9_isPlace 1 = .ok (.iconst 0, 1) := by decide +kernel
theorem dX9_isPlace_2 : decode cX9_isPlace 2 = .ok (.aload_n 0, 1) := by decide +kernel
theorem dX9_isPlace_3 : decode cX9_isPlace 3 = .ok (.getfield 7, 3) := by decide +kernel
theorem dX9_isPlace_6 : decode cX9_isPlace 6 = .ok (.iconst 0, 1) := by decide +kernel
theorem dX9_isPlace_7 : decode cX9_isPlace 7 = .ok (.iaload, 1) := by decide +kernel
theorem dX9_isPlace_8 : decode cX9_isPlace 8 = .ok (.iconst 1, 1) := by decide +kernel
theorem dX9_isPlace_9 : decode cX9_isPlace 9 = .ok (.isub, 1) := by decide +kernel
theorem dX9_isPlace_10 : decode cX9_isPlace 10 = .ok (.invokestatic 54, 3) := by decide +kernel
theorem dX9_isPlace_13 : decode cX9_isPlace 13 = .ok (.ireturn, 1) := by decide +kernel
def fX9_isPlace (N : Nat) (Z : mZ) (a0 : Nat) (a1 : Int32) (M : mM) : Option (Int32 × mM) := ck (okO Z a0 9) (bnd1 (Z.2.2.2 a0 0) (fun c2 => ck (okI Z c2) (ck (inB (0 : Int32) (Z.2.2.1 c2)) (bnd2 (fX9_in N Z a1 (0 : Int32) ((M.1 c2 ((0 : Int32)).toNatClampNeg) - (1 : Int32)) M) (fun r5 M5 => ck (isB r5) (some (r5, M5)))))))
set_option maxHeartbeats 4000000 in
set_option maxRecDepth 100000 in
theorem ctX9_isPlace {G : mG} {l : Launch} (hl : l.stackTraces = false) (N : Nat) (Z : mZ) {a0 : Nat} {a1 : Int32} {M : mM} {r : Int32} {M' : mM} (h : fX9_isPlace N Z a0 a1 M = some (r, M')) : CT G l yX9_isPlace (.code yX9_isPlace cX9_isPlace 2 (some .boolean)) rmX9_isPlace [.ref a0, .int a1] Z M (.inl (some (.int r))) Z M' := by
  unfold fX9_isPlace at h
  refine CT.of hl (by decide) (Nat.le_of_ble_eq_true rfl) ?_
  intro p e s m args below meth c C hnm
  refine j_sub (L' := [(0, .ref a0), (1, .int a1)]) [0, 1] rfl ?_
  refine j_iload_n C dX9_isPlace_0 rfl 1 rfl ?_
  refine j_iconst C dX9_isPlace_1 (v := (0 : Int32)) (by decide) ?_
  refine j_aload_n C dX9_isPlace_2 rfl 0 rfl ?_
  obtain ⟨ho1, h⟩ := ck_spec h
  obtain ⟨c2, hr2, h⟩ := bnd1_spec h
  refine j_getR C (cn := RX9) (T := TX9) (N := 23) (ci := 9) rfl iX9 ho1 0 (by decide) rfl fwRX9_7 dX9_isPlace_3 hr2 ?_
  refine j_iconst C dX9_isPlace_6 (v := (0 : Int32)) (by decide) ?_
  obtain ⟨ho3, h⟩ := ck_spec h
  obtain ⟨ho4, h⟩ := ck_spec h
  refine j_iald C ho3 ho4 dX9_isPlace_7 ?_
  refine j_iconst C dX9_isPlace_8 (v := (1 : Int32)) (by decide) ?_
  refine j_isub C dX9_isPlace_9 ?_
  obtain ⟨r5, M5, hq5, h⟩ := bnd2_spec h
  refine j_run1 (c_S C (As := [.int a1, .int (0 : Int32), .int ((M.1 c2 ((0 : Int32)).toNatClampNeg) - (1 : Int32))]) (rest := []) (ctX9_in C.2.2.2.2.2.2.2.2.1 N Z hq5) kcRX9_54 oyX9_in ⟨by decide, by decide⟩ ⟨by decide, by decide⟩ (Nat.le_of_ble_eq_true rfl) rfl dX9_isPlace_10) ?_
  obtain ⟨ho6, h⟩ := ck_spec h
  cases h
  exact j_zret C rfl (isB_spec ho6) (by decide) (by decide) dX9_isPlace_13
-- ScaffoldPlannerModel copies
abbrev rmX9_copies : Room := { frames := 0, cells := 0, slots := 0, locals := 0 }
theorem dX9_copies_0 : decode cX9_copies 0 = .ok (.iconst 0, 1) := by decide +kernel
theorem dX9_copies_1 : decode cX9_copies 1 = .ok (.istore_n 2, 1) := by decide +kernel
theorem dX9_copies_2 : decode cX9_copies 2 = .ok (.iload_n 2, 1) := by decide +kernel
theorem dX9_copies_3 : decode cX9_copies 3 = .ok (.bipush 121, 2) := by decide +kernel
theorem dX9_copies_5 : decode cX9_copies 5 = .ok (.if_icmp .ge 15, 3) := by decide +kernel
theorem dX9_copies_8 : decode cX9_copies 8 = .ok (.aload_n 1, 1) := by decide +kernel
theorem dX9_copies_9 : decode cX9_copies 9 = .ok (.iload_n 2, 1) := by decide +kernel
theorem dX9_copies_10 : decode cX9_copies 10 = .ok (.aload_n 0, 1) := by decide +kernel
theorem dX9_copies_11 : decode cX9_copies 11 = .ok (.iload_n 2, 1) := by decide +kernel
theorem dX9_copies_12 : decode cX9_copies 12 = .ok (.iaload, 1) := by decide +kernel
theorem dX9_copies_13 : decode cX9_copies 13 = .ok (.iastore, 1) := by decide +kernel
theorem dX9_copies_14 : decode cX9_copies 14 = .ok (.iinc 2 1, 3) := by decide +kernel
theorem dX9_copies_17 : decode cX9_copies 17 = .ok (.goto (-15), 3) := by decide +kernel
theorem dX9_copies_20 : decode cX9_copies 20 = .ok (.return_, 1) := by decide +kernel
def fX9_copies_2 (N : Nat) (Z : mZ) : Nat → Nat → Nat → Int32 → mM → Option (Unit × mM)
  | 0, _, _, _, _ => none
  | fu + 1, v0, v1, v2, M => if (121 : Int32) ≤ v2 then some ((), M) else ck (okI Z v0) (ck (inB v2 (Z.2.2.1 v0)) (ck (okO Z v1 20) (ck (inB v2 (Z.2.2.1 v1)) (fX9_copies_2 N Z fu v0 v1 (v2 + (1 : Int32)) (sI M v1 (v2).toNatClampNeg (M.1 v0 (v2).toNatClampNeg))))))
set_option maxHeartbeats 4000000 in
set_option maxRecDepth 100000 in
theorem tX9_copies_2 {G : mG} {p : Program} {l : Launch} {e : Env} {s : State} {m : MethodId} {args : Array Value} {below : List Frame} {meth : Method} {c : Code} (C : Cx G p l s m args meth c RX9 cX9_copies 3 none []) (hnm : meth.name = yX9_copies.name) (N : Nat) (Z : mZ) : ∀ (fu : Nat) (v0 : Nat) (v1 : Nat) (v2 : Int32) (M : mM) (r : Unit) (M' : mM), fX9_copies_2 N Z fu v0 v1 v2 M = some (r, M') → JJ G p l e rmX9_copies s m args below meth c 3 (mEnd G below args s rmX9_copies (.inl none) Z M') 0 0 2 [(0, .ref v0), (1, .ref v1), (2, .int v2)] [] Z M := by
  intro fu
  induction fu with
  | zero =>
    intro v0 v1 v2 M r M' h
    cases h
  | succ fu ih =>
    intro v0 v1 v2 M r M' h
    rw [fX9_copies_2] at h
    refine j_iload_n C dX9_copies_2 rfl 2 rfl ?_
    refine j_bipush C dX9_copies_3 (v := (121 : Int32)) (by decide) ?_
    refine j_icmp_ge C dX9_copies_5 (tgt := 20) (by decide) (fun hc1 => ?_) (fun hc1 => ?_)
    · rw [if_pos hc1] at h
      cases h
      exact j_vret C rfl (by decide) (by decide) dX9_copies_20
    · rw [if_neg hc1] at h
      refine j_aload_n C dX9_copies_8 rfl 1 rfl ?_
      refine j_iload_n C dX9_copies_9 rfl 2 rfl ?_
      refine j_aload_n C dX9_copies_10 rfl 0 rfl ?_
      refine j_iload_n C dX9_copies_11 rfl 2 rfl ?_
      obtain ⟨ho2, h⟩ := ck_spec h
      obtain ⟨ho3, h⟩ := ck_spec h
      refine j_iald C ho2 ho3 dX9_copies_12 ?_
      obtain ⟨ho4, h⟩ := ck_spec h
      obtain ⟨ho5, h⟩ := ck_spec h
      refine j_iast C ho4 ho5 dX9_copies_13 ?_
      refine j_iinc C dX9_copies_14 2 rfl (v := (v2 + (1 : Int32))) (by first | rfl | decide) (by decide) (L' := [(2, .int (v2 + (1 : Int32))), (0, .ref v0), (1, .ref v1)]) rfl ?_
      refine j_goto C dX9_copies_17 (tgt := 2) (by decide) ?_
      refine j_sub (L' := [(0, .ref v0), (1, .ref v1), (2, .int (v2 + (1 : Int32)))]) [1, 2, 0] rfl ?_
      exact ih v0 v1 (v2 + (1 : Int32)) (sI M v1 (v2).toNatClampNeg (M.1 v0 (v2).toNatClampNeg)) r M' h
def fX9_copies (N : Nat) (Z : mZ) (a0 : Nat) (a1 : Nat) (M : mM) : Option (Unit × mM) := fX9_copies_2 N Z N a0 a1 (0 : Int32) M
set_option maxHeartbeats 4000000 in
set_option maxRecDepth 100000 in
theorem ctX9_copies {G : mG} {l : Launch} (hl : l.stackTraces = false) (N : Nat) (Z : mZ) {a0 : Nat} {a1 : Nat} {M : mM} {r : Unit} {M' : mM} (h : fX9_copies N Z a0 a1 M = some (r, M')) : CT G l yX9_copies (.code yX9_copies cX9_copies 3 none) rmX9_copies [.ref a0, .ref a1] Z M (.inl none) Z M' := by
  unfold fX9_copies at h
  refine CT.of hl (by decide) (Nat.le_of_ble_eq_true rfl) ?_
  intro p e s m args below meth c C hnm
  refine j_sub (L' := [(0, .ref a0), (1, .ref a1)]) [0, 1] rfl ?_
  refine j_iconst C dX9_copies_0 (v := (0 : Int32)) (by decide) ?_
  refine j_istore_n C dX9_copies_1 rfl (by decide) (L' := [(2, .int (0 : Int32)), (0, .ref a0), (1, .ref a1)]) rfl ?_
  refine j_sub (L' := [(0, .ref a0), (1, .ref a1), (2, .int (0 : Int32))]) [1, 2, 0] rfl ?_
  exact tX9_copies_2 C hnm N Z N a0 a1 (0 : Int32) M _ _ h
-- ScaffoldPlannerModel changes
abbrev rmX9_changes : Room := { frames := 0, cells := 0, slots := 0, locals := 0 }
theorem dX9_changes_0 : decode cX9_changes 0 = .ok (.aload_n 0, 1) := by decide +kernel
theorem dX9_changes_1 : decode cX9_changes 1 = .ok (.getfield 58, 3) := by decide +kernel
theorem dX9_changes_4 : decode cX9_changes 4 = .ok (.bipush 8, 2) := by decide +kernel
theorem dX9_changes_6 : decode cX9_changes 6 = .ok (.if_icmp .ne 43, 3) := by decide +kernel
theorem dX9_changes_9 : decode cX9_changes 9 = .ok (.iconst 0, 1) := by decide +kernel
theorem dX9_changes_10 : decode cX9_changes 10 = .ok (.istore_n 2, 1) := by decide +kernel
theorem dX9_changes_11 : decode cX9_changes 11 = .ok (.iload_n 2, 1) := by decide +kernel
theorem dX9_changes_12 : decode cX9_changes 12 = .ok (.sipush 847, 3) := by decide +kernel
theorem dX9_changes_15 : decode cX9_changes 15 = .ok (.if_icmp .ge 24, 3) := by decide +kernel
theorem dX9_changes_18 : decode cX9_changes 18 = .ok (.aload_n 0, 1) := by decide +kernel
theorem dX9_changes_19 : decode cX9_changes 19 = .ok (.getfield 22, 3) := by decide +kernel
theorem dX9_changes_22 : decode cX9_changes 22 = .ok (.iload_n 2, 1) := by decide +kernel
theorem dX9_changes_23 : decode cX9_changes 23 = .ok (.aload_n 0, 1) := by decide +kernel
theorem dX9_changes_24 : decode cX9_changes 24 = .ok (.getfield 22, 3) := by decide +kernel
theorem dX9_changes_27 : decode cX9_changes 27 = .ok (.iload_n 2, 1) := by decide +kernel
theorem dX9_changes_28 : decode cX9_changes 28 = .ok (.bipush 121, 2) := by decide +kernel
theorem dX9_changes_30 : decode cX9_changes 30 = .ok (.iadd, 1) := by decide +kernel
theorem dX9_changes_31 : decode cX9_changes 31 = .ok (.iaload, 1) := by decide +kernel
theorem dX9_changes_32 : decode cX9_changes 32 = .ok (.iastore, 1) := by decide +kernel
theorem dX9_changes_33 : decode cX9_changes 33 = .ok (.iinc 2 1, 3) := by decide +kernel
theorem dX9_changes_36 : decode cX9_changes 36 = .ok (.goto (-25), 3) := by decide +kernel
theorem dX9_changes_39 : decode cX9_changes 39 = .ok (.aload_n 0, 1) := by decide +kernel
theorem dX9_changes_40 : decode cX9_changes 40 = .ok (.dup, 1) := by decide +kernel
theorem dX9_changes_41 : decode cX9_changes 41 = .ok (.getfield 58, 3) := by decide +kernel
theorem dX9_changes_44 : decode cX9_changes 44 = .ok (.iconst 1, 1) := by decide +kernel
theorem dX9_changes_45 : decode cX9_changes 45 = .ok (.isub, 1) := by decide +kernel
theorem dX9_changes_46 : decode cX9_changes 46 = .ok (.putfield 58, 3) := by decide +kernel
theorem dX9_changes_49 : decode cX9_changes 49 = .ok (.iconst 0, 1) := by decide +kernel
theorem dX9_changes_50 : decode cX9_changes 50 = .ok (.istore_n 2, 1) := by decide +kernel
theorem dX9_changes_51 : decode cX9_changes 51 = .ok (.iload_n 2, 1) := by decide +kernel
theorem dX9_changes_52 : decode cX9_changes 52 = .ok (.bipush 121, 2) := by decide +kernel
theorem dX9_changes_54 : decode cX9_changes 54 = .ok (.if_icmp .ge 26, 3) := by decide +kernel
theorem dX9_changes_57 : decode cX9_changes 57 = .ok (.aload_n 0, 1) := by decide +kernel
theorem dX9_changes_58 : decode cX9_changes 58 = .ok (.getfield 22, 3) := by decide +kernel
theorem dX9_changes_61 : decode cX9_changes 61 = .ok (.bipush 121, 2) := by decide +kernel
theorem dX9_changes_63 : decode cX9_changes 63 = .ok (.aload_n 0, 1) := by decide +kernel
theorem dX9_changes_64 : decode cX9_changes 64 = .ok (.getfield 58, 3) := by decide +kernel
theorem dX9_changes_67 : decode cX9_changes 67 = .ok (.imul, 1) := by decide +kernel
theorem dX9_changes_68 : decode cX9_changes 68 = .ok (.iload_n 2, 1) := by decide +kernel
theorem dX9_changes_69 : decode cX9_changes 69 = .ok (.iadd, 1) := by decide +kernel
theorem dX9_changes_70 : decode cX9_changes 70 = .ok (.aload_n 1, 1) := by decide +kernel
theorem dX9_changes_71 : decode cX9_changes 71 = .ok (.iload_n 2, 1) := by decide +kernel
theorem dX9_changes_72 : decode cX9_changes 72 = .ok (.iaload, 1) := by decide +kernel
theorem dX9_changes_73 : decode cX9_changes 73 = .ok (.iastore, 1) := by decide +kernel
theorem dX9_changes_74 : decode cX9_changes 74 = .ok (.iinc 2 1, 3) := by decide +kernel
theorem dX9_changes_77 : decode cX9_changes 77 = .ok (.goto (-26), 3) := by decide +kernel
theorem dX9_changes_80 : decode cX9_changes 80 = .ok (.aload_n 0, 1) := by decide +kernel
theorem dX9_changes_81 : decode cX9_changes 81 = .ok (.dup, 1) := by decide +kernel
theorem dX9_changes_82 : decode cX9_changes 82 = .ok (.getfield 58, 3) := by decide +kernel
theorem dX9_changes_85 : decode cX9_changes 85 = .ok (.iconst 1, 1) := by decide +kernel
theorem dX9_changes_86 : decode cX9_changes 86 = .ok (.iadd, 1) := by decide +kernel
theorem dX9_changes_87 : decode cX9_changes 87 = .ok (.putfield 58, 3) := by decide +kernel
theorem dX9_changes_90 : decode cX9_changes 90 = .ok (.return_, 1) := by decide +kernel
def fX9_changes_51 (N : Nat) (Z : mZ) : Nat → Nat → Nat → Int32 → mM → Option (Unit × mM)
  | 0, _, _, _, _ => none
  | fu + 1, v0, v1, v2, M => if (121 : Int32) ≤ v2 then ck (okO Z v0 9) (some ((), (sI M v0 6 ((M.1 v0 6) + (1 : Int32))))) else ck (okO Z v0 9) (bnd1 (Z.2.2.2 v0 5) (fun c8 => ck (okI Z v1) (ck (inB v2 (Z.2.2.1 v1)) (ck (okO Z c8 20) (ck (inB (((121 : Int32) * (M.1 v0 6)) + v2) (Z.2.2.1 c8)) (fX9_changes_51 N Z fu v0 v1 (v2 + (1 : Int32)) (sI M c8 ((((121 : Int32) * (M.1 v0 6)) + v2)).toNatClampNeg (M.1 v1 (v2).toNatClampNeg))))))))
set_option maxHeartbeats 4000000 in
set_option maxRecDepth 100000 in
theorem tX9_changes_51 {G : mG} {p : Program} {l : Launch} {e : Env} {s : State} {m : MethodId} {args : Array Value} {below : List Frame} {meth : Method} {c : Code} (C : Cx G p l s m args meth c RX9 cX9_changes 3 none []) (hnm : meth.name = yX9_changes.name) (N : Nat) (Z : mZ) : ∀ (fu : Nat) (v0 : Nat) (v1 : Nat) (v2 : Int32) (M : mM) (r : Unit) (M' : mM), fX9_changes_51 N Z fu v0 v1 v2 M = some (r, M') → JJ G p l e rmX9_changes s m args below meth c 3 (mEnd G below args s rmX9_changes (.inl none) Z M') 0 0 51 [(0, .ref v0), (1, .ref v1), (2, .int v2)] [] Z M := by
  intro fu
  induction fu with
  | zero =>
    intro v0 v1 v2 M r M' h
    cases h
  | succ fu ih =>
    intro v0 v1 v2 M r M' h
    rw [fX9_changes_51] at h
    refine j_iload_n C dX9_changes_51 rfl 2 rfl ?_
    refine j_bipush C dX9_changes_52 (v := (121 : Int32)) (by decide) ?_
    refine j_icmp_ge C dX9_changes_54 (tgt := 80) (by decide) (fun hc5 => ?_) (fun hc5 => ?_)
    · rw [if_pos hc5] at h
      refine j_aload_n C dX9_changes_80 rfl 0 rfl ?_
      refine j_dup C dX9_changes_81 rfl ?_
      obtain ⟨ho6, h⟩ := ck_spec h
      refine j_getI C (cn := RX9) (T := TX9) (N := 23) (ci := 9) rfl iX9 ho6 6 (by decide) rfl fwRX9_58 dX9_changes_82 ?_
      refine j_iconst C dX9_changes_85 (v := (1 : Int32)) (by decide) ?_
      refine j_iadd C dX9_changes_86 ?_
      refine j_putI C tyX9 tyX9_ok nmX9 (cn := RX9) (T := TX9) (N := 23) (ci := 9) rfl iX9 ho6 6 (by decide) rfl fwRX9_58 ⟨rfl, rfl⟩ dX9_changes_87 ?_
      cases h
      exact j_vret C rfl (by decide) (by decide) dX9_changes_90
    · rw [if_neg hc5] at h
      refine j_aload_n C dX9_changes_57 rfl 0 rfl ?_
      obtain ⟨ho7, h⟩ := ck_spec h
      obtain ⟨c8, hr8, h⟩ := bnd1_spec h
      refine j_getR C (cn := RX9) (T := TX9) (N := 23) (ci := 9) rfl iX9 ho7 5 (by decide) rfl fwRX9_22 dX9_changes_58 hr8 ?_
      refine j_bipush C dX9_changes_61 (v := (121 : Int32)) (by decide) ?_
      refine j_aload_n C dX9_changes_63 rfl 0 rfl ?_
      refine j_getI C (cn := RX9) (T := TX9) (N := 23) (ci := 9) rfl iX9 ho7 6 (by decide) rfl fwRX9_58 dX9_changes_64 ?_
      refine j_imul C dX9_changes_67 ?_
      refine j_iload_n C dX9_changes_68 rfl 2 rfl ?_
      refine j_iadd C dX9_changes_69 ?_
      refine j_aload_n C dX9_changes_70 rfl 1 rfl ?_
      refine j_iload_n C dX9_changes_71 rfl 2 rfl ?_
      obtain ⟨ho9, h⟩ := ck_spec h
      obtain ⟨ho10, h⟩ := ck_spec h
      refine j_iald C ho9 ho10 dX9_changes_72 ?_
      obtain ⟨ho11, h⟩ := ck_spec h
      obtain ⟨ho12, h⟩ := ck_spec h
      refine j_iast C ho11 ho12 dX9_changes_73 ?_
      refine j_iinc C dX9_changes_74 2 rfl (v := (v2 + (1 : Int32))) (by first | rfl | decide) (by decide) (L' := [(2, .int (v2 + (1 : Int32))), (0, .ref v0), (1, .ref v1)]) rfl ?_
      refine j_goto C dX9_changes_77 (tgt := 51) (by decide) ?_
      refine j_sub (L' := [(0, .ref v0), (1, .ref v1), (2, .int (v2 + (1 : Int32)))]) [1, 2, 0] rfl ?_
      exact ih v0 v1 (v2 + (1 : Int32)) (sI M c8 ((((121 : Int32) * (M.1 v0 6)) + v2)).toNatClampNeg (M.1 v1 (v2).toNatClampNeg)) r M' h
def fX9_changes_11 (N : Nat) (Z : mZ) : Nat → Nat → Nat → Int32 → mM → Option (Unit × mM)
  | 0, _, _, _, _ => none
  | fu + 1, v0, v1, v2, M => if (847 : Int32) ≤ v2 then ck (okO Z v0 9) (fX9_changes_51 N Z N v0 v1 (0 : Int32) (sI M v0 6 ((M.1 v0 6) - (1 : Int32)))) else ck (okO Z v0 9) (bnd1 (Z.2.2.2 v0 5) (fun c14 => ck (okI Z c14) (ck (inB (v2 + (121 : Int32)) (Z.2.2.1 c14)) (ck (okO Z c14 20) (ck (inB v2 (Z.2.2.1 c14)) (fX9_changes_11 N Z fu v0 v1 (v2 + (1 : Int32)) (sI M c14 (v2).toNatClampNeg (M.1 c14 ((v2 + (121 : Int32))).toNatClampNeg))))))))
set_option maxHeartbeats 4000000 in
set_option maxRecDepth 100000 in
theorem tX9_changes_11 {G : mG} {p : Program} {l : Launch} {e : Env} {s : State} {m : MethodId} {args : Array Value} {below : List Frame} {meth : Method} {c : Code} (C : Cx G p l s m args meth c RX9 cX9_changes 3 none []) (hnm : meth.name = yX9_changes.name) (N : Nat) (Z : mZ) : ∀ (fu : Nat) (v0 : Nat) (v1 : Nat) (v2 : Int32) (M : mM) (r : Unit) (M' : mM), fX9_changes_11 N Z fu v0 v1 v2 M = some (r, M') → JJ G p l e rmX9_changes s m args below meth c 3 (mEnd G below args s rmX9_changes (.inl none) Z M') 0 0 11 [(0, .ref v0), (1, .ref v1), (2, .int v2)] [] Z M := by
  intro fu
  induction fu with
  | zero =>
    intro v0 v1 v2 M r M' h
    cases h
  | succ fu ih =>
    intro v0 v1 v2 M r M' h
    rw [fX9_changes_11] at h
    refine j_iload_n C dX9_changes_11 rfl 2 rfl ?_
    refine j_sipush C dX9_changes_12 (v := (847 : Int32)) (by decide) ?_
    refine j_icmp_ge C dX9_changes_15 (tgt := 39) (by decide) (fun hc3 => ?_) (fun hc3 => ?_)
    · rw [if_pos hc3] at h
      refine j_aload_n C dX9_changes_39 rfl 0 rfl ?_
      refine j_dup C dX9_changes_40 rfl ?_
      obtain ⟨ho4, h⟩ := ck_spec h
      refine j_getI C (cn := RX9) (T := TX9) (N := 23) (ci := 9) rfl iX9 ho4 6 (by decide) rfl fwRX9_58 dX9_changes_41 ?_
      refine j_iconst C dX9_changes_44 (v := (1 : Int32)) (by decide) ?_
      refine j_isub C dX9_changes_45 ?_
      refine j_putI C tyX9 tyX9_ok nmX9 (cn := RX9) (T := TX9) (N := 23) (ci := 9) rfl iX9 ho4 6 (by decide) rfl fwRX9_58 ⟨rfl, rfl⟩ dX9_changes_46 ?_
      refine j_iconst C dX9_changes_49 (v := (0 : Int32)) (by decide) ?_
      refine j_istore_n C dX9_changes_50 rfl (by decide) (L' := [(2, .int (0 : Int32)), (0, .ref v0), (1, .ref v1)]) rfl ?_
      refine j_sub (L' := [(0, .ref v0), (1, .ref v1), (2, .int (0 : Int32))]) [1, 2, 0] rfl ?_
      exact tX9_changes_51 C hnm N Z N v0 v1 (0 : Int32) (sI M v0 6 ((M.1 v0 6) - (1 : Int32))) _ _ h
    · rw [if_neg hc3] at h
      refine j_aload_n C dX9_changes_18 rfl 0 rfl ?_
      obtain ⟨ho13, h⟩ := ck_spec h
      obtain ⟨c14, hr14, h⟩ := bnd1_spec h
      refine j_getR C (cn := RX9) (T := TX9) (N := 23) (ci := 9) rfl iX9 ho13 5 (by decide) rfl fwRX9_22 dX9_changes_19 hr14 ?_
      refine j_iload_n C dX9_changes_22 rfl 2 rfl ?_
      refine j_aload_n C dX9_changes_23 rfl 0 rfl ?_
      refine j_getR C (cn := RX9) (T := TX9) (N := 23) (ci := 9) rfl iX9 ho13 5 (by decide) rfl fwRX9_22 dX9_changes_24 hr14 ?_
      refine j_iload_n C dX9_changes_27 rfl 2 rfl ?_
      refine j_bipush C dX9_changes_28 (v := (121 : Int32)) (by decide) ?_
      refine j_iadd C dX9_changes_30 ?_
      obtain ⟨ho15, h⟩ := ck_spec h
      obtain ⟨ho16, h⟩ := ck_spec h
      refine j_iald C ho15 ho16 dX9_changes_31 ?_
      obtain ⟨ho17, h⟩ := ck_spec h
      obtain ⟨ho18, h⟩ := ck_spec h
      refine j_iast C ho17 ho18 dX9_changes_32 ?_
      refine j_iinc C dX9_changes_33 2 rfl (v := (v2 + (1 : Int32))) (by first | rfl | decide) (by decide) (L' := [(2, .int (v2 + (1 : Int32))), (0, .ref v0), (1, .ref v1)]) rfl ?_
      refine j_goto C dX9_changes_36 (tgt := 11) (by decide) ?_
      refine j_sub (L' := [(0, .ref v0), (1, .ref v1), (2, .int (v2 + (1 : Int32)))]) [1, 2, 0] rfl ?_
      exact ih v0 v1 (v2 + (1 : Int32)) (sI M c14 (v2).toNatClampNeg (M.1 c14 ((v2 + (121 : Int32))).toNatClampNeg)) r M' h
def fX9_changes (N : Nat) (Z : mZ) (a0 : Nat) (a1 : Nat) (M : mM) : Option (Unit × mM) := ck (okO Z a0 9) (if (M.1 a0 6) = (8 : Int32) then fX9_changes_11 N Z N a0 a1 (0 : Int32) M else fX9_changes_51 N Z N a0 a1 (0 : Int32) M)
set_option maxHeartbeats 4000000 in
set_option maxRecDepth 100000 in
theorem ctX9_changes {G : mG} {l : Launch} (hl : l.stackTraces = false) (N : Nat) (Z : mZ) {a0 : Nat} {a1 : Nat} {M : mM} {r : Unit} {M' : mM} (h : fX9_changes N Z a0 a1 M = some (r, M')) : CT G l yX9_changes (.code yX9_changes cX9_changes 3 none) rmX9_changes [.ref a0, .ref a1] Z M (.inl none) Z M' := by
  unfold fX9_changes at h
  refine CT.of hl (by decide) (Nat.le_of_ble_eq_true rfl) ?_
  intro p e s m args below meth c C hnm
  refine j_sub (L' := [(0, .ref a0), (1, .ref a1)]) [0, 1] rfl ?_
  refine j_aload_n C dX9_changes_0 rfl 0 rfl ?_
  obtain ⟨ho1, h⟩ := ck_spec h
  refine j_getI C (cn := RX9) (T := TX9) (N := 23) (ci := 9) rfl iX9 ho1 6 (by decide) rfl fwRX9_58 dX9_changes_1 ?_
  refine j_bipush C dX9_changes_4 (v := (8 : Int32)) (by decide) ?_
  refine j_icmp_ne C dX9_changes_6 (tgt := 49) (by decide) (fun hc2 => ?_) (fun hc2 => ?_)
  · rw [if_neg hc2] at h
    refine j_iconst C dX9_changes_49 (v := (0 : Int32)) (by decide) ?_
    refine j_istore_n C dX9_changes_50 rfl (by decide) (L' := [(2, .int (0 : Int32)), (0, .ref a0), (1, .ref a1)]) rfl ?_
    refine j_sub (L' := [(0, .ref a0), (1, .ref a1), (2, .int (0 : Int32))]) [1, 2, 0] rfl ?_
    exact tX9_changes_51 C hnm N Z N a0 a1 (0 : Int32) M _ _ h
  · rw [if_pos hc2] at h
    refine j_iconst C dX9_changes_9 (v := (0 : Int32)) (by decide) ?_
    refine j_istore_n C dX9_changes_10 rfl (by decide) (L' := [(2, .int (0 : Int32)), (0, .ref a0), (1, .ref a1)]) rfl ?_
    refine j_sub (L' := [(0, .ref a0), (1, .ref a1), (2, .int (0 : Int32))]) [1, 2, 0] rfl ?_
    exact tX9_changes_11 C hnm N Z N a0 a1 (0 : Int32) M _ _ h
-- ScaffoldPlannerModel undo
abbrev rmX9_undo : Room := { frames := 0, cells := 0, slots := 0, locals := 0 }
theorem dX9_undo_0 : decode cX9_undo 0 = .ok (.aload_n 0, 1) := by decide +kernel
theorem dX9_undo_1 : decode cX9_undo 1 = .ok (.aload_n 0, 1) := by decide +kernel
theorem dX9_undo_2 : decode cX9_undo 2 = .ok (.getfield 58, 3) := by decide +kernel
theorem dX9_undo_5 : decode cX9_undo 5 = .ok (.ifCond .ne 7, 3) := by decide +kernel
theorem dX9_undo_8 : decode cX9_undo 8 = .ok (.iconst 1, 1) := by decide +kernel
theorem dX9_undo_9 : decode cX9_undo 9 = .ok (.goto 4, 3) := by decide +kernel
theorem dX9_undo_12 : decode cX9_undo 12 = .ok (.iconst 0, 1) := by decide +kernel
theorem dX9_undo_13 : decode cX9_undo 13 = .ok (.putfield 50, 3) := by decide +kernel
theorem dX9_undo_16 : decode cX9_undo 16 = .ok (.aload_n 0, 1) := by decide +kernel
theorem dX9_undo_17 : decode cX9_undo 17 = .ok (.getfield 50, 3) := by decide +kernel
theorem dX9_undo_20 : decode cX9_undo 20 = .ok (.ifCond .le 5, 3) := by decide +kernel
theorem dX9_undo_23 : decode cX9_undo 23 = .ok (.iconst 0, 1) := by decide +kernel
theorem dX9_undo_24 : decode cX9_undo 24 = .ok (.ireturn, 1) := by decide +kernel
theorem dX9_undo_25 : decode cX9_undo 25 = .ok (.aload_n 0, 1) := by decide +kernel
theorem dX9_undo_26 : decode cX9_undo 26 = .ok (.dup, 1) := by decide +kernel
theorem dX9_undo_27 : decode cX9_undo 27 = .ok (.getfield 58, 3) := by decide +kernel
theorem dX9_undo_30 : decode cX9_undo 30 = .ok (.iconst 1, 1) := by decide +kernel
theorem dX9_undo_31 : decode cX9_undo 31 = .ok (.isub, 1) := by decide +kernel
theorem dX9_undo_32 : decode cX9_undo 32 = .ok (.putfield 58, 3) := by decide +kernel
theorem dX9_undo_35 : decode cX9_undo 35 = .ok (.iconst 0, 1) := by decide +kernel
theorem dX9_undo_36 : decode cX9_undo 36 = .ok (.istore_n 1, 1) := by decide +kernel
theorem dX9_undo_37 : decode cX9_undo 37 = .ok (.iload_n 1, 1) := by decide +kernel
theorem dX9_undo_38 : decode cX9_undo 38 = .ok (.bipush 121, 2) := by decide +kernel
theorem dX9_undo_40 : decode cX9_undo 40 = .ok (.if_icmp .ge 29, 3) := by decide +kernel
theorem dX9_undo_43 : decode cX9_undo 43 = .ok (.aload_n 0, 1) := by decide +kernel
theorem dX9_undo_44 : decode cX9_undo 44 = .ok (.getfield 7, 3) := by decide +kernel
theorem dX9_undo_47 : decode cX9_undo 47 = .ok (.iload_n 1, 1) := by decide +kernel
theorem dX9_undo_48 : decode cX9_undo 48 = .ok (.aload_n 0, 1) := by decide +kernel
theorem dX9_undo_49 : decode cX9_undo 49 = .ok (.getfield 22, 3) := by decide +kernel
theorem dX9_undo_52 : decode cX9_undo 52 = .ok (.bipush 121, 2) := by decide +kernel
theorem dX9_undo_54 : decode cX9_undo 54 = .ok (.aload_n 0, 1) := by decide +kernel
theorem dX9_undo_55 : decode cX9_undo 55 = .ok (.getfield 58, 3) := by decide +kernel
theorem dX9_undo_58 : decode cX9_undo 58 = .ok (.imul, 1) := by decide +kernel
theorem dX9_undo_59 : decode cX9_undo 59 = .ok (.iload_n 1, 1) := by decide +kernel
theorem dX9_undo_60 : decode cX9_undo 60 = .ok (.iadd, 1) := by decide +kernel
theorem dX9_undo_61 : decode cX9_undo 61 = .ok (.iaload, 1) := by decide +kernel
theorem dX9_undo_62 : decode cX9_undo 62 = .ok (.iastore, 1) := by decide +kernel
theorem dX9_undo_63 : decode cX9_undo 63 = .ok (.iinc 1 1, 3) := by decide +kernel
theorem dX9_undo_66 : decode cX9_undo 66 = .ok (.goto (-29), 3) := by decide +kernel
theorem dX9_undo_69 : decode cX9_undo 69 = .ok (.aload_n 0, 1) := by decide +kernel
theorem dX9_undo_70 : decode cX9_undo 70 = .ok (.getfield 58, 3) := by decide +kernel
theorem dX9_undo_73 : decode cX9_undo 73 = .ok (.ireturn, 1) := by decide +kernel
def fX9_undo_37 (N : Nat) (Z : mZ) : Nat → Nat → Int32 → mM → Option (Int32 × mM)
  | 0, _, _, _ => none
  | fu + 1, v0, v1, M => if (121 : Int32) ≤ v1 then ck (okO Z v0 9) (some ((M.1 v0 6), M)) else ck (okO Z v0 9) (bnd1 (Z.2.2.2 v0 0) (fun c9 => bnd1 (Z.2.2.2 v0 5) (fun c10 => ck (okI Z c10) (ck (inB (((121 : Int32) * (M.1 v0 6)) + v1) (Z.2.2.1 c10)) (ck (okO Z c9 20) (ck (inB v1 (Z.2.2.1 c9)) (fX9_undo_37 N Z fu v0 (v1 + (1 : Int32)) (sI M c9 (v1).toNatClampNeg (M.1 c10 ((((121 : Int32) * (M.1 v0 6)) + v1)).toNatClampNeg)))))))))
set_option maxHeartbeats 4000000 in
set_option maxRecDepth 100000 in
theorem tX9_undo_37 {G : mG} {p : Program} {l : Launch} {e : Env} {s : State} {m : MethodId} {args : Array Value} {below : List Frame} {meth : Method} {c : Code} (C : Cx G p l s m args meth c RX9 cX9_undo 2 (some .int) []) (hnm : meth.name = yX9_undo.name) (N : Nat) (Z : mZ) : ∀ (fu : Nat) (v0 : Nat) (v1 : Int32) (M : mM) (r : Int32) (M' : mM), fX9_undo_37 N Z fu v0 v1 M = some (r, M') → JJ G p l e rmX9_undo s m args below meth c 2 (mEnd G below args s rmX9_undo (.inl (some (.int r))) Z M') 0 0 37 [(0, .ref v0), (1, .int v1)] [] Z M := by
  intro fu
  induction fu with
  | zero =>
    intro v0 v1 M r M' h
    cases h
  | succ fu ih =>
    intro v0 v1 M r M' h
    rw [fX9_undo_37] at h
    refine j_iload_n C dX9_undo_37 rfl 1 rfl ?_
    refine j_bipush C dX9_undo_38 (v := (121 : Int32)) (by decide) ?_
    refine j_icmp_ge C dX9_undo_40 (tgt := 69) (by decide) (fun hc6 => ?_) (fun hc6 => ?_)
    · rw [if_pos hc6] at h
      refine j_aload_n C dX9_undo_69 rfl 0 rfl ?_
      obtain ⟨ho7, h⟩ := ck_spec h
      refine j_getI C (cn := RX9) (T := TX9) (N := 23) (ci := 9) rfl iX9 ho7 6 (by decide) rfl fwRX9_58 dX9_undo_70 ?_
      cases h
      exact j_iret C rfl (by decide) (by decide) dX9_undo_73
    · rw [if_neg hc6] at h
      refine j_aload_n C dX9_undo_43 rfl 0 rfl ?_
      obtain ⟨ho8, h⟩ := ck_spec h
      obtain ⟨c9, hr9, h⟩ := bnd1_spec h
      refine j_getR C (cn := RX9) (T := TX9) (N := 23) (ci := 9) rfl iX9 ho8 0 (by decide) rfl fwRX9_7 dX9_undo_44 hr9 ?_
      refine j_iload_n C dX9_undo_47 rfl 1 rfl ?_
      refine j_aload_n C dX9_undo_48 rfl 0 rfl ?_
      obtain ⟨c10, hr10, h⟩ := bnd1_spec h
      refine j_getR C (cn := RX9) (T := TX9) (N := 23) (ci := 9) rfl iX9 ho8 5 (by decide) rfl fwRX9_22 dX9_undo_49 hr10 ?_
      refine j_bipush C dX9_undo_52 (v := (121 : Int32)) (by decide) ?_
      refine j_aload_n C dX9_undo_54 rfl 0 rfl ?_
      refine j_getI C (cn := RX9) (T := TX9) (N := 23) (ci := 9) rfl iX9 ho8 6 (by decide) rfl fwRX9_58 dX9_undo_55 ?_
      refine j_imul C dX9_undo_58 ?_
      refine j_iload_n C dX9_undo_59 rfl 1 rfl ?_
      refine j_iadd C dX9_undo_60 ?_
      obtain ⟨ho11, h⟩ := ck_spec h
      obtain ⟨ho12, h⟩ := ck_spec h
      refine j_iald C ho11 ho12 dX9_undo_61 ?_
      obtain ⟨ho13, h⟩ := ck_spec h
      obtain ⟨ho14, h⟩ := ck_spec h
      refine j_iast C ho13 ho14 dX9_undo_62 ?_
      refine j_iinc C dX9_undo_63 1 rfl (v := (v1 + (1 : Int32))) (by first | rfl | decide) (by decide) (L' := [(1, .int (v1 + (1 : Int32))), (0, .ref v0)]) rfl ?_
      refine j_goto C dX9_undo_66 (tgt := 37) (by decide) ?_
      refine j_sub (L' := [(0, .ref v0), (1, .int (v1 + (1 : Int32)))]) [1, 0] rfl ?_
      exact ih v0 (v1 + (1 : Int32)) (sI M c9 (v1).toNatClampNeg (M.1 c10 ((((121 : Int32) * (M.1 v0 6)) + v1)).toNatClampNeg)) r M' h
def fX9_undo_13 (N : Nat) (Z : mZ) (v0 : Nat) (x0 : Int32) (x1 : Nat) (M : mM) : Option (Int32 × mM) := ck (okO Z x1 9) (ck (okO Z v0 9) (if ((sI M x1 9 x0).1 v0 9) ≤ 0 then fX9_undo_37 N Z N v0 (0 : Int32) (sI (sI M x1 9 x0) v0 6 (((sI M x1 9 x0).1 v0 6) - (1 : Int32))) else some ((0 : Int32), (sI M x1 9 x0))))
set_option maxHeartbeats 4000000 in
set_option maxRecDepth 100000 in
theorem tX9_undo_13 {G : mG} {p : Program} {l : Launch} {e : Env} {s : State} {m : MethodId} {args : Array Value} {below : List Frame} {meth : Method} {c : Code} (C : Cx G p l s m args meth c RX9 cX9_undo 2 (some .int) []) (hnm : meth.name = yX9_undo.name) (N : Nat) (Z : mZ) : ∀ (v0 : Nat) (x0 : Int32) (x1 : Nat) (M : mM) (r : Int32) (M' : mM), fX9_undo_13 N Z v0 x0 x1 M = some (r, M') → JJ G p l e rmX9_undo s m args below meth c 2 (mEnd G below args s rmX9_undo (.inl (some (.int r))) Z M') 0 0 13 [(0, .ref v0)] [.int x0, .ref x1] Z M := by
  intro v0 x0 x1 M r M' h
  unfold fX9_undo_13 at h
  obtain ⟨ho3, h⟩ := ck_spec h
  refine j_putI C tyX9 tyX9_ok nmX9 (cn := RX9) (T := TX9) (N := 23) (ci := 9) rfl iX9 ho3 9 (by decide) rfl fwRX9_50 ⟨rfl, rfl⟩ dX9_undo_13 ?_
  refine j_aload_n C dX9_undo_16 rfl 0 rfl ?_
  obtain ⟨ho4, h⟩ := ck_spec h
  refine j_getI C (cn := RX9) (T := TX9) (N := 23) (ci := 9) rfl iX9 ho4 9 (by decide) rfl fwRX9_50 dX9_undo_17 ?_
  refine j_if_le C dX9_undo_20 (tgt := 25) (by decide) (fun hc5 => ?_) (fun hc5 => ?_)
  · rw [if_pos hc5] at h
    refine j_aload_n C dX9_undo_25 rfl 0 rfl ?_
    refine j_dup C dX9_undo_26 rfl ?_
    refine j_getI C (cn := RX9) (T := TX9) (N := 23) (ci := 9) rfl iX9 ho4 6 (by decide) rfl fwRX9_58 dX9_undo_27 ?_
    refine j_iconst C dX9_undo_30 (v := (1 : Int32)) (by decide) ?_
    refine j_isub C dX9_undo_31 ?_
    refine j_putI C tyX9 tyX9_ok nmX9 (cn := RX9) (T := TX9) (N := 23) (ci := 9) rfl iX9 ho4 6 (by decide) rfl fwRX9_58 ⟨rfl, rfl⟩ dX9_undo_32 ?_
    refine j_iconst C dX9_undo_35 (v := (0 : Int32)) (by decide) ?_
    refine j_istore_n C dX9_undo_36 rfl (by decide) (L' := [(1, .int (0 : Int32)), (0, .ref v0)]) rfl ?_
    refine j_sub (L' := [(0, .ref v0), (1, .int (0 : Int32))]) [1, 0] rfl ?_
    exact tX9_undo_37 C hnm N Z N v0 (0 : Int32) (sI (sI M x1 9 x0) v0 6 (((sI M x1 9 x0).1 v0 6) - (1 : Int32))) _ _ h
  · rw [if_neg hc5] at h
    refine j_iconst C dX9_undo_23 (v := (0 : Int32)) (by decide) ?_
    cases h
    exact j_iret C rfl (by decide) (by decide) dX9_undo_24
def fX9_undo (N : Nat) (Z : mZ) (a0 : Nat) (M : mM) : Option (Int32 × mM) := ck (okO Z a0 9) (if (M.1 a0 6) = 0 then fX9_undo_13 N Z a0 (1 : Int32) a0 M else fX9_undo_13 N Z a0 (0 : Int32) a0 M)
set_option maxHeartbeats 4000000 in
set_option maxRecDepth 100000 in
theorem ctX9_undo {G : mG} {l : Launch} (hl : l.stackTraces = false) (N : Nat) (Z : mZ) {a0 : Nat} {M : mM} {r : Int32} {M' : mM} (h : fX9_undo N Z a0 M = some (r, M')) : CT G l yX9_undo (.code yX9_undo cX9_undo 2 (some .int)) rmX9_undo [.ref a0] Z M (.inl (some (.int r))) Z M' := by
  unfold fX9_undo at h
  refine CT.of hl (by decide) (Nat.le_of_ble_eq_true rfl) ?_
  intro p e s m args below meth c C hnm
  refine j_sub (L' := [(0, .ref a0)]) [0] rfl ?_
  refine j_aload_n C dX9_undo_0 rfl 0 rfl ?_
  refine j_aload_n C dX9_undo_1 rfl 0 rfl ?_
  obtain ⟨ho1, h⟩ := ck_spec h
  refine j_getI C (cn := RX9) (T := TX9) (N := 23) (ci := 9) rfl iX9 ho1 6 (by decide) rfl fwRX9_58 dX9_undo_2 ?_
  refine j_if_ne C dX9_undo_5 (tgt := 12) (by decide) (fun hc2 => ?_) (fun hc2 => ?_)
  · rw [if_neg hc2] at h
    refine j_iconst C dX9_undo_12 (v := (0 : Int32)) (by decide) ?_
    refine j_sub (L' := [(0, .ref a0)]) [0] rfl ?_
    exact tX9_undo_13 C hnm N Z a0 (0 : Int32) a0 M _ _ h
  · rw [if_pos hc2] at h
    refine j_iconst C dX9_undo_8 (v := (1 : Int32)) (by decide) ?_
    refine j_goto C dX9_undo_9 (tgt := 13) (by decide) ?_
    refine j_sub (L' := [(0, .ref a0)]) [0] rfl ?_
    exact tX9_undo_13 C hnm N Z a0 (1 : Int32) a0 M _ _ h
-- ScaffoldPlannerModel save
theorem fwRX9_61 : Cond.fieldLink RX9 61 RX9 (TX9 4).2.1 (TX9 4).2.2.1 ∈ gw := by decide +kernel
theorem kcRX9_65 : okS RX9 65 yX9_copies (.code yX9_copies cX9_copies 3 none) = true := by decide +kernel
theorem oyX9_copies : okY yX9_copies 2 := ⟨by decide +kernel, by decide +kernel, by decide +kernel⟩
abbrev rmX9_save : Room := { frames := 1, cells := 0, slots := 0, locals := 22 }
theorem dX9_save_0 : decode cX9_save 0 = .ok (.aload_n 0, 1) := by decide +kernel
theorem dX9_save_1 : decode cX9_save 1 = .ok (.iconst 0, 1) := by decide +kernel
theorem dX9_save_2 : decode cX9_save 2 = .ok (.putfield 50, 3) := by decide +kernel
theorem dX9_save_5 : decode cX9_save 5 = .ok (.aload_n 0, 1) := by decide +kernel
theorem dX9_save_6 : decode cX9_save 6 = .ok (.iconst 1, 1) := by decide +kernel
theorem dX9_save_7 : decode cX9_save 7 = .ok (.putfield 61, 3) := by decide +kernel
theorem dX9_save_10 : decode cX9_save 10 = .ok (.aload_n 0, 1) := by decide +kernel
theorem dX9_save_11 : decode cX9_save 11 = .ok (.getfield 7, 3) := by decide +kernel
theorem dX9_save_14 : decode cX9_save 14 = .ok (.aload_n 0, 1) := by decide +kernel
theorem dX9_save_15 : decode cX9_save 15 = .ok (.getfield 13, 3) := by decide +kernel
theorem dX9_save_18 : decode cX9_save 18 = .ok (.invokestatic 65, 3) := by decide +kernel
theorem dX9_save_21 : decode cX9_save 21 = .ok (.aload_n 0, 1) := by decide +kernel
theorem dX9_save_22 : decode cX9_save 22 = .ok (.getfield 7, 3) := by decide +kernel
theorem dX9_save_25 : decode cX9_save 25 = .ok (.iconst 0, 1) := by decide +kernel
theorem dX9_save_26 : decode cX9_save 26 = .ok (.iaload, 1) := by decide +kernel
theorem dX9_save_27 : decode cX9_save 27 = .ok (.ireturn, 1) := by decide +kernel
def fX9_save (N : Nat) (Z : mZ) (a0 : Nat) (M : mM) : Option (Int32 × mM) := ck (okO Z a0 9) (bnd1 (Z.2.2.2 a0 0) (fun c2 => bnd1 (Z.2.2.2 a0 1) (fun c3 => bnd2 (fX9_copies N Z c2 c3 (sI (sI M a0 9 (0 : Int32)) a0 4 (1 : Int32))) (fun _ M4 => ck (okI Z c2) (ck (inB (0 : Int32) (Z.2.2.1 c2)) (some ((M4.1 c2 ((0 : Int32)).toNatClampNeg), M4)))))))
set_option maxHeartbeats 4000000 in
set_option maxRecDepth 100000 in
theorem ctX9_save {G : mG} {l : Launch} (hl : l.stackTraces = false) (N : Nat) (Z : mZ) {a0 : Nat} {M : mM} {r : Int32} {M' : mM} (h : fX9_save N Z a0 M = some (r, M')) : CT G l yX9_save (.code yX9_save cX9_save 1 (some .int)) rmX9_save [.ref a0] Z M (.inl (some (.int r))) Z M' := by
  unfold fX9_save at h
  refine CT.of hl (by decide) (Nat.le_of_ble_eq_true rfl) ?_
  intro p e s m args below meth c C hnm
  refine j_sub (L' := [(0, .ref a0)]) [0] rfl ?_
  refine j_aload_n C dX9_save_0 rfl 0 rfl ?_
  refine j_iconst C dX9_save_1 (v := (0 : Int32)) (by decide) ?_
  obtain ⟨ho1, h⟩ := ck_spec h
  refine j_putI C tyX9 tyX9_ok nmX9 (cn := RX9) (T := TX9) (N := 23) (ci := 9) rfl iX9 ho1 9 (by decide) rfl fwRX9_50 ⟨rfl, rfl⟩ dX9_save_2 ?_
  refine j_aload_n C dX9_save_5 rfl 0 rfl ?_
  refine j_iconst C dX9_save_6 (v := (1 : Int32)) (by decide) ?_
  refine j_putI C tyX9 tyX9_ok nmX9 (cn := RX9) (T := TX9) (N := 23) (ci := 9) rfl iX9 ho1 4 (by decide) rfl fwRX9_61 ⟨rfl, rfl⟩ dX9_save_7 ?_
  refine j_aload_n C dX9_save_10 rfl 0 rfl ?_
  obtain ⟨c2, hr2, h⟩ := bnd1_spec h
  refine j_getR C (cn := RX9) (T := TX9) (N := 23) (ci := 9) rfl iX9 ho1 0 (by decide) rfl fwRX9_7 dX9_save_11 hr2 ?_
  refine j_aload_n C dX9_save_14 rfl 0 rfl ?_
  obtain ⟨c3, hr3, h⟩ := bnd1_spec h
  refine j_getR C (cn := RX9) (T := TX9) (N := 23) (ci := 9) rfl iX9 ho1 1 (by decide) rfl fwRX9_13 dX9_save_15 hr3 ?_
  obtain ⟨_, M4, hq4, h⟩ := bnd2_spec h
  refine j_run0 (c_S C (As := [.ref c2, .ref c3]) (rest := []) (ctX9_copies C.2.2.2.2.2.2.2.2.1 N Z hq4) kcRX9_65 oyX9_copies ⟨by decide, by decide⟩ ⟨by decide, by decide⟩ (Nat.le_of_ble_eq_true rfl) rfl dX9_save_18) ?_
  refine j_aload_n C dX9_save_21 rfl 0 rfl ?_
  refine j_getR C (cn := RX9) (T := TX9) (N := 23) (ci := 9) rfl iX9 ho1 0 (by decide) rfl fwRX9_7 dX9_save_22 hr2 ?_
  refine j_iconst C dX9_save_25 (v := (0 : Int32)) (by decide) ?_
  obtain ⟨ho5, h⟩ := ck_spec h
  obtain ⟨ho6, h⟩ := ck_spec h
  refine j_iald C ho5 ho6 dX9_save_26 ?_
  cases h
  exact j_iret C rfl (by decide) (by decide) dX9_save_27
-- ScaffoldPlannerModel restore
abbrev rmX9_restore : Room := { frames := 1, cells := 0, slots := 0, locals := 22 }
theorem dX9_restore_0 : decode cX9_restore 0 = .ok (.aload_n 0, 1) := by decide +kernel
theorem dX9_restore_1 : decode cX9_restore 1 = .ok (.aload_n 0, 1) := by decide +kernel
theorem dX9_restore_2 : decode cX9_restore 2 = .ok (.getfield 61, 3) := by decide +kernel
theorem dX9_restore_5 : decode cX9_restore 5 = .ok (.ifCond .eq 7, 3) := by decide +kernel
theorem dX9_restore_8 : decode cX9_restore 8 = .ok (.iconst 0, 1) := by decide +kernel
theorem dX9_restore_9 : decode cX9_restore 9 = .ok (.goto 4, 3) := by decide +kernel
theorem dX9_restore_12 : decode cX9_restore 12 = .ok (.iconst 1, 1) := by decide +kernel
theorem dX9_restore_13 : decode cX9_restore 13 = .ok (.putfield 50, 3) := by decide +kernel
theorem dX9_restore_16 : decode cX9_restore 16 = .ok (.aload_n 0, 1) := by decide +kernel
theorem dX9_restore_17 : decode cX9_restore 17 = .ok (.getfield 61, 3) := by decide +kernel
theorem dX9_restore_20 : decode cX9_restore 20 = .ok (.ifCond .ne 5, 3) := by decide +kernel
theorem dX9_restore_23 : decode cX9_restore 23 = .ok (.iconst 0, 1) := by decide +kernel
theorem dX9_restore_24 : decode cX9_restore 24 = .ok (.ireturn, 1) := by decide +kernel
theorem dX9_restore_25 : decode cX9_restore 25 = .ok (.aload_n 0, 1) := by decide +kernel
theorem dX9_restore_26 : decode cX9_restore 26 = .ok (.getfield 13, 3) := by decide +kernel
theorem dX9_restore_29 : decode cX9_restore 29 = .ok (.aload_n 0, 1) := by decide +kernel
theorem dX9_restore_30 : decode cX9_restore 30 = .ok (.getfield 7, 3) := by decide +kernel
theorem dX9_restore_33 : decode cX9_restore 33 = .ok (.invokestatic 65, 3) := by decide +kernel
theorem dX9_restore_36 : decode cX9_restore 36 = .ok (.aload_n 0, 1) := by decide +kernel
theorem dX9_restore_37 : decode cX9_restore 37 = .ok (.iconst 0, 1) := by decide +kernel
theorem dX9_restore_38 : decode cX9_restore 38 = .ok (.putfield 58, 3) := by decide +kernel
theorem dX9_restore_41 : decode cX9_restore 41 = .ok (.aload_n 0, 1) := by decide +kernel
theorem dX9_restore_42 : decode cX9_restore 42 = .ok (.getfield 7, 3) := by decide +kernel
theorem dX9_restore_45 : decode cX9_restore 45 = .ok (.iconst 0, 1) := by decide +kernel
theorem dX9_restore_46 : decode cX9_restore 46 = .ok (.iaload, 1) := by decide +kernel
theorem dX9_restore_47 : decode cX9_restore 47 = .ok (.ireturn, 1) := by decide +kernel
def fX9_restore_13 (N : Nat) (Z : mZ) (v0 : Nat) (x0 : Int32) (x1 : Nat) (M : mM) : Option (Int32 × mM) := ck (okO Z x1 9) (ck (okO Z v0 9) (if ((sI M x1 9 x0).1 v0 4) = 0 then some ((0 : Int32), (sI M x1 9 x0)) else bnd1 (Z.2.2.2 v0 1) (fun c6 => bnd1 (Z.2.2.2 v0 0) (fun c7 => bnd2 (fX9_copies N Z c6 c7 (sI M x1 9 x0)) (fun _ M8 => ck (okI Z c7) (ck (inB (0 : Int32) (Z.2.2.1 c7)) (some (((sI M8 v0 6 (0 : Int32)).1 c7 ((0 : Int32)).toNatClampNeg), (sI M8 v0 6 (0 : Int32))))))))))
set_option maxHeartbeats 4000000 in
set_option maxRecDepth 100000 in
theorem tX9_restore_13 {G : mG} {p : Program} {l : Launch} {e : Env} {s : State} {m : MethodId} {args : Array Value} {below : List Frame} {meth : Method} {c : Code} (C : Cx G p l s m args meth c RX9 cX9_restore 1 (some .int) []) (hnm : meth.name = yX9_restore.name) (N : Nat) (Z : mZ) : ∀ (v0 : Nat) (x0 : Int32) (x1 : Nat) (M : mM) (r : Int32) (M' : mM), fX9_restore_13 N Z v0 x0 x1 M = some (r, M') → JJ G p l e rmX9_restore s m args below meth c 1 (mEnd G below args s rmX9_restore (.inl (some (.int r))) Z M') 0 0 13 [(0, .ref v0)] [.int x0, .ref x1] Z M := by
  intro v0 x0 x1 M r M' h
  unfold fX9_restore_13 at h
  obtain ⟨ho3, h⟩ := ck_spec h
  refine j_putI C tyX9 tyX9_ok nmX9 (cn := RX9) (T := TX9) (N := 23) (ci := 9) rfl iX9 ho3 9 (by decide) rfl fwRX9_50 ⟨rfl, rfl⟩ dX9_restore_13 ?_
  refine j_aload_n C dX9_restore_16 rfl 0 rfl ?_
  obtain ⟨ho4, h⟩ := ck_spec h
  refine j_getI C (cn := RX9) (T := TX9) (N := 23) (ci := 9) rfl iX9 ho4 4 (by decide) rfl fwRX9_61 dX9_restore_17 ?_
  refine j_if_ne C dX9_restore_20 (tgt := 25) (by decide) (fun hc5 => ?_) (fun hc5 => ?_)
  · rw [if_neg hc5] at h
    refine j_aload_n C dX9_restore_25 rfl 0 rfl ?_
    obtain ⟨c6, hr6, h⟩ := bnd1_spec h
    refine j_getR C (cn := RX9) (T := TX9) (N := 23) (ci := 9) rfl iX9 ho4 1 (by decide) rfl fwRX9_13 dX9_restore_26 hr6 ?_
    refine j_aload_n C dX9_restore_29 rfl 0 rfl ?_
    obtain ⟨c7, hr7, h⟩ := bnd1_spec h
    refine j_getR C (cn := RX9) (T := TX9) (N := 23) (ci := 9) rfl iX9 ho4 0 (by decide) rfl fwRX9_7 dX9_restore_30 hr7 ?_
    obtain ⟨_, M8, hq8, h⟩ := bnd2_spec h
    refine j_run0 (c_S C (As := [.ref c6, .ref c7]) (rest := []) (ctX9_copies C.2.2.2.2.2.2.2.2.1 N Z hq8) kcRX9_65 oyX9_copies ⟨by decide, by decide⟩ ⟨by decide, by decide⟩ (Nat.le_of_ble_eq_true rfl) rfl dX9_restore_33) ?_
    refine j_aload_n C dX9_restore_36 rfl 0 rfl ?_
    refine j_iconst C dX9_restore_37 (v := (0 : Int32)) (by decide) ?_
    refine j_putI C tyX9 tyX9_ok nmX9 (cn := RX9) (T := TX9) (N := 23) (ci := 9) rfl iX9 ho4 6 (by decide) rfl fwRX9_58 ⟨rfl, rfl⟩ dX9_restore_38 ?_
    refine j_aload_n C dX9_restore_41 rfl 0 rfl ?_
    refine j_getR C (cn := RX9) (T := TX9) (N := 23) (ci := 9) rfl iX9 ho4 0 (by decide) rfl fwRX9_7 dX9_restore_42 hr7 ?_
    refine j_iconst C dX9_restore_45 (v := (0 : Int32)) (by decide) ?_
    obtain ⟨ho9, h⟩ := ck_spec h
    obtain ⟨ho10, h⟩ := ck_spec h
    refine j_iald C ho9 ho10 dX9_restore_46 ?_
    cases h
    exact j_iret C rfl (by decide) (by decide) dX9_restore_47
  · rw [if_pos hc5] at h
    refine j_iconst C dX9_restore_23 (v := (0 : Int32)) (by decide) ?_
    cases h
    exact j_iret C rfl (by decide) (by decide) dX9_restore_24
def fX9_restore (N : Nat) (Z : mZ) (a0 : Nat) (M : mM) : Option (Int32 × mM) := ck (okO Z a0 9) (if (M.1 a0 4) = 0 then fX9_restore_13 N Z a0 (1 : Int32) a0 M else fX9_restore_13 N Z a0 (0 : Int32) a0 M)
set_option maxHeartbeats 4000000 in
set_option maxRecDepth 100000 in
theorem ctX9_restore {G : mG} {l : Launch} (hl : l.stackTraces = false) (N : Nat) (Z : mZ) {a0 : Nat} {M : mM} {r : Int32} {M' : mM} (h : fX9_restore N Z a0 M = some (r, M')) : CT G l yX9_restore (.code yX9_restore cX9_restore 1 (some .int)) rmX9_restore [.ref a0] Z M (.inl (some (.int r))) Z M' := by
  unfold fX9_restore at h
  refine CT.of hl (by decide) (Nat.le_of_ble_eq_true rfl) ?_
  intro p e s m args below meth c C hnm
  refine j_sub (L' := [(0, .ref a0)]) [0] rfl ?_
  refine j_aload_n C dX9_restore_0 rfl 0 rfl ?_
  refine j_aload_n C dX9_restore_1 rfl 0 rfl ?_
  obtain ⟨ho1, h⟩ := ck_spec h
  refine j_getI C (cn := RX9) (T := TX9) (N := 23) (ci := 9) rfl iX9 ho1 4 (by decide) rfl fwRX9_61 dX9_restore_2 ?_
  refine j_if_eq C dX9_restore_5 (tgt := 12) (by decide) (fun hc2 => ?_) (fun hc2 => ?_)
  · rw [if_pos hc2] at h
    refine j_iconst C dX9_restore_12 (v := (1 : Int32)) (by decide) ?_
    refine j_sub (L' := [(0, .ref a0)]) [0] rfl ?_
    exact tX9_restore_13 C hnm N Z a0 (1 : Int32) a0 M _ _ h
  · rw [if_neg hc2] at h
    refine j_iconst C dX9_restore_8 (v := (0 : Int32)) (by decide) ?_
    refine j_goto C dX9_restore_9 (tgt := 13) (by decide) ?_
    refine j_sub (L' := [(0, .ref a0)]) [0] rfl ?_
    exact tX9_restore_13 C hnm N Z a0 (0 : Int32) a0 M _ _ h
-- ScaffoldPlannerModel left
abbrev rmX9_left : Room := { frames := 0, cells := 0, slots := 0, locals := 0 }
theorem dX9_left_0 : decode cX9_left 0 = .ok (.iload_n 1, 1) := by decide +kernel
theorem dX9_left_1 : decode cX9_left 1 = .ok (.aload_n 0, 1) := by decide +kernel
theorem dX9_left_2 : decode cX9_left 2 = .ok (.getfield 7, 3) := by decide +kernel
theorem dX9_left_5 : decode cX9_left 5 = .ok (.iconst 0, 1) := by decide +kernel
theorem dX9_left_6 : decode cX9_left 6 = .ok (.iaload, 1) := by decide +kernel
theorem dX9_left_7 : decode cX9_left 7 = .ok (.iadd, 1) := by decide +kernel
theorem dX9_left_8 : decode cX9_left 8 = .ok (.iconst 1, 1) := by decide +kernel
theorem dX9_left_9 : decode cX9_left 9 = .ok (.isub, 1) := by decide +kernel
theorem dX9_left_10 : decode cX9_left 10 = .ok (.aload_n 0, 1) := by decide +kernel
theorem dX9_left_11 : decode cX9_left 11 = .ok (.getfield 7, 3) := by decide +kernel
theorem dX9_left_14 : decode cX9_left 14 = .ok (.iconst 0, 1) := by decide +kernel
theorem dX9_left_15 : decode cX9_left 15 = .ok (.iaload, 1) := by decide +kernel
theorem dX9_left_16 : decode cX9_left 16 = .ok (.irem, 1) := by decide +kernel
theorem dX9_left_17 : decode cX9_left 17 = .ok (.ireturn, 1) := by decide +kernel
def fX9_left (N : Nat) (Z : mZ) (a0 : Nat) (a1 : Int32) (M : mM) : Option (Int32 × mM) := ck (okO Z a0 9) (bnd1 (Z.2.2.2 a0 0) (fun c2 => ck (okI Z c2) (ck (inB (0 : Int32) (Z.2.2.1 c2)) (ck (decide (¬ (M.1 c2 ((0 : Int32)).toNatClampNeg) = 0)) (some ((((a1 + (M.1 c2 ((0 : Int32)).toNatClampNeg)) - (1 : Int32)) - ((a1 + (M.1 c2 ((0 : Int32)).toNatClampNeg)) - (1 : Int32)) / (M.1 c2 ((0 : Int32)).toNatClampNeg) * (M.1 c2 ((0 : Int32)).toNatClampNeg)), M))))))
set_option maxHeartbeats 4000000 in
set_option maxRecDepth 100000 in
theorem ctX9_left {G : mG} {l : Launch} (hl : l.stackTraces = false) (N : Nat) (Z : mZ) {a0 : Nat} {a1 : Int32} {M : mM} {r : Int32} {M' : mM} (h : fX9_left N Z a0 a1 M = some (r, M')) : CT G l yX9_left (.code yX9_left cX9_left 2 (some .int)) rmX9_left [.ref a0, .int a1] Z M (.inl (some (.int r))) Z M' := by
  unfold fX9_left at h
  refine CT.of hl (by decide) (Nat.le_of_ble_eq_true rfl) ?_
  intro p e s m args below meth c C hnm
  refine j_sub (L' := [(0, .ref a0), (1, .int a1)]) [0, 1] rfl ?_
  refine j_iload_n C dX9_left_0 rfl 1 rfl ?_
  refine j_aload_n C dX9_left_1 rfl 0 rfl ?_
  obtain ⟨ho1, h⟩ := ck_spec h
  obtain ⟨c2, hr2, h⟩ := bnd1_spec h
  refine j_getR C (cn := RX9) (T := TX9) (N := 23) (ci := 9) rfl iX9 ho1 0 (by decide) rfl fwRX9_7 dX9_left_2 hr2 ?_
  refine j_iconst C dX9_left_5 (v := (0 : Int32)) (by decide) ?_
  obtain ⟨ho3, h⟩ := ck_spec h
  obtain ⟨ho4, h⟩ := ck_spec h
  refine j_iald C ho3 ho4 dX9_left_6 ?_
  refine j_iadd C dX9_left_7 ?_
  refine j_iconst C dX9_left_8 (v := (1 : Int32)) (by decide) ?_
  refine j_isub C dX9_left_9 ?_
  refine j_aload_n C dX9_left_10 rfl 0 rfl ?_
  refine j_getR C (cn := RX9) (T := TX9) (N := 23) (ci := 9) rfl iX9 ho1 0 (by decide) rfl fwRX9_7 dX9_left_11 hr2 ?_
  refine j_iconst C dX9_left_14 (v := (0 : Int32)) (by decide) ?_
  refine j_iald C ho3 ho4 dX9_left_15 ?_
  obtain ⟨ho5, h⟩ := ck_spec h
  refine j_irem C dX9_left_16 (of_decide_eq_true ho5) ?_
  cases h
  exact j_iret C rfl (by decide) (by decide) dX9_left_17
-- ScaffoldPlannerModel right
abbrev rmX9_right : Room := { frames := 0, cells := 0, slots := 0, locals := 0 }
theorem dX9_right_0 : decode cX9_right 0 = .ok (.iload_n 1, 1) := by decide +kernel
theorem dX9_right_1 : decode cX9_right 1 = .ok (.iconst 1, 1) := by decide +kernel
theorem dX9_right_2 : decode cX9_right 2 = .ok (.iadd, 1) := by decide +kernel
theorem dX9_right_3 : decode cX9_right 3 = .ok (.aload_n 0, 1) := by decide +kernel
theorem dX9_right_4 : decode cX9_right 4 = .ok (.getfield 7, 3) := by decide +kernel
theorem dX9_right_7 : decode cX9_right 7 = .ok (.iconst 0, 1) := by decide +kernel
theorem dX9_right_8 : decode cX9_right 8 = .ok (.iaload, 1) := by decide +kernel
theorem dX9_right_9 : decode cX9_right 9 = .ok (.irem, 1) := by decide +kernel
theorem dX9_right_10 : decode cX9_right 10 = .ok (.ireturn, 1) := by decide +kernel
def fX9_right (N : Nat) (Z : mZ) (a0 : Nat) (a1 : Int32) (M : mM) : Option (Int32 × mM) := ck (okO Z a0 9) (bnd1 (Z.2.2.2 a0 0) (fun c2 => ck (okI Z c2) (ck (inB (0 : Int32) (Z.2.2.1 c2)) (ck (decide (¬ (M.1 c2 ((0 : Int32)).toNatClampNeg) = 0)) (some (((a1 + (1 : Int32)) - (a1 + (1 : Int32)) / (M.1 c2 ((0 : Int32)).toNatClampNeg) * (M.1 c2 ((0 : Int32)).toNatClampNeg)), M))))))
set_option maxHeartbeats 4000000 in
set_option maxRecDepth 100000 in
theorem ctX9_right {G : mG} {l : Launch} (hl : l.stackTraces = false) (N : Nat) (Z : mZ) {a0 : Nat} {a1 : Int32} {M : mM} {r : Int32} {M' : mM} (h : fX9_right N Z a0 a1 M = some (r, M')) : CT G l yX9_right (.code yX9_right cX9_right 2 (some .int)) rmX9_right [.ref a0, .int a1] Z M (.inl (some (.int r))) Z M' := by
  unfold fX9_right at h
  refine CT.of hl (by decide) (Nat.le_of_ble_eq_true rfl) ?_
  intro p e s m args below meth c C hnm
  refine j_sub (L' := [(0, .ref a0), (1, .int a1)]) [0, 1] rfl ?_
  refine j_iload_n C dX9_right_0 rfl 1 rfl ?_
  refine j_iconst C dX9_right_1 (v := (1 : Int32)) (by decide) ?_
  refine j_iadd C dX9_right_2 ?_
  refine j_aload_n C dX9_right_3 rfl 0 rfl ?_
  obtain ⟨ho1, h⟩ := ck_spec h
  obtain ⟨c2, hr2, h⟩ := bnd1_spec h
  refine j_getR C (cn := RX9) (T := TX9) (N := 23) (ci := 9) rfl iX9 ho1 0 (by decide) rfl fwRX9_7 dX9_right_4 hr2 ?_
  refine j_iconst C dX9_right_7 (v := (0 : Int32)) (by decide) ?_
  obtain ⟨ho3, h⟩ := ck_spec h
  obtain ⟨ho4, h⟩ := ck_spec h
  refine j_iald C ho3 ho4 dX9_right_8 ?_
  obtain ⟨ho5, h⟩ := ck_spec h
  refine j_irem C dX9_right_9 (of_decide_eq_true ho5) ?_
  cases h
  exact j_iret C rfl (by decide) (by decide) dX9_right_10
-- ScaffoldPlannerModel high
abbrev rmX9_high : Room := { frames := 0, cells := 0, slots := 0, locals := 0 }
theorem dX9_high_0 : decode cX9_high 0 = .ok (.aload_n 0, 1) := by decide +kernel
theorem dX9_high_1 : decode cX9_high 1 = .ok (.getfield 7, 3) := by decide +kernel
theorem dX9_high_4 : decode cX9_high 4 = .ok (.bipush 11, 2) := by decide +kernel
theorem dX9_high_6 : decode cX9_high 6 = .ok (.iload_n 1, 1) := by decide +kernel
theorem dX9_high_7 : decode cX9_high 7 = .ok (.iadd, 1) := by decide +kernel
theorem dX9_high_8 : decode cX9_high 8 = .ok (.iaload, 1) := by decide +kernel
theorem dX9_high_9 : decode cX9_high 9 = .ok (.ireturn, 1) := by decide +kernel
def fX9_high (N : Nat) (Z : mZ) (a0 : Nat) (a1 : Int32) (M : mM) : Option (Int32 × mM) := ck (okO Z a0 9) (bnd1 (Z.2.2.2 a0 0) (fun c2 => ck (okI Z c2) (ck (inB ((11 : Int32) + a1) (Z.2.2.1 c2)) (some ((M.1 c2 (((11 : Int32) + a1)).toNatClampNeg), M)))))
set_option maxHeartbeats 4000000 in
set_option maxRecDepth 100000 in
theorem ctX9_high {G : mG} {l : Launch} (hl : l.stackTraces = false) (N : Nat) (Z : mZ) {a0 : Nat} {a1 : Int32} {M : mM} {r : Int32} {M' : mM} (h : fX9_high N Z a0 a1 M = some (r, M')) : CT G l yX9_high (.code yX9_high cX9_high 2 (some .int)) rmX9_high [.ref a0, .int a1] Z M (.inl (some (.int r))) Z M' := by
  unfold fX9_high at h
  refine CT.of hl (by decide) (Nat.le_of_ble_eq_true rfl) ?_
  intro p e s m args below meth c C hnm
  refine j_sub (L' := [(0, .ref a0), (1, .int a1)]) [0, 1] rfl ?_
  refine j_aload_n C dX9_high_0 rfl 0 rfl ?_
  obtain ⟨ho1, h⟩ := ck_spec h
  obtain ⟨c2, hr2, h⟩ := bnd1_spec h
  refine j_getR C (cn := RX9) (T := TX9) (N := 23) (ci := 9) rfl iX9 ho1 0 (by decide) rfl fwRX9_7 dX9_high_1 hr2 ?_
  refine j_bipush C dX9_high_4 (v := (11 : Int32)) (by decide) ?_
  refine j_iload_n C dX9_high_6 rfl 1 rfl ?_
  refine j_iadd C dX9_high_7 ?_
  obtain ⟨ho3, h⟩ := ck_spec h
  obtain ⟨ho4, h⟩ := ck_spec h
  refine j_iald C ho3 ho4 dX9_high_8 ?_
  cases h
  exact j_iret C rfl (by decide) (by decide) dX9_high_9
-- ScaffoldPlannerModel greater
abbrev rmX9_greater : Room := { frames := 0, cells := 0, slots := 0, locals := 0 }
theorem dX9_greater_0 : decode cX9_greater 0 = .ok (.iload_n 0, 1) := by decide +kernel
theorem dX9_greater_1 : decode cX9_greater 1 = .ok (.iload_n 1, 1) := by decide +kernel
theorem dX9_greater_2 : decode cX9_greater 2 = .ok (.if_icmp .le 7, 3) := by decide +kernel
theorem dX9_greater_5 : decode cX9_greater 5 = .ok (.iload_n 0, 1) := by decide +kernel
theorem dX9_greater_6 : decode cX9_greater 6 = .ok (.goto 4, 3) := by decide +kernel
theorem dX9_greater_9 : decode cX9_greater 9 = .ok (.iload_n 1, 1) := by decide +kernel
theorem dX9_greater_10 : decode cX9_greater 10 = .ok (.ireturn, 1) := by decide +kernel
def fX9_greater (N : Nat) (Z : mZ) (a0 : Int32) (a1 : Int32) (M : mM) : Option (Int32 × mM) := if a0 ≤ a1 then some (a1, M) else some (a0, M)
set_option maxHeartbeats 4000000 in
set_option maxRecDepth 100000 in
theorem ctX9_greater {G : mG} {l : Launch} (hl : l.stackTraces = false) (N : Nat) (Z : mZ) {a0 : Int32} {a1 : Int32} {M : mM} {r : Int32} {M' : mM} (h : fX9_greater N Z a0 a1 M = some (r, M')) : CT G l yX9_greater (.code yX9_greater cX9_greater 2 (some .int)) rmX9_greater [.int a0, .int a1] Z M (.inl (some (.int r))) Z M' := by
  unfold fX9_greater at h
  refine CT.of hl (by decide) (Nat.le_of_ble_eq_true rfl) ?_
  intro p e s m args below meth c C hnm
  refine j_sub (L' := [(0, .int a0), (1, .int a1)]) [0, 1] rfl ?_
  refine j_iload_n C dX9_greater_0 rfl 0 rfl ?_
  refine j_iload_n C dX9_greater_1 rfl 1 rfl ?_
  refine j_icmp_le C dX9_greater_2 (tgt := 9) (by decide) (fun hc1 => ?_) (fun hc1 => ?_)
  · rw [if_pos hc1] at h
    refine j_iload_n C dX9_greater_9 rfl 1 rfl ?_
    cases h
    exact j_iret C rfl (by decide) (by decide) dX9_greater_10
  · rw [if_neg hc1] at h
    refine j_iload_n C dX9_greater_5 rfl 0 rfl ?_
    refine j_goto C dX9_greater_6 (tgt := 10) (by decide) ?_
    cases h
    exact j_iret C rfl (by decide) (by decide) dX9_greater_10
-- ScaffoldPlannerModel postHigh
theorem kcRX9_69 : okV RX9 69 yX9_high (.code yX9_high cX9_high 2 (some .int)) = true := by decide +kernel
theorem oyX9_high : okY yX9_high 1 := ⟨by decide +kernel, by decide +kernel, by decide +kernel⟩
theorem kcRX9_73 : okV RX9 73 yX9_left (.code yX9_left cX9_left 2 (some .int)) = true := by decide +kernel
theorem oyX9_left : okY yX9_left 1 := ⟨by decide +kernel, by decide +kernel, by decide +kernel⟩
theorem kcRX9_76 : okS RX9 76 yX9_greater (.code yX9_greater cX9_greater 2 (some .int)) = true := by decide +kernel
theorem oyX9_greater : okY yX9_greater 2 := ⟨by decide +kernel, by decide +kernel, by decide +kernel⟩
abbrev rmX9_postHigh : Room := { frames := 1, cells := 0, slots := 0, locals := 21 }
theorem dX9_postHigh_0 : decode cX9_postHigh 0 = .ok (.aload_n 0, 1) := by decide +kernel
theorem dX9_postHigh_1 : decode cX9_postHigh 1 = .ok (.iload_n 1, 1) := by decide +kernel
theorem dX9_postHigh_2 : decode cX9_postHigh 2 = .ok (.invokevirtual 69, 3) := by decide +kernel
theorem dX9_postHigh_5 : decode cX9_postHigh 5 = .ok (.aload_n 0, 1) := by decide +kernel
theorem dX9_postHigh_6 : decode cX9_postHigh 6 = .ok (.aload_n 0, 1) := by decide +kernel
theorem dX9_postHigh_7 : decode cX9_postHigh 7 = .ok (.iload_n 1, 1) := by decide +kernel
theorem dX9_postHigh_8 : decode cX9_postHigh 8 = .ok (.invokevirtual 73, 3) := by decide +kernel
theorem dX9_postHigh_11 : decode cX9_postHigh 11 = .ok (.invokevirtual 69, 3) := by decide +kernel
theorem dX9_postHigh_14 : decode cX9_postHigh 14 = .ok (.invokestatic 76, 3) := by decide +kernel
theorem dX9_postHigh_17 : decode cX9_postHigh 17 = .ok (.ireturn, 1) := by decide +kernel
def fX9_postHigh (N : Nat) (Z : mZ) (a0 : Nat) (a1 : Int32) (M : mM) : Option (Int32 × mM) := ck (okO Z a0 9) (bnd2 (fX9_high N Z a0 a1 M) (fun r2 M2 => bnd2 (fX9_left N Z a0 a1 M2) (fun r3 M3 => bnd2 (fX9_high N Z a0 r3 M3) (fun r4 M4 => bnd2 (fX9_greater N Z r2 r4 M4) (fun r5 M5 => some (r5, M5))))))
set_option maxHeartbeats 4000000 in
set_option maxRecDepth 100000 in
theorem ctX9_postHigh {G : mG} {l : Launch} (hl : l.stackTraces = false) (N : Nat) (Z : mZ) {a0 : Nat} {a1 : Int32} {M : mM} {r : Int32} {M' : mM} (h : fX9_postHigh N Z a0 a1 M = some (r, M')) : CT G l yX9_postHigh (.code yX9_postHigh cX9_postHigh 2 (some .int)) rmX9_postHigh [.ref a0, .int a1] Z M (.inl (some (.int r))) Z M' := by
  unfold fX9_postHigh at h
  refine CT.of hl (by decide) (Nat.le_of_ble_eq_true rfl) ?_
  intro p e s m args below meth c C hnm
  refine j_sub (L' := [(0, .ref a0), (1, .int a1)]) [0, 1] rfl ?_
  refine j_aload_n C dX9_postHigh_0 rfl 0 rfl ?_
  refine j_iload_n C dX9_postHigh_1 rfl 1 rfl ?_
  obtain ⟨ho1, h⟩ := ck_spec h
  obtain ⟨r2, M2, hq2, h⟩ := bnd2_spec h
  refine j_run1 (c_V C (As := [.int a1]) (rest := []) (ctX9_high C.2.2.2.2.2.2.2.2.1 N Z hq2) kcRX9_69 oyX9_high (ci := 9) (T := TX9) (N := 23) rfl (by decide) ho1 ⟨by decide, by decide⟩ ⟨by decide, by decide⟩ (Nat.le_of_ble_eq_true rfl) rfl dX9_postHigh_2) ?_
  refine j_aload_n C dX9_postHigh_5 rfl 0 rfl ?_
  refine j_aload_n C dX9_postHigh_6 rfl 0 rfl ?_
  refine j_iload_n C dX9_postHigh_7 rfl 1 rfl ?_
  obtain ⟨r3, M3, hq3, h⟩ := bnd2_spec h
  refine j_run1 (c_V C (As := [.int a1]) (rest := [.ref a0, .int r2]) (ctX9_left C.2.2.2.2.2.2.2.2.1 N Z hq3) kcRX9_73 oyX9_left (ci := 9) (T := TX9) (N := 23) rfl (by decide) ho1 ⟨by decide, by decide⟩ ⟨by decide, by decide⟩ (Nat.le_of_ble_eq_true rfl) rfl dX9_postHigh_8) ?_
  obtain ⟨r4, M4, hq4, h⟩ := bnd2_spec h
  refine j_run1 (c_V C (As := [.int r3]) (rest := [.int r2]) (ctX9_high C.2.2.2.2.2.2.2.2.1 N Z hq4) kcRX9_69 oyX9_high (ci := 9) (T := TX9) (N := 23) rfl (by decide) ho1 ⟨by decide, by decide⟩ ⟨by decide, by decide⟩ (Nat.le_of_ble_eq_true rfl) rfl dX9_postHigh_11) ?_
  obtain ⟨r5, M5, hq5, h⟩ := bnd2_spec h
  refine j_run1 (c_S C (As := [.int r2, .int r4]) (rest := []) (ctX9_greater C.2.2.2.2.2.2.2.2.1 N Z hq5) kcRX9_76 oyX9_greater ⟨by decide, by decide⟩ ⟨by decide, by decide⟩ (Nat.le_of_ble_eq_true rfl) rfl dX9_postHigh_14) ?_
  cases h
  exact j_iret C rfl (by decide) (by decide) dX9_postHigh_17
-- ScaffoldPlannerModel deckAt
abbrev rmX9_deckAt : Room := { frames := 1, cells := 0, slots := 0, locals := 22 }
theorem dX9_deckAt_0 : decode cX9_deckAt 0 = .ok (.iload_n 2, 1) := by decide +kernel
theorem dX9_deckAt_1 : decode cX9_deckAt 1 = .ok (.iconst 1, 1) := by decide +kernel
theorem dX9_deckAt_2 : decode cX9_deckAt 2 = .ok (.bipush 6, 2) := by decide +kernel
theorem dX9_deckAt_4 : decode cX9_deckAt 4 = .ok (.invokestatic 54, 3) := by decide +kernel
theorem dX9_deckAt_7 : decode cX9_deckAt 7 = .ok (.ifCond .eq 20, 3) := by decide +kernel
theorem dX9_deckAt_10 : decode cX9_deckAt 10 = .ok (.aload_n 0, 1) := by decide +kernel
theorem dX9_deckAt_11 : decode cX9_deckAt 11 = .ok (.getfield 7, 3) := by decide +kernel
theorem dX9_deckAt_14 : decode cX9_deckAt 14 = .ok (.bipush 21, 2) := by decide +kernel
theorem dX9_deckAt_16 : decode cX9_deckAt 16 = .ok (.bipush 7, 2) := by decide +kernel
theorem dX9_deckAt_18 : decode cX9_deckAt 18 = .ok (.iload_n 1, 1) := by decide +kernel
theorem dX9_deckAt_19 : decode cX9_deckAt 19 = .ok (.imul, 1) := by decide +kernel
theorem dX9_deckAt_20 : decode cX9_deckAt 20 = .ok (.iadd, 1) := by decide +kernel
theorem dX9_deckAt_21 : decode cX9_deckAt 21 = .ok (.iload_n 2, 1) := by decide +kernel
theorem dX9_deckAt_22 : decode cX9_deckAt 22 = .ok (.iadd, 1) := by decide +kernel
theorem dX9_deckAt_23 : decode cX9_deckAt 23 = .ok (.iaload, 1) := by decide +kernel
theorem dX9_deckAt_24 : decode cX9_deckAt 24 = .ok (.goto 4, 3) := by decide +kernel
theorem dX9_deckAt_27 : decode cX9_deckAt 27 = .ok (.iconst 0, 1) := by decide +kernel
theorem dX9_deckAt_28 : decode cX9_deckAt 28 = .ok (.ireturn, 1) := by decide +kernel
def fX9_deckAt (N : Nat) (Z : mZ) (a0 : Nat) (a1 : Int32) (a2 : Int32) (M : mM) : Option (Int32 × mM) := bnd2 (fX9_in N Z a2 (1 : Int32) (6 : Int32) M) (fun r1 M1 => if r1 = 0 then some ((0 : Int32), M1) else ck (okO Z a0 9) (bnd1 (Z.2.2.2 a0 0) (fun c4 => ck (okI Z c4) (ck (inB (((21 : Int32) + ((7 : Int32) * a1)) + a2) (Z.2.2.1 c4)) (some ((M1.1 c4 ((((21 : Int32) + ((7 : Int32) * a1)) + a2)).toNatClampNeg), M1))))))
set_option maxHeartbeats 4000000 in
set_option maxRecDepth 100000 in
theorem ctX9_deckAt {G : mG} {l : Launch} (hl : l.stackTraces = false) (N : Nat) (Z : mZ) {a0 : Nat} {a1 : Int32} {a2 : Int32} {M : mM} {r : Int32} {M' : mM} (h : fX9_deckAt N Z a0 a1 a2 M = some (r, M')) : CT G l yX9_deckAt (.code yX9_deckAt cX9_deckAt 3 (some .int)) rmX9_deckAt [.ref a0, .int a1, .int a2] Z M (.inl (some (.int r))) Z M' := by
  unfold fX9_deckAt at h
  refine CT.of hl (by decide) (Nat.le_of_ble_eq_true rfl) ?_
  intro p e s m args below meth c C hnm
  refine j_sub (L' := [(0, .ref a0), (1, .int a1), (2, .int a2)]) [0, 1, 2] rfl ?_
  refine j_iload_n C dX9_deckAt_0 rfl 2 rfl ?_
  refine j_iconst C dX9_deckAt_1 (v := (1 : Int32)) (by decide) ?_
  refine j_bipush C dX9_deckAt_2 (v := (6 : Int32)) (by decide) ?_
  obtain ⟨r1, M1, hq1, h⟩ := bnd2_spec h
  refine j_run1 (c_S C (As := [.int a2, .int (1 : Int32), .int (6 : Int32)]) (rest := []) (ctX9_in C.2.2.2.2.2.2.2.2.1 N Z hq1) kcRX9_54 oyX9_in ⟨by decide, by decide⟩ ⟨by decide, by decide⟩ (Nat.le_of_ble_eq_true rfl) rfl dX9_deckAt_4) ?_
  refine j_if_eq C dX9_deckAt_7 (tgt := 27) (by decide) (fun hc2 => ?_) (fun hc2 => ?_)
  · rw [if_pos hc2] at h
    refine j_iconst C dX9_deckAt_27 (v := (0 : Int32)) (by decide) ?_
    cases h
    exact j_iret C rfl (by decide) (by decide) dX9_deckAt_28
  · rw [if_neg hc2] at h
    refine j_aload_n C dX9_deckAt_10 rfl 0 rfl ?_
    obtain ⟨ho3, h⟩ := ck_spec h
    obtain ⟨c4, hr4, h⟩ := bnd1_spec h
    refine j_getR C (cn := RX9) (T := TX9) (N := 23) (ci := 9) rfl iX9 ho3 0 (by decide) rfl fwRX9_7 dX9_deckAt_11 hr4 ?_
    refine j_bipush C dX9_deckAt_14 (v := (21 : Int32)) (by decide) ?_
    refine j_bipush C dX9_deckAt_16 (v := (7 : Int32)) (by decide) ?_
    refine j_iload_n C dX9_deckAt_18 rfl 1 rfl ?_
    refine j_imul C dX9_deckAt_19 ?_
    refine j_iadd C dX9_deckAt_20 ?_
    refine j_iload_n C dX9_deckAt_21 rfl 2 rfl ?_
    refine j_iadd C dX9_deckAt_22 ?_
    obtain ⟨ho5, h⟩ := ck_spec h
    obtain ⟨ho6, h⟩ := ck_spec h
    refine j_iald C ho5 ho6 dX9_deckAt_23 ?_
    refine j_goto C dX9_deckAt_24 (tgt := 28) (by decide) ?_
    cases h
    exact j_iret C rfl (by decide) (by decide) dX9_deckAt_28
