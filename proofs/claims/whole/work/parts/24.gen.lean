-- ScaffoldPlannerLaw work
theorem kcRL_79 : okV RL 79 yX8_work (.code yX8_work cX8_work 3 (some .int)) = true := by decide +kernel
theorem oyX8_work : okY yX8_work 2 := ⟨by decide +kernel, by decide +kernel, by decide +kernel⟩
abbrev rmL_work : Room := { frames := 8, cells := 1, slots := 6, locals := 187 }
abbrev tbL_workr0 : ExceptionTableEntry := { startPc := 0, endPc := 10, handlerPc := 13, catchType := 13 }
abbrev tbL_workr1 : ExceptionTableEntry := { startPc := 0, endPc := 10, handlerPc := 17, catchType := 24 }
abbrev tbL_work : List ExceptionTableEntry := [tbL_workr0, tbL_workr1]
theorem dL_work_0 : decode cL_work 0 = .ok (.aload_n 3, 1) := by decide +kernel
theorem dL_work_1 : decode cL_work 1 = .ok (.iconst 0, 1) := by decide +kernel
theorem dL_work_2 : decode cL_work 2 = .ok (.aload_n 0, 1) := by decide +kernel
theorem dL_work_3 : decode cL_work 3 = .ok (.iload_n 1, 1) := by decide +kernel
theorem dL_work_4 : decode cL_work 4 = .ok (.iload_n 2, 1) := by decide +kernel
theorem dL_work_5 : decode cL_work 5 = .ok (.invokevirtual 79, 3) := by decide +kernel
theorem dL_work_8 : decode cL_work 8 = .ok (.i2l, 1) := by decide +kernel
theorem dL_work_9 : decode cL_work 9 = .ok (.lastore, 1) := by decide +kernel
theorem dL_work_10 : decode cL_work 10 = .ok (.goto 11, 3) := by decide +kernel
theorem dL_work_13 : decode cL_work 13 = .ok (.astore 4, 2) := by decide +kernel
theorem dL_work_15 : decode cL_work 15 = .ok (.iconst 1, 1) := by decide +kernel
theorem dL_work_16 : decode cL_work 16 = .ok (.ireturn, 1) := by decide +kernel
theorem dL_work_17 : decode cL_work 17 = .ok (.astore 4, 2) := by decide +kernel
theorem dL_work_19 : decode cL_work 19 = .ok (.iconst 2, 1) := by decide +kernel
theorem dL_work_20 : decode cL_work 20 = .ok (.ireturn, 1) := by decide +kernel
theorem dL_work_21 : decode cL_work 21 = .ok (.iconst 0, 1) := by decide +kernel
theorem dL_work_22 : decode cL_work 22 = .ok (.ireturn, 1) := by decide +kernel
def fL_work (N : Nat) (Z : mZ) (a0 : Nat) (a1 : Int32) (a2 : Int32) (a3 : Nat) (M : mM) : Option (Int32 × mM) := ck (okO Z a0 8) (bndT (fX8_work N Z a0 a1 a2 M) (fun r2 M2 => ck (okO Z a3 22) (ck (inB (0 : Int32) (Z.2.2.1 a3)) (some ((0 : Int32), (sL M2 a3 ((0 : Int32)).toNatClampNeg ((r2).toInt64)))))) (fun E2 M2 => if E2 = "java/lang/IllegalArgumentException" then some ((1 : Int32), M2) else if E2 = "java/lang/IndexOutOfBoundsException" then some ((2 : Int32), M2) else none))
set_option maxHeartbeats 4000000 in
set_option maxRecDepth 100000 in
theorem ctL_work {G : mG} {l : Launch} (hl : l.stackTraces = false) (N : Nat) (Z : mZ) {a0 : Nat} {a1 : Int32} {a2 : Int32} {a3 : Nat} {M : mM} {r : Int32} {M' : mM} (h : fL_work N Z a0 a1 a2 a3 M = some (r, M')) : CT G l yL_work (.codeWith yL_work cL_work 5 (some .int) [(0, 10, 13, 13), (0, 10, 17, 24)]) rmL_work [.ref a0, .int a1, .int a2, .ref a3] Z M (.inl (some (.int r))) Z M' := by
  unfold fL_work at h
  refine CT.ofH hl (by decide) (Nat.le_of_ble_eq_true rfl) (tb := tbL_work) rfl ?_
  intro p e s m args below meth c C hnm
  refine j_sub (L' := [(0, .ref a0), (1, .int a1), (2, .int a2), (3, .ref a3)]) [0, 1, 2, 3] rfl ?_
  refine j_aload_n C dL_work_0 rfl 3 rfl ?_
  refine j_iconst C dL_work_1 (v := (0 : Int32)) (by decide) ?_
  refine j_aload_n C dL_work_2 rfl 0 rfl ?_
  refine j_iload_n C dL_work_3 rfl 1 rfl ?_
  refine j_iload_n C dL_work_4 rfl 2 rfl ?_
  obtain ⟨ho1, h⟩ := ck_spec h
  rcases bndT_spec h with ⟨r2, M2, hq2, h⟩ | ⟨E2, M2, hq2, h⟩
  · refine j_run1 (c_V C (As := [.int a1, .int a2]) (rest := [.int (0 : Int32), .ref a3]) (ctX8_work C.2.2.2.2.2.2.2.2.1 N Z hq2) kcRL_79 oyX8_work (ci := 8) (T := TX8) (N := 11) rfl (by decide) ho1 ⟨by decide, by decide⟩ ⟨by decide, by decide⟩ (Nat.le_of_ble_eq_true rfl) rfl dL_work_5) ?_
    refine j_i2l C dL_work_8 ?_
    obtain ⟨ho3, h⟩ := ck_spec h
    obtain ⟨ho4, h⟩ := ck_spec h
    refine j_last C ho3 ho4 dL_work_9 ?_
    refine j_goto C dL_work_10 (tgt := 21) (by decide) ?_
    refine j_iconst C dL_work_21 (v := (0 : Int32)) (by decide) ?_
    obtain ⟨rfl, rfl⟩ := so2 h
    exact j_iret C rfl (by decide) (by decide) dL_work_22
  · by_cases hc5 : E2 = "java/lang/IllegalArgumentException"
    · rw [if_pos hc5] at h
      subst hc5
      refine j_caught C (c_V C (As := [.int a1, .int a2]) (rest := [.int (0 : Int32), .ref a3]) (ctX8_work C.2.2.2.2.2.2.2.2.1 N Z hq2) kcRL_79 oyX8_work (ci := 8) (T := TX8) (N := 11) rfl (by decide) ho1 ⟨by decide, by decide⟩ ⟨by decide, by decide⟩ (Nat.le_of_ble_eq_true rfl) rfl dL_work_5) [] tbL_workr0 [tbL_workr1] [] rfl (by decide +kernel) rfl (by decide) hlRL_13 hcast_IllegalArgumentException (i1 := 4) (by decide) (Or.inr ⟨rfl, dL_work_13⟩) ?_
      refine j_iconst C dL_work_15 (v := (1 : Int32)) (by decide) ?_
      obtain ⟨rfl, rfl⟩ := so2 h
      exact j_iret C rfl (by decide) (by decide) dL_work_16
    rw [if_neg hc5] at h
    by_cases hc6 : E2 = "java/lang/IndexOutOfBoundsException"
    · rw [if_pos hc6] at h
      subst hc6
      refine j_caught C (c_V C (As := [.int a1, .int a2]) (rest := [.int (0 : Int32), .ref a3]) (ctX8_work C.2.2.2.2.2.2.2.2.1 N Z hq2) kcRL_79 oyX8_work (ci := 8) (T := TX8) (N := 11) rfl (by decide) ho1 ⟨by decide, by decide⟩ ⟨by decide, by decide⟩ (Nat.le_of_ble_eq_true rfl) rfl dL_work_5) [tbL_workr0] tbL_workr1 [] ["java/lang/IllegalArgumentException"] rfl (by decide +kernel) rfl (by decide) hlRL_24 hcast_IndexOutOfBoundsException (i1 := 4) (by decide) (Or.inr ⟨rfl, dL_work_17⟩) ?_
      refine j_iconst C dL_work_19 (v := (2 : Int32)) (by decide) ?_
      obtain ⟨rfl, rfl⟩ := so2 h
      exact j_iret C rfl (by decide) (by decide) dL_work_20
    rw [if_neg hc6] at h
    cases h
-- ScaffoldPlannerLaw account
theorem kcRL_82 : okV RL 82 yX8_account (.code yX8_account cX8_account 2 (some .int)) = true := by decide +kernel
theorem oyX8_account : okY yX8_account 1 := ⟨by decide +kernel, by decide +kernel, by decide +kernel⟩
abbrev rmL_account : Room := { frames := 7, cells := 1, slots := 6, locals := 111 }
abbrev tbL_accountr0 : ExceptionTableEntry := { startPc := 0, endPc := 9, handlerPc := 12, catchType := 13 }
abbrev tbL_account : List ExceptionTableEntry := [tbL_accountr0]
theorem dL_account_0 : decode cL_account 0 = .ok (.aload_n 2, 1) := by decide +kernel
theorem dL_account_1 : decode cL_account 1 = .ok (.iconst 0, 1) := by decide +kernel
theorem dL_account_2 : decode cL_account 2 = .ok (.aload_n 0, 1) := by decide +kernel
theorem dL_account_3 : decode cL_account 3 = .ok (.iload_n 1, 1) := by decide +kernel
theorem dL_account_4 : decode cL_account 4 = .ok (.invokevirtual 82, 3) := by decide +kernel
theorem dL_account_7 : decode cL_account 7 = .ok (.i2l, 1) := by decide +kernel
theorem dL_account_8 : decode cL_account 8 = .ok (.lastore, 1) := by decide +kernel
theorem dL_account_9 : decode cL_account 9 = .ok (.goto 6, 3) := by decide +kernel
theorem dL_account_12 : decode cL_account 12 = .ok (.astore_n 3, 1) := by decide +kernel
theorem dL_account_13 : decode cL_account 13 = .ok (.iconst 1, 1) := by decide +kernel
theorem dL_account_14 : decode cL_account 14 = .ok (.ireturn, 1) := by decide +kernel
theorem dL_account_15 : decode cL_account 15 = .ok (.iconst 0, 1) := by decide +kernel
theorem dL_account_16 : decode cL_account 16 = .ok (.ireturn, 1) := by decide +kernel
def fL_account (N : Nat) (Z : mZ) (a0 : Nat) (a1 : Int32) (a2 : Nat) (M : mM) : Option (Int32 × mM) := ck (okO Z a0 8) (bndT (fX8_account N Z a0 a1 M) (fun r2 M2 => ck (okO Z a2 22) (ck (inB (0 : Int32) (Z.2.2.1 a2)) (some ((0 : Int32), (sL M2 a2 ((0 : Int32)).toNatClampNeg ((r2).toInt64)))))) (fun E2 M2 => if E2 = "java/lang/IllegalArgumentException" then some ((1 : Int32), M2) else none))
set_option maxHeartbeats 4000000 in
set_option maxRecDepth 100000 in
theorem ctL_account {G : mG} {l : Launch} (hl : l.stackTraces = false) (N : Nat) (Z : mZ) {a0 : Nat} {a1 : Int32} {a2 : Nat} {M : mM} {r : Int32} {M' : mM} (h : fL_account N Z a0 a1 a2 M = some (r, M')) : CT G l yL_account (.codeWith yL_account cL_account 4 (some .int) [(0, 9, 12, 13)]) rmL_account [.ref a0, .int a1, .ref a2] Z M (.inl (some (.int r))) Z M' := by
  unfold fL_account at h
  refine CT.ofH hl (by decide) (Nat.le_of_ble_eq_true rfl) (tb := tbL_account) rfl ?_
  intro p e s m args below meth c C hnm
  refine j_sub (L' := [(0, .ref a0), (1, .int a1), (2, .ref a2)]) [0, 1, 2] rfl ?_
  refine j_aload_n C dL_account_0 rfl 2 rfl ?_
  refine j_iconst C dL_account_1 (v := (0 : Int32)) (by decide) ?_
  refine j_aload_n C dL_account_2 rfl 0 rfl ?_
  refine j_iload_n C dL_account_3 rfl 1 rfl ?_
  obtain ⟨ho1, h⟩ := ck_spec h
  rcases bndT_spec h with ⟨r2, M2, hq2, h⟩ | ⟨E2, M2, hq2, h⟩
  · refine j_run1 (c_V C (As := [.int a1]) (rest := [.int (0 : Int32), .ref a2]) (ctX8_account C.2.2.2.2.2.2.2.2.1 N Z hq2) kcRL_82 oyX8_account (ci := 8) (T := TX8) (N := 11) rfl (by decide) ho1 ⟨by decide, by decide⟩ ⟨by decide, by decide⟩ (Nat.le_of_ble_eq_true rfl) rfl dL_account_4) ?_
    refine j_i2l C dL_account_7 ?_
    obtain ⟨ho3, h⟩ := ck_spec h
    obtain ⟨ho4, h⟩ := ck_spec h
    refine j_last C ho3 ho4 dL_account_8 ?_
    refine j_goto C dL_account_9 (tgt := 15) (by decide) ?_
    refine j_iconst C dL_account_15 (v := (0 : Int32)) (by decide) ?_
    obtain ⟨rfl, rfl⟩ := so2 h
    exact j_iret C rfl (by decide) (by decide) dL_account_16
  · by_cases hc5 : E2 = "java/lang/IllegalArgumentException"
    · rw [if_pos hc5] at h
      subst hc5
      refine j_caught C (c_V C (As := [.int a1]) (rest := [.int (0 : Int32), .ref a2]) (ctX8_account C.2.2.2.2.2.2.2.2.1 N Z hq2) kcRL_82 oyX8_account (ci := 8) (T := TX8) (N := 11) rfl (by decide) ho1 ⟨by decide, by decide⟩ ⟨by decide, by decide⟩ (Nat.le_of_ble_eq_true rfl) rfl dL_account_4) [] tbL_accountr0 [] [] rfl (by decide +kernel) rfl (by decide) hlRL_13 hcast_IllegalArgumentException (i1 := 3) (by decide) (Or.inl ⟨3, rfl, rfl, dL_account_12⟩) ?_
      refine j_iconst C dL_account_13 (v := (1 : Int32)) (by decide) ?_
      obtain ⟨rfl, rfl⟩ := so2 h
      exact j_iret C rfl (by decide) (by decide) dL_account_14
    rw [if_neg hc5] at h
    cases h
-- ScaffoldPlannerLaw use
theorem kcRL_85 : okV RL 85 yX8_use (.code yX8_use cX8_use 3 (some .float)) = true := by decide +kernel
theorem oyX8_use : okY yX8_use 1 := ⟨by decide +kernel, by decide +kernel, by decide +kernel⟩
abbrev rmL_use : Room := { frames := 7, cells := 1, slots := 6, locals := 112 }
abbrev tbL_user0 : ExceptionTableEntry := { startPc := 0, endPc := 9, handlerPc := 12, catchType := 24 }
abbrev tbL_use : List ExceptionTableEntry := [tbL_user0]
theorem dL_use_0 : decode cL_use 0 = .ok (.aload_n 2, 1) := by decide +kernel
theorem dL_use_1 : decode cL_use 1 = .ok (.iconst 0, 1) := by decide +kernel
theorem dL_use_2 : decode cL_use 2 = .ok (.aload_n 0, 1) := by decide +kernel
theorem dL_use_3 : decode cL_use 3 = .ok (.iload_n 1, 1) := by decide +kernel
theorem dL_use_4 : decode cL_use 4 = .ok (.invokevirtual 85, 3) := by decide +kernel
theorem dL_use_7 : decode cL_use 7 = .ok (.f2d, 1) := by decide +kernel
theorem dL_use_8 : decode cL_use 8 = .ok (.dastore, 1) := by decide +kernel
theorem dL_use_9 : decode cL_use 9 = .ok (.goto 6, 3) := by decide +kernel
theorem dL_use_12 : decode cL_use 12 = .ok (.astore_n 3, 1) := by decide +kernel
theorem dL_use_13 : decode cL_use 13 = .ok (.iconst 1, 1) := by decide +kernel
theorem dL_use_14 : decode cL_use 14 = .ok (.ireturn, 1) := by decide +kernel
theorem dL_use_15 : decode cL_use 15 = .ok (.iconst 0, 1) := by decide +kernel
theorem dL_use_16 : decode cL_use 16 = .ok (.ireturn, 1) := by decide +kernel
def fL_use (N : Nat) (Z : mZ) (a0 : Nat) (a1 : Int32) (a2 : Nat) (M : mM) : Option (Int32 × mM) := ck (okO Z a0 8) (bndT (fX8_use N Z a0 a1 M) (fun r2 M2 => ck (nn64 (FP.f2d r2)) (ck (okO Z a2 23) (ck (inB (0 : Int32) (Z.2.2.1 a2)) (some ((0 : Int32), (sD M2 a2 ((0 : Int32)).toNatClampNeg (FP.f2d r2))))))) (fun E2 M2 => if E2 = "java/lang/IndexOutOfBoundsException" then some ((1 : Int32), M2) else none))
set_option maxHeartbeats 4000000 in
set_option maxRecDepth 100000 in
theorem ctL_use {G : mG} {l : Launch} (hl : l.stackTraces = false) (N : Nat) (Z : mZ) {a0 : Nat} {a1 : Int32} {a2 : Nat} {M : mM} {r : Int32} {M' : mM} (h : fL_use N Z a0 a1 a2 M = some (r, M')) : CT G l yL_use (.codeWith yL_use cL_use 4 (some .int) [(0, 9, 12, 24)]) rmL_use [.ref a0, .int a1, .ref a2] Z M (.inl (some (.int r))) Z M' := by
  unfold fL_use at h
  refine CT.ofH hl (by decide) (Nat.le_of_ble_eq_true rfl) (tb := tbL_use) rfl ?_
  intro p e s m args below meth c C hnm
  refine j_sub (L' := [(0, .ref a0), (1, .int a1), (2, .ref a2)]) [0, 1, 2] rfl ?_
  refine j_aload_n C dL_use_0 rfl 2 rfl ?_
  refine j_iconst C dL_use_1 (v := (0 : Int32)) (by decide) ?_
  refine j_aload_n C dL_use_2 rfl 0 rfl ?_
  refine j_iload_n C dL_use_3 rfl 1 rfl ?_
  obtain ⟨ho1, h⟩ := ck_spec h
  rcases bndT_spec h with ⟨r2, M2, hq2, h⟩ | ⟨E2, M2, hq2, h⟩
  · refine j_run1 (c_V C (As := [.int a1]) (rest := [.int (0 : Int32), .ref a2]) (ctX8_use C.2.2.2.2.2.2.2.2.1 N Z hq2) kcRL_85 oyX8_use (ci := 8) (T := TX8) (N := 11) rfl (by decide) ho1 ⟨by decide, by decide⟩ ⟨by decide, by decide⟩ (Nat.le_of_ble_eq_true rfl) rfl dL_use_4) ?_
    obtain ⟨ho3, h⟩ := ck_spec h
    refine j_f2d C dL_use_7 (nn64_spec ho3) ?_
    obtain ⟨ho4, h⟩ := ck_spec h
    obtain ⟨ho5, h⟩ := ck_spec h
    refine j_dast C ho4 ho5 dL_use_8 ?_
    refine j_goto C dL_use_9 (tgt := 15) (by decide) ?_
    refine j_iconst C dL_use_15 (v := (0 : Int32)) (by decide) ?_
    obtain ⟨rfl, rfl⟩ := so2 h
    exact j_iret C rfl (by decide) (by decide) dL_use_16
  · by_cases hc6 : E2 = "java/lang/IndexOutOfBoundsException"
    · rw [if_pos hc6] at h
      subst hc6
      refine j_caught C (c_V C (As := [.int a1]) (rest := [.int (0 : Int32), .ref a2]) (ctX8_use C.2.2.2.2.2.2.2.2.1 N Z hq2) kcRL_85 oyX8_use (ci := 8) (T := TX8) (N := 11) rfl (by decide) ho1 ⟨by decide, by decide⟩ ⟨by decide, by decide⟩ (Nat.le_of_ble_eq_true rfl) rfl dL_use_4) [] tbL_user0 [] [] rfl (by decide +kernel) rfl (by decide) hlRL_24 hcast_IndexOutOfBoundsException (i1 := 3) (by decide) (Or.inl ⟨3, rfl, rfl, dL_use_12⟩) ?_
      refine j_iconst C dL_use_13 (v := (1 : Int32)) (by decide) ?_
      obtain ⟨rfl, rfl⟩ := so2 h
      exact j_iret C rfl (by decide) (by decide) dL_use_14
    rw [if_neg hc6] at h
    cases h
-- ScaffoldPlannerLaw meanClass
theorem kcRL_89 : okV RL 89 yX8_meanClass (.code yX8_meanClass cX8_meanClass 2 (some .double)) = true := by decide +kernel
theorem oyX8_meanClass : okY yX8_meanClass 0 := ⟨by decide +kernel, by decide +kernel, by decide +kernel⟩
theorem hlRL_93 : Cond.classLink RL 93 "java/lang/ArithmeticException" ∈ gw := by decide +kernel
theorem hcast_ArithmeticException : Cond.castable "java/lang/ArithmeticException" "java/lang/ArithmeticException" ∈ nw := by decide +kernel
abbrev rmL_meanClass : Room := { frames := 7, cells := 1, slots := 6, locals := 111 }
abbrev tbL_meanClassr0 : ExceptionTableEntry := { startPc := 0, endPc := 7, handlerPc := 10, catchType := 93 }
abbrev tbL_meanClass : List ExceptionTableEntry := [tbL_meanClassr0]
theorem dL_meanClass_0 : decode cL_meanClass 0 = .ok (.aload_n 1, 1) := by decide +kernel
theorem dL_meanClass_1 : decode cL_meanClass 1 = .ok (.iconst 0, 1) := by decide +kernel
theorem dL_meanClass_2 : decode cL_meanClass 2 = .ok (.aload_n 0, 1) := by decide +kernel
theorem dL_meanClass_3 : decode cL_meanClass 3 = .ok (.invokevirtual 89, 3) := by decide +kernel
theorem dL_meanClass_6 : decode cL_meanClass 6 = .ok (.dastore, 1) := by decide +kernel
theorem dL_meanClass_7 : decode cL_meanClass 7 = .ok (.goto 6, 3) := by decide +kernel
theorem dL_meanClass_10 : decode cL_meanClass 10 = .ok (.astore_n 2, 1) := by decide +kernel
theorem dL_meanClass_11 : decode cL_meanClass 11 = .ok (.iconst 1, 1) := by decide +kernel
theorem dL_meanClass_12 : decode cL_meanClass 12 = .ok (.ireturn, 1) := by decide +kernel
theorem dL_meanClass_13 : decode cL_meanClass 13 = .ok (.iconst 0, 1) := by decide +kernel
theorem dL_meanClass_14 : decode cL_meanClass 14 = .ok (.ireturn, 1) := by decide +kernel
def fL_meanClass (N : Nat) (Z : mZ) (a0 : Nat) (a1 : Nat) (M : mM) : Option (Int32 × mM) := ck (okO Z a0 8) (bndT (fX8_meanClass N Z a0 M) (fun r2 M2 => ck (okO Z a1 23) (ck (inB (0 : Int32) (Z.2.2.1 a1)) (some ((0 : Int32), (sD M2 a1 ((0 : Int32)).toNatClampNeg r2))))) (fun E2 M2 => if E2 = "java/lang/ArithmeticException" then some ((1 : Int32), M2) else none))
set_option maxHeartbeats 4000000 in
set_option maxRecDepth 100000 in
theorem ctL_meanClass {G : mG} {l : Launch} (hl : l.stackTraces = false) (N : Nat) (Z : mZ) {a0 : Nat} {a1 : Nat} {M : mM} {r : Int32} {M' : mM} (h : fL_meanClass N Z a0 a1 M = some (r, M')) : CT G l yL_meanClass (.codeWith yL_meanClass cL_meanClass 3 (some .int) [(0, 7, 10, 93)]) rmL_meanClass [.ref a0, .ref a1] Z M (.inl (some (.int r))) Z M' := by
  unfold fL_meanClass at h
  refine CT.ofH hl (by decide) (Nat.le_of_ble_eq_true rfl) (tb := tbL_meanClass) rfl ?_
  intro p e s m args below meth c C hnm
  refine j_sub (L' := [(0, .ref a0), (1, .ref a1)]) [0, 1] rfl ?_
  refine j_aload_n C dL_meanClass_0 rfl 1 rfl ?_
  refine j_iconst C dL_meanClass_1 (v := (0 : Int32)) (by decide) ?_
  refine j_aload_n C dL_meanClass_2 rfl 0 rfl ?_
  obtain ⟨ho1, h⟩ := ck_spec h
  rcases bndT_spec h with ⟨r2, M2, hq2, h⟩ | ⟨E2, M2, hq2, h⟩
  · refine j_run1 (c_V C (As := []) (rest := [.int (0 : Int32), .ref a1]) (ctX8_meanClass C.2.2.2.2.2.2.2.2.1 N Z hq2) kcRL_89 oyX8_meanClass (ci := 8) (T := TX8) (N := 11) rfl (by decide) ho1 ⟨by decide, by decide⟩ ⟨by decide, by decide⟩ (Nat.le_of_ble_eq_true rfl) rfl dL_meanClass_3) ?_
    obtain ⟨ho3, h⟩ := ck_spec h
    obtain ⟨ho4, h⟩ := ck_spec h
    refine j_dast C ho3 ho4 dL_meanClass_6 ?_
    refine j_goto C dL_meanClass_7 (tgt := 13) (by decide) ?_
    refine j_iconst C dL_meanClass_13 (v := (0 : Int32)) (by decide) ?_
    obtain ⟨rfl, rfl⟩ := so2 h
    exact j_iret C rfl (by decide) (by decide) dL_meanClass_14
  · by_cases hc5 : E2 = "java/lang/ArithmeticException"
    · rw [if_pos hc5] at h
      subst hc5
      refine j_caught C (c_V C (As := []) (rest := [.int (0 : Int32), .ref a1]) (ctX8_meanClass C.2.2.2.2.2.2.2.2.1 N Z hq2) kcRL_89 oyX8_meanClass (ci := 8) (T := TX8) (N := 11) rfl (by decide) ho1 ⟨by decide, by decide⟩ ⟨by decide, by decide⟩ (Nat.le_of_ble_eq_true rfl) rfl dL_meanClass_3) [] tbL_meanClassr0 [] [] rfl (by decide +kernel) rfl (by decide) hlRL_93 hcast_ArithmeticException (i1 := 2) (by decide) (Or.inl ⟨2, rfl, rfl, dL_meanClass_10⟩) ?_
      refine j_iconst C dL_meanClass_11 (v := (1 : Int32)) (by decide) ?_
      obtain ⟨rfl, rfl⟩ := so2 h
      exact j_iret C rfl (by decide) (by decide) dL_meanClass_12
    rw [if_neg hc5] at h
    cases h
-- ScaffoldPlannerLaw feed
theorem kcRL_95 : okV RL 95 yX8_feed (.code yX8_feed cX8_feed 2 (some .int)) = true := by decide +kernel
theorem oyX8_feed : okY yX8_feed 1 := ⟨by decide +kernel, by decide +kernel, by decide +kernel⟩
abbrev rmL_feed : Room := { frames := 7, cells := 1, slots := 6, locals := 111 }
abbrev tbL_feedr0 : ExceptionTableEntry := { startPc := 0, endPc := 9, handlerPc := 12, catchType := 19 }
abbrev tbL_feed : List ExceptionTableEntry := [tbL_feedr0]
theorem dL_feed_0 : decode cL_feed 0 = .ok (.aload_n 2, 1) := by decide +kernel
theorem dL_feed_1 : decode cL_feed 1 = .ok (.iconst 0, 1) := by decide +kernel
theorem dL_feed_2 : decode cL_feed 2 = .ok (.aload_n 0, 1) := by decide +kernel
theorem dL_feed_3 : decode cL_feed 3 = .ok (.iload_n 1, 1) := by decide +kernel
theorem dL_feed_4 : decode cL_feed 4 = .ok (.invokevirtual 95, 3) := by decide +kernel
theorem dL_feed_7 : decode cL_feed 7 = .ok (.i2l, 1) := by decide +kernel
theorem dL_feed_8 : decode cL_feed 8 = .ok (.lastore, 1) := by decide +kernel
theorem dL_feed_9 : decode cL_feed 9 = .ok (.goto 6, 3) := by decide +kernel
theorem dL_feed_12 : decode cL_feed 12 = .ok (.astore_n 3, 1) := by decide +kernel
theorem dL_feed_13 : decode cL_feed 13 = .ok (.iconst 1, 1) := by decide +kernel
theorem dL_feed_14 : decode cL_feed 14 = .ok (.ireturn, 1) := by decide +kernel
theorem dL_feed_15 : decode cL_feed 15 = .ok (.iconst 0, 1) := by decide +kernel
theorem dL_feed_16 : decode cL_feed 16 = .ok (.ireturn, 1) := by decide +kernel
def fL_feed (N : Nat) (Z : mZ) (a0 : Nat) (a1 : Int32) (a2 : Nat) (M : mM) : Option (Int32 × mM) := ck (okO Z a0 8) (bndT (fX8_feed N Z a0 a1 M) (fun r2 M2 => ck (okO Z a2 22) (ck (inB (0 : Int32) (Z.2.2.1 a2)) (some ((0 : Int32), (sL M2 a2 ((0 : Int32)).toNatClampNeg ((r2).toInt64)))))) (fun E2 M2 => if E2 = "java/lang/IllegalStateException" then some ((1 : Int32), M2) else none))
set_option maxHeartbeats 4000000 in
set_option maxRecDepth 100000 in
theorem ctL_feed {G : mG} {l : Launch} (hl : l.stackTraces = false) (N : Nat) (Z : mZ) {a0 : Nat} {a1 : Int32} {a2 : Nat} {M : mM} {r : Int32} {M' : mM} (h : fL_feed N Z a0 a1 a2 M = some (r, M')) : CT G l yL_feed (.codeWith yL_feed cL_feed 4 (some .int) [(0, 9, 12, 19)]) rmL_feed [.ref a0, .int a1, .ref a2] Z M (.inl (some (.int r))) Z M' := by
  unfold fL_feed at h
  refine CT.ofH hl (by decide) (Nat.le_of_ble_eq_true rfl) (tb := tbL_feed) rfl ?_
  intro p e s m args below meth c C hnm
  refine j_sub (L' := [(0, .ref a0), (1, .int a1), (2, .ref a2)]) [0, 1, 2] rfl ?_
  refine j_aload_n C dL_feed_0 rfl 2 rfl ?_
  refine j_iconst C dL_feed_1 (v := (0 : Int32)) (by decide) ?_
  refine j_aload_n C dL_feed_2 rfl 0 rfl ?_
  refine j_iload_n C dL_feed_3 rfl 1 rfl ?_
  obtain ⟨ho1, h⟩ := ck_spec h
  rcases bndT_spec h with ⟨r2, M2, hq2, h⟩ | ⟨E2, M2, hq2, h⟩
  · refine j_run1 (c_V C (As := [.int a1]) (rest := [.int (0 : Int32), .ref a2]) (ctX8_feed C.2.2.2.2.2.2.2.2.1 N Z hq2) kcRL_95 oyX8_feed (ci := 8) (T := TX8) (N := 11) rfl (by decide) ho1 ⟨by decide, by decide⟩ ⟨by decide, by decide⟩ (Nat.le_of_ble_eq_true rfl) rfl dL_feed_4) ?_
    refine j_i2l C dL_feed_7 ?_
    obtain ⟨ho3, h⟩ := ck_spec h
    obtain ⟨ho4, h⟩ := ck_spec h
    refine j_last C ho3 ho4 dL_feed_8 ?_
    refine j_goto C dL_feed_9 (tgt := 15) (by decide) ?_
    refine j_iconst C dL_feed_15 (v := (0 : Int32)) (by decide) ?_
    obtain ⟨rfl, rfl⟩ := so2 h
    exact j_iret C rfl (by decide) (by decide) dL_feed_16
  · by_cases hc5 : E2 = "java/lang/IllegalStateException"
    · rw [if_pos hc5] at h
      subst hc5
      refine j_caught C (c_V C (As := [.int a1]) (rest := [.int (0 : Int32), .ref a2]) (ctX8_feed C.2.2.2.2.2.2.2.2.1 N Z hq2) kcRL_95 oyX8_feed (ci := 8) (T := TX8) (N := 11) rfl (by decide) ho1 ⟨by decide, by decide⟩ ⟨by decide, by decide⟩ (Nat.le_of_ble_eq_true rfl) rfl dL_feed_4) [] tbL_feedr0 [] [] rfl (by decide +kernel) rfl (by decide) hlRL_19 hcast_IllegalStateException (i1 := 3) (by decide) (Or.inl ⟨3, rfl, rfl, dL_feed_12⟩) ?_
      refine j_iconst C dL_feed_13 (v := (1 : Int32)) (by decide) ?_
      obtain ⟨rfl, rfl⟩ := so2 h
      exact j_iret C rfl (by decide) (by decide) dL_feed_14
    rw [if_neg hc5] at h
    cases h
-- ScaffoldPlannerLaw perform
theorem kcRL_99 : okV RL 99 yX8_perform (.code yX8_perform cX8_perform 3 (some .int)) = true := by decide +kernel
theorem oyX8_perform : okY yX8_perform 0 := ⟨by decide +kernel, by decide +kernel, by decide +kernel⟩
abbrev rmL_perform : Room := { frames := 7, cells := 1, slots := 6, locals := 159 }
abbrev tbL_performr0 : ExceptionTableEntry := { startPc := 0, endPc := 8, handlerPc := 11, catchType := 29 }
abbrev tbL_perform : List ExceptionTableEntry := [tbL_performr0]
theorem dL_perform_0 : decode cL_perform 0 = .ok (.aload_n 1, 1) := by decide +kernel
theorem dL_perform_1 : decode cL_perform 1 = .ok (.iconst 0, 1) := by decide +kernel
theorem dL_perform_2 : decode cL_perform 2 = .ok (.aload_n 0, 1) := by decide +kernel
theorem dL_perform_3 : decode cL_perform 3 = .ok (.invokevirtual 99, 3) := by decide +kernel
theorem dL_perform_6 : decode cL_perform 6 = .ok (.i2l, 1) := by decide +kernel
theorem dL_perform_7 : decode cL_perform 7 = .ok (.lastore, 1) := by decide +kernel
theorem dL_perform_8 : decode cL_perform 8 = .ok (.goto 6, 3) := by decide +kernel
theorem dL_perform_11 : decode cL_perform 11 = .ok (.astore_n 2, 1) := by decide +kernel
theorem dL_perform_12 : decode cL_perform 12 = .ok (.iconst 1, 1) := by decide +kernel
theorem dL_perform_13 : decode cL_perform 13 = .ok (.ireturn, 1) := by decide +kernel
theorem dL_perform_14 : decode cL_perform 14 = .ok (.iconst 0, 1) := by decide +kernel
theorem dL_perform_15 : decode cL_perform 15 = .ok (.ireturn, 1) := by decide +kernel
def fL_perform (N : Nat) (Z : mZ) (a0 : Nat) (a1 : Nat) (M : mM) : Option (Int32 × mM) := ck (okO Z a0 8) (bndT (fX8_perform N Z a0 M) (fun r2 M2 => ck (okO Z a1 22) (ck (inB (0 : Int32) (Z.2.2.1 a1)) (some ((0 : Int32), (sL M2 a1 ((0 : Int32)).toNatClampNeg ((r2).toInt64)))))) (fun E2 M2 => if E2 = "java/lang/UnsupportedOperationException" then some ((1 : Int32), M2) else none))
set_option maxHeartbeats 4000000 in
set_option maxRecDepth 100000 in
theorem ctL_perform {G : mG} {l : Launch} (hl : l.stackTraces = false) (N : Nat) (Z : mZ) {a0 : Nat} {a1 : Nat} {M : mM} {r : Int32} {M' : mM} (h : fL_perform N Z a0 a1 M = some (r, M')) : CT G l yL_perform (.codeWith yL_perform cL_perform 3 (some .int) [(0, 8, 11, 29)]) rmL_perform [.ref a0, .ref a1] Z M (.inl (some (.int r))) Z M' := by
  unfold fL_perform at h
  refine CT.ofH hl (by decide) (Nat.le_of_ble_eq_true rfl) (tb := tbL_perform) rfl ?_
  intro p e s m args below meth c C hnm
  refine j_sub (L' := [(0, .ref a0), (1, .ref a1)]) [0, 1] rfl ?_
  refine j_aload_n C dL_perform_0 rfl 1 rfl ?_
  refine j_iconst C dL_perform_1 (v := (0 : Int32)) (by decide) ?_
  refine j_aload_n C dL_perform_2 rfl 0 rfl ?_
  obtain ⟨ho1, h⟩ := ck_spec h
  rcases bndT_spec h with ⟨r2, M2, hq2, h⟩ | ⟨E2, M2, hq2, h⟩
  · refine j_run1 (c_V C (As := []) (rest := [.int (0 : Int32), .ref a1]) (ctX8_perform C.2.2.2.2.2.2.2.2.1 N Z hq2) kcRL_99 oyX8_perform (ci := 8) (T := TX8) (N := 11) rfl (by decide) ho1 ⟨by decide, by decide⟩ ⟨by decide, by decide⟩ (Nat.le_of_ble_eq_true rfl) rfl dL_perform_3) ?_
    refine j_i2l C dL_perform_6 ?_
    obtain ⟨ho3, h⟩ := ck_spec h
    obtain ⟨ho4, h⟩ := ck_spec h
    refine j_last C ho3 ho4 dL_perform_7 ?_
    refine j_goto C dL_perform_8 (tgt := 14) (by decide) ?_
    refine j_iconst C dL_perform_14 (v := (0 : Int32)) (by decide) ?_
    obtain ⟨rfl, rfl⟩ := so2 h
    exact j_iret C rfl (by decide) (by decide) dL_perform_15
  · by_cases hc5 : E2 = "java/lang/UnsupportedOperationException"
    · rw [if_pos hc5] at h
      subst hc5
      refine j_caught C (c_V C (As := []) (rest := [.int (0 : Int32), .ref a1]) (ctX8_perform C.2.2.2.2.2.2.2.2.1 N Z hq2) kcRL_99 oyX8_perform (ci := 8) (T := TX8) (N := 11) rfl (by decide) ho1 ⟨by decide, by decide⟩ ⟨by decide, by decide⟩ (Nat.le_of_ble_eq_true rfl) rfl dL_perform_3) [] tbL_performr0 [] [] rfl (by decide +kernel) rfl (by decide) hlRL_29 hcast_UnsupportedOperationException (i1 := 2) (by decide) (Or.inl ⟨2, rfl, rfl, dL_perform_11⟩) ?_
      refine j_iconst C dL_perform_12 (v := (1 : Int32)) (by decide) ?_
      obtain ⟨rfl, rfl⟩ := so2 h
      exact j_iret C rfl (by decide) (by decide) dL_perform_13
    rw [if_neg hc5] at h
    cases h
-- ScaffoldPlannerLaw undo
theorem kcRL_102 : okV RL 102 yX8_undo (.code yX8_undo cX8_undo 1 (some .int)) = true := by decide +kernel
theorem oyX8_undo : okY yX8_undo 0 := ⟨by decide +kernel, by decide +kernel, by decide +kernel⟩
abbrev rmL_undo : Room := { frames := 7, cells := 1, slots := 6, locals := 110 }
abbrev tbL_undor0 : ExceptionTableEntry := { startPc := 0, endPc := 8, handlerPc := 11, catchType := 19 }
abbrev tbL_undo : List ExceptionTableEntry := [tbL_undor0]
theorem dL_undo_0 : decode cL_undo 0 = .ok (.aload_n 1, 1) := by decide +kernel
theorem dL_undo_1 : decode cL_undo 1 = .ok (.iconst 0, 1) := by decide +kernel
theorem dL_undo_2 : decode cL_undo 2 = .ok (.aload_n 0, 1) := by decide +kernel
theorem dL_undo_3 : decode cL_undo 3 = .ok (.invokevirtual 102, 3) := by decide +kernel
theorem dL_undo_6 : decode cL_undo 6 = .ok (.i2l, 1) := by decide +kernel
theorem dL_undo_7 : decode cL_undo 7 = .ok (.lastore, 1) := by decide +kernel
theorem dL_undo_8 : decode cL_undo 8 = .ok (.goto 6, 3) := by decide +kernel
theorem dL_undo_11 : decode cL_undo 11 = .ok (.astore_n 2, 1) := by decide +kernel
theorem dL_undo_12 : decode cL_undo 12 = .ok (.iconst 1, 1) := by decide +kernel
theorem dL_undo_13 : decode cL_undo 13 = .ok (.ireturn, 1) := by decide +kernel
theorem dL_undo_14 : decode cL_undo 14 = .ok (.iconst 0, 1) := by decide +kernel
theorem dL_undo_15 : decode cL_undo 15 = .ok (.ireturn, 1) := by decide +kernel
def fL_undo (N : Nat) (Z : mZ) (a0 : Nat) (a1 : Nat) (M : mM) : Option (Int32 × mM) := ck (okO Z a0 8) (bndT (fX8_undo N Z a0 M) (fun r2 M2 => ck (okO Z a1 22) (ck (inB (0 : Int32) (Z.2.2.1 a1)) (some ((0 : Int32), (sL M2 a1 ((0 : Int32)).toNatClampNeg ((r2).toInt64)))))) (fun E2 M2 => if E2 = "java/lang/IllegalStateException" then some ((1 : Int32), M2) else none))
set_option maxHeartbeats 4000000 in
set_option maxRecDepth 100000 in
theorem ctL_undo {G : mG} {l : Launch} (hl : l.stackTraces = false) (N : Nat) (Z : mZ) {a0 : Nat} {a1 : Nat} {M : mM} {r : Int32} {M' : mM} (h : fL_undo N Z a0 a1 M = some (r, M')) : CT G l yL_undo (.codeWith yL_undo cL_undo 3 (some .int) [(0, 8, 11, 19)]) rmL_undo [.ref a0, .ref a1] Z M (.inl (some (.int r))) Z M' := by
  unfold fL_undo at h
  refine CT.ofH hl (by decide) (Nat.le_of_ble_eq_true rfl) (tb := tbL_undo) rfl ?_
  intro p e s m args below meth c C hnm
  refine j_sub (L' := [(0, .ref a0), (1, .ref a1)]) [0, 1] rfl ?_
  refine j_aload_n C dL_undo_0 rfl 1 rfl ?_
  refine j_iconst C dL_undo_1 (v := (0 : Int32)) (by decide) ?_
  refine j_aload_n C dL_undo_2 rfl 0 rfl ?_
  obtain ⟨ho1, h⟩ := ck_spec h
  rcases bndT_spec h with ⟨r2, M2, hq2, h⟩ | ⟨E2, M2, hq2, h⟩
  · refine j_run1 (c_V C (As := []) (rest := [.int (0 : Int32), .ref a1]) (ctX8_undo C.2.2.2.2.2.2.2.2.1 N Z hq2) kcRL_102 oyX8_undo (ci := 8) (T := TX8) (N := 11) rfl (by decide) ho1 ⟨by decide, by decide⟩ ⟨by decide, by decide⟩ (Nat.le_of_ble_eq_true rfl) rfl dL_undo_3) ?_
    refine j_i2l C dL_undo_6 ?_
    obtain ⟨ho3, h⟩ := ck_spec h
    obtain ⟨ho4, h⟩ := ck_spec h
    refine j_last C ho3 ho4 dL_undo_7 ?_
    refine j_goto C dL_undo_8 (tgt := 14) (by decide) ?_
    refine j_iconst C dL_undo_14 (v := (0 : Int32)) (by decide) ?_
    obtain ⟨rfl, rfl⟩ := so2 h
    exact j_iret C rfl (by decide) (by decide) dL_undo_15
  · by_cases hc5 : E2 = "java/lang/IllegalStateException"
    · rw [if_pos hc5] at h
      subst hc5
      refine j_caught C (c_V C (As := []) (rest := [.int (0 : Int32), .ref a1]) (ctX8_undo C.2.2.2.2.2.2.2.2.1 N Z hq2) kcRL_102 oyX8_undo (ci := 8) (T := TX8) (N := 11) rfl (by decide) ho1 ⟨by decide, by decide⟩ ⟨by decide, by decide⟩ (Nat.le_of_ble_eq_true rfl) rfl dL_undo_3) [] tbL_undor0 [] [] rfl (by decide +kernel) rfl (by decide) hlRL_19 hcast_IllegalStateException (i1 := 2) (by decide) (Or.inl ⟨2, rfl, rfl, dL_undo_11⟩) ?_
      refine j_iconst C dL_undo_12 (v := (1 : Int32)) (by decide) ?_
      obtain ⟨rfl, rfl⟩ := so2 h
      exact j_iret C rfl (by decide) (by decide) dL_undo_13
    rw [if_neg hc5] at h
    cases h
-- ScaffoldPlannerLaw restore
theorem kcRL_105 : okV RL 105 yX8_restore (.code yX8_restore cX8_restore 1 (some .int)) = true := by decide +kernel
theorem oyX8_restore : okY yX8_restore 0 := ⟨by decide +kernel, by decide +kernel, by decide +kernel⟩
abbrev rmL_restore : Room := { frames := 7, cells := 1, slots := 6, locals := 110 }
abbrev tbL_restorer0 : ExceptionTableEntry := { startPc := 0, endPc := 8, handlerPc := 11, catchType := 19 }
abbrev tbL_restore : List ExceptionTableEntry := [tbL_restorer0]
theorem dL_restore_0 : decode cL_restore 0 = .ok (.aload_n 1, 1) := by decide +kernel
theorem dL_restore_1 : decode cL_restore 1 = .ok (.iconst 0, 1) := by decide +kernel
theorem dL_restore_2 : decode cL_restore 2 = .ok (.aload_n 0, 1) := by decide +kernel
theorem dL_restore_3 : decode cL_restore 3 = .ok (.invokevirtual 105, 3) := by decide +kernel
theorem dL_restore_6 : decode cL_restore 6 = .ok (.i2l, 1) := by decide +kernel
theorem dL_restore_7 : decode cL_restore 7 = .ok (.lastore, 1) := by decide +kernel
theorem dL_restore_8 : decode cL_restore 8 = .ok (.goto 6, 3) := by decide +kernel
theorem dL_restore_11 : decode cL_restore 11 = .ok (.astore_n 2, 1) := by decide +kernel
theorem dL_restore_12 : decode cL_restore 12 = .ok (.iconst 1, 1) := by decide +kernel
theorem dL_restore_13 : decode cL_restore 13 = .ok (.ireturn, 1) := by decide +kernel
theorem dL_restore_14 : decode cL_restore 14 = .ok (.iconst 0, 1) := by decide +kernel
theorem dL_restore_15 : decode cL_restore 15 = .ok (.ireturn, 1) := by decide +kernel
def fL_restore (N : Nat) (Z : mZ) (a0 : Nat) (a1 : Nat) (M : mM) : Option (Int32 × mM) := ck (okO Z a0 8) (bndT (fX8_restore N Z a0 M) (fun r2 M2 => ck (okO Z a1 22) (ck (inB (0 : Int32) (Z.2.2.1 a1)) (some ((0 : Int32), (sL M2 a1 ((0 : Int32)).toNatClampNeg ((r2).toInt64)))))) (fun E2 M2 => if E2 = "java/lang/IllegalStateException" then some ((1 : Int32), M2) else none))
set_option maxHeartbeats 4000000 in
set_option maxRecDepth 100000 in
theorem ctL_restore {G : mG} {l : Launch} (hl : l.stackTraces = false) (N : Nat) (Z : mZ) {a0 : Nat} {a1 : Nat} {M : mM} {r : Int32} {M' : mM} (h : fL_restore N Z a0 a1 M = some (r, M')) : CT G l yL_restore (.codeWith yL_restore cL_restore 3 (some .int) [(0, 8, 11, 19)]) rmL_restore [.ref a0, .ref a1] Z M (.inl (some (.int r))) Z M' := by
  unfold fL_restore at h
  refine CT.ofH hl (by decide) (Nat.le_of_ble_eq_true rfl) (tb := tbL_restore) rfl ?_
  intro p e s m args below meth c C hnm
  refine j_sub (L' := [(0, .ref a0), (1, .ref a1)]) [0, 1] rfl ?_
  refine j_aload_n C dL_restore_0 rfl 1 rfl ?_
  refine j_iconst C dL_restore_1 (v := (0 : Int32)) (by decide) ?_
  refine j_aload_n C dL_restore_2 rfl 0 rfl ?_
  obtain ⟨ho1, h⟩ := ck_spec h
  rcases bndT_spec h with ⟨r2, M2, hq2, h⟩ | ⟨E2, M2, hq2, h⟩
  · refine j_run1 (c_V C (As := []) (rest := [.int (0 : Int32), .ref a1]) (ctX8_restore C.2.2.2.2.2.2.2.2.1 N Z hq2) kcRL_105 oyX8_restore (ci := 8) (T := TX8) (N := 11) rfl (by decide) ho1 ⟨by decide, by decide⟩ ⟨by decide, by decide⟩ (Nat.le_of_ble_eq_true rfl) rfl dL_restore_3) ?_
    refine j_i2l C dL_restore_6 ?_
    obtain ⟨ho3, h⟩ := ck_spec h
    obtain ⟨ho4, h⟩ := ck_spec h
    refine j_last C ho3 ho4 dL_restore_7 ?_
    refine j_goto C dL_restore_8 (tgt := 14) (by decide) ?_
    refine j_iconst C dL_restore_14 (v := (0 : Int32)) (by decide) ?_
    obtain ⟨rfl, rfl⟩ := so2 h
    exact j_iret C rfl (by decide) (by decide) dL_restore_15
  · by_cases hc5 : E2 = "java/lang/IllegalStateException"
    · rw [if_pos hc5] at h
      subst hc5
      refine j_caught C (c_V C (As := []) (rest := [.int (0 : Int32), .ref a1]) (ctX8_restore C.2.2.2.2.2.2.2.2.1 N Z hq2) kcRL_105 oyX8_restore (ci := 8) (T := TX8) (N := 11) rfl (by decide) ho1 ⟨by decide, by decide⟩ ⟨by decide, by decide⟩ (Nat.le_of_ble_eq_true rfl) rfl dL_restore_3) [] tbL_restorer0 [] [] rfl (by decide +kernel) rfl (by decide) hlRL_19 hcast_IllegalStateException (i1 := 2) (by decide) (Or.inl ⟨2, rfl, rfl, dL_restore_11⟩) ?_
      refine j_iconst C dL_restore_12 (v := (1 : Int32)) (by decide) ?_
      obtain ⟨rfl, rfl⟩ := so2 h
      exact j_iret C rfl (by decide) (by decide) dL_restore_13
    rw [if_neg hc5] at h
    cases h
