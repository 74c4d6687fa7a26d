-- ScaffoldPlannerModel set
theorem kcRX9_178 : okS RX9 178 yX9_isRule (.code yX9_isRule cX9_isRule 2 (some .boolean)) = true := by decide +kernel
theorem oyX9_isRule : okY yX9_isRule 2 := ⟨by decide +kernel, by decide +kernel, by decide +kernel⟩
theorem kcRX9_181 : okV RX9 181 yX9_fails (.code yX9_fails cX9_fails 2 (some .int)) = true := by decide +kernel
theorem oyX9_fails : okY yX9_fails 1 := ⟨by decide +kernel, by decide +kernel, by decide +kernel⟩
abbrev rmX9_set : Room := { frames := 5, cells := 0, slots := 0, locals := 110 }
theorem dX9_set_0 : decode cX9_set 0 = .ok (.aload_n 0, 1) := by decide +kernel
theorem dX9_set_1 : decode cX9_set 1 = .ok (.iload_n 1, 1) := by decide +kernel
theorem dX9_set_2 : decode cX9_set 2 = .ok (.iload_n 2, 1) := by decide +kernel
theorem dX9_set_3 : decode cX9_set 3 = .ok (.invokestatic 178, 3) := by decide +kernel
theorem dX9_set_6 : decode cX9_set 6 = .ok (.ifCond .eq 7, 3) := by decide +kernel
theorem dX9_set_9 : decode cX9_set 9 = .ok (.iconst 0, 1) := by decide +kernel
theorem dX9_set_10 : decode cX9_set 10 = .ok (.goto 4, 3) := by decide +kernel
theorem dX9_set_13 : decode cX9_set 13 = .ok (.iconst 1, 1) := by decide +kernel
theorem dX9_set_14 : decode cX9_set 14 = .ok (.putfield 50, 3) := by decide +kernel
theorem dX9_set_17 : decode cX9_set 17 = .ok (.aload_n 0, 1) := by decide +kernel
theorem dX9_set_18 : decode cX9_set 18 = .ok (.getfield 50, 3) := by decide +kernel
theorem dX9_set_21 : decode cX9_set 21 = .ok (.ifCond .le 5, 3) := by decide +kernel
theorem dX9_set_24 : decode cX9_set 24 = .ok (.iconst 0, 1) := by decide +kernel
theorem dX9_set_25 : decode cX9_set 25 = .ok (.ireturn, 1) := by decide +kernel
theorem dX9_set_26 : decode cX9_set 26 = .ok (.aload_n 0, 1) := by decide +kernel
theorem dX9_set_27 : decode cX9_set 27 = .ok (.getfield 7, 3) := by decide +kernel
theorem dX9_set_30 : decode cX9_set 30 = .ok (.iconst 1, 1) := by decide +kernel
theorem dX9_set_31 : decode cX9_set 31 = .ok (.iload_n 1, 1) := by decide +kernel
theorem dX9_set_32 : decode cX9_set 32 = .ok (.iadd, 1) := by decide +kernel
theorem dX9_set_33 : decode cX9_set 33 = .ok (.iaload, 1) := by decide +kernel
theorem dX9_set_34 : decode cX9_set 34 = .ok (.istore_n 3, 1) := by decide +kernel
theorem dX9_set_35 : decode cX9_set 35 = .ok (.aload_n 0, 1) := by decide +kernel
theorem dX9_set_36 : decode cX9_set 36 = .ok (.getfield 7, 3) := by decide +kernel
theorem dX9_set_39 : decode cX9_set 39 = .ok (.iconst 1, 1) := by decide +kernel
theorem dX9_set_40 : decode cX9_set 40 = .ok (.iload_n 1, 1) := by decide +kernel
theorem dX9_set_41 : decode cX9_set 41 = .ok (.iadd, 1) := by decide +kernel
theorem dX9_set_42 : decode cX9_set 42 = .ok (.iload_n 2, 1) := by decide +kernel
theorem dX9_set_43 : decode cX9_set 43 = .ok (.iastore, 1) := by decide +kernel
theorem dX9_set_44 : decode cX9_set 44 = .ok (.aload_n 0, 1) := by decide +kernel
theorem dX9_set_45 : decode cX9_set 45 = .ok (.invokevirtual 162, 3) := by decide +kernel
theorem dX9_set_48 : decode cX9_set 48 = .ok (.ifCond .ne 7, 3) := by decide +kernel
theorem dX9_set_51 : decode cX9_set 51 = .ok (.iconst 1, 1) := by decide +kernel
theorem dX9_set_52 : decode cX9_set 52 = .ok (.goto 4, 3) := by decide +kernel
theorem dX9_set_55 : decode cX9_set 55 = .ok (.iconst 0, 1) := by decide +kernel
theorem dX9_set_56 : decode cX9_set 56 = .ok (.istore 4, 2) := by decide +kernel
theorem dX9_set_58 : decode cX9_set 58 = .ok (.aload_n 0, 1) := by decide +kernel
theorem dX9_set_59 : decode cX9_set 59 = .ok (.getfield 7, 3) := by decide +kernel
theorem dX9_set_62 : decode cX9_set 62 = .ok (.iconst 1, 1) := by decide +kernel
theorem dX9_set_63 : decode cX9_set 63 = .ok (.iload_n 1, 1) := by decide +kernel
theorem dX9_set_64 : decode cX9_set 64 = .ok (.iadd, 1) := by decide +kernel
theorem dX9_set_65 : decode cX9_set 65 = .ok (.iload_n 3, 1) := by decide +kernel
theorem dX9_set_66 : decode cX9_set 66 = .ok (.iastore, 1) := by decide +kernel
theorem dX9_set_67 : decode cX9_set 67 = .ok (.iload 4, 2) := by decide +kernel
theorem dX9_set_69 : decode cX9_set 69 = .ok (.ifCond .ne 9, 3) := by decide +kernel
theorem dX9_set_72 : decode cX9_set 72 = .ok (.aload_n 0, 1) := by decide +kernel
theorem dX9_set_73 : decode cX9_set 73 = .ok (.iconst 2, 1) := by decide +kernel
theorem dX9_set_74 : decode cX9_set 74 = .ok (.invokevirtual 181, 3) := by decide +kernel
theorem dX9_set_77 : decode cX9_set 77 = .ok (.ireturn, 1) := by decide +kernel
theorem dX9_set_78 : decode cX9_set 78 = .ok (.aload_n 0, 1) := by decide +kernel
theorem dX9_set_79 : decode cX9_set 79 = .ok (.aload_n 0, 1) := by decide +kernel
theorem dX9_set_80 : decode cX9_set 80 = .ok (.getfield 7, 3) := by decide +kernel
theorem dX9_set_83 : decode cX9_set 83 = .ok (.invokevirtual 174, 3) := by decide +kernel
theorem dX9_set_86 : decode cX9_set 86 = .ok (.aload_n 0, 1) := by decide +kernel
theorem dX9_set_87 : decode cX9_set 87 = .ok (.getfield 7, 3) := by decide +kernel
theorem dX9_set_90 : decode cX9_set 90 = .ok (.iconst 1, 1) := by decide +kernel
theorem dX9_set_91 : decode cX9_set 91 = .ok (.iload_n 1, 1) := by decide +kernel
theorem dX9_set_92 : decode cX9_set 92 = .ok (.iadd, 1) := by decide +kernel
theorem dX9_set_93 : decode cX9_set 93 = .ok (.iload_n 2, 1) := by decide +kernel
theorem dX9_set_94 : decode cX9_set 94 = .ok (.iastore, 1) := by decide +kernel
theorem dX9_set_95 : decode cX9_set 95 = .ok (.iload_n 3, 1) := by decide +kernel
theorem dX9_set_96 : decode cX9_set 96 = .ok (.ireturn, 1) := by decide +kernel
def fX9_set_56 (N : Nat) (Z : mZ) (v0 : Nat) (v1 : Int32) (v2 : Int32) (v3 : Int32) (x0 : Int32) (M : mM) : Option (Int32 × mM) := ck (okO Z v0 9) (bnd1 (Z.2.2.2 v0 0) (fun c13 => ck (okO Z c13 20) (ck (inB ((1 : Int32) + v1) (Z.2.2.1 c13)) (if x0 = 0 then bnd2 (fX9_fails N Z v0 (2 : Int32) (sI M c13 (((1 : Int32) + v1)).toNatClampNeg v3)) (fun r17 M17 => some (r17, M17)) else bnd2 (fX9_changes N Z v0 c13 (sI M c13 (((1 : Int32) + v1)).toNatClampNeg v3)) (fun _ M18 => some (v3, (sI M18 c13 (((1 : Int32) + v1)).toNatClampNeg v2)))))))
set_option maxHeartbeats 4000000 in
set_option maxRecDepth 100000 in
theorem tX9_set_56 {G : mG} {p : Program} {l : Launch} {e : Env} {s : State} {m : MethodId} {args : Array Value} {below : List Frame} {meth : Method} {c : Code} (C : Cx G p l s m args meth c RX9 cX9_set 5 (some .int) []) (hnm : meth.name = yX9_set.name) (N : Nat) (Z : mZ) : ∀ (v0 : Nat) (v1 : Int32) (v2 : Int32) (v3 : Int32) (x0 : Int32) (M : mM) (r : Int32) (M' : mM), fX9_set_56 N Z v0 v1 v2 v3 x0 M = some (r, M') → JJ G p l e rmX9_set s m args below meth c 5 (mEnd G below args s rmX9_set (.inl (some (.int r))) Z M') 0 0 56 [(0, .ref v0), (1, .int v1), (2, .int v2), (3, .int v3)] [.int x0] Z M := by
  intro v0 v1 v2 v3 x0 M r M' h
  unfold fX9_set_56 at h
  refine j_istore C dX9_set_56 (by decide) (L' := [(4, .int x0), (0, .ref v0), (1, .int v1), (2, .int v2), (3, .int v3)]) rfl ?_
  refine j_aload_n C dX9_set_58 rfl 1 rfl ?_
  obtain ⟨ho12, h⟩ := ck_spec h
  obtain ⟨c13, hr13, h⟩ := bnd1_spec h
  refine j_getR C (cn := RX9) (T := TX9) (N := 23) (ci := 9) rfl iX9 ho12 0 (by decide) rfl fwRX9_7 dX9_set_59 hr13 ?_
  refine j_iconst C dX9_set_62 (v := (1 : Int32)) (by decide) ?_
  refine j_iload_n C dX9_set_63 rfl 2 rfl ?_
  refine j_iadd C dX9_set_64 ?_
  refine j_iload_n C dX9_set_65 rfl 4 rfl ?_
  obtain ⟨ho14, h⟩ := ck_spec h
  obtain ⟨ho15, h⟩ := ck_spec h
  refine j_iast C ho14 ho15 dX9_set_66 ?_
  refine j_iload C dX9_set_67 0 rfl ?_
  refine j_if_ne C dX9_set_69 (tgt := 78) (by decide) (fun hc16 => ?_) (fun hc16 => ?_)
  · rw [if_neg hc16] at h
    refine j_aload_n C dX9_set_78 rfl 1 rfl ?_
    refine j_aload_n C dX9_set_79 rfl 1 rfl ?_
    refine j_getR C (cn := RX9) (T := TX9) (N := 23) (ci := 9) rfl iX9 ho12 0 (by decide) rfl fwRX9_7 dX9_set_80 hr13 ?_
    obtain ⟨_, M18, hq18, h⟩ := bnd2_spec h
    refine j_run0 (c_V C (As := [.ref c13]) (rest := []) (ctX9_changes C.2.2.2.2.2.2.2.2.1 N Z hq18) kcRX9_174 oyX9_changes (ci := 9) (T := TX9) (N := 23) rfl (by decide) ho12 ⟨by decide, by decide⟩ ⟨by decide, by decide⟩ (Nat.le_of_ble_eq_true rfl) rfl dX9_set_83) ?_
    refine j_aload_n C dX9_set_86 rfl 1 rfl ?_
    refine j_getR C (cn := RX9) (T := TX9) (N := 23) (ci := 9) rfl iX9 ho12 0 (by decide) rfl fwRX9_7 dX9_set_87 hr13 ?_
    refine j_iconst C dX9_set_90 (v := (1 : Int32)) (by decide) ?_
    refine j_iload_n C dX9_set_91 rfl 2 rfl ?_
    refine j_iadd C dX9_set_92 ?_
    refine j_iload_n C dX9_set_93 rfl 3 rfl ?_
    refine j_iast C ho14 ho15 dX9_set_94 ?_
    refine j_iload_n C dX9_set_95 rfl 4 rfl ?_
    cases h
    exact j_iret C rfl (by decide) (by decide) dX9_set_96
  · rw [if_pos hc16] at h
    refine j_aload_n C dX9_set_72 rfl 1 rfl ?_
    refine j_iconst C dX9_set_73 (v := (2 : Int32)) (by decide) ?_
    obtain ⟨r17, M17, hq17, h⟩ := bnd2_spec h
    refine j_run1 (c_V C (As := [.int (2 : Int32)]) (rest := []) (ctX9_fails C.2.2.2.2.2.2.2.2.1 N Z hq17) kcRX9_181 oyX9_fails (ci := 9) (T := TX9) (N := 23) rfl (by decide) ho12 ⟨by decide, by decide⟩ ⟨by decide, by decide⟩ (Nat.le_of_ble_eq_true rfl) rfl dX9_set_74) ?_
    cases h
    exact j_iret C rfl (by decide) (by decide) dX9_set_77
def fX9_set_14 (N : Nat) (Z : mZ) (v0 : Nat) (v1 : Int32) (v2 : Int32) (x0 : Int32) (x1 : Nat) (M : mM) : Option (Int32 × mM) := ck (okO Z x1 9) (ck (okO Z v0 9) (if ((sI M x1 9 x0).1 v0 9) ≤ 0 then bnd1 (Z.2.2.2 v0 0) (fun c6 => ck (okI Z c6) (ck (inB ((1 : Int32) + v1) (Z.2.2.1 c6)) (ck (okO Z c6 20) (bnd2 (fX9_wrong N Z v0 (sI (sI M x1 9 x0) c6 (((1 : Int32) + v1)).toNatClampNeg v2)) (fun r10 M10 => if r10 = 0 then fX9_set_56 N Z v0 v1 v2 ((sI M x1 9 x0).1 c6 (((1 : Int32) + v1)).toNatClampNeg) (1 : Int32) M10 else fX9_set_56 N Z v0 v1 v2 ((sI M x1 9 x0).1 c6 (((1 : Int32) + v1)).toNatClampNeg) (0 : Int32) M10))))) else some ((0 : Int32), (sI M x1 9 x0))))
set_option maxHeartbeats 4000000 in
set_option maxRecDepth 100000 in
theorem tX9_set_14 {G : mG} {p : Program} {l : Launch} {e : Env} {s : State} {m : MethodId} {args : Array Value} {below : List Frame} {meth : Method} {c : Code} (C : Cx G p l s m args meth c RX9 cX9_set 5 (some .int) []) (hnm : meth.name = yX9_set.name) (N : Nat) (Z : mZ) : ∀ (v0 : Nat) (v1 : Int32) (v2 : Int32) (x0 : Int32) (x1 : Nat) (M : mM) (r : Int32) (M' : mM), fX9_set_14 N Z v0 v1 v2 x0 x1 M = some (r, M') → JJ G p l e rmX9_set s m args below meth c 5 (mEnd G below args s rmX9_set (.inl (some (.int r))) Z M') 0 0 14 [(0, .ref v0), (1, .int v1), (2, .int v2)] [.int x0, .ref x1] Z M := by
  intro v0 v1 v2 x0 x1 M r M' h
  unfold fX9_set_14 at h
  obtain ⟨ho3, h⟩ := ck_spec h
  refine j_putI C tyX9 tyX9_ok nmX9 (cn := RX9) (T := TX9) (N := 23) (ci := 9) rfl iX9 ho3 9 (by decide) rfl fwRX9_50 ⟨rfl, rfl⟩ dX9_set_14 ?_
  refine j_aload_n C dX9_set_17 rfl 0 rfl ?_
  obtain ⟨ho4, h⟩ := ck_spec h
  refine j_getI C (cn := RX9) (T := TX9) (N := 23) (ci := 9) rfl iX9 ho4 9 (by decide) rfl fwRX9_50 dX9_set_18 ?_
  refine j_if_le C dX9_set_21 (tgt := 26) (by decide) (fun hc5 => ?_) (fun hc5 => ?_)
  · rw [if_pos hc5] at h
    refine j_aload_n C dX9_set_26 rfl 0 rfl ?_
    obtain ⟨c6, hr6, h⟩ := bnd1_spec h
    refine j_getR C (cn := RX9) (T := TX9) (N := 23) (ci := 9) rfl iX9 ho4 0 (by decide) rfl fwRX9_7 dX9_set_27 hr6 ?_
    refine j_iconst C dX9_set_30 (v := (1 : Int32)) (by decide) ?_
    refine j_iload_n C dX9_set_31 rfl 1 rfl ?_
    refine j_iadd C dX9_set_32 ?_
    obtain ⟨ho7, h⟩ := ck_spec h
    obtain ⟨ho8, h⟩ := ck_spec h
    refine j_iald C ho7 ho8 dX9_set_33 ?_
    refine j_istore_n C dX9_set_34 rfl (by decide) (L' := [(3, .int ((sI M x1 9 x0).1 c6 (((1 : Int32) + v1)).toNatClampNeg)), (0, .ref v0), (1, .int v1), (2, .int v2)]) rfl ?_
    refine j_aload_n C dX9_set_35 rfl 1 rfl ?_
    refine j_getR C (cn := RX9) (T := TX9) (N := 23) (ci := 9) rfl iX9 ho4 0 (by decide) rfl fwRX9_7 dX9_set_36 hr6 ?_
    refine j_iconst C dX9_set_39 (v := (1 : Int32)) (by decide) ?_
    refine j_iload_n C dX9_set_40 rfl 2 rfl ?_
    refine j_iadd C dX9_set_41 ?_
    refine j_iload_n C dX9_set_42 rfl 3 rfl ?_
    obtain ⟨ho9, h⟩ := ck_spec h
    refine j_iast C ho9 ho8 dX9_set_43 ?_
    refine j_aload_n C dX9_set_44 rfl 1 rfl ?_
    obtain ⟨r10, M10, hq10, h⟩ := bnd2_spec h
    refine j_run1 (c_V C (As := []) (rest := []) (ctX9_wrong C.2.2.2.2.2.2.2.2.1 N Z hq10) kcRX9_162 oyX9_wrong (ci := 9) (T := TX9) (N := 23) rfl (by decide) ho4 ⟨by decide, by decide⟩ ⟨by decide, by decide⟩ (Nat.le_of_ble_eq_true rfl) rfl dX9_set_45) ?_
    refine j_if_ne C dX9_set_48 (tgt := 55) (by decide) (fun hc11 => ?_) (fun hc11 => ?_)
    · rw [if_neg hc11] at h
      refine j_iconst C dX9_set_55 (v := (0 : Int32)) (by decide) ?_
      refine j_sub (L' := [(0, .ref v0), (1, .int v1), (2, .int v2), (3, .int ((sI M x1 9 x0).1 c6 (((1 : Int32) + v1)).toNatClampNeg))]) [1, 2, 3, 0] rfl ?_
      exact tX9_set_56 C hnm N Z v0 v1 v2 ((sI M x1 9 x0).1 c6 (((1 : Int32) + v1)).toNatClampNeg) (0 : Int32) M10 _ _ h
    · rw [if_pos hc11] at h
      refine j_iconst C dX9_set_51 (v := (1 : Int32)) (by decide) ?_
      refine j_goto C dX9_set_52 (tgt := 56) (by decide) ?_
      refine j_sub (L' := [(0, .ref v0), (1, .int v1), (2, .int v2), (3, .int ((sI M x1 9 x0).1 c6 (((1 : Int32) + v1)).toNatClampNeg))]) [1, 2, 3, 0] rfl ?_
      exact tX9_set_56 C hnm N Z v0 v1 v2 ((sI M x1 9 x0).1 c6 (((1 : Int32) + v1)).toNatClampNeg) (1 : Int32) M10 _ _ h
  · rw [if_neg hc5] at h
    refine j_iconst C dX9_set_24 (v := (0 : Int32)) (by decide) ?_
    cases h
    exact j_iret C rfl (by decide) (by decide) dX9_set_25
def fX9_set (N : Nat) (Z : mZ) (a0 : Nat) (a1 : Int32) (a2 : Int32) (M : mM) : Option (Int32 × mM) := bnd2 (fX9_isRule N Z a1 a2 M) (fun r1 M1 => if r1 = 0 then fX9_set_14 N Z a0 a1 a2 (1 : Int32) a0 M1 else fX9_set_14 N Z a0 a1 a2 (0 : Int32) a0 M1)
set_option maxHeartbeats 4000000 in
set_option maxRecDepth 100000 in
theorem ctX9_set {G : mG} {l : Launch} (hl : l.stackTraces = false) (N : Nat) (Z : mZ) {a0 : Nat} {a1 : Int32} {a2 : Int32} {M : mM} {r : Int32} {M' : mM} (h : fX9_set N Z a0 a1 a2 M = some (r, M')) : CT G l yX9_set (.code yX9_set cX9_set 5 (some .int)) rmX9_set [.ref a0, .int a1, .int a2] Z M (.inl (some (.int r))) Z M' := by
  unfold fX9_set at h
  refine CT.of hl (by decide) (Nat.le_of_ble_eq_true rfl) ?_
  intro p e s m args below meth c C hnm
  refine j_sub (L' := [(0, .ref a0), (1, .int a1), (2, .int a2)]) [0, 1, 2] rfl ?_
  refine j_aload_n C dX9_set_0 rfl 0 rfl ?_
  refine j_iload_n C dX9_set_1 rfl 1 rfl ?_
  refine j_iload_n C dX9_set_2 rfl 2 rfl ?_
  obtain ⟨r1, M1, hq1, h⟩ := bnd2_spec h
  refine j_run1 (c_S C (As := [.int a1, .int a2]) (rest := [.ref a0]) (ctX9_isRule C.2.2.2.2.2.2.2.2.1 N Z hq1) kcRX9_178 oyX9_isRule ⟨by decide, by decide⟩ ⟨by decide, by decide⟩ (Nat.le_of_ble_eq_true rfl) rfl dX9_set_3) ?_
  refine j_if_eq C dX9_set_6 (tgt := 13) (by decide) (fun hc2 => ?_) (fun hc2 => ?_)
  · rw [if_pos hc2] at h
    refine j_iconst C dX9_set_13 (v := (1 : Int32)) (by decide) ?_
    refine j_sub (L' := [(0, .ref a0), (1, .int a1), (2, .int a2)]) [0, 1, 2] rfl ?_
    exact tX9_set_14 C hnm N Z a0 a1 a2 (1 : Int32) a0 M1 _ _ h
  · rw [if_neg hc2] at h
    refine j_iconst C dX9_set_9 (v := (0 : Int32)) (by decide) ?_
    refine j_goto C dX9_set_10 (tgt := 14) (by decide) ?_
    refine j_sub (L' := [(0, .ref a0), (1, .int a1), (2, .int a2)]) [0, 1, 2] rfl ?_
    exact tX9_set_14 C hnm N Z a0 a1 a2 (0 : Int32) a0 M1 _ _ h
-- ScaffoldPlannerModel stock
abbrev rmX9_stock : Room := { frames := 1, cells := 0, slots := 0, locals := 22 }
theorem dX9_stock_0 : decode cX9_stock 0 = .ok (.aload_n 0, 1) := by decide +kernel
theorem dX9_stock_1 : decode cX9_stock 1 = .ok (.iload_n 1, 1) := by decide +kernel
theorem dX9_stock_2 : decode cX9_stock 2 = .ok (.iconst 0, 1) := by decide +kernel
theorem dX9_stock_3 : decode cX9_stock 3 = .ok (.iconst 5, 1) := by decide +kernel
theorem dX9_stock_4 : decode cX9_stock 4 = .ok (.invokestatic 54, 3) := by decide +kernel
theorem dX9_stock_7 : decode cX9_stock 7 = .ok (.ifCond .eq 22, 3) := by decide +kernel
theorem dX9_stock_10 : decode cX9_stock 10 = .ok (.iload_n 2, 1) := by decide +kernel
theorem dX9_stock_11 : decode cX9_stock 11 = .ok (.iconst 0, 1) := by decide +kernel
theorem dX9_stock_12 : decode cX9_stock 12 = .ok (.sipush 999, 3) := by decide +kernel
theorem dX9_stock_15 : decode cX9_stock 15 = .ok (.invokestatic 54, 3) := by decide +kernel
theorem dX9_stock_18 : decode cX9_stock 18 = .ok (.ifCond .eq 7, 3) := by decide +kernel
theorem dX9_stock_21 : decode cX9_stock 21 = .ok (.iconst 0, 1) := by decide +kernel
theorem dX9_stock_22 : decode cX9_stock 22 = .ok (.goto 8, 3) := by decide +kernel
theorem dX9_stock_25 : decode cX9_stock 25 = .ok (.iconst 2, 1) := by decide +kernel
theorem dX9_stock_26 : decode cX9_stock 26 = .ok (.goto 4, 3) := by decide +kernel
theorem dX9_stock_29 : decode cX9_stock 29 = .ok (.iconst 1, 1) := by decide +kernel
theorem dX9_stock_30 : decode cX9_stock 30 = .ok (.putfield 50, 3) := by decide +kernel
theorem dX9_stock_33 : decode cX9_stock 33 = .ok (.aload_n 0, 1) := by decide +kernel
theorem dX9_stock_34 : decode cX9_stock 34 = .ok (.getfield 50, 3) := by decide +kernel
theorem dX9_stock_37 : decode cX9_stock 37 = .ok (.ifCond .le 5, 3) := by decide +kernel
theorem dX9_stock_40 : decode cX9_stock 40 = .ok (.iconst 0, 1) := by decide +kernel
theorem dX9_stock_41 : decode cX9_stock 41 = .ok (.ireturn, 1) := by decide +kernel
theorem dX9_stock_42 : decode cX9_stock 42 = .ok (.aload_n 0, 1) := by decide +kernel
theorem dX9_stock_43 : decode cX9_stock 43 = .ok (.aload_n 0, 1) := by decide +kernel
theorem dX9_stock_44 : decode cX9_stock 44 = .ok (.getfield 7, 3) := by decide +kernel
theorem dX9_stock_47 : decode cX9_stock 47 = .ok (.invokevirtual 174, 3) := by decide +kernel
theorem dX9_stock_50 : decode cX9_stock 50 = .ok (.aload_n 0, 1) := by decide +kernel
theorem dX9_stock_51 : decode cX9_stock 51 = .ok (.getfield 7, 3) := by decide +kernel
theorem dX9_stock_54 : decode cX9_stock 54 = .ok (.iconst 5, 1) := by decide +kernel
theorem dX9_stock_55 : decode cX9_stock 55 = .ok (.iload_n 1, 1) := by decide +kernel
theorem dX9_stock_56 : decode cX9_stock 56 = .ok (.iadd, 1) := by decide +kernel
theorem dX9_stock_57 : decode cX9_stock 57 = .ok (.iaload, 1) := by decide +kernel
theorem dX9_stock_58 : decode cX9_stock 58 = .ok (.istore_n 3, 1) := by decide +kernel
theorem dX9_stock_59 : decode cX9_stock 59 = .ok (.aload_n 0, 1) := by decide +kernel
theorem dX9_stock_60 : decode cX9_stock 60 = .ok (.getfield 7, 3) := by decide +kernel
theorem dX9_stock_63 : decode cX9_stock 63 = .ok (.iconst 5, 1) := by decide +kernel
theorem dX9_stock_64 : decode cX9_stock 64 = .ok (.iload_n 1, 1) := by decide +kernel
theorem dX9_stock_65 : decode cX9_stock 65 = .ok (.iadd, 1) := by decide +kernel
theorem dX9_stock_66 : decode cX9_stock 66 = .ok (.iload_n 2, 1) := by decide +kernel
theorem dX9_stock_67 : decode cX9_stock 67 = .ok (.iastore, 1) := by decide +kernel
theorem dX9_stock_68 : decode cX9_stock 68 = .ok (.iload_n 3, 1) := by decide +kernel
theorem dX9_stock_69 : decode cX9_stock 69 = .ok (.ireturn, 1) := by decide +kernel
def fX9_stock_30 (N : Nat) (Z : mZ) (v0 : Nat) (v1 : Int32) (v2 : Int32) (x0 : Int32) (x1 : Nat) (M : mM) : Option (Int32 × mM) := ck (okO Z x1 9) (ck (okO Z v0 9) (if ((sI M x1 9 x0).1 v0 9) ≤ 0 then bnd1 (Z.2.2.2 v0 0) (fun c6 => bnd2 (fX9_changes N Z v0 c6 (sI M x1 9 x0)) (fun _ M7 => ck (okI Z c6) (ck (inB ((5 : Int32) + v1) (Z.2.2.1 c6)) (ck (okO Z c6 20) (some ((M7.1 c6 (((5 : Int32) + v1)).toNatClampNeg), (sI M7 c6 (((5 : Int32) + v1)).toNatClampNeg v2))))))) else some ((0 : Int32), (sI M x1 9 x0))))
set_option maxHeartbeats 4000000 in
set_option maxRecDepth 100000 in
theorem tX9_stock_30 {G : mG} {p : Program} {l : Launch} {e : Env} {s : State} {m : MethodId} {args : Array Value} {below : List Frame} {meth : Method} {c : Code} (C : Cx G p l s m args meth c RX9 cX9_stock 4 (some .int) []) (hnm : meth.name = yX9_stock.name) (N : Nat) (Z : mZ) : ∀ (v0 : Nat) (v1 : Int32) (v2 : Int32) (x0 : Int32) (x1 : Nat) (M : mM) (r : Int32) (M' : mM), fX9_stock_30 N Z v0 v1 v2 x0 x1 M = some (r, M') → JJ G p l e rmX9_stock s m args below meth c 4 (mEnd G below args s rmX9_stock (.inl (some (.int r))) Z M') 0 0 30 [(0, .ref v0), (1, .int v1), (2, .int v2)] [.int x0, .ref x1] Z M := by
  intro v0 v1 v2 x0 x1 M r M' h
  unfold fX9_stock_30 at h
  obtain ⟨ho3, h⟩ := ck_spec h
  refine j_putI C tyX9 tyX9_ok nmX9 (cn := RX9) (T := TX9) (N := 23) (ci := 9) rfl iX9 ho3 9 (by decide) rfl fwRX9_50 ⟨rfl, rfl⟩ dX9_stock_30 ?_
  refine j_aload_n C dX9_stock_33 rfl 0 rfl ?_
  obtain ⟨ho4, h⟩ := ck_spec h
  refine j_getI C (cn := RX9) (T := TX9) (N := 23) (ci := 9) rfl iX9 ho4 9 (by decide) rfl fwRX9_50 dX9_stock_34 ?_
  refine j_if_le C dX9_stock_37 (tgt := 42) (by decide) (fun hc5 => ?_) (fun hc5 => ?_)
  · rw [if_pos hc5] at h
    refine j_aload_n C dX9_stock_42 rfl 0 rfl ?_
    refine j_aload_n C dX9_stock_43 rfl 0 rfl ?_
    obtain ⟨c6, hr6, h⟩ := bnd1_spec h
    refine j_getR C (cn := RX9) (T := TX9) (N := 23) (ci := 9) rfl iX9 ho4 0 (by decide) rfl fwRX9_7 dX9_stock_44 hr6 ?_
    obtain ⟨_, M7, hq7, h⟩ := bnd2_spec h
    refine j_run0 (c_V C (As := [.ref c6]) (rest := []) (ctX9_changes C.2.2.2.2.2.2.2.2.1 N Z hq7) kcRX9_174 oyX9_changes (ci := 9) (T := TX9) (N := 23) rfl (by decide) ho4 ⟨by decide, by decide⟩ ⟨by decide, by decide⟩ (Nat.le_of_ble_eq_true rfl) rfl dX9_stock_47) ?_
    refine j_aload_n C dX9_stock_50 rfl 0 rfl ?_
    refine j_getR C (cn := RX9) (T := TX9) (N := 23) (ci := 9) rfl iX9 ho4 0 (by decide) rfl fwRX9_7 dX9_stock_51 hr6 ?_
    refine j_iconst C dX9_stock_54 (v := (5 : Int32)) (by decide) ?_
    refine j_iload_n C dX9_stock_55 rfl 1 rfl ?_
    refine j_iadd C dX9_stock_56 ?_
    obtain ⟨ho8, h⟩ := ck_spec h
    obtain ⟨ho9, h⟩ := ck_spec h
    refine j_iald C ho8 ho9 dX9_stock_57 ?_
    refine j_istore_n C dX9_stock_58 rfl (by decide) (L' := [(3, .int (M7.1 c6 (((5 : Int32) + v1)).toNatClampNeg)), (0, .ref v0), (1, .int v1), (2, .int v2)]) rfl ?_
    refine j_aload_n C dX9_stock_59 rfl 1 rfl ?_
    refine j_getR C (cn := RX9) (T := TX9) (N := 23) (ci := 9) rfl iX9 ho4 0 (by decide) rfl fwRX9_7 dX9_stock_60 hr6 ?_
    refine j_iconst C dX9_stock_63 (v := (5 : Int32)) (by decide) ?_
    refine j_iload_n C dX9_stock_64 rfl 2 rfl ?_
    refine j_iadd C dX9_stock_65 ?_
    refine j_iload_n C dX9_stock_66 rfl 3 rfl ?_
    obtain ⟨ho10, h⟩ := ck_spec h
    refine j_iast C ho10 ho9 dX9_stock_67 ?_
    refine j_iload_n C dX9_stock_68 rfl 0 rfl ?_
    cases h
    exact j_iret C rfl (by decide) (by decide) dX9_stock_69
  · rw [if_neg hc5] at h
    refine j_iconst C dX9_stock_40 (v := (0 : Int32)) (by decide) ?_
    cases h
    exact j_iret C rfl (by decide) (by decide) dX9_stock_41
def fX9_stock (N : Nat) (Z : mZ) (a0 : Nat) (a1 : Int32) (a2 : Int32) (M : mM) : Option (Int32 × mM) := bnd2 (fX9_in N Z a1 (0 : Int32) (5 : Int32) M) (fun r1 M1 => if r1 = 0 then fX9_stock_30 N Z a0 a1 a2 (1 : Int32) a0 M1 else bnd2 (fX9_in N Z a2 (0 : Int32) (999 : Int32) M1) (fun r11 M11 => if r11 = 0 then fX9_stock_30 N Z a0 a1 a2 (2 : Int32) a0 M11 else fX9_stock_30 N Z a0 a1 a2 (0 : Int32) a0 M11))
set_option maxHeartbeats 4000000 in
set_option maxRecDepth 100000 in
theorem ctX9_stock {G : mG} {l : Launch} (hl : l.stackTraces = false) (N : Nat) (Z : mZ) {a0 : Nat} {a1 : Int32} {a2 : Int32} {M : mM} {r : Int32} {M' : mM} (h : fX9_stock N Z a0 a1 a2 M = some (r, M')) : CT G l yX9_stock (.code yX9_stock cX9_stock 4 (some .int)) rmX9_stock [.ref a0, .int a1, .int a2] Z M (.inl (some (.int r))) Z M' := by
  unfold fX9_stock at h
  refine CT.of hl (by decide) (Nat.le_of_ble_eq_true rfl) ?_
  intro p e s m args below meth c C hnm
  refine j_sub (L' := [(0, .ref a0), (1, .int a1), (2, .int a2)]) [0, 1, 2] rfl ?_
  refine j_aload_n C dX9_stock_0 rfl 0 rfl ?_
  refine j_iload_n C dX9_stock_1 rfl 1 rfl ?_
  refine j_iconst C dX9_stock_2 (v := (0 : Int32)) (by decide) ?_
  refine j_iconst C dX9_stock_3 (v := (5 : Int32)) (by decide) ?_
  obtain ⟨r1, M1, hq1, h⟩ := bnd2_spec h
  refine j_run1 (c_S C (As := [.int a1, .int (0 : Int32), .int (5 : Int32)]) (rest := [.ref a0]) (ctX9_in C.2.2.2.2.2.2.2.2.1 N Z hq1) kcRX9_54 oyX9_in ⟨by decide, by decide⟩ ⟨by decide, by decide⟩ (Nat.le_of_ble_eq_true rfl) rfl dX9_stock_4) ?_
  refine j_if_eq C dX9_stock_7 (tgt := 29) (by decide) (fun hc2 => ?_) (fun hc2 => ?_)
  · rw [if_pos hc2] at h
    refine j_iconst C dX9_stock_29 (v := (1 : Int32)) (by decide) ?_
    refine j_sub (L' := [(0, .ref a0), (1, .int a1), (2, .int a2)]) [0, 1, 2] rfl ?_
    exact tX9_stock_30 C hnm N Z a0 a1 a2 (1 : Int32) a0 M1 _ _ h
  · rw [if_neg hc2] at h
    refine j_iload_n C dX9_stock_10 rfl 2 rfl ?_
    refine j_iconst C dX9_stock_11 (v := (0 : Int32)) (by decide) ?_
    refine j_sipush C dX9_stock_12 (v := (999 : Int32)) (by decide) ?_
    obtain ⟨r11, M11, hq11, h⟩ := bnd2_spec h
    refine j_run1 (c_S C (As := [.int a2, .int (0 : Int32), .int (999 : Int32)]) (rest := [.ref a0]) (ctX9_in C.2.2.2.2.2.2.2.2.1 N Z hq11) kcRX9_54 oyX9_in ⟨by decide, by decide⟩ ⟨by decide, by decide⟩ (Nat.le_of_ble_eq_true rfl) rfl dX9_stock_15) ?_
    refine j_if_eq C dX9_stock_18 (tgt := 25) (by decide) (fun hc12 => ?_) (fun hc12 => ?_)
    · rw [if_pos hc12] at h
      refine j_iconst C dX9_stock_25 (v := (2 : Int32)) (by decide) ?_
      refine j_goto C dX9_stock_26 (tgt := 30) (by decide) ?_
      refine j_sub (L' := [(0, .ref a0), (1, .int a1), (2, .int a2)]) [0, 1, 2] rfl ?_
      exact tX9_stock_30 C hnm N Z a0 a1 a2 (2 : Int32) a0 M11 _ _ h
    · rw [if_neg hc12] at h
      refine j_iconst C dX9_stock_21 (v := (0 : Int32)) (by decide) ?_
      refine j_goto C dX9_stock_22 (tgt := 30) (by decide) ?_
      refine j_sub (L' := [(0, .ref a0), (1, .int a1), (2, .int a2)]) [0, 1, 2] rfl ?_
      exact tX9_stock_30 C hnm N Z a0 a1 a2 (0 : Int32) a0 M11 _ _ h
-- ScaffoldPlannerModel erect
theorem kcRX9_184 : okV RX9 184 yX9_isPlace (.code yX9_isPlace cX9_isPlace 2 (some .boolean)) = true := by decide +kernel
theorem oyX9_isPlace : okY yX9_isPlace 1 := ⟨by decide +kernel, by decide +kernel, by decide +kernel⟩
theorem kcRX9_187 : okV RX9 187 yX9_works (.code yX9_works cX9_works 7 (some .boolean)) = true := by decide +kernel
theorem oyX9_works : okY yX9_works 5 := ⟨by decide +kernel, by decide +kernel, by decide +kernel⟩
abbrev rmX9_erect : Room := { frames := 7, cells := 0, slots := 0, locals := 168 }
theorem dX9_erect_0 : decode cX9_erect 0 = .ok (.aload_n 0, 1) := by decide +kernel
theorem dX9_erect_1 : decode cX9_erect 1 = .ok (.iconst 0, 1) := by decide +kernel
theorem dX9_erect_2 : decode cX9_erect 2 = .ok (.putfield 50, 3) := by decide +kernel
theorem dX9_erect_5 : decode cX9_erect 5 = .ok (.aload_n 0, 1) := by decide +kernel
theorem dX9_erect_6 : decode cX9_erect 6 = .ok (.iload_n 1, 1) := by decide +kernel
theorem dX9_erect_7 : decode cX9_erect 7 = .ok (.invokevirtual 184, 3) := by decide +kernel
theorem dX9_erect_10 : decode cX9_erect 10 = .ok (.ifCond .ne 9, 3) := by decide +kernel
theorem dX9_erect_13 : decode cX9_erect 13 = .ok (.aload_n 0, 1) := by decide +kernel
theorem dX9_erect_14 : decode cX9_erect 14 = .ok (.iconst 1, 1) := by decide +kernel
theorem dX9_erect_15 : decode cX9_erect 15 = .ok (.invokevirtual 181, 3) := by decide +kernel
theorem dX9_erect_18 : decode cX9_erect 18 = .ok (.ireturn, 1) := by decide +kernel
theorem dX9_erect_19 : decode cX9_erect 19 = .ok (.aload_n 0, 1) := by decide +kernel
theorem dX9_erect_20 : decode cX9_erect 20 = .ok (.iconst 0, 1) := by decide +kernel
theorem dX9_erect_21 : decode cX9_erect 21 = .ok (.iload_n 1, 1) := by decide +kernel
theorem dX9_erect_22 : decode cX9_erect 22 = .ok (.iconst 0, 1) := by decide +kernel
theorem dX9_erect_23 : decode cX9_erect 23 = .ok (.iconst 0, 1) := by decide +kernel
theorem dX9_erect_24 : decode cX9_erect 24 = .ok (.iconst 0, 1) := by decide +kernel
theorem dX9_erect_25 : decode cX9_erect 25 = .ok (.invokevirtual 187, 3) := by decide +kernel
theorem dX9_erect_28 : decode cX9_erect 28 = .ok (.ifCond .eq 11, 3) := by decide +kernel
theorem dX9_erect_31 : decode cX9_erect 31 = .ok (.aload_n 0, 1) := by decide +kernel
theorem dX9_erect_32 : decode cX9_erect 32 = .ok (.iload_n 1, 1) := by decide +kernel
theorem dX9_erect_33 : decode cX9_erect 33 = .ok (.invokevirtual 69, 3) := by decide +kernel
theorem dX9_erect_36 : decode cX9_erect 36 = .ok (.goto 8, 3) := by decide +kernel
theorem dX9_erect_39 : decode cX9_erect 39 = .ok (.aload_n 0, 1) := by decide +kernel
theorem dX9_erect_40 : decode cX9_erect 40 = .ok (.iconst 2, 1) := by decide +kernel
theorem dX9_erect_41 : decode cX9_erect 41 = .ok (.invokevirtual 181, 3) := by decide +kernel
theorem dX9_erect_44 : decode cX9_erect 44 = .ok (.ireturn, 1) := by decide +kernel
def fX9_erect (N : Nat) (Z : mZ) (a0 : Nat) (a1 : Int32) (M : mM) : Option (Int32 × mM) := ck (okO Z a0 9) (bnd2 (fX9_isPlace N Z a0 a1 (sI M a0 9 (0 : Int32))) (fun r2 M2 => if r2 = 0 then bnd2 (fX9_fails N Z a0 (1 : Int32) M2) (fun r4 M4 => some (r4, M4)) else bnd2 (fX9_works N Z a0 (0 : Int32) a1 (0 : Int32) (0 : Int32) (0 : Int32) M2) (fun r5 M5 => if r5 = 0 then bnd2 (fX9_fails N Z a0 (2 : Int32) M5) (fun r7 M7 => some (r7, M7)) else bnd2 (fX9_high N Z a0 a1 M5) (fun r8 M8 => some (r8, M8)))))
set_option maxHeartbeats 4000000 in
set_option maxRecDepth 100000 in
theorem ctX9_erect {G : mG} {l : Launch} (hl : l.stackTraces = false) (N : Nat) (Z : mZ) {a0 : Nat} {a1 : Int32} {M : mM} {r : Int32} {M' : mM} (h : fX9_erect N Z a0 a1 M = some (r, M')) : CT G l yX9_erect (.code yX9_erect cX9_erect 2 (some .int)) rmX9_erect [.ref a0, .int a1] Z M (.inl (some (.int r))) Z M' := by
  unfold fX9_erect at h
  refine CT.of hl (by decide) (Nat.le_of_ble_eq_true rfl) ?_
  intro p e s m args below meth c C hnm
  refine j_sub (L' := [(0, .ref a0), (1, .int a1)]) [0, 1] rfl ?_
  refine j_aload_n C dX9_erect_0 rfl 0 rfl ?_
  refine j_iconst C dX9_erect_1 (v := (0 : Int32)) (by decide) ?_
  obtain ⟨ho1, h⟩ := ck_spec h
  refine j_putI C tyX9 tyX9_ok nmX9 (cn := RX9) (T := TX9) (N := 23) (ci := 9) rfl iX9 ho1 9 (by decide) rfl fwRX9_50 ⟨rfl, rfl⟩ dX9_erect_2 ?_
  refine j_aload_n C dX9_erect_5 rfl 0 rfl ?_
  refine j_iload_n C dX9_erect_6 rfl 1 rfl ?_
  obtain ⟨r2, M2, hq2, h⟩ := bnd2_spec h
  refine j_run1 (c_V C (As := [.int a1]) (rest := []) (ctX9_isPlace C.2.2.2.2.2.2.2.2.1 N Z hq2) kcRX9_184 oyX9_isPlace (ci := 9) (T := TX9) (N := 23) rfl (by decide) ho1 ⟨by decide, by decide⟩ ⟨by decide, by decide⟩ (Nat.le_of_ble_eq_true rfl) rfl dX9_erect_7) ?_
  refine j_if_ne C dX9_erect_10 (tgt := 19) (by decide) (fun hc3 => ?_) (fun hc3 => ?_)
  · rw [if_neg hc3] at h
    refine j_aload_n C dX9_erect_19 rfl 0 rfl ?_
    refine j_iconst C dX9_erect_20 (v := (0 : Int32)) (by decide) ?_
    refine j_iload_n C dX9_erect_21 rfl 1 rfl ?_
    refine j_iconst C dX9_erect_22 (v := (0 : Int32)) (by decide) ?_
    refine j_iconst C dX9_erect_23 (v := (0 : Int32)) (by decide) ?_
    refine j_iconst C dX9_erect_24 (v := (0 : Int32)) (by decide) ?_
    obtain ⟨r5, M5, hq5, h⟩ := bnd2_spec h
    refine j_run1 (c_V C (As := [.int (0 : Int32), .int a1, .int (0 : Int32), .int (0 : Int32), .int (0 : Int32)]) (rest := []) (ctX9_works C.2.2.2.2.2.2.2.2.1 N Z hq5) kcRX9_187 oyX9_works (ci := 9) (T := TX9) (N := 23) rfl (by decide) ho1 ⟨by decide, by decide⟩ ⟨by decide, by decide⟩ (Nat.le_of_ble_eq_true rfl) rfl dX9_erect_25) ?_
    refine j_if_eq C dX9_erect_28 (tgt := 39) (by decide) (fun hc6 => ?_) (fun hc6 => ?_)
    · rw [if_pos hc6] at h
      refine j_aload_n C dX9_erect_39 rfl 0 rfl ?_
      refine j_iconst C dX9_erect_40 (v := (2 : Int32)) (by decide) ?_
      obtain ⟨r7, M7, hq7, h⟩ := bnd2_spec h
      refine j_run1 (c_V C (As := [.int (2 : Int32)]) (rest := []) (ctX9_fails C.2.2.2.2.2.2.2.2.1 N Z hq7) kcRX9_181 oyX9_fails (ci := 9) (T := TX9) (N := 23) rfl (by decide) ho1 ⟨by decide, by decide⟩ ⟨by decide, by decide⟩ (Nat.le_of_ble_eq_true rfl) rfl dX9_erect_41) ?_
      cases h
      exact j_iret C rfl (by decide) (by decide) dX9_erect_44
    · rw [if_neg hc6] at h
      refine j_aload_n C dX9_erect_31 rfl 0 rfl ?_
      refine j_iload_n C dX9_erect_32 rfl 1 rfl ?_
      obtain ⟨r8, M8, hq8, h⟩ := bnd2_spec h
      refine j_run1 (c_V C (As := [.int a1]) (rest := []) (ctX9_high C.2.2.2.2.2.2.2.2.1 N Z hq8) kcRX9_69 oyX9_high (ci := 9) (T := TX9) (N := 23) rfl (by decide) ho1 ⟨by decide, by decide⟩ ⟨by decide, by decide⟩ (Nat.le_of_ble_eq_true rfl) rfl dX9_erect_33) ?_
      refine j_goto C dX9_erect_36 (tgt := 44) (by decide) ?_
      cases h
      exact j_iret C rfl (by decide) (by decide) dX9_erect_44
  · rw [if_pos hc3] at h
    refine j_aload_n C dX9_erect_13 rfl 0 rfl ?_
    refine j_iconst C dX9_erect_14 (v := (1 : Int32)) (by decide) ?_
    obtain ⟨r4, M4, hq4, h⟩ := bnd2_spec h
    refine j_run1 (c_V C (As := [.int (1 : Int32)]) (rest := []) (ctX9_fails C.2.2.2.2.2.2.2.2.1 N Z hq4) kcRX9_181 oyX9_fails (ci := 9) (T := TX9) (N := 23) rfl (by decide) ho1 ⟨by decide, by decide⟩ ⟨by decide, by decide⟩ (Nat.le_of_ble_eq_true rfl) rfl dX9_erect_15) ?_
    cases h
    exact j_iret C rfl (by decide) (by decide) dX9_erect_18
-- ScaffoldPlannerModel lower
abbrev rmX9_lower : Room := { frames := 7, cells := 0, slots := 0, locals := 168 }
theorem dX9_lower_0 : decode cX9_lower 0 = .ok (.aload_n 0, 1) := by decide +kernel
theorem dX9_lower_1 : decode cX9_lower 1 = .ok (.iconst 0, 1) := by decide +kernel
theorem dX9_lower_2 : decode cX9_lower 2 = .ok (.putfield 50, 3) := by decide +kernel
theorem dX9_lower_5 : decode cX9_lower 5 = .ok (.aload_n 0, 1) := by decide +kernel
theorem dX9_lower_6 : decode cX9_lower 6 = .ok (.iload_n 1, 1) := by decide +kernel
theorem dX9_lower_7 : decode cX9_lower 7 = .ok (.invokevirtual 184, 3) := by decide +kernel
theorem dX9_lower_10 : decode cX9_lower 10 = .ok (.ifCond .ne 9, 3) := by decide +kernel
theorem dX9_lower_13 : decode cX9_lower 13 = .ok (.aload_n 0, 1) := by decide +kernel
theorem dX9_lower_14 : decode cX9_lower 14 = .ok (.iconst 1, 1) := by decide +kernel
theorem dX9_lower_15 : decode cX9_lower 15 = .ok (.invokevirtual 181, 3) := by decide +kernel
theorem dX9_lower_18 : decode cX9_lower 18 = .ok (.ireturn, 1) := by decide +kernel
theorem dX9_lower_19 : decode cX9_lower 19 = .ok (.aload_n 0, 1) := by decide +kernel
theorem dX9_lower_20 : decode cX9_lower 20 = .ok (.iconst 0, 1) := by decide +kernel
theorem dX9_lower_21 : decode cX9_lower 21 = .ok (.iload_n 1, 1) := by decide +kernel
theorem dX9_lower_22 : decode cX9_lower 22 = .ok (.iconst 0, 1) := by decide +kernel
theorem dX9_lower_23 : decode cX9_lower 23 = .ok (.iconst 1, 1) := by decide +kernel
theorem dX9_lower_24 : decode cX9_lower 24 = .ok (.iconst 0, 1) := by decide +kernel
theorem dX9_lower_25 : decode cX9_lower 25 = .ok (.invokevirtual 187, 3) := by decide +kernel
theorem dX9_lower_28 : decode cX9_lower 28 = .ok (.ifCond .eq 11, 3) := by decide +kernel
theorem dX9_lower_31 : decode cX9_lower 31 = .ok (.aload_n 0, 1) := by decide +kernel
theorem dX9_lower_32 : decode cX9_lower 32 = .ok (.iload_n 1, 1) := by decide +kernel
theorem dX9_lower_33 : decode cX9_lower 33 = .ok (.invokevirtual 69, 3) := by decide +kernel
theorem dX9_lower_36 : decode cX9_lower 36 = .ok (.goto 8, 3) := by decide +kernel
theorem dX9_lower_39 : decode cX9_lower 39 = .ok (.aload_n 0, 1) := by decide +kernel
theorem dX9_lower_40 : decode cX9_lower 40 = .ok (.iconst 2, 1) := by decide +kernel
theorem dX9_lower_41 : decode cX9_lower 41 = .ok (.invokevirtual 181, 3) := by decide +kernel
theorem dX9_lower_44 : decode cX9_lower 44 = .ok (.ireturn, 1) := by decide +kernel
def fX9_lower (N : Nat) (Z : mZ) (a0 : Nat) (a1 : Int32) (M : mM) : Option (Int32 × mM) := ck (okO Z a0 9) (bnd2 (fX9_isPlace N Z a0 a1 (sI M a0 9 (0 : Int32))) (fun r2 M2 => if r2 = 0 then bnd2 (fX9_fails N Z a0 (1 : Int32) M2) (fun r4 M4 => some (r4, M4)) else bnd2 (fX9_works N Z a0 (0 : Int32) a1 (0 : Int32) (1 : Int32) (0 : Int32) M2) (fun r5 M5 => if r5 = 0 then bnd2 (fX9_fails N Z a0 (2 : Int32) M5) (fun r7 M7 => some (r7, M7)) else bnd2 (fX9_high N Z a0 a1 M5) (fun r8 M8 => some (r8, M8)))))
set_option maxHeartbeats 4000000 in
set_option maxRecDepth 100000 in
theorem ctX9_lower {G : mG} {l : Launch} (hl : l.stackTraces = false) (N : Nat) (Z : mZ) {a0 : Nat} {a1 : Int32} {M : mM} {r : Int32} {M' : mM} (h : fX9_lower N Z a0 a1 M = some (r, M')) : CT G l yX9_lower (.code yX9_lower cX9_lower 2 (some .int)) rmX9_lower [.ref a0, .int a1] Z M (.inl (some (.int r))) Z M' := by
  unfold fX9_lower at h
  refine CT.of hl (by decide) (Nat.le_of_ble_eq_true rfl) ?_
  intro p e s m args below meth c C hnm
  refine j_sub (L' := [(0, .ref a0), (1, .int a1)]) [0, 1] rfl ?_
  refine j_aload_n C dX9_lower_0 rfl 0 rfl ?_
  refine j_iconst C dX9_lower_1 (v := (0 : Int32)) (by decide) ?_
  obtain ⟨ho1, h⟩ := ck_spec h
  refine j_putI C tyX9 tyX9_ok nmX9 (cn := RX9) (T := TX9) (N := 23) (ci := 9) rfl iX9 ho1 9 (by decide) rfl fwRX9_50 ⟨rfl, rfl⟩ dX9_lower_2 ?_
  refine j_aload_n C dX9_lower_5 rfl 0 rfl ?_
  refine j_iload_n C dX9_lower_6 rfl 1 rfl ?_
  obtain ⟨r2, M2, hq2, h⟩ := bnd2_spec h
  refine j_run1 (c_V C (As := [.int a1]) (rest := []) (ctX9_isPlace C.2.2.2.2.2.2.2.2.1 N Z hq2) kcRX9_184 oyX9_isPlace (ci := 9) (T := TX9) (N := 23) rfl (by decide) ho1 ⟨by decide, by decide⟩ ⟨by decide, by decide⟩ (Nat.le_of_ble_eq_true rfl) rfl dX9_lower_7) ?_
  refine j_if_ne C dX9_lower_10 (tgt := 19) (by decide) (fun hc3 => ?_) (fun hc3 => ?_)
  · rw [if_neg hc3] at h
    refine j_aload_n C dX9_lower_19 rfl 0 rfl ?_
    refine j_iconst C dX9_lower_20 (v := (0 : Int32)) (by decide) ?_
    refine j_iload_n C dX9_lower_21 rfl 1 rfl ?_
    refine j_iconst C dX9_lower_22 (v := (0 : Int32)) (by decide) ?_
    refine j_iconst C dX9_lower_23 (v := (1 : Int32)) (by decide) ?_
    refine j_iconst C dX9_lower_24 (v := (0 : Int32)) (by decide) ?_
    obtain ⟨r5, M5, hq5, h⟩ := bnd2_spec h
    refine j_run1 (c_V C (As := [.int (0 : Int32), .int a1, .int (0 : Int32), .int (1 : Int32), .int (0 : Int32)]) (rest := []) (ctX9_works C.2.2.2.2.2.2.2.2.1 N Z hq5) kcRX9_187 oyX9_works (ci := 9) (T := TX9) (N := 23) rfl (by decide) ho1 ⟨by decide, by decide⟩ ⟨by decide, by decide⟩ (Nat.le_of_ble_eq_true rfl) rfl dX9_lower_25) ?_
    refine j_if_eq C dX9_lower_28 (tgt := 39) (by decide) (fun hc6 => ?_) (fun hc6 => ?_)
    · rw [if_pos hc6] at h
      refine j_aload_n C dX9_lower_39 rfl 0 rfl ?_
      refine j_iconst C dX9_lower_40 (v := (2 : Int32)) (by decide) ?_
      obtain ⟨r7, M7, hq7, h⟩ := bnd2_spec h
      refine j_run1 (c_V C (As := [.int (2 : Int32)]) (rest := []) (ctX9_fails C.2.2.2.2.2.2.2.2.1 N Z hq7) kcRX9_181 oyX9_fails (ci := 9) (T := TX9) (N := 23) rfl (by decide) ho1 ⟨by decide, by decide⟩ ⟨by decide, by decide⟩ (Nat.le_of_ble_eq_true rfl) rfl dX9_lower_41) ?_
      cases h
      exact j_iret C rfl (by decide) (by decide) dX9_lower_44
    · rw [if_neg hc6] at h
      refine j_aload_n C dX9_lower_31 rfl 0 rfl ?_
      refine j_iload_n C dX9_lower_32 rfl 1 rfl ?_
      obtain ⟨r8, M8, hq8, h⟩ := bnd2_spec h
      refine j_run1 (c_V C (As := [.int a1]) (rest := []) (ctX9_high C.2.2.2.2.2.2.2.2.1 N Z hq8) kcRX9_69 oyX9_high (ci := 9) (T := TX9) (N := 23) rfl (by decide) ho1 ⟨by decide, by decide⟩ ⟨by decide, by decide⟩ (Nat.le_of_ble_eq_true rfl) rfl dX9_lower_33) ?_
      refine j_goto C dX9_lower_36 (tgt := 44) (by decide) ?_
      cases h
      exact j_iret C rfl (by decide) (by decide) dX9_lower_44
  · rw [if_pos hc3] at h
    refine j_aload_n C dX9_lower_13 rfl 0 rfl ?_
    refine j_iconst C dX9_lower_14 (v := (1 : Int32)) (by decide) ?_
    obtain ⟨r4, M4, hq4, h⟩ := bnd2_spec h
    refine j_run1 (c_V C (As := [.int (1 : Int32)]) (rest := []) (ctX9_fails C.2.2.2.2.2.2.2.2.1 N Z hq4) kcRX9_181 oyX9_fails (ci := 9) (T := TX9) (N := 23) rfl (by decide) ho1 ⟨by decide, by decide⟩ ⟨by decide, by decide⟩ (Nat.le_of_ble_eq_true rfl) rfl dX9_lower_15) ?_
    cases h
    exact j_iret C rfl (by decide) (by decide) dX9_lower_18
-- ScaffoldPlannerModel decks
abbrev rmX9_decks : Room := { frames := 2, cells := 0, slots := 0, locals := 44 }
theorem dX9_decks_0 : decode cX9_decks 0 = .ok (.iconst 0, 1) := by decide +kernel
theorem dX9_decks_1 : decode cX9_decks 1 = .ok (.istore_n 2, 1) := by decide +kernel
theorem dX9_decks_2 : decode cX9_decks 2 = .ok (.iconst 1, 1) := by decide +kernel
theorem dX9_decks_3 : decode cX9_decks 3 = .ok (.istore_n 3, 1) := by decide +kernel
theorem dX9_decks_4 : decode cX9_decks 4 = .ok (.iload_n 3, 1) := by decide +kernel
theorem dX9_decks_5 : decode cX9_decks 5 = .ok (.bipush 6, 2) := by decide +kernel
theorem dX9_decks_7 : decode cX9_decks 7 = .ok (.if_icmp .gt 26, 3) := by decide +kernel
theorem dX9_decks_10 : decode cX9_decks 10 = .ok (.iload_n 2, 1) := by decide +kernel
theorem dX9_decks_11 : decode cX9_decks 11 = .ok (.aload_n 0, 1) := by decide +kernel
theorem dX9_decks_12 : decode cX9_decks 12 = .ok (.iload_n 1, 1) := by decide +kernel
theorem dX9_decks_13 : decode cX9_decks 13 = .ok (.iload_n 3, 1) := by decide +kernel
theorem dX9_decks_14 : decode cX9_decks 14 = .ok (.invokevirtual 93, 3) := by decide +kernel
theorem dX9_decks_17 : decode cX9_decks 17 = .ok (.ifCond .le 7, 3) := by decide +kernel
theorem dX9_decks_20 : decode cX9_decks 20 = .ok (.iconst 1, 1) := by decide +kernel
theorem dX9_decks_21 : decode cX9_decks 21 = .ok (.goto 4, 3) := by decide +kernel
theorem dX9_decks_24 : decode cX9_decks 24 = .ok (.iconst 0, 1) := by decide +kernel
theorem dX9_decks_25 : decode cX9_decks 25 = .ok (.iadd, 1) := by decide +kernel
theorem dX9_decks_26 : decode cX9_decks 26 = .ok (.istore_n 2, 1) := by decide +kernel
theorem dX9_decks_27 : decode cX9_decks 27 = .ok (.iinc 3 1, 3) := by decide +kernel
theorem dX9_decks_30 : decode cX9_decks 30 = .ok (.goto (-26), 3) := by decide +kernel
theorem dX9_decks_33 : decode cX9_decks 33 = .ok (.iload_n 2, 1) := by decide +kernel
theorem dX9_decks_34 : decode cX9_decks 34 = .ok (.ireturn, 1) := by decide +kernel
def fX9_decks_4 (N : Nat) (Z : mZ) : Nat → Nat → Int32 → Int32 → Int32 → mM → Option (Int32 × mM)
  | 0, _, _, _, _, _ => none
  | fu + 1, v0, v1, v2, v3, M => if (6 : Int32) < v3 then some (v2, M) else ck (okO Z v0 9) (bnd2 (fX9_deckAt N Z v0 v1 v3 M) (fun r3 M3 => if r3 ≤ 0 then fX9_decks_4 N Z fu v0 v1 (v2 + (0 : Int32)) (v3 + (1 : Int32)) M3 else fX9_decks_4 N Z fu v0 v1 (v2 + (1 : Int32)) (v3 + (1 : Int32)) M3))
set_option maxHeartbeats 4000000 in
set_option maxRecDepth 100000 in
theorem tX9_decks_4 {G : mG} {p : Program} {l : Launch} {e : Env} {s : State} {m : MethodId} {args : Array Value} {below : List Frame} {meth : Method} {c : Code} (C : Cx G p l s m args meth c RX9 cX9_decks 4 (some .int) []) (hnm : meth.name = yX9_decks.name) (N : Nat) (Z : mZ) : ∀ (fu : Nat) (v0 : Nat) (v1 : Int32) (v2 : Int32) (v3 : Int32) (M : mM) (r : Int32) (M' : mM), fX9_decks_4 N Z fu v0 v1 v2 v3 M = some (r, M') → JJ G p l e rmX9_decks s m args below meth c 4 (mEnd G below args s rmX9_decks (.inl (some (.int r))) Z M') 0 0 4 [(0, .ref v0), (1, .int v1), (2, .int v2), (3, .int v3)] [] Z M := by
  intro fu
  induction fu with
  | zero =>
    intro v0 v1 v2 v3 M r M' h
    cases h
  | succ fu ih =>
    intro v0 v1 v2 v3 M r M' h
    rw [fX9_decks_4] at h
    refine j_iload_n C dX9_decks_4 rfl 3 rfl ?_
    refine j_bipush C dX9_decks_5 (v := (6 : Int32)) (by decide) ?_
    refine j_icmp_gt C dX9_decks_7 (tgt := 33) (by decide) (fun hc1 => ?_) (fun hc1 => ?_)
    · rw [if_pos hc1] at h
      refine j_iload_n C dX9_decks_33 rfl 2 rfl ?_
      cases h
      exact j_iret C rfl (by decide) (by decide) dX9_decks_34
    · rw [if_neg hc1] at h
      refine j_iload_n C dX9_decks_10 rfl 2 rfl ?_
      refine j_aload_n C dX9_decks_11 rfl 0 rfl ?_
      refine j_iload_n C dX9_decks_12 rfl 1 rfl ?_
      refine j_iload_n C dX9_decks_13 rfl 3 rfl ?_
      obtain ⟨ho2, h⟩ := ck_spec h
      obtain ⟨r3, M3, hq3, h⟩ := bnd2_spec h
      refine j_run1 (c_V C (As := [.int v1, .int v3]) (rest := [.int v2]) (ctX9_deckAt C.2.2.2.2.2.2.2.2.1 N Z hq3) kcRX9_93 oyX9_deckAt (ci := 9) (T := TX9) (N := 23) rfl (by decide) ho2 ⟨by decide, by decide⟩ ⟨by decide, by decide⟩ (Nat.le_of_ble_eq_true rfl) rfl dX9_decks_14) ?_
      refine j_if_le C dX9_decks_17 (tgt := 24) (by decide) (fun hc4 => ?_) (fun hc4 => ?_)
      · rw [if_pos hc4] at h
        refine j_iconst C dX9_decks_24 (v := (0 : Int32)) (by decide) ?_
        refine j_iadd C dX9_decks_25 ?_
        refine j_istore_n C dX9_decks_26 rfl (by decide) (L' := [(2, .int (v2 + (0 : Int32))), (0, .ref v0), (1, .int v1), (3, .int v3)]) rfl ?_
        refine j_iinc C dX9_decks_27 3 rfl (v := (v3 + (1 : Int32))) (by first | rfl | decide) (by decide) (L' := [(3, .int (v3 + (1 : Int32))), (2, .int (v2 + (0 : Int32))), (0, .ref v0), (1, .int v1)]) rfl ?_
        refine j_goto C dX9_decks_30 (tgt := 4) (by decide) ?_
        refine j_sub (L' := [(0, .ref v0), (1, .int v1), (2, .int (v2 + (0 : Int32))), (3, .int (v3 + (1 : Int32)))]) [2, 3, 1, 0] rfl ?_
        exact ih v0 v1 (v2 + (0 : Int32)) (v3 + (1 : Int32)) M3 r M' h
      · rw [if_neg hc4] at h
        refine j_iconst C dX9_decks_20 (v := (1 : Int32)) (by decide) ?_
        refine j_goto C dX9_decks_21 (tgt := 25) (by decide) ?_
        refine j_iadd C dX9_decks_25 ?_
        refine j_istore_n C dX9_decks_26 rfl (by decide) (L' := [(2, .int (v2 + (1 : Int32))), (0, .ref v0), (1, .int v1), (3, .int v3)]) rfl ?_
        refine j_iinc C dX9_decks_27 3 rfl (v := (v3 + (1 : Int32))) (by first | rfl | decide) (by decide) (L' := [(3, .int (v3 + (1 : Int32))), (2, .int (v2 + (1 : Int32))), (0, .ref v0), (1, .int v1)]) rfl ?_
        refine j_goto C dX9_decks_30 (tgt := 4) (by decide) ?_
        refine j_sub (L' := [(0, .ref v0), (1, .int v1), (2, .int (v2 + (1 : Int32))), (3, .int (v3 + (1 : Int32)))]) [2, 3, 1, 0] rfl ?_
        exact ih v0 v1 (v2 + (1 : Int32)) (v3 + (1 : Int32)) M3 r M' h
def fX9_decks (N : Nat) (Z : mZ) (a0 : Nat) (a1 : Int32) (M : mM) : Option (Int32 × mM) := fX9_decks_4 N Z N a0 a1 (0 : Int32) (1 : Int32) M
set_option maxHeartbeats 4000000 in
set_option maxRecDepth 100000 in
theorem ctX9_decks {G : mG} {l : Launch} (hl : l.stackTraces = false) (N : Nat) (Z : mZ) {a0 : Nat} {a1 : Int32} {M : mM} {r : Int32} {M' : mM} (h : fX9_decks N Z a0 a1 M = some (r, M')) : CT G l yX9_decks (.code yX9_decks cX9_decks 4 (some .int)) rmX9_decks [.ref a0, .int a1] Z M (.inl (some (.int r))) Z M' := by
  unfold fX9_decks at h
  refine CT.of hl (by decide) (Nat.le_of_ble_eq_true rfl) ?_
  intro p e s m args below meth c C hnm
  refine j_sub (L' := [(0, .ref a0), (1, .int a1)]) [0, 1] rfl ?_
  refine j_iconst C dX9_decks_0 (v := (0 : Int32)) (by decide) ?_
  refine j_istore_n C dX9_decks_1 rfl (by decide) (L' := [(2, .int (0 : Int32)), (0, .ref a0), (1, .int a1)]) rfl ?_
  refine j_iconst C dX9_decks_2 (v := (1 : Int32)) (by decide) ?_
  refine j_istore_n C dX9_decks_3 rfl (by decide) (L' := [(3, .int (1 : Int32)), (2, .int (0 : Int32)), (0, .ref a0), (1, .int a1)]) rfl ?_
  refine j_sub (L' := [(0, .ref a0), (1, .int a1), (2, .int (0 : Int32)), (3, .int (1 : Int32))]) [2, 3, 1, 0] rfl ?_
  exact tX9_decks_4 C hnm N Z N a0 a1 (0 : Int32) (1 : Int32) M _ _ h
-- ScaffoldPlannerModel bits
abbrev rmX9_bits : Room := { frames := 0, cells := 0, slots := 0, locals := 0 }
theorem dX9_bits_0 : decode cX9_bits 0 = .ok (.iconst 0, 1) := by decide +kernel
theorem dX9_bits_1 : decode cX9_bits 1 = .ok (.istore_n 1, 1) := by decide +kernel
theorem dX9_bits_2 : decode cX9_bits 2 = .ok (.iload_n 0, 1) := by decide +kernel
theorem dX9_bits_3 : decode cX9_bits 3 = .ok (.istore_n 2, 1) := by decide +kernel
theorem dX9_bits_4 : decode cX9_bits 4 = .ok (.iload_n 2, 1) := by decide +kernel
theorem dX9_bits_5 : decode cX9_bits 5 = .ok (.ifCond .eq 15, 3) := by decide +kernel
theorem dX9_bits_8 : decode cX9_bits 8 = .ok (.iinc 1 1, 3) := by decide +kernel
theorem dX9_bits_11 : decode cX9_bits 11 = .ok (.iload_n 2, 1) := by decide +kernel
theorem dX9_bits_12 : decode cX9_bits 12 = .ok (.iload_n 2, 1) := by decide +kernel
theorem dX9_bits_13 : decode cX9_bits 13 = .ok (.iconst 1, 1) := by decide +kernel
theorem dX9_bits_14 : decode cX9_bits 14 = .ok (.isub, 1) := by decide +kernel
theorem dX9_bits_15 : decode cX9_bits 15 = .ok (.iand, 1) := by decide +kernel
theorem dX9_bits_16 : decode cX9_bits 16 = .ok (.istore_n 2, 1) := by decide +kernel
theorem dX9_bits_17 : decode cX9_bits 17 = .ok (.goto (-13), 3) := by decide +kernel
theorem dX9_bits_20 : decode cX9_bits 20 = .ok (.iload_n 1, 1) := by decide +kernel
theorem dX9_bits_21 : decode cX9_bits 21 = .ok (.ireturn, 1) := by decide +kernel
def fX9_bits_4 (N : Nat) (Z : mZ) : Nat → Int32 → Int32 → mM → Option (Int32 × mM)
  | 0, _, _, _ => none
  | fu + 1, v1, v2, M => if v2 = 0 then some (v1, M) else fX9_bits_4 N Z fu (v1 + (1 : Int32)) (v2 &&& (v2 - (1 : Int32))) M
set_option maxHeartbeats 4000000 in
set_option maxRecDepth 100000 in
theorem tX9_bits_4 {G : mG} {p : Program} {l : Launch} {e : Env} {s : State} {m : MethodId} {args : Array Value} {below : List Frame} {meth : Method} {c : Code} (C : Cx G p l s m args meth c RX9 cX9_bits 3 (some .int) []) (hnm : meth.name = yX9_bits.name) (N : Nat) (Z : mZ) : ∀ (fu : Nat) (v1 : Int32) (v2 : Int32) (M : mM) (r : Int32) (M' : mM), fX9_bits_4 N Z fu v1 v2 M = some (r, M') → JJ G p l e rmX9_bits s m args below meth c 3 (mEnd G below args s rmX9_bits (.inl (some (.int r))) Z M') 0 0 4 [(1, .int v1), (2, .int v2)] [] Z M := by
  intro fu
  induction fu with
  | zero =>
    intro v1 v2 M r M' h
    cases h
  | succ fu ih =>
    intro v1 v2 M r M' h
    rw [fX9_bits_4] at h
    refine j_iload_n C dX9_bits_4 rfl 1 rfl ?_
    refine j_if_eq C dX9_bits_5 (tgt := 20) (by decide) (fun hc1 => ?_) (fun hc1 => ?_)
    · rw [if_pos hc1] at h
      refine j_iload_n C dX9_bits_20 rfl 0 rfl ?_
      cases h
      exact j_iret C rfl (by decide) (by decide) dX9_bits_21
    · rw [if_neg hc1] at h
      refine j_iinc C dX9_bits_8 0 rfl (v := (v1 + (1 : Int32))) (by first | rfl | decide) (by decide) (L' := [(1, .int (v1 + (1 : Int32))), (2, .int v2)]) rfl ?_
      refine j_iload_n C dX9_bits_11 rfl 1 rfl ?_
      refine j_iload_n C dX9_bits_12 rfl 1 rfl ?_
      refine j_iconst C dX9_bits_13 (v := (1 : Int32)) (by decide) ?_
      refine j_isub C dX9_bits_14 ?_
      refine j_iand C dX9_bits_15 ?_
      refine j_istore_n C dX9_bits_16 rfl (by decide) (L' := [(2, .int (v2 &&& (v2 - (1 : Int32)))), (1, .int (v1 + (1 : Int32)))]) rfl ?_
      refine j_goto C dX9_bits_17 (tgt := 4) (by decide) ?_
      refine j_sub (L' := [(1, .int (v1 + (1 : Int32))), (2, .int (v2 &&& (v2 - (1 : Int32))))]) [1, 0] rfl ?_
      exact ih (v1 + (1 : Int32)) (v2 &&& (v2 - (1 : Int32))) M r M' h
def fX9_bits (N : Nat) (Z : mZ) (a0 : Int32) (M : mM) : Option (Int32 × mM) := fX9_bits_4 N Z N (0 : Int32) a0 M
set_option maxHeartbeats 4000000 in
set_option maxRecDepth 100000 in
theorem ctX9_bits {G : mG} {l : Launch} (hl : l.stackTraces = false) (N : Nat) (Z : mZ) {a0 : Int32} {M : mM} {r : Int32} {M' : mM} (h : fX9_bits N Z a0 M = some (r, M')) : CT G l yX9_bits (.code yX9_bits cX9_bits 3 (some .int)) rmX9_bits [.int a0] Z M (.inl (some (.int r))) Z M' := by
  unfold fX9_bits at h
  refine CT.of hl (by decide) (Nat.le_of_ble_eq_true rfl) ?_
  intro p e s m args below meth c C hnm
  refine j_sub (L' := [(0, .int a0)]) [0] rfl ?_
  refine j_iconst C dX9_bits_0 (v := (0 : Int32)) (by decide) ?_
  refine j_istore_n C dX9_bits_1 rfl (by decide) (L' := [(1, .int (0 : Int32)), (0, .int a0)]) rfl ?_
  refine j_iload_n C dX9_bits_2 rfl 1 rfl ?_
  refine j_istore_n C dX9_bits_3 rfl (by decide) (L' := [(2, .int a0), (1, .int (0 : Int32)), (0, .int a0)]) rfl ?_
  refine j_sub (L' := [(1, .int (0 : Int32)), (2, .int a0)]) [1, 0] rfl ?_
  exact tX9_bits_4 C hnm N Z N (0 : Int32) a0 M _ _ h
-- ScaffoldPlannerModel pieces
theorem kcRX9_191 : okV RX9 191 yX9_decks (.code yX9_decks cX9_decks 4 (some .int)) = true := by decide +kernel
theorem oyX9_decks : okY yX9_decks 1 := ⟨by decide +kernel, by decide +kernel, by decide +kernel⟩
theorem kcRX9_194 : okS RX9 194 yX9_bits (.code yX9_bits cX9_bits 3 (some .int)) = true := by decide +kernel
theorem oyX9_bits : okY yX9_bits 1 := ⟨by decide +kernel, by decide +kernel, by decide +kernel⟩
abbrev rmX9_pieces : Room := { frames := 3, cells := 0, slots := 0, locals := 67 }
theorem dX9_pieces_0 : decode cX9_pieces 0 = .ok (.iload_n 1, 1) := by decide +kernel
theorem dX9_pieces_1 : decode cX9_pieces 1 = .ok (.ifCond .ne 8, 3) := by decide +kernel
theorem dX9_pieces_4 : decode cX9_pieces 4 = .ok (.aload_n 0, 1) := by decide +kernel
theorem dX9_pieces_5 : decode cX9_pieces 5 = .ok (.invokevirtual 120, 3) := by decide +kernel
theorem dX9_pieces_8 : decode cX9_pieces 8 = .ok (.ireturn, 1) := by decide +kernel
theorem dX9_pieces_9 : decode cX9_pieces 9 = .ok (.iconst 0, 1) := by decide +kernel
theorem dX9_pieces_10 : decode cX9_pieces 10 = .ok (.istore_n 2, 1) := by decide +kernel
theorem dX9_pieces_11 : decode cX9_pieces 11 = .ok (.iconst 0, 1) := by decide +kernel
theorem dX9_pieces_12 : decode cX9_pieces 12 = .ok (.istore_n 3, 1) := by decide +kernel
theorem dX9_pieces_13 : decode cX9_pieces 13 = .ok (.iload_n 3, 1) := by decide +kernel
theorem dX9_pieces_14 : decode cX9_pieces 14 = .ok (.aload_n 0, 1) := by decide +kernel
theorem dX9_pieces_15 : decode cX9_pieces 15 = .ok (.getfield 7, 3) := by decide +kernel
theorem dX9_pieces_18 : decode cX9_pieces 18 = .ok (.iconst 0, 1) := by decide +kernel
theorem dX9_pieces_19 : decode cX9_pieces 19 = .ok (.iaload, 1) := by decide +kernel
theorem dX9_pieces_20 : decode cX9_pieces 20 = .ok (.if_icmp .ge 54, 3) := by decide +kernel
theorem dX9_pieces_23 : decode cX9_pieces 23 = .ok (.iload_n 2, 1) := by decide +kernel
theorem dX9_pieces_24 : decode cX9_pieces 24 = .ok (.iload_n 1, 1) := by decide +kernel
theorem dX9_pieces_25 : decode cX9_pieces 25 = .ok (.iconst 1, 1) := by decide +kernel
theorem dX9_pieces_26 : decode cX9_pieces 26 = .ok (.if_icmp .ne 13, 3) := by decide +kernel
theorem dX9_pieces_29 : decode cX9_pieces 29 = .ok (.iconst 2, 1) := by decide +kernel
theorem dX9_pieces_30 : decode cX9_pieces 30 = .ok (.aload_n 0, 1) := by decide +kernel
theorem dX9_pieces_31 : decode cX9_pieces 31 = .ok (.iload_n 3, 1) := by decide +kernel
theorem dX9_pieces_32 : decode cX9_pieces 32 = .ok (.invokevirtual 69, 3) := by decide +kernel
theorem dX9_pieces_35 : decode cX9_pieces 35 = .ok (.imul, 1) := by decide +kernel
theorem dX9_pieces_36 : decode cX9_pieces 36 = .ok (.goto 30, 3) := by decide +kernel
theorem dX9_pieces_39 : decode cX9_pieces 39 = .ok (.iload_n 1, 1) := by decide +kernel
theorem dX9_pieces_40 : decode cX9_pieces 40 = .ok (.iconst 2, 1) := by decide +kernel
theorem dX9_pieces_41 : decode cX9_pieces 41 = .ok (.if_icmp .ne 11, 3) := by decide +kernel
theorem dX9_pieces_44 : decode cX9_pieces 44 = .ok (.aload_n 0, 1) := by decide +kernel
theorem dX9_pieces_45 : decode cX9_pieces 45 = .ok (.iload_n 3, 1) := by decide +kernel
theorem dX9_pieces_46 : decode cX9_pieces 46 = .ok (.invokevirtual 191, 3) := by decide +kernel
theorem dX9_pieces_49 : decode cX9_pieces 49 = .ok (.goto 17, 3) := by decide +kernel
theorem dX9_pieces_52 : decode cX9_pieces 52 = .ok (.aload_n 0, 1) := by decide +kernel
theorem dX9_pieces_53 : decode cX9_pieces 53 = .ok (.getfield 7, 3) := by decide +kernel
theorem dX9_pieces_56 : decode cX9_pieces 56 = .ok (.iload_n 1, 1) := by decide +kernel
theorem dX9_pieces_57 : decode cX9_pieces 57 = .ok (.invokestatic 124, 3) := by decide +kernel
theorem dX9_pieces_60 : decode cX9_pieces 60 = .ok (.iload_n 3, 1) := by decide +kernel
theorem dX9_pieces_61 : decode cX9_pieces 61 = .ok (.iadd, 1) := by decide +kernel
theorem dX9_pieces_62 : decode cX9_pieces 62 = .ok (.iaload, 1) := by decide +kernel
theorem dX9_pieces_63 : decode cX9_pieces 63 = .ok (.invokestatic 194, 3) := by decide +kernel
theorem dX9_pieces_66 : decode cX9_pieces 66 = .ok (.iadd, 1) := by decide +kernel
theorem dX9_pieces_67 : decode cX9_pieces 67 = .ok (.istore_n 2, 1) := by decide +kernel
theorem dX9_pieces_68 : decode cX9_pieces 68 = .ok (.iinc 3 1, 3) := by decide +kernel
theorem dX9_pieces_71 : decode cX9_pieces 71 = .ok (.goto (-58), 3) := by decide +kernel
theorem dX9_pieces_74 : decode cX9_pieces 74 = .ok (.iload_n 2, 1) := by decide +kernel
theorem dX9_pieces_75 : decode cX9_pieces 75 = .ok (.ireturn, 1) := by decide +kernel
def fX9_pieces_13 (N : Nat) (Z : mZ) : Nat → Nat → Int32 → Int32 → Int32 → mM → Option (Int32 × mM)
  | 0, _, _, _, _, _ => none
  | fu + 1, v0, v1, v2, v3, M => ck (okO Z v0 9) (bnd1 (Z.2.2.2 v0 0) (fun c5 => ck (okI Z c5) (ck (inB (0 : Int32) (Z.2.2.1 c5)) (if (M.1 c5 ((0 : Int32)).toNatClampNeg) ≤ v3 then some (v2, M) else if v1 = (1 : Int32) then bnd2 (fX9_high N Z v0 v3 M) (fun r10 M10 => fX9_pieces_13 N Z fu v0 v1 (v2 + ((2 : Int32) * r10)) (v3 + (1 : Int32)) M10) else if v1 = (2 : Int32) then bnd2 (fX9_decks N Z v0 v3 M) (fun r12 M12 => fX9_pieces_13 N Z fu v0 v1 (v2 + r12) (v3 + (1 : Int32)) M12) else bnd2 (fX9_rowOf N Z v1 M) (fun r13 M13 => ck (inB (r13 + v3) (Z.2.2.1 c5)) (bnd2 (fX9_bits N Z (M13.1 c5 ((r13 + v3)).toNatClampNeg) M13) (fun r15 M15 => fX9_pieces_13 N Z fu v0 v1 (v2 + r15) (v3 + (1 : Int32)) M15)))))))
set_option maxHeartbeats 4000000 in
set_option maxRecDepth 100000 in
theorem tX9_pieces_13 {G : mG} {p : Program} {l : Launch} {e : Env} {s : State} {m : MethodId} {args : Array Value} {below : List Frame} {meth : Method} {c : Code} (C : Cx G p l s m args meth c RX9 cX9_pieces 4 (some .int) []) (hnm : meth.name = yX9_pieces.name) (N : Nat) (Z : mZ) : ∀ (fu : Nat) (v0 : Nat) (v1 : Int32) (v2 : Int32) (v3 : Int32) (M : mM) (r : Int32) (M' : mM), fX9_pieces_13 N Z fu v0 v1 v2 v3 M = some (r, M') → JJ G p l e rmX9_pieces s m args below meth c 4 (mEnd G below args s rmX9_pieces (.inl (some (.int r))) Z M') 0 0 13 [(0, .ref v0), (1, .int v1), (2, .int v2), (3, .int v3)] [] Z M := by
  intro fu
  induction fu with
  | zero =>
    intro v0 v1 v2 v3 M r M' h
    cases h
  | succ fu ih =>
    intro v0 v1 v2 v3 M r M' h
    rw [fX9_pieces_13] at h
    refine j_iload_n C dX9_pieces_13 rfl 3 rfl ?_
    refine j_aload_n C dX9_pieces_14 rfl 0 rfl ?_
    obtain ⟨ho4, h⟩ := ck_spec h
    obtain ⟨c5, hr5, h⟩ := bnd1_spec h
    refine j_getR C (cn := RX9) (T := TX9) (N := 23) (ci := 9) rfl iX9 ho4 0 (by decide) rfl fwRX9_7 dX9_pieces_15 hr5 ?_
    refine j_iconst C dX9_pieces_18 (v := (0 : Int32)) (by decide) ?_
    obtain ⟨ho6, h⟩ := ck_spec h
    obtain ⟨ho7, h⟩ := ck_spec h
    refine j_iald C ho6 ho7 dX9_pieces_19 ?_
    refine j_icmp_ge C dX9_pieces_20 (tgt := 74) (by decide) (fun hc8 => ?_) (fun hc8 => ?_)
    · rw [if_pos hc8] at h
      refine j_iload_n C dX9_pieces_74 rfl 2 rfl ?_
      cases h
      exact j_iret C rfl (by decide) (by decide) dX9_pieces_75
    · rw [if_neg hc8] at h
      refine j_iload_n C dX9_pieces_23 rfl 2 rfl ?_
      refine j_iload_n C dX9_pieces_24 rfl 1 rfl ?_
      refine j_iconst C dX9_pieces_25 (v := (1 : Int32)) (by decide) ?_
      refine j_icmp_ne C dX9_pieces_26 (tgt := 39) (by decide) (fun hc9 => ?_) (fun hc9 => ?_)
      · rw [if_neg hc9] at h
        refine j_iload_n C dX9_pieces_39 rfl 1 rfl ?_
        refine j_iconst C dX9_pieces_40 (v := (2 : Int32)) (by decide) ?_
        refine j_icmp_ne C dX9_pieces_41 (tgt := 52) (by decide) (fun hc11 => ?_) (fun hc11 => ?_)
        · rw [if_neg hc11] at h
          refine j_aload_n C dX9_pieces_52 rfl 0 rfl ?_
          refine j_getR C (cn := RX9) (T := TX9) (N := 23) (ci := 9) rfl iX9 ho4 0 (by decide) rfl fwRX9_7 dX9_pieces_53 hr5 ?_
          refine j_iload_n C dX9_pieces_56 rfl 1 rfl ?_
          obtain ⟨r13, M13, hq13, h⟩ := bnd2_spec h
          refine j_run1 (c_S C (As := [.int v1]) (rest := [.ref c5, .int v2]) (ctX9_rowOf C.2.2.2.2.2.2.2.2.1 N Z hq13) kcRX9_124 oyX9_rowOf ⟨by decide, by decide⟩ ⟨by decide, by decide⟩ (Nat.le_of_ble_eq_true rfl) rfl dX9_pieces_57) ?_
          refine j_iload_n C dX9_pieces_60 rfl 3 rfl ?_
          refine j_iadd C dX9_pieces_61 ?_
          obtain ⟨ho14, h⟩ := ck_spec h
          refine j_iald C ho6 ho14 dX9_pieces_62 ?_
          obtain ⟨r15, M15, hq15, h⟩ := bnd2_spec h
          refine j_run1 (c_S C (As := [.int (M13.1 c5 ((r13 + v3)).toNatClampNeg)]) (rest := [.int v2]) (ctX9_bits C.2.2.2.2.2.2.2.2.1 N Z hq15) kcRX9_194 oyX9_bits ⟨by decide, by decide⟩ ⟨by decide, by decide⟩ (Nat.le_of_ble_eq_true rfl) rfl dX9_pieces_63) ?_
          refine j_iadd C dX9_pieces_66 ?_
          refine j_istore_n C dX9_pieces_67 rfl (by decide) (L' := [(2, .int (v2 + r15)), (0, .ref v0), (1, .int v1), (3, .int v3)]) rfl ?_
          refine j_iinc C dX9_pieces_68 3 rfl (v := (v3 + (1 : Int32))) (by first | rfl | decide) (by decide) (L' := [(3, .int (v3 + (1 : Int32))), (2, .int (v2 + r15)), (0, .ref v0), (1, .int v1)]) rfl ?_
          refine j_goto C dX9_pieces_71 (tgt := 13) (by decide) ?_
          refine j_sub (L' := [(0, .ref v0), (1, .int v1), (2, .int (v2 + r15)), (3, .int (v3 + (1 : Int32)))]) [2, 3, 1, 0] rfl ?_
          exact ih v0 v1 (v2 + r15) (v3 + (1 : Int32)) M15 r M' h
        · rw [if_pos hc11] at h
          refine j_aload_n C dX9_pieces_44 rfl 0 rfl ?_
          refine j_iload_n C dX9_pieces_45 rfl 3 rfl ?_
          obtain ⟨r12, M12, hq12, h⟩ := bnd2_spec h
          refine j_run1 (c_V C (As := [.int v3]) (rest := [.int v2]) (ctX9_decks C.2.2.2.2.2.2.2.2.1 N Z hq12) kcRX9_191 oyX9_decks (ci := 9) (T := TX9) (N := 23) rfl (by decide) ho4 ⟨by decide, by decide⟩ ⟨by decide, by decide⟩ (Nat.le_of_ble_eq_true rfl) rfl dX9_pieces_46) ?_
          refine j_goto C dX9_pieces_49 (tgt := 66) (by decide) ?_
          refine j_iadd C dX9_pieces_66 ?_
          refine j_istore_n C dX9_pieces_67 rfl (by decide) (L' := [(2, .int (v2 + r12)), (0, .ref v0), (1, .int v1), (3, .int v3)]) rfl ?_
          refine j_iinc C dX9_pieces_68 3 rfl (v := (v3 + (1 : Int32))) (by first | rfl | decide) (by decide) (L' := [(3, .int (v3 + (1 : Int32))), (2, .int (v2 + r12)), (0, .ref v0), (1, .int v1)]) rfl ?_
          refine j_goto C dX9_pieces_71 (tgt := 13) (by decide) ?_
          refine j_sub (L' := [(0, .ref v0), (1, .int v1), (2, .int (v2 + r12)), (3, .int (v3 + (1 : Int32)))]) [2, 3, 1, 0] rfl ?_
          exact ih v0 v1 (v2 + r12) (v3 + (1 : Int32)) M12 r M' h
      · rw [if_pos hc9] at h
        refine j_iconst C dX9_pieces_29 (v := (2 : Int32)) (by decide) ?_
        refine j_aload_n C dX9_pieces_30 rfl 0 rfl ?_
        refine j_iload_n C dX9_pieces_31 rfl 3 rfl ?_
        obtain ⟨r10, M10, hq10, h⟩ := bnd2_spec h
        refine j_run1 (c_V C (As := [.int v3]) (rest := [.int (2 : Int32), .int v2]) (ctX9_high C.2.2.2.2.2.2.2.2.1 N Z hq10) kcRX9_69 oyX9_high (ci := 9) (T := TX9) (N := 23) rfl (by decide) ho4 ⟨by decide, by decide⟩ ⟨by decide, by decide⟩ (Nat.le_of_ble_eq_true rfl) rfl dX9_pieces_32) ?_
        refine j_imul C dX9_pieces_35 ?_
        refine j_goto C dX9_pieces_36 (tgt := 66) (by decide) ?_
        refine j_iadd C dX9_pieces_66 ?_
        refine j_istore_n C dX9_pieces_67 rfl (by decide) (L' := [(2, .int (v2 + ((2 : Int32) * r10))), (0, .ref v0), (1, .int v1), (3, .int v3)]) rfl ?_
        refine j_iinc C dX9_pieces_68 3 rfl (v := (v3 + (1 : Int32))) (by first | rfl | decide) (by decide) (L' := [(3, .int (v3 + (1 : Int32))), (2, .int (v2 + ((2 : Int32) * r10))), (0, .ref v0), (1, .int v1)]) rfl ?_
        refine j_goto C dX9_pieces_71 (tgt := 13) (by decide) ?_
        refine j_sub (L' := [(0, .ref v0), (1, .int v1), (2, .int (v2 + ((2 : Int32) * r10))), (3, .int (v3 + (1 : Int32)))]) [2, 3, 1, 0] rfl ?_
        exact ih v0 v1 (v2 + ((2 : Int32) * r10)) (v3 + (1 : Int32)) M10 r M' h
def fX9_pieces (N : Nat) (Z : mZ) (a0 : Nat) (a1 : Int32) (M : mM) : Option (Int32 × mM) := if a1 = 0 then ck (okO Z a0 9) (bnd2 (fX9_posts N Z a0 M) (fun r3 M3 => some (r3, M3))) else fX9_pieces_13 N Z N a0 a1 (0 : Int32) (0 : Int32) M
set_option maxHeartbeats 4000000 in
set_option maxRecDepth 100000 in
theorem ctX9_pieces {G : mG} {l : Launch} (hl : l.stackTraces = false) (N : Nat) (Z : mZ) {a0 : Nat} {a1 : Int32} {M : mM} {r : Int32} {M' : mM} (h : fX9_pieces N Z a0 a1 M = some (r, M')) : CT G l yX9_pieces (.code yX9_pieces cX9_pieces 4 (some .int)) rmX9_pieces [.ref a0, .int a1] Z M (.inl (some (.int r))) Z M' := by
  unfold fX9_pieces at h
  refine CT.of hl (by decide) (Nat.le_of_ble_eq_true rfl) ?_
  intro p e s m args below meth c C hnm
  refine j_sub (L' := [(0, .ref a0), (1, .int a1)]) [0, 1] rfl ?_
  refine j_iload_n C dX9_pieces_0 rfl 1 rfl ?_
  refine j_if_ne C dX9_pieces_1 (tgt := 9) (by decide) (fun hc1 => ?_) (fun hc1 => ?_)
  · rw [if_neg hc1] at h
    refine j_iconst C dX9_pieces_9 (v := (0 : Int32)) (by decide) ?_
    refine j_istore_n C dX9_pieces_10 rfl (by decide) (L' := [(2, .int (0 : Int32)), (0, .ref a0), (1, .int a1)]) rfl ?_
    refine j_iconst C dX9_pieces_11 (v := (0 : Int32)) (by decide) ?_
    refine j_istore_n C dX9_pieces_12 rfl (by decide) (L' := [(3, .int (0 : Int32)), (2, .int (0 : Int32)), (0, .ref a0), (1, .int a1)]) rfl ?_
    refine j_sub (L' := [(0, .ref a0), (1, .int a1), (2, .int (0 : Int32)), (3, .int (0 : Int32))]) [2, 3, 1, 0] rfl ?_
    exact tX9_pieces_13 C hnm N Z N a0 a1 (0 : Int32) (0 : Int32) M _ _ h
  · rw [if_pos hc1] at h
    refine j_aload_n C dX9_pieces_4 rfl 0 rfl ?_
    obtain ⟨ho2, h⟩ := ck_spec h
    obtain ⟨r3, M3, hq3, h⟩ := bnd2_spec h
    refine j_run1 (c_V C (As := []) (rest := []) (ctX9_posts C.2.2.2.2.2.2.2.2.1 N Z hq3) kcRX9_120 oyX9_posts (ci := 9) (T := TX9) (N := 23) rfl (by decide) ho2 ⟨by decide, by decide⟩ ⟨by decide, by decide⟩ (Nat.le_of_ble_eq_true rfl) rfl dX9_pieces_5) ?_
    cases h
    exact j_iret C rfl (by decide) (by decide) dX9_pieces_8
-- ScaffoldPlannerModel deck
abbrev rmX9_deck : Room := { frames := 7, cells := 0, slots := 0, locals := 168 }
theorem dX9_deck_0 : decode cX9_deck 0 = .ok (.aload_n 0, 1) := by decide +kernel
theorem dX9_deck_1 : decode cX9_deck 1 = .ok (.aload_n 0, 1) := by decide +kernel
theorem dX9_deck_2 : decode cX9_deck 2 = .ok (.iload_n 1, 1) := by decide +kernel
theorem dX9_deck_3 : decode cX9_deck 3 = .ok (.invokevirtual 184, 3) := by decide +kernel
theorem dX9_deck_6 : decode cX9_deck 6 = .ok (.ifCond .eq 20, 3) := by decide +kernel
theorem dX9_deck_9 : decode cX9_deck 9 = .ok (.iload_n 3, 1) := by decide +kernel
theorem dX9_deck_10 : decode cX9_deck 10 = .ok (.iconst 1, 1) := by decide +kernel
theorem dX9_deck_11 : decode cX9_deck 11 = .ok (.iconst 4, 1) := by decide +kernel
theorem dX9_deck_12 : decode cX9_deck 12 = .ok (.invokestatic 54, 3) := by decide +kernel
theorem dX9_deck_15 : decode cX9_deck 15 = .ok (.ifCond .eq 7, 3) := by decide +kernel
theorem dX9_deck_18 : decode cX9_deck 18 = .ok (.iconst 0, 1) := by decide +kernel
theorem dX9_deck_19 : decode cX9_deck 19 = .ok (.goto 8, 3) := by decide +kernel
theorem dX9_deck_22 : decode cX9_deck 22 = .ok (.iconst 2, 1) := by decide +kernel
theorem dX9_deck_23 : decode cX9_deck 23 = .ok (.goto 4, 3) := by decide +kernel
theorem dX9_deck_26 : decode cX9_deck 26 = .ok (.iconst 1, 1) := by decide +kernel
theorem dX9_deck_27 : decode cX9_deck 27 = .ok (.putfield 50, 3) := by decide +kernel
theorem dX9_deck_30 : decode cX9_deck 30 = .ok (.aload_n 0, 1) := by decide +kernel
theorem dX9_deck_31 : decode cX9_deck 31 = .ok (.getfield 50, 3) := by decide +kernel
theorem dX9_deck_34 : decode cX9_deck 34 = .ok (.ifCond .le 5, 3) := by decide +kernel
theorem dX9_deck_37 : decode cX9_deck 37 = .ok (.iconst 0, 1) := by decide +kernel
theorem dX9_deck_38 : decode cX9_deck 38 = .ok (.ireturn, 1) := by decide +kernel
theorem dX9_deck_39 : decode cX9_deck 39 = .ok (.aload_n 0, 1) := by decide +kernel
theorem dX9_deck_40 : decode cX9_deck 40 = .ok (.iconst 2, 1) := by decide +kernel
theorem dX9_deck_41 : decode cX9_deck 41 = .ok (.iload_n 1, 1) := by decide +kernel
theorem dX9_deck_42 : decode cX9_deck 42 = .ok (.iload_n 2, 1) := by decide +kernel
theorem dX9_deck_43 : decode cX9_deck 43 = .ok (.iconst 0, 1) := by decide +kernel
theorem dX9_deck_44 : decode cX9_deck 44 = .ok (.iload_n 3, 1) := by decide +kernel
theorem dX9_deck_45 : decode cX9_deck 45 = .ok (.invokevirtual 187, 3) := by decide +kernel
theorem dX9_deck_48 : decode cX9_deck 48 = .ok (.ifCond .eq 11, 3) := by decide +kernel
theorem dX9_deck_51 : decode cX9_deck 51 = .ok (.aload_n 0, 1) := by decide +kernel
theorem dX9_deck_52 : decode cX9_deck 52 = .ok (.iload_n 1, 1) := by decide +kernel
theorem dX9_deck_53 : decode cX9_deck 53 = .ok (.invokevirtual 191, 3) := by decide +kernel
theorem dX9_deck_56 : decode cX9_deck 56 = .ok (.goto 8, 3) := by decide +kernel
theorem dX9_deck_59 : decode cX9_deck 59 = .ok (.aload_n 0, 1) := by decide +kernel
theorem dX9_deck_60 : decode cX9_deck 60 = .ok (.iconst 3, 1) := by decide +kernel
theorem dX9_deck_61 : decode cX9_deck 61 = .ok (.invokevirtual 181, 3) := by decide +kernel
theorem dX9_deck_64 : decode cX9_deck 64 = .ok (.ireturn, 1) := by decide +kernel
def fX9_deck_27 (N : Nat) (Z : mZ) (v0 : Nat) (v1 : Int32) (v2 : Int32) (v3 : Int32) (x0 : Int32) (x1 : Nat) (M : mM) : Option (Int32 × mM) := ck (okO Z x1 9) (ck (okO Z v0 9) (if ((sI M x1 9 x0).1 v0 9) ≤ 0 then bnd2 (fX9_works N Z v0 (2 : Int32) v1 v2 (0 : Int32) v3 (sI M x1 9 x0)) (fun r7 M7 => if r7 = 0 then bnd2 (fX9_fails N Z v0 (3 : Int32) M7) (fun r9 M9 => some (r9, M9)) else bnd2 (fX9_decks N Z v0 v1 M7) (fun r10 M10 => some (r10, M10))) else some ((0 : Int32), (sI M x1 9 x0))))
set_option maxHeartbeats 4000000 in
set_option maxRecDepth 100000 in
theorem tX9_deck_27 {G : mG} {p : Program} {l : Launch} {e : Env} {s : State} {m : MethodId} {args : Array Value} {below : List Frame} {meth : Method} {c : Code} (C : Cx G p l s m args meth c RX9 cX9_deck 4 (some .int) []) (hnm : meth.name = yX9_deck.name) (N : Nat) (Z : mZ) : ∀ (v0 : Nat) (v1 : Int32) (v2 : Int32) (v3 : Int32) (x0 : Int32) (x1 : Nat) (M : mM) (r : Int32) (M' : mM), fX9_deck_27 N Z v0 v1 v2 v3 x0 x1 M = some (r, M') → JJ G p l e rmX9_deck s m args below meth c 4 (mEnd G below args s rmX9_deck (.inl (some (.int r))) Z M') 0 0 27 [(0, .ref v0), (1, .int v1), (2, .int v2), (3, .int v3)] [.int x0, .ref x1] Z M := by
  intro v0 v1 v2 v3 x0 x1 M r M' h
  unfold fX9_deck_27 at h
  obtain ⟨ho4, h⟩ := ck_spec h
  refine j_putI C tyX9 tyX9_ok nmX9 (cn := RX9) (T := TX9) (N := 23) (ci := 9) rfl iX9 ho4 9 (by decide) rfl fwRX9_50 ⟨rfl, rfl⟩ dX9_deck_27 ?_
  refine j_aload_n C dX9_deck_30 rfl 0 rfl ?_
  obtain ⟨ho5, h⟩ := ck_spec h
  refine j_getI C (cn := RX9) (T := TX9) (N := 23) (ci := 9) rfl iX9 ho5 9 (by decide) rfl fwRX9_50 dX9_deck_31 ?_
  refine j_if_le C dX9_deck_34 (tgt := 39) (by decide) (fun hc6 => ?_) (fun hc6 => ?_)
  · rw [if_pos hc6] at h
    refine j_aload_n C dX9_deck_39 rfl 0 rfl ?_
    refine j_iconst C dX9_deck_40 (v := (2 : Int32)) (by decide) ?_
    refine j_iload_n C dX9_deck_41 rfl 1 rfl ?_
    refine j_iload_n C dX9_deck_42 rfl 2 rfl ?_
    refine j_iconst C dX9_deck_43 (v := (0 : Int32)) (by decide) ?_
    refine j_iload_n C dX9_deck_44 rfl 3 rfl ?_
    obtain ⟨r7, M7, hq7, h⟩ := bnd2_spec h
    refine j_run1 (c_V C (As := [.int (2 : Int32), .int v1, .int v2, .int (0 : Int32), .int v3]) (rest := []) (ctX9_works C.2.2.2.2.2.2.2.2.1 N Z hq7) kcRX9_187 oyX9_works (ci := 9) (T := TX9) (N := 23) rfl (by decide) ho5 ⟨by decide, by decide⟩ ⟨by decide, by decide⟩ (Nat.le_of_ble_eq_true rfl) rfl dX9_deck_45) ?_
    refine j_if_eq C dX9_deck_48 (tgt := 59) (by decide) (fun hc8 => ?_) (fun hc8 => ?_)
    · rw [if_pos hc8] at h
      refine j_aload_n C dX9_deck_59 rfl 0 rfl ?_
      refine j_iconst C dX9_deck_60 (v := (3 : Int32)) (by decide) ?_
      obtain ⟨r9, M9, hq9, h⟩ := bnd2_spec h
      refine j_run1 (c_V C (As := [.int (3 : Int32)]) (rest := []) (ctX9_fails C.2.2.2.2.2.2.2.2.1 N Z hq9) kcRX9_181 oyX9_fails (ci := 9) (T := TX9) (N := 23) rfl (by decide) ho5 ⟨by decide, by decide⟩ ⟨by decide, by decide⟩ (Nat.le_of_ble_eq_true rfl) rfl dX9_deck_61) ?_
      cases h
      exact j_iret C rfl (by decide) (by decide) dX9_deck_64
    · rw [if_neg hc8] at h
      refine j_aload_n C dX9_deck_51 rfl 0 rfl ?_
      refine j_iload_n C dX9_deck_52 rfl 1 rfl ?_
      obtain ⟨r10, M10, hq10, h⟩ := bnd2_spec h
      refine j_run1 (c_V C (As := [.int v1]) (rest := []) (ctX9_decks C.2.2.2.2.2.2.2.2.1 N Z hq10) kcRX9_191 oyX9_decks (ci := 9) (T := TX9) (N := 23) rfl (by decide) ho5 ⟨by decide, by decide⟩ ⟨by decide, by decide⟩ (Nat.le_of_ble_eq_true rfl) rfl dX9_deck_53) ?_
      refine j_goto C dX9_deck_56 (tgt := 64) (by decide) ?_
      cases h
      exact j_iret C rfl (by decide) (by decide) dX9_deck_64
  · rw [if_neg hc6] at h
    refine j_iconst C dX9_deck_37 (v := (0 : Int32)) (by decide) ?_
    cases h
    exact j_iret C rfl (by decide) (by decide) dX9_deck_38
def fX9_deck (N : Nat) (Z : mZ) (a0 : Nat) (a1 : Int32) (a2 : Int32) (a3 : Int32) (M : mM) : Option (Int32 × mM) := ck (okO Z a0 9) (bnd2 (fX9_isPlace N Z a0 a1 M) (fun r2 M2 => if r2 = 0 then fX9_deck_27 N Z a0 a1 a2 a3 (1 : Int32) a0 M2 else bnd2 (fX9_in N Z a3 (1 : Int32) (4 : Int32) M2) (fun r11 M11 => if r11 = 0 then fX9_deck_27 N Z a0 a1 a2 a3 (2 : Int32) a0 M11 else fX9_deck_27 N Z a0 a1 a2 a3 (0 : Int32) a0 M11)))
set_option maxHeartbeats 4000000 in
set_option maxRecDepth 100000 in
theorem ctX9_deck {G : mG} {l : Launch} (hl : l.stackTraces = false) (N : Nat) (Z : mZ) {a0 : Nat} {a1 : Int32} {a2 : Int32} {a3 : Int32} {M : mM} {r : Int32} {M' : mM} (h : fX9_deck N Z a0 a1 a2 a3 M = some (r, M')) : CT G l yX9_deck (.code yX9_deck cX9_deck 4 (some .int)) rmX9_deck [.ref a0, .int a1, .int a2, .int a3] Z M (.inl (some (.int r))) Z M' := by
  unfold fX9_deck at h
  refine CT.of hl (by decide) (Nat.le_of_ble_eq_true rfl) ?_
  intro p e s m args below meth c C hnm
  refine j_sub (L' := [(0, .ref a0), (1, .int a1), (2, .int a2), (3, .int a3)]) [0, 1, 2, 3] rfl ?_
  refine j_aload_n C dX9_deck_0 rfl 0 rfl ?_
  refine j_aload_n C dX9_deck_1 rfl 0 rfl ?_
  refine j_iload_n C dX9_deck_2 rfl 1 rfl ?_
  obtain ⟨ho1, h⟩ := ck_spec h
  obtain ⟨r2, M2, hq2, h⟩ := bnd2_spec h
  refine j_run1 (c_V C (As := [.int a1]) (rest := [.ref a0]) (ctX9_isPlace C.2.2.2.2.2.2.2.2.1 N Z hq2) kcRX9_184 oyX9_isPlace (ci := 9) (T := TX9) (N := 23) rfl (by decide) ho1 ⟨by decide, by decide⟩ ⟨by decide, by decide⟩ (Nat.le_of_ble_eq_true rfl) rfl dX9_deck_3) ?_
  refine j_if_eq C dX9_deck_6 (tgt := 26) (by decide) (fun hc3 => ?_) (fun hc3 => ?_)
  · rw [if_pos hc3] at h
    refine j_iconst C dX9_deck_26 (v := (1 : Int32)) (by decide) ?_
    refine j_sub (L' := [(0, .ref a0), (1, .int a1), (2, .int a2), (3, .int a3)]) [0, 1, 2, 3] rfl ?_
    exact tX9_deck_27 C hnm N Z a0 a1 a2 a3 (1 : Int32) a0 M2 _ _ h
  · rw [if_neg hc3] at h
    refine j_iload_n C dX9_deck_9 rfl 3 rfl ?_
    refine j_iconst C dX9_deck_10 (v := (1 : Int32)) (by decide) ?_
    refine j_iconst C dX9_deck_11 (v := (4 : Int32)) (by decide) ?_
    obtain ⟨r11, M11, hq11, h⟩ := bnd2_spec h
    refine j_run1 (c_S C (As := [.int a3, .int (1 : Int32), .int (4 : Int32)]) (rest := [.ref a0]) (ctX9_in C.2.2.2.2.2.2.2.2.1 N Z hq11) kcRX9_54 oyX9_in ⟨by decide, by decide⟩ ⟨by decide, by decide⟩ (Nat.le_of_ble_eq_true rfl) rfl dX9_deck_12) ?_
    refine j_if_eq C dX9_deck_15 (tgt := 22) (by decide) (fun hc12 => ?_) (fun hc12 => ?_)
    · rw [if_pos hc12] at h
      refine j_iconst C dX9_deck_22 (v := (2 : Int32)) (by decide) ?_
      refine j_goto C dX9_deck_23 (tgt := 27) (by decide) ?_
      refine j_sub (L' := [(0, .ref a0), (1, .int a1), (2, .int a2), (3, .int a3)]) [0, 1, 2, 3] rfl ?_
      exact tX9_deck_27 C hnm N Z a0 a1 a2 a3 (2 : Int32) a0 M11 _ _ h
    · rw [if_neg hc12] at h
      refine j_iconst C dX9_deck_18 (v := (0 : Int32)) (by decide) ?_
      refine j_goto C dX9_deck_19 (tgt := 27) (by decide) ?_
      refine j_sub (L' := [(0, .ref a0), (1, .int a1), (2, .int a2), (3, .int a3)]) [0, 1, 2, 3] rfl ?_
      exact tX9_deck_27 C hnm N Z a0 a1 a2 a3 (0 : Int32) a0 M11 _ _ h
-- ScaffoldPlannerModel put
theorem kcRX9_197 : okV RX9 197 yX9_pieces (.code yX9_pieces cX9_pieces 4 (some .int)) = true := by decide +kernel
theorem oyX9_pieces : okY yX9_pieces 1 := ⟨by decide +kernel, by decide +kernel, by decide +kernel⟩
abbrev rmX9_put : Room := { frames := 7, cells := 0, slots := 0, locals := 168 }
theorem dX9_put_0 : decode cX9_put 0 = .ok (.aload_n 0, 1) := by decide +kernel
theorem dX9_put_1 : decode cX9_put 1 = .ok (.iload_n 1, 1) := by decide +kernel
theorem dX9_put_2 : decode cX9_put 2 = .ok (.iconst 3, 1) := by decide +kernel
theorem dX9_put_3 : decode cX9_put 3 = .ok (.iconst 5, 1) := by decide +kernel
theorem dX9_put_4 : decode cX9_put 4 = .ok (.invokestatic 54, 3) := by decide +kernel
theorem dX9_put_7 : decode cX9_put 7 = .ok (.ifCond .eq 19, 3) := by decide +kernel
theorem dX9_put_10 : decode cX9_put 10 = .ok (.aload_n 0, 1) := by decide +kernel
theorem dX9_put_11 : decode cX9_put 11 = .ok (.iload_n 2, 1) := by decide +kernel
theorem dX9_put_12 : decode cX9_put 12 = .ok (.invokevirtual 184, 3) := by decide +kernel
theorem dX9_put_15 : decode cX9_put 15 = .ok (.ifCond .eq 7, 3) := by decide +kernel
theorem dX9_put_18 : decode cX9_put 18 = .ok (.iconst 0, 1) := by decide +kernel
theorem dX9_put_19 : decode cX9_put 19 = .ok (.goto 8, 3) := by decide +kernel
theorem dX9_put_22 : decode cX9_put 22 = .ok (.iconst 2, 1) := by decide +kernel
theorem dX9_put_23 : decode cX9_put 23 = .ok (.goto 4, 3) := by decide +kernel
theorem dX9_put_26 : decode cX9_put 26 = .ok (.iconst 1, 1) := by decide +kernel
theorem dX9_put_27 : decode cX9_put 27 = .ok (.putfield 50, 3) := by decide +kernel
theorem dX9_put_30 : decode cX9_put 30 = .ok (.aload_n 0, 1) := by decide +kernel
theorem dX9_put_31 : decode cX9_put 31 = .ok (.getfield 50, 3) := by decide +kernel
theorem dX9_put_34 : decode cX9_put 34 = .ok (.ifCond .le 5, 3) := by decide +kernel
theorem dX9_put_37 : decode cX9_put 37 = .ok (.iconst 0, 1) := by decide +kernel
theorem dX9_put_38 : decode cX9_put 38 = .ok (.ireturn, 1) := by decide +kernel
theorem dX9_put_39 : decode cX9_put 39 = .ok (.aload_n 0, 1) := by decide +kernel
theorem dX9_put_40 : decode cX9_put 40 = .ok (.iload_n 1, 1) := by decide +kernel
theorem dX9_put_41 : decode cX9_put 41 = .ok (.iload_n 2, 1) := by decide +kernel
theorem dX9_put_42 : decode cX9_put 42 = .ok (.iload_n 3, 1) := by decide +kernel
theorem dX9_put_43 : decode cX9_put 43 = .ok (.iconst 0, 1) := by decide +kernel
theorem dX9_put_44 : decode cX9_put 44 = .ok (.iconst 0, 1) := by decide +kernel
theorem dX9_put_45 : decode cX9_put 45 = .ok (.invokevirtual 187, 3) := by decide +kernel
theorem dX9_put_48 : decode cX9_put 48 = .ok (.ifCond .eq 11, 3) := by decide +kernel
theorem dX9_put_51 : decode cX9_put 51 = .ok (.aload_n 0, 1) := by decide +kernel
theorem dX9_put_52 : decode cX9_put 52 = .ok (.iload_n 1, 1) := by decide +kernel
theorem dX9_put_53 : decode cX9_put 53 = .ok (.invokevirtual 197, 3) := by decide +kernel
theorem dX9_put_56 : decode cX9_put 56 = .ok (.goto 8, 3) := by decide +kernel
theorem dX9_put_59 : decode cX9_put 59 = .ok (.aload_n 0, 1) := by decide +kernel
theorem dX9_put_60 : decode cX9_put 60 = .ok (.iconst 3, 1) := by decide +kernel
theorem dX9_put_61 : decode cX9_put 61 = .ok (.invokevirtual 181, 3) := by decide +kernel
theorem dX9_put_64 : decode cX9_put 64 = .ok (.ireturn, 1) := by decide +kernel
def fX9_put_27 (N : Nat) (Z : mZ) (v0 : Nat) (v1 : Int32) (v2 : Int32) (v3 : Int32) (x0 : Int32) (x1 : Nat) (M : mM) : Option (Int32 × mM) := ck (okO Z x1 9) (ck (okO Z v0 9) (if ((sI M x1 9 x0).1 v0 9) ≤ 0 then bnd2 (fX9_works N Z v0 v1 v2 v3 (0 : Int32) (0 : Int32) (sI M x1 9 x0)) (fun r6 M6 => if r6 = 0 then bnd2 (fX9_fails N Z v0 (3 : Int32) M6) (fun r8 M8 => some (r8, M8)) else bnd2 (fX9_pieces N Z v0 v1 M6) (fun r9 M9 => some (r9, M9))) else some ((0 : Int32), (sI M x1 9 x0))))
set_option maxHeartbeats 4000000 in
set_option maxRecDepth 100000 in
theorem tX9_put_27 {G : mG} {p : Program} {l : Launch} {e : Env} {s : State} {m : MethodId} {args : Array Value} {below : List Frame} {meth : Method} {c : Code} (C : Cx G p l s m args meth c RX9 cX9_put 4 (some .int) []) (hnm : meth.name = yX9_put.name) (N : Nat) (Z : mZ) : ∀ (v0 : Nat) (v1 : Int32) (v2 : Int32) (v3 : Int32) (x0 : Int32) (x1 : Nat) (M : mM) (r : Int32) (M' : mM), fX9_put_27 N Z v0 v1 v2 v3 x0 x1 M = some (r, M') → JJ G p l e rmX9_put s m args below meth c 4 (mEnd G below args s rmX9_put (.inl (some (.int r))) Z M') 0 0 27 [(0, .ref v0), (1, .int v1), (2, .int v2), (3, .int v3)] [.int x0, .ref x1] Z M := by
  intro v0 v1 v2 v3 x0 x1 M r M' h
  unfold fX9_put_27 at h
  obtain ⟨ho3, h⟩ := ck_spec h
  refine j_putI C tyX9 tyX9_ok nmX9 (cn := RX9) (T := TX9) (N := 23) (ci := 9) rfl iX9 ho3 9 (by decide) rfl fwRX9_50 ⟨rfl, rfl⟩ dX9_put_27 ?_
  refine j_aload_n C dX9_put_30 rfl 0 rfl ?_
  obtain ⟨ho4, h⟩ := ck_spec h
  refine j_getI C (cn := RX9) (T := TX9) (N := 23) (ci := 9) rfl iX9 ho4 9 (by decide) rfl fwRX9_50 dX9_put_31 ?_
  refine j_if_le C dX9_put_34 (tgt := 39) (by decide) (fun hc5 => ?_) (fun hc5 => ?_)
  · rw [if_pos hc5] at h
    refine j_aload_n C dX9_put_39 rfl 0 rfl ?_
    refine j_iload_n C dX9_put_40 rfl 1 rfl ?_
    refine j_iload_n C dX9_put_41 rfl 2 rfl ?_
    refine j_iload_n C dX9_put_42 rfl 3 rfl ?_
    refine j_iconst C dX9_put_43 (v := (0 : Int32)) (by decide) ?_
    refine j_iconst C dX9_put_44 (v := (0 : Int32)) (by decide) ?_
    obtain ⟨r6, M6, hq6, h⟩ := bnd2_spec h
    refine j_run1 (c_V C (As := [.int v1, .int v2, .int v3, .int (0 : Int32), .int (0 : Int32)]) (rest := []) (ctX9_works C.2.2.2.2.2.2.2.2.1 N Z hq6) kcRX9_187 oyX9_works (ci := 9) (T := TX9) (N := 23) rfl (by decide) ho4 ⟨by decide, by decide⟩ ⟨by decide, by decide⟩ (Nat.le_of_ble_eq_true rfl) rfl dX9_put_45) ?_
    refine j_if_eq C dX9_put_48 (tgt := 59) (by decide) (fun hc7 => ?_) (fun hc7 => ?_)
    · rw [if_pos hc7] at h
      refine j_aload_n C dX9_put_59 rfl 0 rfl ?_
      refine j_iconst C dX9_put_60 (v := (3 : Int32)) (by decide) ?_
      obtain ⟨r8, M8, hq8, h⟩ := bnd2_spec h
      refine j_run1 (c_V C (As := [.int (3 : Int32)]) (rest := []) (ctX9_fails C.2.2.2.2.2.2.2.2.1 N Z hq8) kcRX9_181 oyX9_fails (ci := 9) (T := TX9) (N := 23) rfl (by decide) ho4 ⟨by decide, by decide⟩ ⟨by decide, by decide⟩ (Nat.le_of_ble_eq_true rfl) rfl dX9_put_61) ?_
      cases h
      exact j_iret C rfl (by decide) (by decide) dX9_put_64
    · rw [if_neg hc7] at h
      refine j_aload_n C dX9_put_51 rfl 0 rfl ?_
      refine j_iload_n C dX9_put_52 rfl 1 rfl ?_
      obtain ⟨r9, M9, hq9, h⟩ := bnd2_spec h
      refine j_run1 (c_V C (As := [.int v1]) (rest := []) (ctX9_pieces C.2.2.2.2.2.2.2.2.1 N Z hq9) kcRX9_197 oyX9_pieces (ci := 9) (T := TX9) (N := 23) rfl (by decide) ho4 ⟨by decide, by decide⟩ ⟨by decide, by decide⟩ (Nat.le_of_ble_eq_true rfl) rfl dX9_put_53) ?_
      refine j_goto C dX9_put_56 (tgt := 64) (by decide) ?_
      cases h
      exact j_iret C rfl (by decide) (by decide) dX9_put_64
  · rw [if_neg hc5] at h
    refine j_iconst C dX9_put_37 (v := (0 : Int32)) (by decide) ?_
    cases h
    exact j_iret C rfl (by decide) (by decide) dX9_put_38
def fX9_put (N : Nat) (Z : mZ) (a0 : Nat) (a1 : Int32) (a2 : Int32) (a3 : Int32) (M : mM) : Option (Int32 × mM) := bnd2 (fX9_in N Z a1 (3 : Int32) (5 : Int32) M) (fun r1 M1 => if r1 = 0 then fX9_put_27 N Z a0 a1 a2 a3 (1 : Int32) a0 M1 else ck (okO Z a0 9) (bnd2 (fX9_isPlace N Z a0 a2 M1) (fun r11 M11 => if r11 = 0 then fX9_put_27 N Z a0 a1 a2 a3 (2 : Int32) a0 M11 else fX9_put_27 N Z a0 a1 a2 a3 (0 : Int32) a0 M11)))
set_option maxHeartbeats 4000000 in
set_option maxRecDepth 100000 in
theorem ctX9_put {G : mG} {l : Launch} (hl : l.stackTraces = false) (N : Nat) (Z : mZ) {a0 : Nat} {a1 : Int32} {a2 : Int32} {a3 : Int32} {M : mM} {r : Int32} {M' : mM} (h : fX9_put N Z a0 a1 a2 a3 M = some (r, M')) : CT G l yX9_put (.code yX9_put cX9_put 4 (some .int)) rmX9_put [.ref a0, .int a1, .int a2, .int a3] Z M (.inl (some (.int r))) Z M' := by
  unfold fX9_put at h
  refine CT.of hl (by decide) (Nat.le_of_ble_eq_true rfl) ?_
  intro p e s m args below meth c C hnm
  refine j_sub (L' := [(0, .ref a0), (1, .int a1), (2, .int a2), (3, .int a3)]) [0, 1, 2, 3] rfl ?_
  refine j_aload_n C dX9_put_0 rfl 0 rfl ?_
  refine j_iload_n C dX9_put_1 rfl 1 rfl ?_
  refine j_iconst C dX9_put_2 (v := (3 : Int32)) (by decide) ?_
  refine j_iconst C dX9_put_3 (v := (5 : Int32)) (by decide) ?_
  obtain ⟨r1, M1, hq1, h⟩ := bnd2_spec h
  refine j_run1 (c_S C (As := [.int a1, .int (3 : Int32), .int (5 : Int32)]) (rest := [.ref a0]) (ctX9_in C.2.2.2.2.2.2.2.2.1 N Z hq1) kcRX9_54 oyX9_in ⟨by decide, by decide⟩ ⟨by decide, by decide⟩ (Nat.le_of_ble_eq_true rfl) rfl dX9_put_4) ?_
  refine j_if_eq C dX9_put_7 (tgt := 26) (by decide) (fun hc2 => ?_) (fun hc2 => ?_)
  · rw [if_pos hc2] at h
    refine j_iconst C dX9_put_26 (v := (1 : Int32)) (by decide) ?_
    refine j_sub (L' := [(0, .ref a0), (1, .int a1), (2, .int a2), (3, .int a3)]) [0, 1, 2, 3] rfl ?_
    exact tX9_put_27 C hnm N Z a0 a1 a2 a3 (1 : Int32) a0 M1 _ _ h
  · rw [if_neg hc2] at h
    refine j_aload_n C dX9_put_10 rfl 0 rfl ?_
    refine j_iload_n C dX9_put_11 rfl 2 rfl ?_
    obtain ⟨ho10, h⟩ := ck_spec h
    obtain ⟨r11, M11, hq11, h⟩ := bnd2_spec h
    refine j_run1 (c_V C (As := [.int a2]) (rest := [.ref a0]) (ctX9_isPlace C.2.2.2.2.2.2.2.2.1 N Z hq11) kcRX9_184 oyX9_isPlace (ci := 9) (T := TX9) (N := 23) rfl (by decide) ho10 ⟨by decide, by decide⟩ ⟨by decide, by decide⟩ (Nat.le_of_ble_eq_true rfl) rfl dX9_put_12) ?_
    refine j_if_eq C dX9_put_15 (tgt := 22) (by decide) (fun hc12 => ?_) (fun hc12 => ?_)
    · rw [if_pos hc12] at h
      refine j_iconst C dX9_put_22 (v := (2 : Int32)) (by decide) ?_
      refine j_goto C dX9_put_23 (tgt := 27) (by decide) ?_
      refine j_sub (L' := [(0, .ref a0), (1, .int a1), (2, .int a2), (3, .int a3)]) [0, 1, 2, 3] rfl ?_
      exact tX9_put_27 C hnm N Z a0 a1 a2 a3 (2 : Int32) a0 M11 _ _ h
    · rw [if_neg hc12] at h
      refine j_iconst C dX9_put_18 (v := (0 : Int32)) (by decide) ?_
      refine j_goto C dX9_put_19 (tgt := 27) (by decide) ?_
      refine j_sub (L' := [(0, .ref a0), (1, .int a1), (2, .int a2), (3, .int a3)]) [0, 1, 2, 3] rfl ?_
      exact tX9_put_27 C hnm N Z a0 a1 a2 a3 (0 : Int32) a0 M11 _ _ h
-- ScaffoldPlannerModel take
abbrev rmX9_take : Room := { frames := 7, cells := 0, slots := 0, locals := 168 }
theorem dX9_take_0 : decode cX9_take 0 = .ok (.aload_n 0, 1) := by decide +kernel
theorem dX9_take_1 : decode cX9_take 1 = .ok (.iload_n 1, 1) := by decide +kernel
theorem dX9_take_2 : decode cX9_take 2 = .ok (.iconst 2, 1) := by decide +kernel
theorem dX9_take_3 : decode cX9_take 3 = .ok (.iconst 5, 1) := by decide +kernel
theorem dX9_take_4 : decode cX9_take 4 = .ok (.invokestatic 54, 3) := by decide +kernel
theorem dX9_take_7 : decode cX9_take 7 = .ok (.ifCond .eq 19, 3) := by decide +kernel
theorem dX9_take_10 : decode cX9_take 10 = .ok (.aload_n 0, 1) := by decide +kernel
theorem dX9_take_11 : decode cX9_take 11 = .ok (.iload_n 2, 1) := by decide +kernel
theorem dX9_take_12 : decode cX9_take 12 = .ok (.invokevirtual 184, 3) := by decide +kernel
theorem dX9_take_15 : decode cX9_take 15 = .ok (.ifCond .eq 7, 3) := by decide +kernel
theorem dX9_take_18 : decode cX9_take 18 = .ok (.iconst 0, 1) := by decide +kernel
theorem dX9_take_19 : decode cX9_take 19 = .ok (.goto 8, 3) := by decide +kernel
theorem dX9_take_22 : decode cX9_take 22 = .ok (.iconst 2, 1) := by decide +kernel
theorem dX9_take_23 : decode cX9_take 23 = .ok (.goto 4, 3) := by decide +kernel
theorem dX9_take_26 : decode cX9_take 26 = .ok (.iconst 1, 1) := by decide +kernel
theorem dX9_take_27 : decode cX9_take 27 = .ok (.putfield 50, 3) := by decide +kernel
theorem dX9_take_30 : decode cX9_take 30 = .ok (.aload_n 0, 1) := by decide +kernel
theorem dX9_take_31 : decode cX9_take 31 = .ok (.getfield 50, 3) := by decide +kernel
theorem dX9_take_34 : decode cX9_take 34 = .ok (.ifCond .le 5, 3) := by decide +kernel
theorem dX9_take_37 : decode cX9_take 37 = .ok (.iconst 0, 1) := by decide +kernel
theorem dX9_take_38 : decode cX9_take 38 = .ok (.ireturn, 1) := by decide +kernel
theorem dX9_take_39 : decode cX9_take 39 = .ok (.aload_n 0, 1) := by decide +kernel
theorem dX9_take_40 : decode cX9_take 40 = .ok (.iload_n 1, 1) := by decide +kernel
theorem dX9_take_41 : decode cX9_take 41 = .ok (.iload_n 2, 1) := by decide +kernel
theorem dX9_take_42 : decode cX9_take 42 = .ok (.iload_n 3, 1) := by decide +kernel
theorem dX9_take_43 : decode cX9_take 43 = .ok (.iconst 1, 1) := by decide +kernel
theorem dX9_take_44 : decode cX9_take 44 = .ok (.iconst 0, 1) := by decide +kernel
theorem dX9_take_45 : decode cX9_take 45 = .ok (.invokevirtual 187, 3) := by decide +kernel
theorem dX9_take_48 : decode cX9_take 48 = .ok (.ifCond .eq 11, 3) := by decide +kernel
theorem dX9_take_51 : decode cX9_take 51 = .ok (.aload_n 0, 1) := by decide +kernel
theorem dX9_take_52 : decode cX9_take 52 = .ok (.iload_n 1, 1) := by decide +kernel
theorem dX9_take_53 : decode cX9_take 53 = .ok (.invokevirtual 197, 3) := by decide +kernel
theorem dX9_take_56 : decode cX9_take 56 = .ok (.goto 8, 3) := by decide +kernel
theorem dX9_take_59 : decode cX9_take 59 = .ok (.aload_n 0, 1) := by decide +kernel
theorem dX9_take_60 : decode cX9_take 60 = .ok (.iconst 3, 1) := by decide +kernel
theorem dX9_take_61 : decode cX9_take 61 = .ok (.invokevirtual 181, 3) := by decide +kernel
theorem dX9_take_64 : decode cX9_take 64 = .ok (.ireturn, 1) := by decide +kernel
def fX9_take_27 (N : Nat) (Z : mZ) (v0 : Nat) (v1 : Int32) (v2 : Int32) (v3 : Int32) (x0 : Int32) (x1 : Nat) (M : mM) : Option (Int32 × mM) := ck (okO Z x1 9) (ck (okO Z v0 9) (if ((sI M x1 9 x0).1 v0 9) ≤ 0 then bnd2 (fX9_works N Z v0 v1 v2 v3 (1 : Int32) (0 : Int32) (sI M x1 9 x0)) (fun r6 M6 => if r6 = 0 then bnd2 (fX9_fails N Z v0 (3 : Int32) M6) (fun r8 M8 => some (r8, M8)) else bnd2 (fX9_pieces N Z v0 v1 M6) (fun r9 M9 => some (r9, M9))) else some ((0 : Int32), (sI M x1 9 x0))))
set_option maxHeartbeats 4000000 in
set_option maxRecDepth 100000 in
theorem tX9_take_27 {G : mG} {p : Program} {l : Launch} {e : Env} {s : State} {m : MethodId} {args : Array Value} {below : List Frame} {meth : Method} {c : Code} (C : Cx G p l s m args meth c RX9 cX9_take 4 (some .int) []) (hnm : meth.name = yX9_take.name) (N : Nat) (Z : mZ) : ∀ (v0 : Nat) (v1 : Int32) (v2 : Int32) (v3 : Int32) (x0 : Int32) (x1 : Nat) (M : mM) (r : Int32) (M' : mM), fX9_take_27 N Z v0 v1 v2 v3 x0 x1 M = some (r, M') → JJ G p l e rmX9_take s m args below meth c 4 (mEnd G below args s rmX9_take (.inl (some (.int r))) Z M') 0 0 27 [(0, .ref v0), (1, .int v1), (2, .int v2), (3, .int v3)] [.int x0, .ref x1] Z M := by
  intro v0 v1 v2 v3 x0 x1 M r M' h
  unfold fX9_take_27 at h
  obtain ⟨ho3, h⟩ := ck_spec h
  refine j_putI C tyX9 tyX9_ok nmX9 (cn := RX9) (T := TX9) (N := 23) (ci := 9) rfl iX9 ho3 9 (by decide) rfl fwRX9_50 ⟨rfl, rfl⟩ dX9_take_27 ?_
  refine j_aload_n C dX9_take_30 rfl 0 rfl ?_
  obtain ⟨ho4, h⟩ := ck_spec h
  refine j_getI C (cn := RX9) (T := TX9) (N := 23) (ci := 9) rfl iX9 ho4 9 (by decide) rfl fwRX9_50 dX9_take_31 ?_
  refine j_if_le C dX9_take_34 (tgt := 39) (by decide) (fun hc5 => ?_) (fun hc5 => ?_)
  · rw [if_pos hc5] at h
    refine j_aload_n C dX9_take_39 rfl 0 rfl ?_
    refine j_iload_n C dX9_take_40 rfl 1 rfl ?_
    refine j_iload_n C dX9_take_41 rfl 2 rfl ?_
    refine j_iload_n C dX9_take_42 rfl 3 rfl ?_
    refine j_iconst C dX9_take_43 (v := (1 : Int32)) (by decide) ?_
    refine j_iconst C dX9_take_44 (v := (0 : Int32)) (by decide) ?_
    obtain ⟨r6, M6, hq6, h⟩ := bnd2_spec h
    refine j_run1 (c_V C (As := [.int v1, .int v2, .int v3, .int (1 : Int32), .int (0 : Int32)]) (rest := []) (ctX9_works C.2.2.2.2.2.2.2.2.1 N Z hq6) kcRX9_187 oyX9_works (ci := 9) (T := TX9) (N := 23) rfl (by decide) ho4 ⟨by decide, by decide⟩ ⟨by decide, by decide⟩ (Nat.le_of_ble_eq_true rfl) rfl dX9_take_45) ?_
    refine j_if_eq C dX9_take_48 (tgt := 59) (by decide) (fun hc7 => ?_) (fun hc7 => ?_)
    · rw [if_pos hc7] at h
      refine j_aload_n C dX9_take_59 rfl 0 rfl ?_
      refine j_iconst C dX9_take_60 (v := (3 : Int32)) (by decide) ?_
      obtain ⟨r8, M8, hq8, h⟩ := bnd2_spec h
      refine j_run1 (c_V C (As := [.int (3 : Int32)]) (rest := []) (ctX9_fails C.2.2.2.2.2.2.2.2.1 N Z hq8) kcRX9_181 oyX9_fails (ci := 9) (T := TX9) (N := 23) rfl (by decide) ho4 ⟨by decide, by decide⟩ ⟨by decide, by decide⟩ (Nat.le_of_ble_eq_true rfl) rfl dX9_take_61) ?_
      cases h
      exact j_iret C rfl (by decide) (by decide) dX9_take_64
    · rw [if_neg hc7] at h
      refine j_aload_n C dX9_take_51 rfl 0 rfl ?_
      refine j_iload_n C dX9_take_52 rfl 1 rfl ?_
      obtain ⟨r9, M9, hq9, h⟩ := bnd2_spec h
      refine j_run1 (c_V C (As := [.int v1]) (rest := []) (ctX9_pieces C.2.2.2.2.2.2.2.2.1 N Z hq9) kcRX9_197 oyX9_pieces (ci := 9) (T := TX9) (N := 23) rfl (by decide) ho4 ⟨by decide, by decide⟩ ⟨by decide, by decide⟩ (Nat.le_of_ble_eq_true rfl) rfl dX9_take_53) ?_
      refine j_goto C dX9_take_56 (tgt := 64) (by decide) ?_
      cases h
      exact j_iret C rfl (by decide) (by decide) dX9_take_64
  · rw [if_neg hc5] at h
    refine j_iconst C dX9_take_37 (v := (0 : Int32)) (by decide) ?_
    cases h
    exact j_iret C rfl (by decide) (by decide) dX9_take_38
def fX9_take (N : Nat) (Z : mZ) (a0 : Nat) (a1 : Int32) (a2 : Int32) (a3 : Int32) (M : mM) : Option (Int32 × mM) := bnd2 (fX9_in N Z a1 (2 : Int32) (5 : Int32) M) (fun r1 M1 => if r1 = 0 then fX9_take_27 N Z a0 a1 a2 a3 (1 : Int32) a0 M1 else ck (okO Z a0 9) (bnd2 (fX9_isPlace N Z a0 a2 M1) (fun r11 M11 => if r11 = 0 then fX9_take_27 N Z a0 a1 a2 a3 (2 : Int32) a0 M11 else fX9_take_27 N Z a0 a1 a2 a3 (0 : Int32) a0 M11)))
set_option maxHeartbeats 4000000 in
set_option maxRecDepth 100000 in
theorem ctX9_take {G : mG} {l : Launch} (hl : l.stackTraces = false) (N : Nat) (Z : mZ) {a0 : Nat} {a1 : Int32} {a2 : Int32} {a3 : Int32} {M : mM} {r : Int32} {M' : mM} (h : fX9_take N Z a0 a1 a2 a3 M = some (r, M')) : CT G l yX9_take (.code yX9_take cX9_take 4 (some .int)) rmX9_take [.ref a0, .int a1, .int a2, .int a3] Z M (.inl (some (.int r))) Z M' := by
  unfold fX9_take at h
  refine CT.of hl (by decide) (Nat.le_of_ble_eq_true rfl) ?_
  intro p e s m args below meth c C hnm
  refine j_sub (L' := [(0, .ref a0), (1, .int a1), (2, .int a2), (3, .int a3)]) [0, 1, 2, 3] rfl ?_
  refine j_aload_n C dX9_take_0 rfl 0 rfl ?_
  refine j_iload_n C dX9_take_1 rfl 1 rfl ?_
  refine j_iconst C dX9_take_2 (v := (2 : Int32)) (by decide) ?_
  refine j_iconst C dX9_take_3 (v := (5 : Int32)) (by decide) ?_
  obtain ⟨r1, M1, hq1, h⟩ := bnd2_spec h
  refine j_run1 (c_S C (As := [.int a1, .int (2 : Int32), .int (5 : Int32)]) (rest := [.ref a0]) (ctX9_in C.2.2.2.2.2.2.2.2.1 N Z hq1) kcRX9_54 oyX9_in ⟨by decide, by decide⟩ ⟨by decide, by decide⟩ (Nat.le_of_ble_eq_true rfl) rfl dX9_take_4) ?_
  refine j_if_eq C dX9_take_7 (tgt := 26) (by decide) (fun hc2 => ?_) (fun hc2 => ?_)
  · rw [if_pos hc2] at h
    refine j_iconst C dX9_take_26 (v := (1 : Int32)) (by decide) ?_
    refine j_sub (L' := [(0, .ref a0), (1, .int a1), (2, .int a2), (3, .int a3)]) [0, 1, 2, 3] rfl ?_
    exact tX9_take_27 C hnm N Z a0 a1 a2 a3 (1 : Int32) a0 M1 _ _ h
  · rw [if_neg hc2] at h
    refine j_aload_n C dX9_take_10 rfl 0 rfl ?_
    refine j_iload_n C dX9_take_11 rfl 2 rfl ?_
    obtain ⟨ho10, h⟩ := ck_spec h
    obtain ⟨r11, M11, hq11, h⟩ := bnd2_spec h
    refine j_run1 (c_V C (As := [.int a2]) (rest := [.ref a0]) (ctX9_isPlace C.2.2.2.2.2.2.2.2.1 N Z hq11) kcRX9_184 oyX9_isPlace (ci := 9) (T := TX9) (N := 23) rfl (by decide) ho10 ⟨by decide, by decide⟩ ⟨by decide, by decide⟩ (Nat.le_of_ble_eq_true rfl) rfl dX9_take_12) ?_
    refine j_if_eq C dX9_take_15 (tgt := 22) (by decide) (fun hc12 => ?_) (fun hc12 => ?_)
    · rw [if_pos hc12] at h
      refine j_iconst C dX9_take_22 (v := (2 : Int32)) (by decide) ?_
      refine j_goto C dX9_take_23 (tgt := 27) (by decide) ?_
      refine j_sub (L' := [(0, .ref a0), (1, .int a1), (2, .int a2), (3, .int a3)]) [0, 1, 2, 3] rfl ?_
      exact tX9_take_27 C hnm N Z a0 a1 a2 a3 (2 : Int32) a0 M11 _ _ h
    · rw [if_neg hc12] at h
      refine j_iconst C dX9_take_18 (v := (0 : Int32)) (by decide) ?_
      refine j_goto C dX9_take_19 (tgt := 27) (by decide) ?_
      refine j_sub (L' := [(0, .ref a0), (1, .int a1), (2, .int a2), (3, .int a3)]) [0, 1, 2, 3] rfl ?_
      exact tX9_take_27 C hnm N Z a0 a1 a2 a3 (0 : Int32) a0 M11 _ _ h
-- ScaffoldPlannerModel isWhat
abbrev rmX9_isWhat : Room := { frames := 1, cells := 0, slots := 0, locals := 22 }
theorem dX9_isWhat_0 : decode cX9_isWhat 0 = .ok (.iload_n 0, 1) := by decide +kernel
theorem dX9_isWhat_1 : decode cX9_isWhat 1 = .ok (.ifCond .eq 12, 3) := by decide +kernel
theorem dX9_isWhat_4 : decode cX9_isWhat 4 = .ok (.iload_n 0, 1) := by decide +kernel
theorem dX9_isWhat_5 : decode cX9_isWhat 5 = .ok (.iconst 2, 1) := by decide +kernel
theorem dX9_isWhat_6 : decode cX9_isWhat 6 = .ok (.iconst 5, 1) := by decide +kernel
theorem dX9_isWhat_7 : decode cX9_isWhat 7 = .ok (.invokestatic 54, 3) := by decide +kernel
theorem dX9_isWhat_10 : decode cX9_isWhat 10 = .ok (.ifCond .eq 7, 3) := by decide +kernel
theorem dX9_isWhat_13 : decode cX9_isWhat 13 = .ok (.iconst 1, 1) := by decide +kernel
theorem dX9_isWhat_14 : decode cX9_isWhat 14 = .ok (.goto 4, 3) := by decide +kernel
theorem dX9_isWhat_17 : decode cX9_isWhat 17 = .ok (.iconst 0, 1) := by decide +kernel
theorem dX9_isWhat_18 : decode cX9_isWhat 18 = .ok (.ireturn, 1) := by decide +kernel
def fX9_isWhat (N : Nat) (Z : mZ) (a0 : Int32) (M : mM) : Option (Int32 × mM) := if a0 = 0 then some ((1 : Int32), M) else bnd2 (fX9_in N Z a0 (2 : Int32) (5 : Int32) M) (fun r2 M2 => if r2 = 0 then some ((0 : Int32), M2) else some ((1 : Int32), M2))
set_option maxHeartbeats 4000000 in
set_option maxRecDepth 100000 in
theorem ctX9_isWhat {G : mG} {l : Launch} (hl : l.stackTraces = false) (N : Nat) (Z : mZ) {a0 : Int32} {M : mM} {r : Int32} {M' : mM} (h : fX9_isWhat N Z a0 M = some (r, M')) : CT G l yX9_isWhat (.code yX9_isWhat cX9_isWhat 1 (some .boolean)) rmX9_isWhat [.int a0] Z M (.inl (some (.int r))) Z M' := by
  unfold fX9_isWhat at h
  refine CT.of hl (by decide) (Nat.le_of_ble_eq_true rfl) ?_
  intro p e s m args below meth c C hnm
  refine j_sub (L' := [(0, .int a0)]) [0] rfl ?_
  refine j_iload_n C dX9_isWhat_0 rfl 0 rfl ?_
  refine j_if_eq C dX9_isWhat_1 (tgt := 13) (by decide) (fun hc1 => ?_) (fun hc1 => ?_)
  · rw [if_pos hc1] at h
    refine j_iconst C dX9_isWhat_13 (v := (1 : Int32)) (by decide) ?_
    refine j_goto C dX9_isWhat_14 (tgt := 18) (by decide) ?_
    cases h
    exact j_zret C rfl (by decide) (by decide) (by decide) dX9_isWhat_18
  · rw [if_neg hc1] at h
    refine j_iload_n C dX9_isWhat_4 rfl 0 rfl ?_
    refine j_iconst C dX9_isWhat_5 (v := (2 : Int32)) (by decide) ?_
    refine j_iconst C dX9_isWhat_6 (v := (5 : Int32)) (by decide) ?_
    obtain ⟨r2, M2, hq2, h⟩ := bnd2_spec h
    refine j_run1 (c_S C (As := [.int a0, .int (2 : Int32), .int (5 : Int32)]) (rest := []) (ctX9_in C.2.2.2.2.2.2.2.2.1 N Z hq2) kcRX9_54 oyX9_in ⟨by decide, by decide⟩ ⟨by decide, by decide⟩ (Nat.le_of_ble_eq_true rfl) rfl dX9_isWhat_7) ?_
    refine j_if_eq C dX9_isWhat_10 (tgt := 17) (by decide) (fun hc3 => ?_) (fun hc3 => ?_)
    · rw [if_pos hc3] at h
      refine j_iconst C dX9_isWhat_17 (v := (0 : Int32)) (by decide) ?_
      cases h
      exact j_zret C rfl (by decide) (by decide) (by decide) dX9_isWhat_18
    · rw [if_neg hc3] at h
      refine j_iconst C dX9_isWhat_13 (v := (1 : Int32)) (by decide) ?_
      refine j_goto C dX9_isWhat_14 (tgt := 18) (by decide) ?_
      cases h
      exact j_zret C rfl (by decide) (by decide) (by decide) dX9_isWhat_18
-- ScaffoldPlannerModel refusal
theorem kcRX9_200 : okS RX9 200 yX9_isWhat (.code yX9_isWhat cX9_isWhat 1 (some .boolean)) = true := by decide +kernel
theorem oyX9_isWhat : okY yX9_isWhat 1 := ⟨by decide +kernel, by decide +kernel, by decide +kernel⟩
abbrev rmX9_refusal : Room := { frames := 6, cells := 0, slots := 0, locals := 142 }
theorem dX9_refusal_0 : decode cX9_refusal 0 = .ok (.aload_n 0, 1) := by decide +kernel
theorem dX9_refusal_1 : decode cX9_refusal 1 = .ok (.iload_n 1, 1) := by decide +kernel
theorem dX9_refusal_2 : decode cX9_refusal 2 = .ok (.invokestatic 200, 3) := by decide +kernel
theorem dX9_refusal_5 : decode cX9_refusal 5 = .ok (.ifCond .eq 19, 3) := by decide +kernel
theorem dX9_refusal_8 : decode cX9_refusal 8 = .ok (.aload_n 0, 1) := by decide +kernel
theorem dX9_refusal_9 : decode cX9_refusal 9 = .ok (.iload_n 2, 1) := by decide +kernel
theorem dX9_refusal_10 : decode cX9_refusal 10 = .ok (.invokevirtual 184, 3) := by decide +kernel
theorem dX9_refusal_13 : decode cX9_refusal 13 = .ok (.ifCond .eq 7, 3) := by decide +kernel
theorem dX9_refusal_16 : decode cX9_refusal 16 = .ok (.iconst 0, 1) := by decide +kernel
theorem dX9_refusal_17 : decode cX9_refusal 17 = .ok (.goto 8, 3) := by decide +kernel
theorem dX9_refusal_20 : decode cX9_refusal 20 = .ok (.iconst 2, 1) := by decide +kernel
theorem dX9_refusal_21 : decode cX9_refusal 21 = .ok (.goto 4, 3) := by decide +kernel
theorem dX9_refusal_24 : decode cX9_refusal 24 = .ok (.iconst 1, 1) := by decide +kernel
theorem dX9_refusal_25 : decode cX9_refusal 25 = .ok (.putfield 50, 3) := by decide +kernel
theorem dX9_refusal_28 : decode cX9_refusal 28 = .ok (.aload_n 0, 1) := by decide +kernel
theorem dX9_refusal_29 : decode cX9_refusal 29 = .ok (.getfield 50, 3) := by decide +kernel
theorem dX9_refusal_32 : decode cX9_refusal 32 = .ok (.ifCond .le 7, 3) := by decide +kernel
theorem dX9_refusal_35 : decode cX9_refusal 35 = .ok (.iconst 0, 1) := by decide +kernel
theorem dX9_refusal_36 : decode cX9_refusal 36 = .ok (.goto 13, 3) := by decide +kernel
theorem dX9_refusal_39 : decode cX9_refusal 39 = .ok (.aload_n 0, 1) := by decide +kernel
theorem dX9_refusal_40 : decode cX9_refusal 40 = .ok (.iload_n 1, 1) := by decide +kernel
theorem dX9_refusal_41 : decode cX9_refusal 41 = .ok (.iload_n 2, 1) := by decide +kernel
theorem dX9_refusal_42 : decode cX9_refusal 42 = .ok (.iload_n 3, 1) := by decide +kernel
theorem dX9_refusal_43 : decode cX9_refusal 43 = .ok (.iload 4, 2) := by decide +kernel
theorem dX9_refusal_45 : decode cX9_refusal 45 = .ok (.iconst 1, 1) := by decide +kernel
theorem dX9_refusal_46 : decode cX9_refusal 46 = .ok (.invokevirtual 168, 3) := by decide +kernel
theorem dX9_refusal_49 : decode cX9_refusal 49 = .ok (.ireturn, 1) := by decide +kernel
def fX9_refusal (N : Nat) (Z : mZ) (a0 : Nat) (a1 : Int32) (a2 : Int32) (a3 : Int32) (a4 : Int32) (M : mM) : Option (Int32 × mM) := bnd2 (fX9_isWhat N Z a1 M) (fun r1 M1 => if r1 = 0 then ck (okO Z a0 9) (if ((sI M1 a0 9 (1 : Int32)).1 a0 9) ≤ 0 then bnd2 (fX9_against N Z a0 a1 a2 a3 a4 (1 : Int32) (sI M1 a0 9 (1 : Int32))) (fun r5 M5 => some (r5, M5)) else some ((0 : Int32), (sI M1 a0 9 (1 : Int32)))) else ck (okO Z a0 9) (bnd2 (fX9_isPlace N Z a0 a2 M1) (fun r7 M7 => if r7 = 0 then if ((sI M7 a0 9 (2 : Int32)).1 a0 9) ≤ 0 then bnd2 (fX9_against N Z a0 a1 a2 a3 a4 (1 : Int32) (sI M7 a0 9 (2 : Int32))) (fun r10 M10 => some (r10, M10)) else some ((0 : Int32), (sI M7 a0 9 (2 : Int32))) else if ((sI M7 a0 9 (0 : Int32)).1 a0 9) ≤ 0 then bnd2 (fX9_against N Z a0 a1 a2 a3 a4 (1 : Int32) (sI M7 a0 9 (0 : Int32))) (fun r12 M12 => some (r12, M12)) else some ((0 : Int32), (sI M7 a0 9 (0 : Int32))))))
set_option maxHeartbeats 4000000 in
set_option maxRecDepth 100000 in
theorem ctX9_refusal {G : mG} {l : Launch} (hl : l.stackTraces = false) (N : Nat) (Z : mZ) {a0 : Nat} {a1 : Int32} {a2 : Int32} {a3 : Int32} {a4 : Int32} {M : mM} {r : Int32} {M' : mM} (h : fX9_refusal N Z a0 a1 a2 a3 a4 M = some (r, M')) : CT G l yX9_refusal (.code yX9_refusal cX9_refusal 5 (some .int)) rmX9_refusal [.ref a0, .int a1, .int a2, .int a3, .int a4] Z M (.inl (some (.int r))) Z M' := by
  unfold fX9_refusal at h
  refine CT.of hl (by decide) (Nat.le_of_ble_eq_true rfl) ?_
  intro p e s m args below meth c C hnm
  refine j_sub (L' := [(0, .ref a0), (1, .int a1), (2, .int a2), (3, .int a3), (4, .int a4)]) [0, 1, 2, 3, 4] rfl ?_
  refine j_aload_n C dX9_refusal_0 rfl 0 rfl ?_
  refine j_iload_n C dX9_refusal_1 rfl 1 rfl ?_
  obtain ⟨r1, M1, hq1, h⟩ := bnd2_spec h
  refine j_run1 (c_S C (As := [.int a1]) (rest := [.ref a0]) (ctX9_isWhat C.2.2.2.2.2.2.2.2.1 N Z hq1) kcRX9_200 oyX9_isWhat ⟨by decide, by decide⟩ ⟨by decide, by decide⟩ (Nat.le_of_ble_eq_true rfl) rfl dX9_refusal_2) ?_
  refine j_if_eq C dX9_refusal_5 (tgt := 24) (by decide) (fun hc2 => ?_) (fun hc2 => ?_)
  · rw [if_pos hc2] at h
    refine j_iconst C dX9_refusal_24 (v := (1 : Int32)) (by decide) ?_
    obtain ⟨ho3, h⟩ := ck_spec h
    refine j_putI C tyX9 tyX9_ok nmX9 (cn := RX9) (T := TX9) (N := 23) (ci := 9) rfl iX9 ho3 9 (by decide) rfl fwRX9_50 ⟨rfl, rfl⟩ dX9_refusal_25 ?_
    refine j_aload_n C dX9_refusal_28 rfl 0 rfl ?_
    refine j_getI C (cn := RX9) (T := TX9) (N := 23) (ci := 9) rfl iX9 ho3 9 (by decide) rfl fwRX9_50 dX9_refusal_29 ?_
    refine j_if_le C dX9_refusal_32 (tgt := 39) (by decide) (fun hc4 => ?_) (fun hc4 => ?_)
    · rw [if_pos hc4] at h
      refine j_aload_n C dX9_refusal_39 rfl 0 rfl ?_
      refine j_iload_n C dX9_refusal_40 rfl 1 rfl ?_
      refine j_iload_n C dX9_refusal_41 rfl 2 rfl ?_
      refine j_iload_n C dX9_refusal_42 rfl 3 rfl ?_
      refine j_iload C dX9_refusal_43 4 rfl ?_
      refine j_iconst C dX9_refusal_45 (v := (1 : Int32)) (by decide) ?_
      obtain ⟨r5, M5, hq5, h⟩ := bnd2_spec h
      refine j_run1 (c_V C (As := [.int a1, .int a2, .int a3, .int a4, .int (1 : Int32)]) (rest := []) (ctX9_against C.2.2.2.2.2.2.2.2.1 N Z hq5) kcRX9_168 oyX9_against (ci := 9) (T := TX9) (N := 23) rfl (by decide) ho3 ⟨by decide, by decide⟩ ⟨by decide, by decide⟩ (Nat.le_of_ble_eq_true rfl) rfl dX9_refusal_46) ?_
      cases h
      exact j_iret C rfl (by decide) (by decide) dX9_refusal_49
    · rw [if_neg hc4] at h
      refine j_iconst C dX9_refusal_35 (v := (0 : Int32)) (by decide) ?_
      refine j_goto C dX9_refusal_36 (tgt := 49) (by decide) ?_
      cases h
      exact j_iret C rfl (by decide) (by decide) dX9_refusal_49
  · rw [if_neg hc2] at h
    refine j_aload_n C dX9_refusal_8 rfl 0 rfl ?_
    refine j_iload_n C dX9_refusal_9 rfl 2 rfl ?_
    obtain ⟨ho6, h⟩ := ck_spec h
    obtain ⟨r7, M7, hq7, h⟩ := bnd2_spec h
    refine j_run1 (c_V C (As := [.int a2]) (rest := [.ref a0]) (ctX9_isPlace C.2.2.2.2.2.2.2.2.1 N Z hq7) kcRX9_184 oyX9_isPlace (ci := 9) (T := TX9) (N := 23) rfl (by decide) ho6 ⟨by decide, by decide⟩ ⟨by decide, by decide⟩ (Nat.le_of_ble_eq_true rfl) rfl dX9_refusal_10) ?_
    refine j_if_eq C dX9_refusal_13 (tgt := 20) (by decide) (fun hc8 => ?_) (fun hc8 => ?_)
    · rw [if_pos hc8] at h
      refine j_iconst C dX9_refusal_20 (v := (2 : Int32)) (by decide) ?_
      refine j_goto C dX9_refusal_21 (tgt := 25) (by decide) ?_
      refine j_putI C tyX9 tyX9_ok nmX9 (cn := RX9) (T := TX9) (N := 23) (ci := 9) rfl iX9 ho6 9 (by decide) rfl fwRX9_50 ⟨rfl, rfl⟩ dX9_refusal_25 ?_
      refine j_aload_n C dX9_refusal_28 rfl 0 rfl ?_
      refine j_getI C (cn := RX9) (T := TX9) (N := 23) (ci := 9) rfl iX9 ho6 9 (by decide) rfl fwRX9_50 dX9_refusal_29 ?_
      refine j_if_le C dX9_refusal_32 (tgt := 39) (by decide) (fun hc9 => ?_) (fun hc9 => ?_)
      · rw [if_pos hc9] at h
        refine j_aload_n C dX9_refusal_39 rfl 0 rfl ?_
        refine j_iload_n C dX9_refusal_40 rfl 1 rfl ?_
        refine j_iload_n C dX9_refusal_41 rfl 2 rfl ?_
        refine j_iload_n C dX9_refusal_42 rfl 3 rfl ?_
        refine j_iload C dX9_refusal_43 4 rfl ?_
        refine j_iconst C dX9_refusal_45 (v := (1 : Int32)) (by decide) ?_
        obtain ⟨r10, M10, hq10, h⟩ := bnd2_spec h
        refine j_run1 (c_V C (As := [.int a1, .int a2, .int a3, .int a4, .int (1 : Int32)]) (rest := []) (ctX9_against C.2.2.2.2.2.2.2.2.1 N Z hq10) kcRX9_168 oyX9_against (ci := 9) (T := TX9) (N := 23) rfl (by decide) ho6 ⟨by decide, by decide⟩ ⟨by decide, by decide⟩ (Nat.le_of_ble_eq_true rfl) rfl dX9_refusal_46) ?_
        cases h
        exact j_iret C rfl (by decide) (by decide) dX9_refusal_49
      · rw [if_neg hc9] at h
        refine j_iconst C dX9_refusal_35 (v := (0 : Int32)) (by decide) ?_
        refine j_goto C dX9_refusal_36 (tgt := 49) (by decide) ?_
        cases h
        exact j_iret C rfl (by decide) (by decide) dX9_refusal_49
    · rw [if_neg hc8] at h
      refine j_iconst C dX9_refusal_16 (v := (0 : Int32)) (by decide) ?_
      refine j_goto C dX9_refusal_17 (tgt := 25) (by decide) ?_
      refine j_putI C tyX9 tyX9_ok nmX9 (cn := RX9) (T := TX9) (N := 23) (ci := 9) rfl iX9 ho6 9 (by decide) rfl fwRX9_50 ⟨rfl, rfl⟩ dX9_refusal_25 ?_
      refine j_aload_n C dX9_refusal_28 rfl 0 rfl ?_
      refine j_getI C (cn := RX9) (T := TX9) (N := 23) (ci := 9) rfl iX9 ho6 9 (by decide) rfl fwRX9_50 dX9_refusal_29 ?_
      refine j_if_le C dX9_refusal_32 (tgt := 39) (by decide) (fun hc11 => ?_) (fun hc11 => ?_)
      · rw [if_pos hc11] at h
        refine j_aload_n C dX9_refusal_39 rfl 0 rfl ?_
        refine j_iload_n C dX9_refusal_40 rfl 1 rfl ?_
        refine j_iload_n C dX9_refusal_41 rfl 2 rfl ?_
        refine j_iload_n C dX9_refusal_42 rfl 3 rfl ?_
        refine j_iload C dX9_refusal_43 4 rfl ?_
        refine j_iconst C dX9_refusal_45 (v := (1 : Int32)) (by decide) ?_
        obtain ⟨r12, M12, hq12, h⟩ := bnd2_spec h
        refine j_run1 (c_V C (As := [.int a1, .int a2, .int a3, .int a4, .int (1 : Int32)]) (rest := []) (ctX9_against C.2.2.2.2.2.2.2.2.1 N Z hq12) kcRX9_168 oyX9_against (ci := 9) (T := TX9) (N := 23) rfl (by decide) ho6 ⟨by decide, by decide⟩ ⟨by decide, by decide⟩ (Nat.le_of_ble_eq_true rfl) rfl dX9_refusal_46) ?_
        cases h
        exact j_iret C rfl (by decide) (by decide) dX9_refusal_49
      · rw [if_neg hc11] at h
        refine j_iconst C dX9_refusal_35 (v := (0 : Int32)) (by decide) ?_
        refine j_goto C dX9_refusal_36 (tgt := 49) (by decide) ?_
        cases h
        exact j_iret C rfl (by decide) (by decide) dX9_refusal_49
-- ScaffoldPlannerModel report
abbrev rmX9_report : Room := { frames := 1, cells := 0, slots := 0, locals := 22 }
theorem dX9_report_0 : decode cX9_report 0 = .ok (.aload_n 0, 1) := by decide +kernel
theorem dX9_report_1 : decode cX9_report 1 = .ok (.iload_n 1, 1) := by decide +kernel
theorem dX9_report_2 : decode cX9_report 2 = .ok (.iconst 0, 1) := by decide +kernel
theorem dX9_report_3 : decode cX9_report 3 = .ok (.aload_n 0, 1) := by decide +kernel
theorem dX9_report_4 : decode cX9_report 4 = .ok (.getfield 165, 3) := by decide +kernel
theorem dX9_report_7 : decode cX9_report 7 = .ok (.iconst 1, 1) := by decide +kernel
theorem dX9_report_8 : decode cX9_report 8 = .ok (.isub, 1) := by decide +kernel
theorem dX9_report_9 : decode cX9_report 9 = .ok (.invokestatic 54, 3) := by decide +kernel
theorem dX9_report_12 : decode cX9_report 12 = .ok (.ifCond .eq 7, 3) := by decide +kernel
theorem dX9_report_15 : decode cX9_report 15 = .ok (.iconst 0, 1) := by decide +kernel
theorem dX9_report_16 : decode cX9_report 16 = .ok (.goto 4, 3) := by decide +kernel
theorem dX9_report_19 : decode cX9_report 19 = .ok (.iconst 1, 1) := by decide +kernel
theorem dX9_report_20 : decode cX9_report 20 = .ok (.putfield 50, 3) := by decide +kernel
theorem dX9_report_23 : decode cX9_report 23 = .ok (.aload_n 0, 1) := by decide +kernel
theorem dX9_report_24 : decode cX9_report 24 = .ok (.getfield 50, 3) := by decide +kernel
theorem dX9_report_27 : decode cX9_report 27 = .ok (.ifCond .le 7, 3) := by decide +kernel
theorem dX9_report_30 : decode cX9_report 30 = .ok (.iconst 0, 1) := by decide +kernel
theorem dX9_report_31 : decode cX9_report 31 = .ok (.goto 21, 3) := by decide +kernel
theorem dX9_report_34 : decode cX9_report 34 = .ok (.aload_n 0, 1) := by decide +kernel
theorem dX9_report_35 : decode cX9_report 35 = .ok (.getfield 25, 3) := by decide +kernel
theorem dX9_report_38 : decode cX9_report 38 = .ok (.iconst 2, 1) := by decide +kernel
theorem dX9_report_39 : decode cX9_report 39 = .ok (.iload_n 1, 1) := by decide +kernel
theorem dX9_report_40 : decode cX9_report 40 = .ok (.imul, 1) := by decide +kernel
theorem dX9_report_41 : decode cX9_report 41 = .ok (.iload_n 2, 1) := by decide +kernel
theorem dX9_report_42 : decode cX9_report 42 = .ok (.ifCond .eq 7, 3) := by decide +kernel
theorem dX9_report_45 : decode cX9_report 45 = .ok (.iconst 1, 1) := by decide +kernel
theorem dX9_report_46 : decode cX9_report 46 = .ok (.goto 4, 3) := by decide +kernel
theorem dX9_report_49 : decode cX9_report 49 = .ok (.iconst 0, 1) := by decide +kernel
theorem dX9_report_50 : decode cX9_report 50 = .ok (.iadd, 1) := by decide +kernel
theorem dX9_report_51 : decode cX9_report 51 = .ok (.iaload, 1) := by decide +kernel
theorem dX9_report_52 : decode cX9_report 52 = .ok (.ireturn, 1) := by decide +kernel
def fX9_report_20 (N : Nat) (Z : mZ) (v0 : Nat) (v1 : Int32) (v2 : Int32) (x0 : Int32) (x1 : Nat) (M : mM) : Option (Int32 × mM) := ck (okO Z x1 9) (ck (okO Z v0 9) (if ((sI M x1 9 x0).1 v0 9) ≤ 0 then bnd1 (Z.2.2.2 v0 7) (fun c7 => if v2 = 0 then ck (okI Z c7) (ck (inB (((2 : Int32) * v1) + (0 : Int32)) (Z.2.2.1 c7)) (some (((sI M x1 9 x0).1 c7 ((((2 : Int32) * v1) + (0 : Int32))).toNatClampNeg), (sI M x1 9 x0)))) else ck (okI Z c7) (ck (inB (((2 : Int32) * v1) + (1 : Int32)) (Z.2.2.1 c7)) (some (((sI M x1 9 x0).1 c7 ((((2 : Int32) * v1) + (1 : Int32))).toNatClampNeg), (sI M x1 9 x0))))) else some ((0 : Int32), (sI M x1 9 x0))))
set_option maxHeartbeats 4000000 in
set_option maxRecDepth 100000 in
theorem tX9_report_20 {G : mG} {p : Program} {l : Launch} {e : Env} {s : State} {m : MethodId} {args : Array Value} {below : List Frame} {meth : Method} {c : Code} (C : Cx G p l s m args meth c RX9 cX9_report 3 (some .int) []) (hnm : meth.name = yX9_report.name) (N : Nat) (Z : mZ) : ∀ (v0 : Nat) (v1 : Int32) (v2 : Int32) (x0 : Int32) (x1 : Nat) (M : mM) (r : Int32) (M' : mM), fX9_report_20 N Z v0 v1 v2 x0 x1 M = some (r, M') → JJ G p l e rmX9_report s m args below meth c 3 (mEnd G below args s rmX9_report (.inl (some (.int r))) Z M') 0 0 20 [(0, .ref v0), (1, .int v1), (2, .int v2)] [.int x0, .ref x1] Z M := by
  intro v0 v1 v2 x0 x1 M r M' h
  unfold fX9_report_20 at h
  obtain ⟨ho4, h⟩ := ck_spec h
  refine j_putI C tyX9 tyX9_ok nmX9 (cn := RX9) (T := TX9) (N := 23) (ci := 9) rfl iX9 ho4 9 (by decide) rfl fwRX9_50 ⟨rfl, rfl⟩ dX9_report_20 ?_
  refine j_aload_n C dX9_report_23 rfl 0 rfl ?_
  obtain ⟨ho5, h⟩ := ck_spec h
  refine j_getI C (cn := RX9) (T := TX9) (N := 23) (ci := 9) rfl iX9 ho5 9 (by decide) rfl fwRX9_50 dX9_report_24 ?_
  refine j_if_le C dX9_report_27 (tgt := 34) (by decide) (fun hc6 => ?_) (fun hc6 => ?_)
  · rw [if_pos hc6] at h
    refine j_aload_n C dX9_report_34 rfl 0 rfl ?_
    obtain ⟨c7, hr7, h⟩ := bnd1_spec h
    refine j_getR C (cn := RX9) (T := TX9) (N := 23) (ci := 9) rfl iX9 ho5 7 (by decide) rfl fwRX9_25 dX9_report_35 hr7 ?_
    refine j_iconst C dX9_report_38 (v := (2 : Int32)) (by decide) ?_
    refine j_iload_n C dX9_report_39 rfl 1 rfl ?_
    refine j_imul C dX9_report_40 ?_
    refine j_iload_n C dX9_report_41 rfl 2 rfl ?_
    refine j_if_eq C dX9_report_42 (tgt := 49) (by decide) (fun hc8 => ?_) (fun hc8 => ?_)
    · rw [if_pos hc8] at h
      refine j_iconst C dX9_report_49 (v := (0 : Int32)) (by decide) ?_
      refine j_iadd C dX9_report_50 ?_
      obtain ⟨ho9, h⟩ := ck_spec h
      obtain ⟨ho10, h⟩ := ck_spec h
      refine j_iald C ho9 ho10 dX9_report_51 ?_
      cases h
      exact j_iret C rfl (by decide) (by decide) dX9_report_52
    · rw [if_neg hc8] at h
      refine j_iconst C dX9_report_45 (v := (1 : Int32)) (by decide) ?_
      refine j_goto C dX9_report_46 (tgt := 50) (by decide) ?_
      refine j_iadd C dX9_report_50 ?_
      obtain ⟨ho11, h⟩ := ck_spec h
      obtain ⟨ho12, h⟩ := ck_spec h
      refine j_iald C ho11 ho12 dX9_report_51 ?_
      cases h
      exact j_iret C rfl (by decide) (by decide) dX9_report_52
  · rw [if_neg hc6] at h
    refine j_iconst C dX9_report_30 (v := (0 : Int32)) (by decide) ?_
    refine j_goto C dX9_report_31 (tgt := 52) (by decide) ?_
    cases h
    exact j_iret C rfl (by decide) (by decide) dX9_report_52
def fX9_report (N : Nat) (Z : mZ) (a0 : Nat) (a1 : Int32) (a2 : Int32) (M : mM) : Option (Int32 × mM) := ck (okO Z a0 9) (bnd2 (fX9_in N Z a1 (0 : Int32) ((M.1 a0 8) - (1 : Int32)) M) (fun r2 M2 => if r2 = 0 then fX9_report_20 N Z a0 a1 a2 (1 : Int32) a0 M2 else fX9_report_20 N Z a0 a1 a2 (0 : Int32) a0 M2))
set_option maxHeartbeats 4000000 in
set_option maxRecDepth 100000 in
theorem ctX9_report {G : mG} {l : Launch} (hl : l.stackTraces = false) (N : Nat) (Z : mZ) {a0 : Nat} {a1 : Int32} {a2 : Int32} {M : mM} {r : Int32} {M' : mM} (h : fX9_report N Z a0 a1 a2 M = some (r, M')) : CT G l yX9_report (.code yX9_report cX9_report 3 (some .int)) rmX9_report [.ref a0, .int a1, .int a2] Z M (.inl (some (.int r))) Z M' := by
  unfold fX9_report at h
  refine CT.of hl (by decide) (Nat.le_of_ble_eq_true rfl) ?_
  intro p e s m args below meth c C hnm
  refine j_sub (L' := [(0, .ref a0), (1, .int a1), (2, .int a2)]) [0, 1, 2] rfl ?_
  refine j_aload_n C dX9_report_0 rfl 0 rfl ?_
  refine j_iload_n C dX9_report_1 rfl 1 rfl ?_
  refine j_iconst C dX9_report_2 (v := (0 : Int32)) (by decide) ?_
  refine j_aload_n C dX9_report_3 rfl 0 rfl ?_
  obtain ⟨ho1, h⟩ := ck_spec h
  refine j_getI C (cn := RX9) (T := TX9) (N := 23) (ci := 9) rfl iX9 ho1 8 (by decide) rfl fwRX9_165 dX9_report_4 ?_
  refine j_iconst C dX9_report_7 (v := (1 : Int32)) (by decide) ?_
  refine j_isub C dX9_report_8 ?_
  obtain ⟨r2, M2, hq2, h⟩ := bnd2_spec h
  refine j_run1 (c_S C (As := [.int a1, .int (0 : Int32), .int ((M.1 a0 8) - (1 : Int32))]) (rest := [.ref a0]) (ctX9_in C.2.2.2.2.2.2.2.2.1 N Z hq2) kcRX9_54 oyX9_in ⟨by decide, by decide⟩ ⟨by decide, by decide⟩ (Nat.le_of_ble_eq_true rfl) rfl dX9_report_9) ?_
  refine j_if_eq C dX9_report_12 (tgt := 19) (by decide) (fun hc3 => ?_) (fun hc3 => ?_)
  · rw [if_pos hc3] at h
    refine j_iconst C dX9_report_19 (v := (1 : Int32)) (by decide) ?_
    refine j_sub (L' := [(0, .ref a0), (1, .int a1), (2, .int a2)]) [0, 1, 2] rfl ?_
    exact tX9_report_20 C hnm N Z a0 a1 a2 (1 : Int32) a0 M2 _ _ h
  · rw [if_neg hc3] at h
    refine j_iconst C dX9_report_15 (v := (0 : Int32)) (by decide) ?_
    refine j_goto C dX9_report_16 (tgt := 20) (by decide) ?_
    refine j_sub (L' := [(0, .ref a0), (1, .int a1), (2, .int a2)]) [0, 1, 2] rfl ?_
    exact tX9_report_20 C hnm N Z a0 a1 a2 (0 : Int32) a0 M2 _ _ h
-- ScaffoldPlannerModel deckSet
abbrev rmX9_deckSet : Room := { frames := 2, cells := 0, slots := 0, locals := 44 }
theorem dX9_deckSet_0 : decode cX9_deckSet 0 = .ok (.iconst 0, 1) := by decide +kernel
theorem dX9_deckSet_1 : decode cX9_deckSet 1 = .ok (.istore_n 3, 1) := by decide +kernel
theorem dX9_deckSet_2 : decode cX9_deckSet 2 = .ok (.iconst 1, 1) := by decide +kernel
theorem dX9_deckSet_3 : decode cX9_deckSet 3 = .ok (.istore 4, 2) := by decide +kernel
theorem dX9_deckSet_5 : decode cX9_deckSet 5 = .ok (.iload 4, 2) := by decide +kernel
theorem dX9_deckSet_7 : decode cX9_deckSet 7 = .ok (.bipush 6, 2) := by decide +kernel
theorem dX9_deckSet_9 : decode cX9_deckSet 9 = .ok (.if_icmp .gt 44, 3) := by decide +kernel
theorem dX9_deckSet_12 : decode cX9_deckSet 12 = .ok (.iload_n 3, 1) := by decide +kernel
theorem dX9_deckSet_13 : decode cX9_deckSet 13 = .ok (.aload_n 0, 1) := by decide +kernel
theorem dX9_deckSet_14 : decode cX9_deckSet 14 = .ok (.iload_n 1, 1) := by decide +kernel
theorem dX9_deckSet_15 : decode cX9_deckSet 15 = .ok (.iload 4, 2) := by decide +kernel
theorem dX9_deckSet_17 : decode cX9_deckSet 17 = .ok (.invokevirtual 93, 3) := by decide +kernel
theorem dX9_deckSet_20 : decode cX9_deckSet 20 = .ok (.ifCond .le 24, 3) := by decide +kernel
theorem dX9_deckSet_23 : decode cX9_deckSet 23 = .ok (.iload_n 2, 1) := by decide +kernel
theorem dX9_deckSet_24 : decode cX9_deckSet 24 = .ok (.ifCond .eq 13, 3) := by decide +kernel
theorem dX9_deckSet_27 : decode cX9_deckSet 27 = .ok (.aload_n 0, 1) := by decide +kernel
theorem dX9_deckSet_28 : decode cX9_deckSet 28 = .ok (.iload_n 1, 1) := by decide +kernel
theorem dX9_deckSet_29 : decode cX9_deckSet 29 = .ok (.iload 4, 2) := by decide +kernel
theorem dX9_deckSet_31 : decode cX9_deckSet 31 = .ok (.invokevirtual 142, 3) := by decide +kernel
theorem dX9_deckSet_34 : decode cX9_deckSet 34 = .ok (.ifCond .eq 10, 3) := by decide +kernel
theorem dX9_deckSet_37 : decode cX9_deckSet 37 = .ok (.iconst 1, 1) := by decide +kernel
theorem dX9_deckSet_38 : decode cX9_deckSet 38 = .ok (.iload 4, 2) := by decide +kernel
theorem dX9_deckSet_40 : decode cX9_deckSet 40 = .ok (.ishl, 1) := by decide +kernel
theorem dX9_deckSet_41 : decode cX9_deckSet 41 = .ok (.goto 4, 3) := by decide +kernel
theorem dX9_deckSet_44 : decode cX9_deckSet 44 = .ok (.iconst 0, 1) := by decide +kernel
theorem dX9_deckSet_45 : decode cX9_deckSet 45 = .ok (.ior, 1) := by decide +kernel
theorem dX9_deckSet_46 : decode cX9_deckSet 46 = .ok (.istore_n 3, 1) := by decide +kernel
theorem dX9_deckSet_47 : decode cX9_deckSet 47 = .ok (.iinc 4 1, 3) := by decide +kernel
theorem dX9_deckSet_50 : decode cX9_deckSet 50 = .ok (.goto (-45), 3) := by decide +kernel
theorem dX9_deckSet_53 : decode cX9_deckSet 53 = .ok (.iload_n 3, 1) := by decide +kernel
theorem dX9_deckSet_54 : decode cX9_deckSet 54 = .ok (.ireturn, 1) := by decide +kernel
def fX9_deckSet_5 (N : Nat) (Z : mZ) : Nat → Nat → Int32 → Int32 → Int32 → Int32 → mM → Option (Int32 × mM)
  | 0, _, _, _, _, _, _ => none
  | fu + 1, v0, v1, v2, v3, v4, M => if (6 : Int32) < v4 then some (v3, M) else ck (okO Z v0 9) (bnd2 (fX9_deckAt N Z v0 v1 v4 M) (fun r3 M3 => if r3 ≤ 0 then fX9_deckSet_5 N Z fu v0 v1 v2 (v3 ||| (0 : Int32)) (v4 + (1 : Int32)) M3 else if v2 = 0 then fX9_deckSet_5 N Z fu v0 v1 v2 (v3 ||| ((1 : Int32) <<< (v4 &&& 31))) (v4 + (1 : Int32)) M3 else bnd2 (fX9_isReached N Z v0 v1 v4 M3) (fun r6 M6 => if r6 = 0 then fX9_deckSet_5 N Z fu v0 v1 v2 (v3 ||| (0 : Int32)) (v4 + (1 : Int32)) M6 else fX9_deckSet_5 N Z fu v0 v1 v2 (v3 ||| ((1 : Int32) <<< (v4 &&& 31))) (v4 + (1 : Int32)) M6)))
set_option maxHeartbeats 4000000 in
set_option maxRecDepth 100000 in
theorem tX9_deckSet_5 {G : mG} {p : Program} {l : Launch} {e : Env} {s : State} {m : MethodId} {args : Array Value} {below : List Frame} {meth : Method} {c : Code} (C : Cx G p l s m args meth c RX9 cX9_deckSet 5 (some .int) []) (hnm : meth.name = yX9_deckSet.name) (N : Nat) (Z : mZ) : ∀ (fu : Nat) (v0 : Nat) (v1 : Int32) (v2 : Int32) (v3 : Int32) (v4 : Int32) (M : mM) (r : Int32) (M' : mM), fX9_deckSet_5 N Z fu v0 v1 v2 v3 v4 M = some (r, M') → JJ G p l e rmX9_deckSet s m args below meth c 5 (mEnd G below args s rmX9_deckSet (.inl (some (.int r))) Z M') 0 0 5 [(0, .ref v0), (1, .int v1), (2, .int v2), (3, .int v3), (4, .int v4)] [] Z M := by
  intro fu
  induction fu with
  | zero =>
    intro v0 v1 v2 v3 v4 M r M' h
    cases h
  | succ fu ih =>
    intro v0 v1 v2 v3 v4 M r M' h
    rw [fX9_deckSet_5] at h
    refine j_iload C dX9_deckSet_5 4 rfl ?_
    refine j_bipush C dX9_deckSet_7 (v := (6 : Int32)) (by decide) ?_
    refine j_icmp_gt C dX9_deckSet_9 (tgt := 53) (by decide) (fun hc1 => ?_) (fun hc1 => ?_)
    · rw [if_pos hc1] at h
      refine j_iload_n C dX9_deckSet_53 rfl 3 rfl ?_
      cases h
      exact j_iret C rfl (by decide) (by decide) dX9_deckSet_54
    · rw [if_neg hc1] at h
      refine j_iload_n C dX9_deckSet_12 rfl 3 rfl ?_
      refine j_aload_n C dX9_deckSet_13 rfl 0 rfl ?_
      refine j_iload_n C dX9_deckSet_14 rfl 1 rfl ?_
      refine j_iload C dX9_deckSet_15 4 rfl ?_
      obtain ⟨ho2, h⟩ := ck_spec h
      obtain ⟨r3, M3, hq3, h⟩ := bnd2_spec h
      refine j_run1 (c_V C (As := [.int v1, .int v4]) (rest := [.int v3]) (ctX9_deckAt C.2.2.2.2.2.2.2.2.1 N Z hq3) kcRX9_93 oyX9_deckAt (ci := 9) (T := TX9) (N := 23) rfl (by decide) ho2 ⟨by decide, by decide⟩ ⟨by decide, by decide⟩ (Nat.le_of_ble_eq_true rfl) rfl dX9_deckSet_17) ?_
      refine j_if_le C dX9_deckSet_20 (tgt := 44) (by decide) (fun hc4 => ?_) (fun hc4 => ?_)
      · rw [if_pos hc4] at h
        refine j_iconst C dX9_deckSet_44 (v := (0 : Int32)) (by decide) ?_
        refine j_ior C dX9_deckSet_45 ?_
        refine j_istore_n C dX9_deckSet_46 rfl (by decide) (L' := [(3, .int (v3 ||| (0 : Int32))), (0, .ref v0), (1, .int v1), (2, .int v2), (4, .int v4)]) rfl ?_
        refine j_iinc C dX9_deckSet_47 4 rfl (v := (v4 + (1 : Int32))) (by first | rfl | decide) (by decide) (L' := [(4, .int (v4 + (1 : Int32))), (3, .int (v3 ||| (0 : Int32))), (0, .ref v0), (1, .int v1), (2, .int v2)]) rfl ?_
        refine j_goto C dX9_deckSet_50 (tgt := 5) (by decide) ?_
        refine j_sub (L' := [(0, .ref v0), (1, .int v1), (2, .int v2), (3, .int (v3 ||| (0 : Int32))), (4, .int (v4 + (1 : Int32)))]) [2, 3, 4, 1, 0] rfl ?_
        exact ih v0 v1 v2 (v3 ||| (0 : Int32)) (v4 + (1 : Int32)) M3 r M' h
      · rw [if_neg hc4] at h
        refine j_iload_n C dX9_deckSet_23 rfl 2 rfl ?_
        refine j_if_eq C dX9_deckSet_24 (tgt := 37) (by decide) (fun hc5 => ?_) (fun hc5 => ?_)
        · rw [if_pos hc5] at h
          refine j_iconst C dX9_deckSet_37 (v := (1 : Int32)) (by decide) ?_
          refine j_iload C dX9_deckSet_38 4 rfl ?_
          refine j_ishl C dX9_deckSet_40 ?_
          refine j_goto C dX9_deckSet_41 (tgt := 45) (by decide) ?_
          refine j_ior C dX9_deckSet_45 ?_
          refine j_istore_n C dX9_deckSet_46 rfl (by decide) (L' := [(3, .int (v3 ||| ((1 : Int32) <<< (v4 &&& 31)))), (0, .ref v0), (1, .int v1), (2, .int v2), (4, .int v4)]) rfl ?_
          refine j_iinc C dX9_deckSet_47 4 rfl (v := (v4 + (1 : Int32))) (by first | rfl | decide) (by decide) (L' := [(4, .int (v4 + (1 : Int32))), (3, .int (v3 ||| ((1 : Int32) <<< (v4 &&& 31)))), (0, .ref v0), (1, .int v1), (2, .int v2)]) rfl ?_
          refine j_goto C dX9_deckSet_50 (tgt := 5) (by decide) ?_
          refine j_sub (L' := [(0, .ref v0), (1, .int v1), (2, .int v2), (3, .int (v3 ||| ((1 : Int32) <<< (v4 &&& 31)))), (4, .int (v4 + (1 : Int32)))]) [2, 3, 4, 1, 0] rfl ?_
          exact ih v0 v1 v2 (v3 ||| ((1 : Int32) <<< (v4 &&& 31))) (v4 + (1 : Int32)) M3 r M' h
        · rw [if_neg hc5] at h
          refine j_aload_n C dX9_deckSet_27 rfl 0 rfl ?_
          refine j_iload_n C dX9_deckSet_28 rfl 1 rfl ?_
          refine j_iload C dX9_deckSet_29 4 rfl ?_
          obtain ⟨r6, M6, hq6, h⟩ := bnd2_spec h
          refine j_run1 (c_V C (As := [.int v1, .int v4]) (rest := [.int v3]) (ctX9_isReached C.2.2.2.2.2.2.2.2.1 N Z hq6) kcRX9_142 oyX9_isReached (ci := 9) (T := TX9) (N := 23) rfl (by decide) ho2 ⟨by decide, by decide⟩ ⟨by decide, by decide⟩ (Nat.le_of_ble_eq_true rfl) rfl dX9_deckSet_31) ?_
          refine j_if_eq C dX9_deckSet_34 (tgt := 44) (by decide) (fun hc7 => ?_) (fun hc7 => ?_)
          · rw [if_pos hc7] at h
            refine j_iconst C dX9_deckSet_44 (v := (0 : Int32)) (by decide) ?_
            refine j_ior C dX9_deckSet_45 ?_
            refine j_istore_n C dX9_deckSet_46 rfl (by decide) (L' := [(3, .int (v3 ||| (0 : Int32))), (0, .ref v0), (1, .int v1), (2, .int v2), (4, .int v4)]) rfl ?_
            refine j_iinc C dX9_deckSet_47 4 rfl (v := (v4 + (1 : Int32))) (by first | rfl | decide) (by decide) (L' := [(4, .int (v4 + (1 : Int32))), (3, .int (v3 ||| (0 : Int32))), (0, .ref v0), (1, .int v1), (2, .int v2)]) rfl ?_
            refine j_goto C dX9_deckSet_50 (tgt := 5) (by decide) ?_
            refine j_sub (L' := [(0, .ref v0), (1, .int v1), (2, .int v2), (3, .int (v3 ||| (0 : Int32))), (4, .int (v4 + (1 : Int32)))]) [2, 3, 4, 1, 0] rfl ?_
            exact ih v0 v1 v2 (v3 ||| (0 : Int32)) (v4 + (1 : Int32)) M6 r M' h
          · rw [if_neg hc7] at h
            refine j_iconst C dX9_deckSet_37 (v := (1 : Int32)) (by decide) ?_
            refine j_iload C dX9_deckSet_38 4 rfl ?_
            refine j_ishl C dX9_deckSet_40 ?_
            refine j_goto C dX9_deckSet_41 (tgt := 45) (by decide) ?_
            refine j_ior C dX9_deckSet_45 ?_
            refine j_istore_n C dX9_deckSet_46 rfl (by decide) (L' := [(3, .int (v3 ||| ((1 : Int32) <<< (v4 &&& 31)))), (0, .ref v0), (1, .int v1), (2, .int v2), (4, .int v4)]) rfl ?_
            refine j_iinc C dX9_deckSet_47 4 rfl (v := (v4 + (1 : Int32))) (by first | rfl | decide) (by decide) (L' := [(4, .int (v4 + (1 : Int32))), (3, .int (v3 ||| ((1 : Int32) <<< (v4 &&& 31)))), (0, .ref v0), (1, .int v1), (2, .int v2)]) rfl ?_
            refine j_goto C dX9_deckSet_50 (tgt := 5) (by decide) ?_
            refine j_sub (L' := [(0, .ref v0), (1, .int v1), (2, .int v2), (3, .int (v3 ||| ((1 : Int32) <<< (v4 &&& 31)))), (4, .int (v4 + (1 : Int32)))]) [2, 3, 4, 1, 0] rfl ?_
            exact ih v0 v1 v2 (v3 ||| ((1 : Int32) <<< (v4 &&& 31))) (v4 + (1 : Int32)) M6 r M' h
def fX9_deckSet (N : Nat) (Z : mZ) (a0 : Nat) (a1 : Int32) (a2 : Int32) (M : mM) : Option (Int32 × mM) := fX9_deckSet_5 N Z N a0 a1 a2 (0 : Int32) (1 : Int32) M
set_option maxHeartbeats 4000000 in
set_option maxRecDepth 100000 in
theorem ctX9_deckSet {G : mG} {l : Launch} (hl : l.stackTraces = false) (N : Nat) (Z : mZ) {a0 : Nat} {a1 : Int32} {a2 : Int32} {M : mM} {r : Int32} {M' : mM} (h : fX9_deckSet N Z a0 a1 a2 M = some (r, M')) : CT G l yX9_deckSet (.code yX9_deckSet cX9_deckSet 5 (some .int)) rmX9_deckSet [.ref a0, .int a1, .int a2] Z M (.inl (some (.int r))) Z M' := by
  unfold fX9_deckSet at h
  refine CT.of hl (by decide) (Nat.le_of_ble_eq_true rfl) ?_
  intro p e s m args below meth c C hnm
  refine j_sub (L' := [(0, .ref a0), (1, .int a1), (2, .int a2)]) [0, 1, 2] rfl ?_
  refine j_iconst C dX9_deckSet_0 (v := (0 : Int32)) (by decide) ?_
  refine j_istore_n C dX9_deckSet_1 rfl (by decide) (L' := [(3, .int (0 : Int32)), (0, .ref a0), (1, .int a1), (2, .int a2)]) rfl ?_
  refine j_iconst C dX9_deckSet_2 (v := (1 : Int32)) (by decide) ?_
  refine j_istore C dX9_deckSet_3 (by decide) (L' := [(4, .int (1 : Int32)), (3, .int (0 : Int32)), (0, .ref a0), (1, .int a1), (2, .int a2)]) rfl ?_
  refine j_sub (L' := [(0, .ref a0), (1, .int a1), (2, .int a2), (3, .int (0 : Int32)), (4, .int (1 : Int32))]) [2, 3, 4, 1, 0] rfl ?_
  exact tX9_deckSet_5 C hnm N Z N a0 a1 a2 (0 : Int32) (1 : Int32) M _ _ h
-- ScaffoldPlannerModel bracedSet
abbrev rmX9_bracedSet : Room := { frames := 3, cells := 0, slots := 0, locals := 67 }
theorem dX9_bracedSet_0 : decode cX9_bracedSet 0 = .ok (.iconst 0, 1) := by decide +kernel
theorem dX9_bracedSet_1 : decode cX9_bracedSet 1 = .ok (.istore_n 2, 1) := by decide +kernel
theorem dX9_bracedSet_2 : decode cX9_bracedSet 2 = .ok (.iconst 1, 1) := by decide +kernel
theorem dX9_bracedSet_3 : decode cX9_bracedSet 3 = .ok (.istore_n 3, 1) := by decide +kernel
theorem dX9_bracedSet_4 : decode cX9_bracedSet 4 = .ok (.iload_n 3, 1) := by decide +kernel
theorem dX9_bracedSet_5 : decode cX9_bracedSet 5 = .ok (.aload_n 0, 1) := by decide +kernel
theorem dX9_bracedSet_6 : decode cX9_bracedSet 6 = .ok (.iload_n 1, 1) := by decide +kernel
theorem dX9_bracedSet_7 : decode cX9_bracedSet 7 = .ok (.invokevirtual 69, 3) := by decide +kernel
theorem dX9_bracedSet_10 : decode cX9_bracedSet 10 = .ok (.if_icmp .gt 37, 3) := by decide +kernel
theorem dX9_bracedSet_13 : decode cX9_bracedSet 13 = .ok (.iload_n 2, 1) := by decide +kernel
theorem dX9_bracedSet_14 : decode cX9_bracedSet 14 = .ok (.iload_n 3, 1) := by decide +kernel
theorem dX9_bracedSet_15 : decode cX9_bracedSet 15 = .ok (.aload_n 0, 1) := by decide +kernel
theorem dX9_bracedSet_16 : decode cX9_bracedSet 16 = .ok (.iload_n 1, 1) := by decide +kernel
theorem dX9_bracedSet_17 : decode cX9_bracedSet 17 = .ok (.invokevirtual 69, 3) := by decide +kernel
theorem dX9_bracedSet_20 : decode cX9_bracedSet 20 = .ok (.if_icmp .eq 12, 3) := by decide +kernel
theorem dX9_bracedSet_23 : decode cX9_bracedSet 23 = .ok (.aload_n 0, 1) := by decide +kernel
theorem dX9_bracedSet_24 : decode cX9_bracedSet 24 = .ok (.iload_n 1, 1) := by decide +kernel
theorem dX9_bracedSet_25 : decode cX9_bracedSet 25 = .ok (.iload_n 3, 1) := by decide +kernel
theorem dX9_bracedSet_26 : decode cX9_bracedSet 26 = .ok (.invokevirtual 106, 3) := by decide +kernel
theorem dX9_bracedSet_29 : decode cX9_bracedSet 29 = .ok (.ifCond .eq 9, 3) := by decide +kernel
theorem dX9_bracedSet_32 : decode cX9_bracedSet 32 = .ok (.iconst 1, 1) := by decide +kernel
theorem dX9_bracedSet_33 : decode cX9_bracedSet 33 = .ok (.iload_n 3, 1) := by decide +kernel
theorem dX9_bracedSet_34 : decode cX9_bracedSet 34 = .ok (.ishl, 1) := by decide +kernel
theorem dX9_bracedSet_35 : decode cX9_bracedSet 35 = .ok (.goto 4, 3) := by decide +kernel
theorem dX9_bracedSet_38 : decode cX9_bracedSet 38 = .ok (.iconst 0, 1) := by decide +kernel
theorem dX9_bracedSet_39 : decode cX9_bracedSet 39 = .ok (.ior, 1) := by decide +kernel
theorem dX9_bracedSet_40 : decode cX9_bracedSet 40 = .ok (.istore_n 2, 1) := by decide +kernel
theorem dX9_bracedSet_41 : decode cX9_bracedSet 41 = .ok (.iinc 3 1, 3) := by decide +kernel
theorem dX9_bracedSet_44 : decode cX9_bracedSet 44 = .ok (.goto (-40), 3) := by decide +kernel
theorem dX9_bracedSet_47 : decode cX9_bracedSet 47 = .ok (.iload_n 2, 1) := by decide +kernel
theorem dX9_bracedSet_48 : decode cX9_bracedSet 48 = .ok (.ireturn, 1) := by decide +kernel
def fX9_bracedSet_4 (N : Nat) (Z : mZ) : Nat → Nat → Int32 → Int32 → Int32 → mM → Option (Int32 × mM)
  | 0, _, _, _, _, _ => none
  | fu + 1, v0, v1, v2, v3, M => ck (okO Z v0 9) (bnd2 (fX9_high N Z v0 v1 M) (fun r2 M2 => if r2 < v3 then some (v2, M2) else bnd2 (fX9_high N Z v0 v1 M2) (fun r4 M4 => if v3 = r4 then fX9_bracedSet_4 N Z fu v0 v1 (v2 ||| ((1 : Int32) <<< (v3 &&& 31))) (v3 + (1 : Int32)) M4 else bnd2 (fX9_isBraced N Z v0 v1 v3 M4) (fun r6 M6 => if r6 = 0 then fX9_bracedSet_4 N Z fu v0 v1 (v2 ||| (0 : Int32)) (v3 + (1 : Int32)) M6 else fX9_bracedSet_4 N Z fu v0 v1 (v2 ||| ((1 : Int32) <<< (v3 &&& 31))) (v3 + (1 : Int32)) M6))))
set_option maxHeartbeats 4000000 in
set_option maxRecDepth 100000 in
theorem tX9_bracedSet_4 {G : mG} {p : Program} {l : Launch} {e : Env} {s : State} {m : MethodId} {args : Array Value} {below : List Frame} {meth : Method} {c : Code} (C : Cx G p l s m args meth c RX9 cX9_bracedSet 4 (some .int) []) (hnm : meth.name = yX9_bracedSet.name) (N : Nat) (Z : mZ) : ∀ (fu : Nat) (v0 : Nat) (v1 : Int32) (v2 : Int32) (v3 : Int32) (M : mM) (r : Int32) (M' : mM), fX9_bracedSet_4 N Z fu v0 v1 v2 v3 M = some (r, M') → JJ G p l e rmX9_bracedSet s m args below meth c 4 (mEnd G below args s rmX9_bracedSet (.inl (some (.int r))) Z M') 0 0 4 [(0, .ref v0), (1, .int v1), (2, .int v2), (3, .int v3)] [] Z M := by
  intro fu
  induction fu with
  | zero =>
    intro v0 v1 v2 v3 M r M' h
    cases h
  | succ fu ih =>
    intro v0 v1 v2 v3 M r M' h
    rw [fX9_bracedSet_4] at h
    refine j_iload_n C dX9_bracedSet_4 rfl 3 rfl ?_
    refine j_aload_n C dX9_bracedSet_5 rfl 0 rfl ?_
    refine j_iload_n C dX9_bracedSet_6 rfl 1 rfl ?_
    obtain ⟨ho1, h⟩ := ck_spec h
    obtain ⟨r2, M2, hq2, h⟩ := bnd2_spec h
    refine j_run1 (c_V C (As := [.int v1]) (rest := [.int v3]) (ctX9_high C.2.2.2.2.2.2.2.2.1 N Z hq2) kcRX9_69 oyX9_high (ci := 9) (T := TX9) (N := 23) rfl (by decide) ho1 ⟨by decide, by decide⟩ ⟨by decide, by decide⟩ (Nat.le_of_ble_eq_true rfl) rfl dX9_bracedSet_7) ?_
    refine j_icmp_gt C dX9_bracedSet_10 (tgt := 47) (by decide) (fun hc3 => ?_) (fun hc3 => ?_)
    · rw [if_pos hc3] at h
      refine j_iload_n C dX9_bracedSet_47 rfl 2 rfl ?_
      cases h
      exact j_iret C rfl (by decide) (by decide) dX9_bracedSet_48
    · rw [if_neg hc3] at h
      refine j_iload_n C dX9_bracedSet_13 rfl 2 rfl ?_
      refine j_iload_n C dX9_bracedSet_14 rfl 3 rfl ?_
      refine j_aload_n C dX9_bracedSet_15 rfl 0 rfl ?_
      refine j_iload_n C dX9_bracedSet_16 rfl 1 rfl ?_
      obtain ⟨r4, M4, hq4, h⟩ := bnd2_spec h
      refine j_run1 (c_V C (As := [.int v1]) (rest := [.int v3, .int v2]) (ctX9_high C.2.2.2.2.2.2.2.2.1 N Z hq4) kcRX9_69 oyX9_high (ci := 9) (T := TX9) (N := 23) rfl (by decide) ho1 ⟨by decide, by decide⟩ ⟨by decide, by decide⟩ (Nat.le_of_ble_eq_true rfl) rfl dX9_bracedSet_17) ?_
      refine j_icmp_eq C dX9_bracedSet_20 (tgt := 32) (by decide) (fun hc5 => ?_) (fun hc5 => ?_)
      · rw [if_pos hc5] at h
        refine j_iconst C dX9_bracedSet_32 (v := (1 : Int32)) (by decide) ?_
        refine j_iload_n C dX9_bracedSet_33 rfl 3 rfl ?_
        refine j_ishl C dX9_bracedSet_34 ?_
        refine j_goto C dX9_bracedSet_35 (tgt := 39) (by decide) ?_
        refine j_ior C dX9_bracedSet_39 ?_
        refine j_istore_n C dX9_bracedSet_40 rfl (by decide) (L' := [(2, .int (v2 ||| ((1 : Int32) <<< (v3 &&& 31)))), (0, .ref v0), (1, .int v1), (3, .int v3)]) rfl ?_
        refine j_iinc C dX9_bracedSet_41 3 rfl (v := (v3 + (1 : Int32))) (by first | rfl | decide) (by decide) (L' := [(3, .int (v3 + (1 : Int32))), (2, .int (v2 ||| ((1 : Int32) <<< (v3 &&& 31)))), (0, .ref v0), (1, .int v1)]) rfl ?_
        refine j_goto C dX9_bracedSet_44 (tgt := 4) (by decide) ?_
        refine j_sub (L' := [(0, .ref v0), (1, .int v1), (2, .int (v2 ||| ((1 : Int32) <<< (v3 &&& 31)))), (3, .int (v3 + (1 : Int32)))]) [2, 3, 1, 0] rfl ?_
        exact ih v0 v1 (v2 ||| ((1 : Int32) <<< (v3 &&& 31))) (v3 + (1 : Int32)) M4 r M' h
      · rw [if_neg hc5] at h
        refine j_aload_n C dX9_bracedSet_23 rfl 0 rfl ?_
        refine j_iload_n C dX9_bracedSet_24 rfl 1 rfl ?_
        refine j_iload_n C dX9_bracedSet_25 rfl 3 rfl ?_
        obtain ⟨r6, M6, hq6, h⟩ := bnd2_spec h
        refine j_run1 (c_V C (As := [.int v1, .int v3]) (rest := [.int v2]) (ctX9_isBraced C.2.2.2.2.2.2.2.2.1 N Z hq6) kcRX9_106 oyX9_isBraced (ci := 9) (T := TX9) (N := 23) rfl (by decide) ho1 ⟨by decide, by decide⟩ ⟨by decide, by decide⟩ (Nat.le_of_ble_eq_true rfl) rfl dX9_bracedSet_26) ?_
        refine j_if_eq C dX9_bracedSet_29 (tgt := 38) (by decide) (fun hc7 => ?_) (fun hc7 => ?_)
        · rw [if_pos hc7] at h
          refine j_iconst C dX9_bracedSet_38 (v := (0 : Int32)) (by decide) ?_
          refine j_ior C dX9_bracedSet_39 ?_
          refine j_istore_n C dX9_bracedSet_40 rfl (by decide) (L' := [(2, .int (v2 ||| (0 : Int32))), (0, .ref v0), (1, .int v1), (3, .int v3)]) rfl ?_
          refine j_iinc C dX9_bracedSet_41 3 rfl (v := (v3 + (1 : Int32))) (by first | rfl | decide) (by decide) (L' := [(3, .int (v3 + (1 : Int32))), (2, .int (v2 ||| (0 : Int32))), (0, .ref v0), (1, .int v1)]) rfl ?_
          refine j_goto C dX9_bracedSet_44 (tgt := 4) (by decide) ?_
          refine j_sub (L' := [(0, .ref v0), (1, .int v1), (2, .int (v2 ||| (0 : Int32))), (3, .int (v3 + (1 : Int32)))]) [2, 3, 1, 0] rfl ?_
          exact ih v0 v1 (v2 ||| (0 : Int32)) (v3 + (1 : Int32)) M6 r M' h
        · rw [if_neg hc7] at h
          refine j_iconst C dX9_bracedSet_32 (v := (1 : Int32)) (by decide) ?_
          refine j_iload_n C dX9_bracedSet_33 rfl 3 rfl ?_
          refine j_ishl C dX9_bracedSet_34 ?_
          refine j_goto C dX9_bracedSet_35 (tgt := 39) (by decide) ?_
          refine j_ior C dX9_bracedSet_39 ?_
          refine j_istore_n C dX9_bracedSet_40 rfl (by decide) (L' := [(2, .int (v2 ||| ((1 : Int32) <<< (v3 &&& 31)))), (0, .ref v0), (1, .int v1), (3, .int v3)]) rfl ?_
          refine j_iinc C dX9_bracedSet_41 3 rfl (v := (v3 + (1 : Int32))) (by first | rfl | decide) (by decide) (L' := [(3, .int (v3 + (1 : Int32))), (2, .int (v2 ||| ((1 : Int32) <<< (v3 &&& 31)))), (0, .ref v0), (1, .int v1)]) rfl ?_
          refine j_goto C dX9_bracedSet_44 (tgt := 4) (by decide) ?_
          refine j_sub (L' := [(0, .ref v0), (1, .int v1), (2, .int (v2 ||| ((1 : Int32) <<< (v3 &&& 31)))), (3, .int (v3 + (1 : Int32)))]) [2, 3, 1, 0] rfl ?_
          exact ih v0 v1 (v2 ||| ((1 : Int32) <<< (v3 &&& 31))) (v3 + (1 : Int32)) M6 r M' h
def fX9_bracedSet (N : Nat) (Z : mZ) (a0 : Nat) (a1 : Int32) (M : mM) : Option (Int32 × mM) := fX9_bracedSet_4 N Z N a0 a1 (0 : Int32) (1 : Int32) M
set_option maxHeartbeats 4000000 in
set_option maxRecDepth 100000 in
theorem ctX9_bracedSet {G : mG} {l : Launch} (hl : l.stackTraces = false) (N : Nat) (Z : mZ) {a0 : Nat} {a1 : Int32} {M : mM} {r : Int32} {M' : mM} (h : fX9_bracedSet N Z a0 a1 M = some (r, M')) : CT G l yX9_bracedSet (.code yX9_bracedSet cX9_bracedSet 4 (some .int)) rmX9_bracedSet [.ref a0, .int a1] Z M (.inl (some (.int r))) Z M' := by
  unfold fX9_bracedSet at h
  refine CT.of hl (by decide) (Nat.le_of_ble_eq_true rfl) ?_
  intro p e s m args below meth c C hnm
  refine j_sub (L' := [(0, .ref a0), (1, .int a1)]) [0, 1] rfl ?_
  refine j_iconst C dX9_bracedSet_0 (v := (0 : Int32)) (by decide) ?_
  refine j_istore_n C dX9_bracedSet_1 rfl (by decide) (L' := [(2, .int (0 : Int32)), (0, .ref a0), (1, .int a1)]) rfl ?_
  refine j_iconst C dX9_bracedSet_2 (v := (1 : Int32)) (by decide) ?_
  refine j_istore_n C dX9_bracedSet_3 rfl (by decide) (L' := [(3, .int (1 : Int32)), (2, .int (0 : Int32)), (0, .ref a0), (1, .int a1)]) rfl ?_
  refine j_sub (L' := [(0, .ref a0), (1, .int a1), (2, .int (0 : Int32)), (3, .int (1 : Int32))]) [2, 3, 1, 0] rfl ?_
  exact tX9_bracedSet_4 C hnm N Z N a0 a1 (0 : Int32) (1 : Int32) M _ _ h
