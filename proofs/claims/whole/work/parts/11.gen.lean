-- ScaffoldPlanner$Plan copyFrom
abbrev rmX4_copyFrom : Room := { frames := 1, cells := 0, slots := 0, locals := 21 }
theorem dX4_copyFrom_0 : decode cX4_copyFrom 0 = .ok (.aload_n 0, 1) := by decide +kernel
theorem dX4_copyFrom_1 : decode cX4_copyFrom 1 = .ok (.aload_n 1, 1) := by decide +kernel
theorem dX4_copyFrom_2 : decode cX4_copyFrom 2 = .ok (.getfield 9, 3) := by decide +kernel
theorem dX4_copyFrom_5 : decode cX4_copyFrom 5 = .ok (.putfield 9, 3) := by decide +kernel
theorem dX4_copyFrom_8 : decode cX4_copyFrom 8 = .ok (.aload_n 0, 1) := by decide +kernel
theorem dX4_copyFrom_9 : decode cX4_copyFrom 9 = .ok (.aload_n 1, 1) := by decide +kernel
theorem dX4_copyFrom_10 : decode cX4_copyFrom 10 = .ok (.getfield 15, 3) := by decide +kernel
theorem dX4_copyFrom_13 : decode cX4_copyFrom 13 = .ok (.putfield 15, 3) := by decide +kernel
theorem dX4_copyFrom_16 : decode cX4_copyFrom 16 = .ok (.iconst 0, 1) := by decide +kernel
theorem dX4_copyFrom_17 : decode cX4_copyFrom 17 = .ok (.istore_n 2, 1) := by decide +kernel
theorem dX4_copyFrom_18 : decode cX4_copyFrom 18 = .ok (.iload_n 2, 1) := by decide +kernel
theorem dX4_copyFrom_19 : decode cX4_copyFrom 19 = .ok (.aload_n 0, 1) := by decide +kernel
theorem dX4_copyFrom_20 : decode cX4_copyFrom 20 = .ok (.getfield 18, 3) := by decide +kernel
theorem dX4_copyFrom_23 : decode cX4_copyFrom 23 = .ok (.arraylength, 1) := by decide +kernel
theorem dX4_copyFrom_24 : decode cX4_copyFrom 24 = .ok (.if_icmp .ge 23, 3) := by decide +kernel
theorem dX4_copyFrom_27 : decode cX4_copyFrom 27 = .ok (.aload_n 0, 1) := by decide +kernel
theorem dX4_copyFrom_28 : decode cX4_copyFrom 28 = .ok (.getfield 18, 3) := by decide +kernel
theorem dX4_copyFrom_31 : decode cX4_copyFrom 31 = .ok (.iload_n 2, 1) := by decide +kernel
theorem dX4_copyFrom_32 : decode cX4_copyFrom 32 = .ok (.aload_n 1, 1) := by decide +kernel
theorem dX4_copyFrom_33 : decode cX4_copyFrom 33 = .ok (.getfield 18, 3) := by decide +kernel
theorem dX4_copyFrom_36 : decode cX4_copyFrom 36 = .ok (.iload_n 2, 1) := by decide +kernel
theorem dX4_copyFrom_37 : decode cX4_copyFrom 37 = .ok (.invokestatic 41, 3) := by decide +kernel
theorem dX4_copyFrom_40 : decode cX4_copyFrom 40 = .ok (.iastore, 1) := by decide +kernel
theorem dX4_copyFrom_41 : decode cX4_copyFrom 41 = .ok (.iinc 2 1, 3) := by decide +kernel
theorem dX4_copyFrom_44 : decode cX4_copyFrom 44 = .ok (.goto (-26), 3) := by decide +kernel
theorem dX4_copyFrom_47 : decode cX4_copyFrom 47 = .ok (.iconst 0, 1) := by decide +kernel
theorem dX4_copyFrom_48 : decode cX4_copyFrom 48 = .ok (.istore_n 2, 1) := by decide +kernel
theorem dX4_copyFrom_49 : decode cX4_copyFrom 49 = .ok (.iload_n 2, 1) := by decide +kernel
theorem dX4_copyFrom_50 : decode cX4_copyFrom 50 = .ok (.aload_n 0, 1) := by decide +kernel
theorem dX4_copyFrom_51 : decode cX4_copyFrom 51 = .ok (.getfield 22, 3) := by decide +kernel
theorem dX4_copyFrom_54 : decode cX4_copyFrom 54 = .ok (.arraylength, 1) := by decide +kernel
theorem dX4_copyFrom_55 : decode cX4_copyFrom 55 = .ok (.if_icmp .ge 23, 3) := by decide +kernel
theorem dX4_copyFrom_58 : decode cX4_copyFrom 58 = .ok (.aload_n 0, 1) := by decide +kernel
theorem dX4_copyFrom_59 : decode cX4_copyFrom 59 = .ok (.getfield 22, 3) := by decide +kernel
theorem dX4_copyFrom_62 : decode cX4_copyFrom 62 = .ok (.iload_n 2, 1) := by decide +kernel
theorem dX4_copyFrom_63 : decode cX4_copyFrom 63 = .ok (.aload_n 1, 1) := by decide +kernel
theorem dX4_copyFrom_64 : decode cX4_copyFrom 64 = .ok (.getfield 22, 3) := by decide +kernel
theorem dX4_copyFrom_67 : decode cX4_copyFrom 67 = .ok (.iload_n 2, 1) := by decide +kernel
theorem dX4_copyFrom_68 : decode cX4_copyFrom 68 = .ok (.invokestatic 41, 3) := by decide +kernel
theorem dX4_copyFrom_71 : decode cX4_copyFrom 71 = .ok (.iastore, 1) := by decide +kernel
theorem dX4_copyFrom_72 : decode cX4_copyFrom 72 = .ok (.iinc 2 1, 3) := by decide +kernel
theorem dX4_copyFrom_75 : decode cX4_copyFrom 75 = .ok (.goto (-26), 3) := by decide +kernel
theorem dX4_copyFrom_78 : decode cX4_copyFrom 78 = .ok (.iconst 0, 1) := by decide +kernel
theorem dX4_copyFrom_79 : decode cX4_copyFrom 79 = .ok (.istore_n 2, 1) := by decide +kernel
theorem dX4_copyFrom_80 : decode cX4_copyFrom 80 = .ok (.iload_n 2, 1) := by decide +kernel
theorem dX4_copyFrom_81 : decode cX4_copyFrom 81 = .ok (.aload_n 0, 1) := by decide +kernel
theorem dX4_copyFrom_82 : decode cX4_copyFrom 82 = .ok (.getfield 25, 3) := by decide +kernel
theorem dX4_copyFrom_85 : decode cX4_copyFrom 85 = .ok (.arraylength, 1) := by decide +kernel
theorem dX4_copyFrom_86 : decode cX4_copyFrom 86 = .ok (.if_icmp .ge 23, 3) := by decide +kernel
theorem dX4_copyFrom_89 : decode cX4_copyFrom 89 = .ok (.aload_n 0, 1) := by decide +kernel
theorem dX4_copyFrom_90 : decode cX4_copyFrom 90 = .ok (.getfield 25, 3) := by decide +kernel
theorem dX4_copyFrom_93 : decode cX4_copyFrom 93 = .ok (.iload_n 2, 1) := by decide +kernel
theorem dX4_copyFrom_94 : decode cX4_copyFrom 94 = .ok (.aload_n 1, 1) := by decide +kernel
theorem dX4_copyFrom_95 : decode cX4_copyFrom 95 = .ok (.getfield 25, 3) := by decide +kernel
theorem dX4_copyFrom_98 : decode cX4_copyFrom 98 = .ok (.iload_n 2, 1) := by decide +kernel
theorem dX4_copyFrom_99 : decode cX4_copyFrom 99 = .ok (.invokestatic 41, 3) := by decide +kernel
theorem dX4_copyFrom_102 : decode cX4_copyFrom 102 = .ok (.iastore, 1) := by decide +kernel
theorem dX4_copyFrom_103 : decode cX4_copyFrom 103 = .ok (.iinc 2 1, 3) := by decide +kernel
theorem dX4_copyFrom_106 : decode cX4_copyFrom 106 = .ok (.goto (-26), 3) := by decide +kernel
theorem dX4_copyFrom_109 : decode cX4_copyFrom 109 = .ok (.iconst 0, 1) := by decide +kernel
theorem dX4_copyFrom_110 : decode cX4_copyFrom 110 = .ok (.istore_n 2, 1) := by decide +kernel
theorem dX4_copyFrom_111 : decode cX4_copyFrom 111 = .ok (.iload_n 2, 1) := by decide +kernel
theorem dX4_copyFrom_112 : decode cX4_copyFrom 112 = .ok (.aload_n 0, 1) := by decide +kernel
theorem dX4_copyFrom_113 : decode cX4_copyFrom 113 = .ok (.getfield 28, 3) := by decide +kernel
theorem dX4_copyFrom_116 : decode cX4_copyFrom 116 = .ok (.arraylength, 1) := by decide +kernel
theorem dX4_copyFrom_117 : decode cX4_copyFrom 117 = .ok (.if_icmp .ge 23, 3) := by decide +kernel
theorem dX4_copyFrom_120 : decode cX4_copyFrom 120 = .ok (.aload_n 0, 1) := by decide +kernel
theorem dX4_copyFrom_121 : decode cX4_copyFrom 121 = .ok (.getfield 28, 3) := by decide +kernel
theorem dX4_copyFrom_124 : decode cX4_copyFrom 124 = .ok (.iload_n 2, 1) := by decide +kernel
theorem dX4_copyFrom_125 : decode cX4_copyFrom 125 = .ok (.aload_n 1, 1) := by decide +kernel
theorem dX4_copyFrom_126 : decode cX4_copyFrom 126 = .ok (.getfield 28, 3) := by decide +kernel
theorem dX4_copyFrom_129 : decode cX4_copyFrom 129 = .ok (.iload_n 2, 1) := by decide +kernel
theorem dX4_copyFrom_130 : decode cX4_copyFrom 130 = .ok (.invokestatic 41, 3) := by decide +kernel
theorem dX4_copyFrom_133 : decode cX4_copyFrom 133 = .ok (.iastore, 1) := by decide +kernel
theorem dX4_copyFrom_134 : decode cX4_copyFrom 134 = .ok (.iinc 2 1, 3) := by decide +kernel
theorem dX4_copyFrom_137 : decode cX4_copyFrom 137 = .ok (.goto (-26), 3) := by decide +kernel
theorem dX4_copyFrom_140 : decode cX4_copyFrom 140 = .ok (.iconst 0, 1) := by decide +kernel
theorem dX4_copyFrom_141 : decode cX4_copyFrom 141 = .ok (.istore_n 2, 1) := by decide +kernel
theorem dX4_copyFrom_142 : decode cX4_copyFrom 142 = .ok (.iload_n 2, 1) := by decide +kernel
theorem dX4_copyFrom_143 : decode cX4_copyFrom 143 = .ok (.aload_n 0, 1) := by decide +kernel
theorem dX4_copyFrom_144 : decode cX4_copyFrom 144 = .ok (.getfield 31, 3) := by decide +kernel
theorem dX4_copyFrom_147 : decode cX4_copyFrom 147 = .ok (.arraylength, 1) := by decide +kernel
theorem dX4_copyFrom_148 : decode cX4_copyFrom 148 = .ok (.if_icmp .ge 23, 3) := by decide +kernel
theorem dX4_copyFrom_151 : decode cX4_copyFrom 151 = .ok (.aload_n 0, 1) := by decide +kernel
theorem dX4_copyFrom_152 : decode cX4_copyFrom 152 = .ok (.getfield 31, 3) := by decide +kernel
theorem dX4_copyFrom_155 : decode cX4_copyFrom 155 = .ok (.iload_n 2, 1) := by decide +kernel
theorem dX4_copyFrom_156 : decode cX4_copyFrom 156 = .ok (.aload_n 1, 1) := by decide +kernel
theorem dX4_copyFrom_157 : decode cX4_copyFrom 157 = .ok (.getfield 31, 3) := by decide +kernel
theorem dX4_copyFrom_160 : decode cX4_copyFrom 160 = .ok (.iload_n 2, 1) := by decide +kernel
theorem dX4_copyFrom_161 : decode cX4_copyFrom 161 = .ok (.invokestatic 41, 3) := by decide +kernel
theorem dX4_copyFrom_164 : decode cX4_copyFrom 164 = .ok (.iastore, 1) := by decide +kernel
theorem dX4_copyFrom_165 : decode cX4_copyFrom 165 = .ok (.iinc 2 1, 3) := by decide +kernel
theorem dX4_copyFrom_168 : decode cX4_copyFrom 168 = .ok (.goto (-26), 3) := by decide +kernel
theorem dX4_copyFrom_171 : decode cX4_copyFrom 171 = .ok (.return_, 1) := by decide +kernel
def fX4_copyFrom_142 (N : Nat) (Z : mZ) : Nat → Nat → Nat → Int32 → mM → Option (Unit × mM)
  | 0, _, _, _, _ => none
  | fu + 1, v0, v1, v2, M => ck (okO Z v0 4) (bnd1 (Z.2.2.2 v0 6) (fun c20 => ck (okI Z c20) (if (Int32.ofNat (Z.2.2.1 c20)) ≤ v2 then some ((), M) else ck (okO Z v1 4) (bnd1 (Z.2.2.2 v1 6) (fun c24 => bnd2 (fX8_at N Z c24 v2 M) (fun r25 M25 => ck (okO Z c20 20) (ck (inB v2 (Z.2.2.1 c20)) (fX4_copyFrom_142 N Z fu v0 v1 (v2 + (1 : Int32)) (sI M25 c20 (v2).toNatClampNeg r25)))))))))
set_option maxHeartbeats 4000000 in
set_option maxRecDepth 100000 in
theorem tX4_copyFrom_142 {G : mG} {p : Program} {l : Launch} {e : Env} {s : State} {m : MethodId} {args : Array Value} {below : List Frame} {meth : Method} {c : Code} (C : Cx G p l s m args meth c RX4 cX4_copyFrom 3 none []) (hnm : meth.name = yX4_copyFrom.name) (N : Nat) (Z : mZ) : ∀ (fu : Nat) (v0 : Nat) (v1 : Nat) (v2 : Int32) (M : mM) (r : Unit) (M' : mM), fX4_copyFrom_142 N Z fu v0 v1 v2 M = some (r, M') → JJ G p l e rmX4_copyFrom s m args below meth c 3 (mEnd G below args s rmX4_copyFrom (.inl none) Z M') 0 0 142 [(0, .ref v0), (1, .ref v1), (2, .int v2)] [] Z M := by
  intro fu
  induction fu with
  | zero =>
    intro v0 v1 v2 M r M' h
    cases h
  | succ fu ih =>
    intro v0 v1 v2 M r M' h
    rw [fX4_copyFrom_142] at h
    refine j_iload_n C dX4_copyFrom_142 rfl 2 rfl ?_
    refine j_aload_n C dX4_copyFrom_143 rfl 0 rfl ?_
    obtain ⟨ho19, h⟩ := ck_spec h
    obtain ⟨c20, hr20, h⟩ := bnd1_spec h
    refine j_getR C (cn := RX4) (T := TX4) (N := 7) (ci := 4) rfl iX4 ho19 6 (by decide) rfl fwRX4_31 dX4_copyFrom_144 hr20 ?_
    obtain ⟨ho21, h⟩ := ck_spec h
    refine j_alen C ho21 dX4_copyFrom_147 ?_
    refine j_icmp_ge C dX4_copyFrom_148 (tgt := 171) (by decide) (fun hc22 => ?_) (fun hc22 => ?_)
    · rw [if_pos hc22] at h
      cases h
      exact j_vret C rfl (by decide) (by decide) dX4_copyFrom_171
    · rw [if_neg hc22] at h
      refine j_aload_n C dX4_copyFrom_151 rfl 0 rfl ?_
      refine j_getR C (cn := RX4) (T := TX4) (N := 7) (ci := 4) rfl iX4 ho19 6 (by decide) rfl fwRX4_31 dX4_copyFrom_152 hr20 ?_
      refine j_iload_n C dX4_copyFrom_155 rfl 2 rfl ?_
      refine j_aload_n C dX4_copyFrom_156 rfl 1 rfl ?_
      obtain ⟨ho23, h⟩ := ck_spec h
      obtain ⟨c24, hr24, h⟩ := bnd1_spec h
      refine j_getR C (cn := RX4) (T := TX4) (N := 7) (ci := 4) rfl iX4 ho23 6 (by decide) rfl fwRX4_31 dX4_copyFrom_157 hr24 ?_
      refine j_iload_n C dX4_copyFrom_160 rfl 2 rfl ?_
      obtain ⟨r25, M25, hq25, h⟩ := bnd2_spec h
      refine j_run1 (c_SN C (As := [.ref c24, .int v2]) (rest := [.int v2, .ref c20]) (ctX8_at C.2.2.2.2.2.2.2.2.1 N Z hq25) kcRX4_41 oyX8_at ⟨by decide, by decide⟩ ⟨by decide, by decide⟩ (Nat.le_of_ble_eq_true rfl) rfl dX4_copyFrom_161) ?_
      obtain ⟨ho26, h⟩ := ck_spec h
      obtain ⟨ho27, h⟩ := ck_spec h
      refine j_iast C ho26 ho27 dX4_copyFrom_164 ?_
      refine j_iinc C dX4_copyFrom_165 2 rfl (v := (v2 + (1 : Int32))) (by first | rfl | decide) (by decide) (L' := [(2, .int (v2 + (1 : Int32))), (0, .ref v0), (1, .ref v1)]) rfl ?_
      refine j_goto C dX4_copyFrom_168 (tgt := 142) (by decide) ?_
      refine j_sub (L' := [(0, .ref v0), (1, .ref v1), (2, .int (v2 + (1 : Int32)))]) [1, 2, 0] rfl ?_
      exact ih v0 v1 (v2 + (1 : Int32)) (sI M25 c20 (v2).toNatClampNeg r25) r M' h
def fX4_copyFrom_111 (N : Nat) (Z : mZ) : Nat → Nat → Nat → Int32 → mM → Option (Unit × mM)
  | 0, _, _, _, _ => none
  | fu + 1, v0, v1, v2, M => ck (okO Z v0 4) (bnd1 (Z.2.2.2 v0 5) (fun c16 => ck (okI Z c16) (if (Int32.ofNat (Z.2.2.1 c16)) ≤ v2 then fX4_copyFrom_142 N Z N v0 v1 (0 : Int32) M else ck (okO Z v1 4) (bnd1 (Z.2.2.2 v1 5) (fun c29 => bnd2 (fX8_at N Z c29 v2 M) (fun r30 M30 => ck (okO Z c16 20) (ck (inB v2 (Z.2.2.1 c16)) (fX4_copyFrom_111 N Z fu v0 v1 (v2 + (1 : Int32)) (sI M30 c16 (v2).toNatClampNeg r30)))))))))
set_option maxHeartbeats 4000000 in
set_option maxRecDepth 100000 in
theorem tX4_copyFrom_111 {G : mG} {p : Program} {l : Launch} {e : Env} {s : State} {m : MethodId} {args : Array Value} {below : List Frame} {meth : Method} {c : Code} (C : Cx G p l s m args meth c RX4 cX4_copyFrom 3 none []) (hnm : meth.name = yX4_copyFrom.name) (N : Nat) (Z : mZ) : ∀ (fu : Nat) (v0 : Nat) (v1 : Nat) (v2 : Int32) (M : mM) (r : Unit) (M' : mM), fX4_copyFrom_111 N Z fu v0 v1 v2 M = some (r, M') → JJ G p l e rmX4_copyFrom s m args below meth c 3 (mEnd G below args s rmX4_copyFrom (.inl none) Z M') 0 0 111 [(0, .ref v0), (1, .ref v1), (2, .int v2)] [] Z M := by
  intro fu
  induction fu with
  | zero =>
    intro v0 v1 v2 M r M' h
    cases h
  | succ fu ih =>
    intro v0 v1 v2 M r M' h
    rw [fX4_copyFrom_111] at h
    refine j_iload_n C dX4_copyFrom_111 rfl 2 rfl ?_
    refine j_aload_n C dX4_copyFrom_112 rfl 0 rfl ?_
    obtain ⟨ho15, h⟩ := ck_spec h
    obtain ⟨c16, hr16, h⟩ := bnd1_spec h
    refine j_getR C (cn := RX4) (T := TX4) (N := 7) (ci := 4) rfl iX4 ho15 5 (by decide) rfl fwRX4_28 dX4_copyFrom_113 hr16 ?_
    obtain ⟨ho17, h⟩ := ck_spec h
    refine j_alen C ho17 dX4_copyFrom_116 ?_
    refine j_icmp_ge C dX4_copyFrom_117 (tgt := 140) (by decide) (fun hc18 => ?_) (fun hc18 => ?_)
    · rw [if_pos hc18] at h
      refine j_iconst C dX4_copyFrom_140 (v := (0 : Int32)) (by decide) ?_
      refine j_istore_n C dX4_copyFrom_141 rfl (by decide) (L' := [(2, .int (0 : Int32)), (0, .ref v0), (1, .ref v1)]) rfl ?_
      refine j_sub (L' := [(0, .ref v0), (1, .ref v1), (2, .int (0 : Int32))]) [1, 2, 0] rfl ?_
      exact tX4_copyFrom_142 C hnm N Z N v0 v1 (0 : Int32) M _ _ h
    · rw [if_neg hc18] at h
      refine j_aload_n C dX4_copyFrom_120 rfl 0 rfl ?_
      refine j_getR C (cn := RX4) (T := TX4) (N := 7) (ci := 4) rfl iX4 ho15 5 (by decide) rfl fwRX4_28 dX4_copyFrom_121 hr16 ?_
      refine j_iload_n C dX4_copyFrom_124 rfl 2 rfl ?_
      refine j_aload_n C dX4_copyFrom_125 rfl 1 rfl ?_
      obtain ⟨ho28, h⟩ := ck_spec h
      obtain ⟨c29, hr29, h⟩ := bnd1_spec h
      refine j_getR C (cn := RX4) (T := TX4) (N := 7) (ci := 4) rfl iX4 ho28 5 (by decide) rfl fwRX4_28 dX4_copyFrom_126 hr29 ?_
      refine j_iload_n C dX4_copyFrom_129 rfl 2 rfl ?_
      obtain ⟨r30, M30, hq30, h⟩ := bnd2_spec h
      refine j_run1 (c_SN C (As := [.ref c29, .int v2]) (rest := [.int v2, .ref c16]) (ctX8_at C.2.2.2.2.2.2.2.2.1 N Z hq30) kcRX4_41 oyX8_at ⟨by decide, by decide⟩ ⟨by decide, by decide⟩ (Nat.le_of_ble_eq_true rfl) rfl dX4_copyFrom_130) ?_
      obtain ⟨ho31, h⟩ := ck_spec h
      obtain ⟨ho32, h⟩ := ck_spec h
      refine j_iast C ho31 ho32 dX4_copyFrom_133 ?_
      refine j_iinc C dX4_copyFrom_134 2 rfl (v := (v2 + (1 : Int32))) (by first | rfl | decide) (by decide) (L' := [(2, .int (v2 + (1 : Int32))), (0, .ref v0), (1, .ref v1)]) rfl ?_
      refine j_goto C dX4_copyFrom_137 (tgt := 111) (by decide) ?_
      refine j_sub (L' := [(0, .ref v0), (1, .ref v1), (2, .int (v2 + (1 : Int32)))]) [1, 2, 0] rfl ?_
      exact ih v0 v1 (v2 + (1 : Int32)) (sI M30 c16 (v2).toNatClampNeg r30) r M' h
def fX4_copyFrom_80 (N : Nat) (Z : mZ) : Nat → Nat → Nat → Int32 → mM → Option (Unit × mM)
  | 0, _, _, _, _ => none
  | fu + 1, v0, v1, v2, M => ck (okO Z v0 4) (bnd1 (Z.2.2.2 v0 4) (fun c12 => ck (okI Z c12) (if (Int32.ofNat (Z.2.2.1 c12)) ≤ v2 then fX4_copyFrom_111 N Z N v0 v1 (0 : Int32) M else ck (okO Z v1 4) (bnd1 (Z.2.2.2 v1 4) (fun c34 => bnd2 (fX8_at N Z c34 v2 M) (fun r35 M35 => ck (okO Z c12 20) (ck (inB v2 (Z.2.2.1 c12)) (fX4_copyFrom_80 N Z fu v0 v1 (v2 + (1 : Int32)) (sI M35 c12 (v2).toNatClampNeg r35)))))))))
set_option maxHeartbeats 4000000 in
set_option maxRecDepth 100000 in
theorem tX4_copyFrom_80 {G : mG} {p : Program} {l : Launch} {e : Env} {s : State} {m : MethodId} {args : Array Value} {below : List Frame} {meth : Method} {c : Code} (C : Cx G p l s m args meth c RX4 cX4_copyFrom 3 none []) (hnm : meth.name = yX4_copyFrom.name) (N : Nat) (Z : mZ) : ∀ (fu : Nat) (v0 : Nat) (v1 : Nat) (v2 : Int32) (M : mM) (r : Unit) (M' : mM), fX4_copyFrom_80 N Z fu v0 v1 v2 M = some (r, M') → JJ G p l e rmX4_copyFrom s m args below meth c 3 (mEnd G below args s rmX4_copyFrom (.inl none) Z M') 0 0 80 [(0, .ref v0), (1, .ref v1), (2, .int v2)] [] Z M := by
  intro fu
  induction fu with
  | zero =>
    intro v0 v1 v2 M r M' h
    cases h
  | succ fu ih =>
    intro v0 v1 v2 M r M' h
    rw [fX4_copyFrom_80] at h
    refine j_iload_n C dX4_copyFrom_80 rfl 2 rfl ?_
    refine j_aload_n C dX4_copyFrom_81 rfl 0 rfl ?_
    obtain ⟨ho11, h⟩ := ck_spec h
    obtain ⟨c12, hr12, h⟩ := bnd1_spec h
    refine j_getR C (cn := RX4) (T := TX4) (N := 7) (ci := 4) rfl iX4 ho11 4 (by decide) rfl fwRX4_25 dX4_copyFrom_82 hr12 ?_
    obtain ⟨ho13, h⟩ := ck_spec h
    refine j_alen C ho13 dX4_copyFrom_85 ?_
    refine j_icmp_ge C dX4_copyFrom_86 (tgt := 109) (by decide) (fun hc14 => ?_) (fun hc14 => ?_)
    · rw [if_pos hc14] at h
      refine j_iconst C dX4_copyFrom_109 (v := (0 : Int32)) (by decide) ?_
      refine j_istore_n C dX4_copyFrom_110 rfl (by decide) (L' := [(2, .int (0 : Int32)), (0, .ref v0), (1, .ref v1)]) rfl ?_
      refine j_sub (L' := [(0, .ref v0), (1, .ref v1), (2, .int (0 : Int32))]) [1, 2, 0] rfl ?_
      exact tX4_copyFrom_111 C hnm N Z N v0 v1 (0 : Int32) M _ _ h
    · rw [if_neg hc14] at h
      refine j_aload_n C dX4_copyFrom_89 rfl 0 rfl ?_
      refine j_getR C (cn := RX4) (T := TX4) (N := 7) (ci := 4) rfl iX4 ho11 4 (by decide) rfl fwRX4_25 dX4_copyFrom_90 hr12 ?_
      refine j_iload_n C dX4_copyFrom_93 rfl 2 rfl ?_
      refine j_aload_n C dX4_copyFrom_94 rfl 1 rfl ?_
      obtain ⟨ho33, h⟩ := ck_spec h
      obtain ⟨c34, hr34, h⟩ := bnd1_spec h
      refine j_getR C (cn := RX4) (T := TX4) (N := 7) (ci := 4) rfl iX4 ho33 4 (by decide) rfl fwRX4_25 dX4_copyFrom_95 hr34 ?_
      refine j_iload_n C dX4_copyFrom_98 rfl 2 rfl ?_
      obtain ⟨r35, M35, hq35, h⟩ := bnd2_spec h
      refine j_run1 (c_SN C (As := [.ref c34, .int v2]) (rest := [.int v2, .ref c12]) (ctX8_at C.2.2.2.2.2.2.2.2.1 N Z hq35) kcRX4_41 oyX8_at ⟨by decide, by decide⟩ ⟨by decide, by decide⟩ (Nat.le_of_ble_eq_true rfl) rfl dX4_copyFrom_99) ?_
      obtain ⟨ho36, h⟩ := ck_spec h
      obtain ⟨ho37, h⟩ := ck_spec h
      refine j_iast C ho36 ho37 dX4_copyFrom_102 ?_
      refine j_iinc C dX4_copyFrom_103 2 rfl (v := (v2 + (1 : Int32))) (by first | rfl | decide) (by decide) (L' := [(2, .int (v2 + (1 : Int32))), (0, .ref v0), (1, .ref v1)]) rfl ?_
      refine j_goto C dX4_copyFrom_106 (tgt := 80) (by decide) ?_
      refine j_sub (L' := [(0, .ref v0), (1, .ref v1), (2, .int (v2 + (1 : Int32)))]) [1, 2, 0] rfl ?_
      exact ih v0 v1 (v2 + (1 : Int32)) (sI M35 c12 (v2).toNatClampNeg r35) r M' h
def fX4_copyFrom_49 (N : Nat) (Z : mZ) : Nat → Nat → Nat → Int32 → mM → Option (Unit × mM)
  | 0, _, _, _, _ => none
  | fu + 1, v0, v1, v2, M => ck (okO Z v0 4) (bnd1 (Z.2.2.2 v0 3) (fun c8 => ck (okI Z c8) (if (Int32.ofNat (Z.2.2.1 c8)) ≤ v2 then fX4_copyFrom_80 N Z N v0 v1 (0 : Int32) M else ck (okO Z v1 4) (bnd1 (Z.2.2.2 v1 3) (fun c39 => bnd2 (fX8_at N Z c39 v2 M) (fun r40 M40 => ck (okO Z c8 20) (ck (inB v2 (Z.2.2.1 c8)) (fX4_copyFrom_49 N Z fu v0 v1 (v2 + (1 : Int32)) (sI M40 c8 (v2).toNatClampNeg r40)))))))))
set_option maxHeartbeats 4000000 in
set_option maxRecDepth 100000 in
theorem tX4_copyFrom_49 {G : mG} {p : Program} {l : Launch} {e : Env} {s : State} {m : MethodId} {args : Array Value} {below : List Frame} {meth : Method} {c : Code} (C : Cx G p l s m args meth c RX4 cX4_copyFrom 3 none []) (hnm : meth.name = yX4_copyFrom.name) (N : Nat) (Z : mZ) : ∀ (fu : Nat) (v0 : Nat) (v1 : Nat) (v2 : Int32) (M : mM) (r : Unit) (M' : mM), fX4_copyFrom_49 N Z fu v0 v1 v2 M = some (r, M') → JJ G p l e rmX4_copyFrom s m args below meth c 3 (mEnd G below args s rmX4_copyFrom (.inl none) Z M') 0 0 49 [(0, .ref v0), (1, .ref v1), (2, .int v2)] [] Z M := by
  intro fu
  induction fu with
  | zero =>
    intro v0 v1 v2 M r M' h
    cases h
  | succ fu ih =>
    intro v0 v1 v2 M r M' h
    rw [fX4_copyFrom_49] at h
    refine j_iload_n C dX4_copyFrom_49 rfl 2 rfl ?_
    refine j_aload_n C dX4_copyFrom_50 rfl 0 rfl ?_
    obtain ⟨ho7, h⟩ := ck_spec h
    obtain ⟨c8, hr8, h⟩ := bnd1_spec h
    refine j_getR C (cn := RX4) (T := TX4) (N := 7) (ci := 4) rfl iX4 ho7 3 (by decide) rfl fwRX4_22 dX4_copyFrom_51 hr8 ?_
    obtain ⟨ho9, h⟩ := ck_spec h
    refine j_alen C ho9 dX4_copyFrom_54 ?_
    refine j_icmp_ge C dX4_copyFrom_55 (tgt := 78) (by decide) (fun hc10 => ?_) (fun hc10 => ?_)
    · rw [if_pos hc10] at h
      refine j_iconst C dX4_copyFrom_78 (v := (0 : Int32)) (by decide) ?_
      refine j_istore_n C dX4_copyFrom_79 rfl (by decide) (L' := [(2, .int (0 : Int32)), (0, .ref v0), (1, .ref v1)]) rfl ?_
      refine j_sub (L' := [(0, .ref v0), (1, .ref v1), (2, .int (0 : Int32))]) [1, 2, 0] rfl ?_
      exact tX4_copyFrom_80 C hnm N Z N v0 v1 (0 : Int32) M _ _ h
    · rw [if_neg hc10] at h
      refine j_aload_n C dX4_copyFrom_58 rfl 0 rfl ?_
      refine j_getR C (cn := RX4) (T := TX4) (N := 7) (ci := 4) rfl iX4 ho7 3 (by decide) rfl fwRX4_22 dX4_copyFrom_59 hr8 ?_
      refine j_iload_n C dX4_copyFrom_62 rfl 2 rfl ?_
      refine j_aload_n C dX4_copyFrom_63 rfl 1 rfl ?_
      obtain ⟨ho38, h⟩ := ck_spec h
      obtain ⟨c39, hr39, h⟩ := bnd1_spec h
      refine j_getR C (cn := RX4) (T := TX4) (N := 7) (ci := 4) rfl iX4 ho38 3 (by decide) rfl fwRX4_22 dX4_copyFrom_64 hr39 ?_
      refine j_iload_n C dX4_copyFrom_67 rfl 2 rfl ?_
      obtain ⟨r40, M40, hq40, h⟩ := bnd2_spec h
      refine j_run1 (c_SN C (As := [.ref c39, .int v2]) (rest := [.int v2, .ref c8]) (ctX8_at C.2.2.2.2.2.2.2.2.1 N Z hq40) kcRX4_41 oyX8_at ⟨by decide, by decide⟩ ⟨by decide, by decide⟩ (Nat.le_of_ble_eq_true rfl) rfl dX4_copyFrom_68) ?_
      obtain ⟨ho41, h⟩ := ck_spec h
      obtain ⟨ho42, h⟩ := ck_spec h
      refine j_iast C ho41 ho42 dX4_copyFrom_71 ?_
      refine j_iinc C dX4_copyFrom_72 2 rfl (v := (v2 + (1 : Int32))) (by first | rfl | decide) (by decide) (L' := [(2, .int (v2 + (1 : Int32))), (0, .ref v0), (1, .ref v1)]) rfl ?_
      refine j_goto C dX4_copyFrom_75 (tgt := 49) (by decide) ?_
      refine j_sub (L' := [(0, .ref v0), (1, .ref v1), (2, .int (v2 + (1 : Int32)))]) [1, 2, 0] rfl ?_
      exact ih v0 v1 (v2 + (1 : Int32)) (sI M40 c8 (v2).toNatClampNeg r40) r M' h
def fX4_copyFrom_18 (N : Nat) (Z : mZ) : Nat → Nat → Nat → Int32 → mM → Option (Unit × mM)
  | 0, _, _, _, _ => none
  | fu + 1, v0, v1, v2, M => ck (okO Z v0 4) (bnd1 (Z.2.2.2 v0 2) (fun c4 => ck (okI Z c4) (if (Int32.ofNat (Z.2.2.1 c4)) ≤ v2 then fX4_copyFrom_49 N Z N v0 v1 (0 : Int32) M else ck (okO Z v1 4) (bnd1 (Z.2.2.2 v1 2) (fun c44 => bnd2 (fX8_at N Z c44 v2 M) (fun r45 M45 => ck (okO Z c4 20) (ck (inB v2 (Z.2.2.1 c4)) (fX4_copyFrom_18 N Z fu v0 v1 (v2 + (1 : Int32)) (sI M45 c4 (v2).toNatClampNeg r45)))))))))
set_option maxHeartbeats 4000000 in
set_option maxRecDepth 100000 in
theorem tX4_copyFrom_18 {G : mG} {p : Program} {l : Launch} {e : Env} {s : State} {m : MethodId} {args : Array Value} {below : List Frame} {meth : Method} {c : Code} (C : Cx G p l s m args meth c RX4 cX4_copyFrom 3 none []) (hnm : meth.name = yX4_copyFrom.name) (N : Nat) (Z : mZ) : ∀ (fu : Nat) (v0 : Nat) (v1 : Nat) (v2 : Int32) (M : mM) (r : Unit) (M' : mM), fX4_copyFrom_18 N Z fu v0 v1 v2 M = some (r, M') → JJ G p l e rmX4_copyFrom s m args below meth c 3 (mEnd G below args s rmX4_copyFrom (.inl none) Z M') 0 0 18 [(0, .ref v0), (1, .ref v1), (2, .int v2)] [] Z M := by
  intro fu
  induction fu with
  | zero =>
    intro v0 v1 v2 M r M' h
    cases h
  | succ fu ih =>
    intro v0 v1 v2 M r M' h
    rw [fX4_copyFrom_18] at h
    refine j_iload_n C dX4_copyFrom_18 rfl 2 rfl ?_
    refine j_aload_n C dX4_copyFrom_19 rfl 0 rfl ?_
    obtain ⟨ho3, h⟩ := ck_spec h
    obtain ⟨c4, hr4, h⟩ := bnd1_spec h
    refine j_getR C (cn := RX4) (T := TX4) (N := 7) (ci := 4) rfl iX4 ho3 2 (by decide) rfl fwRX4_18 dX4_copyFrom_20 hr4 ?_
    obtain ⟨ho5, h⟩ := ck_spec h
    refine j_alen C ho5 dX4_copyFrom_23 ?_
    refine j_icmp_ge C dX4_copyFrom_24 (tgt := 47) (by decide) (fun hc6 => ?_) (fun hc6 => ?_)
    · rw [if_pos hc6] at h
      refine j_iconst C dX4_copyFrom_47 (v := (0 : Int32)) (by decide) ?_
      refine j_istore_n C dX4_copyFrom_48 rfl (by decide) (L' := [(2, .int (0 : Int32)), (0, .ref v0), (1, .ref v1)]) rfl ?_
      refine j_sub (L' := [(0, .ref v0), (1, .ref v1), (2, .int (0 : Int32))]) [1, 2, 0] rfl ?_
      exact tX4_copyFrom_49 C hnm N Z N v0 v1 (0 : Int32) M _ _ h
    · rw [if_neg hc6] at h
      refine j_aload_n C dX4_copyFrom_27 rfl 0 rfl ?_
      refine j_getR C (cn := RX4) (T := TX4) (N := 7) (ci := 4) rfl iX4 ho3 2 (by decide) rfl fwRX4_18 dX4_copyFrom_28 hr4 ?_
      refine j_iload_n C dX4_copyFrom_31 rfl 2 rfl ?_
      refine j_aload_n C dX4_copyFrom_32 rfl 1 rfl ?_
      obtain ⟨ho43, h⟩ := ck_spec h
      obtain ⟨c44, hr44, h⟩ := bnd1_spec h
      refine j_getR C (cn := RX4) (T := TX4) (N := 7) (ci := 4) rfl iX4 ho43 2 (by decide) rfl fwRX4_18 dX4_copyFrom_33 hr44 ?_
      refine j_iload_n C dX4_copyFrom_36 rfl 2 rfl ?_
      obtain ⟨r45, M45, hq45, h⟩ := bnd2_spec h
      refine j_run1 (c_SN C (As := [.ref c44, .int v2]) (rest := [.int v2, .ref c4]) (ctX8_at C.2.2.2.2.2.2.2.2.1 N Z hq45) kcRX4_41 oyX8_at ⟨by decide, by decide⟩ ⟨by decide, by decide⟩ (Nat.le_of_ble_eq_true rfl) rfl dX4_copyFrom_37) ?_
      obtain ⟨ho46, h⟩ := ck_spec h
      obtain ⟨ho47, h⟩ := ck_spec h
      refine j_iast C ho46 ho47 dX4_copyFrom_40 ?_
      refine j_iinc C dX4_copyFrom_41 2 rfl (v := (v2 + (1 : Int32))) (by first | rfl | decide) (by decide) (L' := [(2, .int (v2 + (1 : Int32))), (0, .ref v0), (1, .ref v1)]) rfl ?_
      refine j_goto C dX4_copyFrom_44 (tgt := 18) (by decide) ?_
      refine j_sub (L' := [(0, .ref v0), (1, .ref v1), (2, .int (v2 + (1 : Int32)))]) [1, 2, 0] rfl ?_
      exact ih v0 v1 (v2 + (1 : Int32)) (sI M45 c4 (v2).toNatClampNeg r45) r M' h
def fX4_copyFrom (N : Nat) (Z : mZ) (a0 : Nat) (a1 : Nat) (M : mM) : Option (Unit × mM) := ck (okO Z a1 4) (ck (okO Z a0 4) (fX4_copyFrom_18 N Z N a0 a1 (0 : Int32) (sI (sI M a0 0 (M.1 a1 0)) a0 1 ((sI M a0 0 (M.1 a1 0)).1 a1 1))))
set_option maxHeartbeats 4000000 in
set_option maxRecDepth 100000 in
theorem ctX4_copyFrom {G : mG} {l : Launch} (hl : l.stackTraces = false) (N : Nat) (Z : mZ) {a0 : Nat} {a1 : Nat} {M : mM} {r : Unit} {M' : mM} (h : fX4_copyFrom N Z a0 a1 M = some (r, M')) : CT G l yX4_copyFrom (.code yX4_copyFrom cX4_copyFrom 3 none) rmX4_copyFrom [.ref a0, .ref a1] Z M (.inl none) Z M' := by
  unfold fX4_copyFrom at h
  refine CT.of hl (by decide) (Nat.le_of_ble_eq_true rfl) ?_
  intro p e s m args below meth c C hnm
  refine j_sub (L' := [(0, .ref a0), (1, .ref a1)]) [0, 1] rfl ?_
  refine j_aload_n C dX4_copyFrom_0 rfl 0 rfl ?_
  refine j_aload_n C dX4_copyFrom_1 rfl 1 rfl ?_
  obtain ⟨ho1, h⟩ := ck_spec h
  refine j_getI C (cn := RX4) (T := TX4) (N := 7) (ci := 4) rfl iX4 ho1 0 (by decide) rfl fwRX4_9 dX4_copyFrom_2 ?_
  obtain ⟨ho2, h⟩ := ck_spec h
  refine j_putI C tyX4 tyX4_ok nmX4 (cn := RX4) (T := TX4) (N := 7) (ci := 4) rfl iX4 ho2 0 (by decide) rfl fwRX4_9 ⟨rfl, rfl⟩ dX4_copyFrom_5 ?_
  refine j_aload_n C dX4_copyFrom_8 rfl 0 rfl ?_
  refine j_aload_n C dX4_copyFrom_9 rfl 1 rfl ?_
  refine j_getI C (cn := RX4) (T := TX4) (N := 7) (ci := 4) rfl iX4 ho1 1 (by decide) rfl fwRX4_15 dX4_copyFrom_10 ?_
  refine j_putI C tyX4 tyX4_ok nmX4 (cn := RX4) (T := TX4) (N := 7) (ci := 4) rfl iX4 ho2 1 (by decide) rfl fwRX4_15 ⟨rfl, rfl⟩ dX4_copyFrom_13 ?_
  refine j_iconst C dX4_copyFrom_16 (v := (0 : Int32)) (by decide) ?_
  refine j_istore_n C dX4_copyFrom_17 rfl (by decide) (L' := [(2, .int (0 : Int32)), (0, .ref a0), (1, .ref a1)]) rfl ?_
  refine j_sub (L' := [(0, .ref a0), (1, .ref a1), (2, .int (0 : Int32))]) [1, 2, 0] rfl ?_
  exact tX4_copyFrom_18 C hnm N Z N a0 a1 (0 : Int32) (sI (sI M a0 0 (M.1 a1 0)) a0 1 ((sI M a0 0 (M.1 a1 0)).1 a1 1)) _ _ h
-- ScaffoldPlanner write
abbrev rmX8_write : Room := { frames := 0, cells := 0, slots := 0, locals := 0 }
theorem dX8_write_0 : decode cX8_write 0 = .ok (.iload_n 1, 1) := by decide +kernel
theorem dX8_write_1 : decode cX8_write 1 = .ok (.ifCond .lt 13, 3) := by decide +kernel
theorem dX8_write_4 : decode cX8_write 4 = .ok (.iload_n 1, 1) := by decide +kernel
theorem dX8_write_5 : decode cX8_write 5 = .ok (.aload_n 0, 1) := by decide +kernel
theorem dX8_write_6 : decode cX8_write 6 = .ok (.arraylength, 1) := by decide +kernel
theorem dX8_write_7 : decode cX8_write 7 = .ok (.if_icmp .ge 7, 3) := by decide +kernel
theorem dX8_write_10 : decode cX8_write 10 = .ok (.aload_n 0, 1) := by decide +kernel
theorem dX8_write_11 : decode cX8_write 11 = .ok (.iload_n 1, 1) := by decide +kernel
theorem dX8_write_12 : decode cX8_write 12 = .ok (.iload_n 2, 1) := by decide +kernel
theorem dX8_write_13 : decode cX8_write 13 = .ok (.iastore, 1) := by decide +kernel
theorem dX8_write_14 : decode cX8_write 14 = .ok (.return_, 1) := by decide +kernel
def fX8_write (N : Nat) (Z : mZ) (a0 : Nat) (a1 : Int32) (a2 : Int32) (M : mM) : Option (Unit × mM) := if a1 < 0 then some ((), M) else ck (okI Z a0) (if (Int32.ofNat (Z.2.2.1 a0)) ≤ a1 then some ((), M) else ck (okO Z a0 20) (ck (inB a1 (Z.2.2.1 a0)) (some ((), (sI M a0 (a1).toNatClampNeg a2)))))
set_option maxHeartbeats 4000000 in
set_option maxRecDepth 100000 in
theorem ctX8_write {G : mG} {l : Launch} (hl : l.stackTraces = false) (N : Nat) (Z : mZ) {a0 : Nat} {a1 : Int32} {a2 : Int32} {M : mM} {r : Unit} {M' : mM} (h : fX8_write N Z a0 a1 a2 M = some (r, M')) : CT G l yX8_write (.code yX8_write cX8_write 3 none) rmX8_write [.ref a0, .int a1, .int a2] Z M (.inl none) Z M' := by
  unfold fX8_write at h
  refine CT.of hl (by decide) (Nat.le_of_ble_eq_true rfl) ?_
  intro p e s m args below meth c C hnm
  refine j_sub (L' := [(0, .ref a0), (1, .int a1), (2, .int a2)]) [0, 1, 2] rfl ?_
  refine j_iload_n C dX8_write_0 rfl 1 rfl ?_
  refine j_if_lt C dX8_write_1 (tgt := 14) (by decide) (fun hc1 => ?_) (fun hc1 => ?_)
  · rw [if_pos hc1] at h
    cases h
    exact j_vret C rfl (by decide) (by decide) dX8_write_14
  · rw [if_neg hc1] at h
    refine j_iload_n C dX8_write_4 rfl 1 rfl ?_
    refine j_aload_n C dX8_write_5 rfl 0 rfl ?_
    obtain ⟨ho2, h⟩ := ck_spec h
    refine j_alen C ho2 dX8_write_6 ?_
    refine j_icmp_ge C dX8_write_7 (tgt := 14) (by decide) (fun hc3 => ?_) (fun hc3 => ?_)
    · rw [if_pos hc3] at h
      cases h
      exact j_vret C rfl (by decide) (by decide) dX8_write_14
    · rw [if_neg hc3] at h
      refine j_aload_n C dX8_write_10 rfl 0 rfl ?_
      refine j_iload_n C dX8_write_11 rfl 1 rfl ?_
      refine j_iload_n C dX8_write_12 rfl 2 rfl ?_
      obtain ⟨ho4, h⟩ := ck_spec h
      obtain ⟨ho5, h⟩ := ck_spec h
      refine j_iast C ho4 ho5 dX8_write_13 ?_
      cases h
      exact j_vret C rfl (by decide) (by decide) dX8_write_14
-- ScaffoldPlanner$Plan levelsWith
abbrev rmX4_levelsWith : Room := { frames := 0, cells := 0, slots := 0, locals := 0 }
theorem dX4_levelsWith_0 : decode cX4_levelsWith 0 = .ok (.iload_n 1, 1) := by decide +kernel
theorem dX4_levelsWith_1 : decode cX4_levelsWith 1 = .ok (.bipush 10, 2) := by decide +kernel
theorem dX4_levelsWith_3 : decode cX4_levelsWith 3 = .ok (.imul, 1) := by decide +kernel
theorem dX4_levelsWith_4 : decode cX4_levelsWith 4 = .ok (.iload_n 2, 1) := by decide +kernel
theorem dX4_levelsWith_5 : decode cX4_levelsWith 5 = .ok (.iadd, 1) := by decide +kernel
theorem dX4_levelsWith_6 : decode cX4_levelsWith 6 = .ok (.istore_n 3, 1) := by decide +kernel
theorem dX4_levelsWith_7 : decode cX4_levelsWith 7 = .ok (.iload_n 3, 1) := by decide +kernel
theorem dX4_levelsWith_8 : decode cX4_levelsWith 8 = .ok (.ifCond .lt 21, 3) := by decide +kernel
theorem dX4_levelsWith_11 : decode cX4_levelsWith 11 = .ok (.iload_n 3, 1) := by decide +kernel
theorem dX4_levelsWith_12 : decode cX4_levelsWith 12 = .ok (.aload_n 0, 1) := by decide +kernel
theorem dX4_levelsWith_13 : decode cX4_levelsWith 13 = .ok (.getfield 22, 3) := by decide +kernel
theorem dX4_levelsWith_16 : decode cX4_levelsWith 16 = .ok (.arraylength, 1) := by decide +kernel
theorem dX4_levelsWith_17 : decode cX4_levelsWith 17 = .ok (.if_icmp .ge 12, 3) := by decide +kernel
theorem dX4_levelsWith_20 : decode cX4_levelsWith 20 = .ok (.aload_n 0, 1) := by decide +kernel
theorem dX4_levelsWith_21 : decode cX4_levelsWith 21 = .ok (.getfield 22, 3) := by decide +kernel
theorem dX4_levelsWith_24 : decode cX4_levelsWith 24 = .ok (.iload_n 3, 1) := by decide +kernel
theorem dX4_levelsWith_25 : decode cX4_levelsWith 25 = .ok (.iaload, 1) := by decide +kernel
theorem dX4_levelsWith_26 : decode cX4_levelsWith 26 = .ok (.goto 4, 3) := by decide +kernel
theorem dX4_levelsWith_29 : decode cX4_levelsWith 29 = .ok (.iconst 0, 1) := by decide +kernel
theorem dX4_levelsWith_30 : decode cX4_levelsWith 30 = .ok (.ireturn, 1) := by decide +kernel
def fX4_levelsWith (N : Nat) (Z : mZ) (a0 : Nat) (a1 : Int32) (a2 : Int32) (M : mM) : Option (Int32 × mM) := if ((a1 * (10 : Int32)) + a2) < 0 then some ((0 : Int32), M) else ck (okO Z a0 4) (bnd1 (Z.2.2.2 a0 3) (fun c3 => ck (okI Z c3) (if (Int32.ofNat (Z.2.2.1 c3)) ≤ ((a1 * (10 : Int32)) + a2) then some ((0 : Int32), M) else ck (inB ((a1 * (10 : Int32)) + a2) (Z.2.2.1 c3)) (some ((M.1 c3 (((a1 * (10 : Int32)) + a2)).toNatClampNeg), M)))))
set_option maxHeartbeats 4000000 in
set_option maxRecDepth 100000 in
theorem ctX4_levelsWith {G : mG} {l : Launch} (hl : l.stackTraces = false) (N : Nat) (Z : mZ) {a0 : Nat} {a1 : Int32} {a2 : Int32} {M : mM} {r : Int32} {M' : mM} (h : fX4_levelsWith N Z a0 a1 a2 M = some (r, M')) : CT G l yX4_levelsWith (.code yX4_levelsWith cX4_levelsWith 4 (some .int)) rmX4_levelsWith [.ref a0, .int a1, .int a2] Z M (.inl (some (.int r))) Z M' := by
  unfold fX4_levelsWith at h
  refine CT.of hl (by decide) (Nat.le_of_ble_eq_true rfl) ?_
  intro p e s m args below meth c C hnm
  refine j_sub (L' := [(0, .ref a0), (1, .int a1), (2, .int a2)]) [0, 1, 2] rfl ?_
  refine j_iload_n C dX4_levelsWith_0 rfl 1 rfl ?_
  refine j_bipush C dX4_levelsWith_1 (v := (10 : Int32)) (by decide) ?_
  refine j_imul C dX4_levelsWith_3 ?_
  refine j_iload_n C dX4_levelsWith_4 rfl 2 rfl ?_
  refine j_iadd C dX4_levelsWith_5 ?_
  refine j_istore_n C dX4_levelsWith_6 rfl (by decide) (L' := [(3, .int ((a1 * (10 : Int32)) + a2)), (0, .ref a0), (1, .int a1), (2, .int a2)]) rfl ?_
  refine j_iload_n C dX4_levelsWith_7 rfl 0 rfl ?_
  refine j_if_lt C dX4_levelsWith_8 (tgt := 29) (by decide) (fun hc1 => ?_) (fun hc1 => ?_)
  · rw [if_pos hc1] at h
    refine j_iconst C dX4_levelsWith_29 (v := (0 : Int32)) (by decide) ?_
    cases h
    exact j_iret C rfl (by decide) (by decide) dX4_levelsWith_30
  · rw [if_neg hc1] at h
    refine j_iload_n C dX4_levelsWith_11 rfl 0 rfl ?_
    refine j_aload_n C dX4_levelsWith_12 rfl 1 rfl ?_
    obtain ⟨ho2, h⟩ := ck_spec h
    obtain ⟨c3, hr3, h⟩ := bnd1_spec h
    refine j_getR C (cn := RX4) (T := TX4) (N := 7) (ci := 4) rfl iX4 ho2 3 (by decide) rfl fwRX4_22 dX4_levelsWith_13 hr3 ?_
    obtain ⟨ho4, h⟩ := ck_spec h
    refine j_alen C ho4 dX4_levelsWith_16 ?_
    refine j_icmp_ge C dX4_levelsWith_17 (tgt := 29) (by decide) (fun hc5 => ?_) (fun hc5 => ?_)
    · rw [if_pos hc5] at h
      refine j_iconst C dX4_levelsWith_29 (v := (0 : Int32)) (by decide) ?_
      cases h
      exact j_iret C rfl (by decide) (by decide) dX4_levelsWith_30
    · rw [if_neg hc5] at h
      refine j_aload_n C dX4_levelsWith_20 rfl 1 rfl ?_
      refine j_getR C (cn := RX4) (T := TX4) (N := 7) (ci := 4) rfl iX4 ho2 3 (by decide) rfl fwRX4_22 dX4_levelsWith_21 hr3 ?_
      refine j_iload_n C dX4_levelsWith_24 rfl 0 rfl ?_
      obtain ⟨ho6, h⟩ := ck_spec h
      refine j_iald C ho4 ho6 dX4_levelsWith_25 ?_
      refine j_goto C dX4_levelsWith_26 (tgt := 30) (by decide) ?_
      cases h
      exact j_iret C rfl (by decide) (by decide) dX4_levelsWith_30
-- ScaffoldPlanner$Ways isStepTaken
theorem kcRX6_46 : okSN RX6 46 yX8_at "ScaffoldPlanner" (.code yX8_at cX8_at 2 (some .int)) = true := by decide +kernel
theorem kcRX6_24 : okSN RX6 24 yX8_write "ScaffoldPlanner" (.code yX8_write cX8_write 3 none) = true := by decide +kernel
theorem oyX8_write : okY yX8_write 3 := ⟨by decide +kernel, by decide +kernel, by decide +kernel⟩
abbrev rmX6_isStepTaken : Room := { frames := 1, cells := 0, slots := 0, locals := 22 }
theorem dX6_isStepTaken_0 : decode cX6_isStepTaken 0 = .ok (.iconst 0, 1) := by decide +kernel
theorem dX6_isStepTaken_1 : decode cX6_isStepTaken 1 = .ok (.istore_n 2, 1) := by decide +kernel
theorem dX6_isStepTaken_2 : decode cX6_isStepTaken 2 = .ok (.iconst 0, 1) := by decide +kernel
theorem dX6_isStepTaken_3 : decode cX6_isStepTaken 3 = .ok (.istore_n 3, 1) := by decide +kernel
theorem dX6_isStepTaken_4 : decode cX6_isStepTaken 4 = .ok (.iload_n 3, 1) := by decide +kernel
theorem dX6_isStepTaken_5 : decode cX6_isStepTaken 5 = .ok (.bipush 10, 2) := by decide +kernel
theorem dX6_isStepTaken_7 : decode cX6_isStepTaken 7 = .ok (.if_icmp .ge 99, 3) := by decide +kernel
theorem dX6_isStepTaken_10 : decode cX6_isStepTaken 10 = .ok (.aload_n 0, 1) := by decide +kernel
theorem dX6_isStepTaken_11 : decode cX6_isStepTaken 11 = .ok (.getfield 21, 3) := by decide +kernel
theorem dX6_isStepTaken_14 : decode cX6_isStepTaken 14 = .ok (.iload_n 3, 1) := by decide +kernel
theorem dX6_isStepTaken_15 : decode cX6_isStepTaken 15 = .ok (.invokestatic 46, 3) := by decide +kernel
theorem dX6_isStepTaken_18 : decode cX6_isStepTaken 18 = .ok (.istore 4, 2) := by decide +kernel
theorem dX6_isStepTaken_20 : decode cX6_isStepTaken 20 = .ok (.aload_n 0, 1) := by decide +kernel
theorem dX6_isStepTaken_21 : decode cX6_isStepTaken 21 = .ok (.getfield 18, 3) := by decide +kernel
theorem dX6_isStepTaken_24 : decode cX6_isStepTaken 24 = .ok (.iload_n 3, 1) := by decide +kernel
theorem dX6_isStepTaken_25 : decode cX6_isStepTaken 25 = .ok (.iload 4, 2) := by decide +kernel
theorem dX6_isStepTaken_27 : decode cX6_isStepTaken 27 = .ok (.invokestatic 24, 3) := by decide +kernel
theorem dX6_isStepTaken_30 : decode cX6_isStepTaken 30 = .ok (.aload_n 0, 1) := by decide +kernel
theorem dX6_isStepTaken_31 : decode cX6_isStepTaken 31 = .ok (.getfield 9, 3) := by decide +kernel
theorem dX6_isStepTaken_34 : decode cX6_isStepTaken 34 = .ok (.iload_n 3, 1) := by decide +kernel
theorem dX6_isStepTaken_35 : decode cX6_isStepTaken 35 = .ok (.aload_n 0, 1) := by decide +kernel
theorem dX6_isStepTaken_36 : decode cX6_isStepTaken 36 = .ok (.getfield 9, 3) := by decide +kernel
theorem dX6_isStepTaken_39 : decode cX6_isStepTaken 39 = .ok (.iload_n 3, 1) := by decide +kernel
theorem dX6_isStepTaken_40 : decode cX6_isStepTaken 40 = .ok (.invokestatic 46, 3) := by decide +kernel
theorem dX6_isStepTaken_43 : decode cX6_isStepTaken 43 = .ok (.iload 4, 2) := by decide +kernel
theorem dX6_isStepTaken_45 : decode cX6_isStepTaken 45 = .ok (.ior, 1) := by decide +kernel
theorem dX6_isStepTaken_46 : decode cX6_isStepTaken 46 = .ok (.invokestatic 24, 3) := by decide +kernel
theorem dX6_isStepTaken_49 : decode cX6_isStepTaken 49 = .ok (.iload 4, 2) := by decide +kernel
theorem dX6_isStepTaken_51 : decode cX6_isStepTaken 51 = .ok (.ifCond .ne 6, 3) := by decide +kernel
theorem dX6_isStepTaken_54 : decode cX6_isStepTaken 54 = .ok (.goto 46, 3) := by decide +kernel
theorem dX6_isStepTaken_57 : decode cX6_isStepTaken 57 = .ok (.iconst 1, 1) := by decide +kernel
theorem dX6_isStepTaken_58 : decode cX6_isStepTaken 58 = .ok (.istore_n 2, 1) := by decide +kernel
theorem dX6_isStepTaken_59 : decode cX6_isStepTaken 59 = .ok (.iconst 1, 1) := by decide +kernel
theorem dX6_isStepTaken_60 : decode cX6_isStepTaken 60 = .ok (.istore 5, 2) := by decide +kernel
theorem dX6_isStepTaken_62 : decode cX6_isStepTaken 62 = .ok (.iload 5, 2) := by decide +kernel
theorem dX6_isStepTaken_64 : decode cX6_isStepTaken 64 = .ok (.bipush 6, 2) := by decide +kernel
theorem dX6_isStepTaken_66 : decode cX6_isStepTaken 66 = .ok (.if_icmp .gt 34, 3) := by decide +kernel
theorem dX6_isStepTaken_69 : decode cX6_isStepTaken 69 = .ok (.iload 4, 2) := by decide +kernel
theorem dX6_isStepTaken_71 : decode cX6_isStepTaken 71 = .ok (.iload 5, 2) := by decide +kernel
theorem dX6_isStepTaken_73 : decode cX6_isStepTaken 73 = .ok (.ishr, 1) := by decide +kernel
theorem dX6_isStepTaken_74 : decode cX6_isStepTaken 74 = .ok (.iconst 1, 1) := by decide +kernel
theorem dX6_isStepTaken_75 : decode cX6_isStepTaken 75 = .ok (.iand, 1) := by decide +kernel
theorem dX6_isStepTaken_76 : decode cX6_isStepTaken 76 = .ok (.ifCond .eq 18, 3) := by decide +kernel
theorem dX6_isStepTaken_79 : decode cX6_isStepTaken 79 = .ok (.aload_n 0, 1) := by decide +kernel
theorem dX6_isStepTaken_80 : decode cX6_isStepTaken 80 = .ok (.getfield 15, 3) := by decide +kernel
theorem dX6_isStepTaken_83 : decode cX6_isStepTaken 83 = .ok (.iload_n 3, 1) := by decide +kernel
theorem dX6_isStepTaken_84 : decode cX6_isStepTaken 84 = .ok (.bipush 7, 2) := by decide +kernel
theorem dX6_isStepTaken_86 : decode cX6_isStepTaken 86 = .ok (.imul, 1) := by decide +kernel
theorem dX6_isStepTaken_87 : decode cX6_isStepTaken 87 = .ok (.iload 5, 2) := by decide +kernel
theorem dX6_isStepTaken_89 : decode cX6_isStepTaken 89 = .ok (.iadd, 1) := by decide +kernel
theorem dX6_isStepTaken_90 : decode cX6_isStepTaken 90 = .ok (.iload_n 1, 1) := by decide +kernel
theorem dX6_isStepTaken_91 : decode cX6_isStepTaken 91 = .ok (.invokestatic 24, 3) := by decide +kernel
theorem dX6_isStepTaken_94 : decode cX6_isStepTaken 94 = .ok (.iinc 5 1, 3) := by decide +kernel
theorem dX6_isStepTaken_97 : decode cX6_isStepTaken 97 = .ok (.goto (-35), 3) := by decide +kernel
theorem dX6_isStepTaken_100 : decode cX6_isStepTaken 100 = .ok (.iinc 3 1, 3) := by decide +kernel
theorem dX6_isStepTaken_103 : decode cX6_isStepTaken 103 = .ok (.goto (-99), 3) := by decide +kernel
theorem dX6_isStepTaken_106 : decode cX6_isStepTaken 106 = .ok (.iload_n 2, 1) := by decide +kernel
theorem dX6_isStepTaken_107 : decode cX6_isStepTaken 107 = .ok (.ireturn, 1) := by decide +kernel
def fX6_isStepTaken_62 (N : Nat) (Z : mZ) (K4 : Nat → Int32 → Int32 → Int32 → mM → Option (Int32 × mM)) : Nat → Nat → Int32 → Int32 → Int32 → Int32 → Int32 → mM → Option (Int32 × mM)
  | 0, _, _, _, _, _, _, _ => none
  | fu + 1, v0, v1, v2, v3, v4, v5, M => if (6 : Int32) < v5 then K4 v0 v1 v2 (v3 + (1 : Int32)) M else if ((v4 >>> (v5 &&& 31)) &&& (1 : Int32)) = 0 then fX6_isStepTaken_62 N Z K4 fu v0 v1 v2 v3 v4 (v5 + (1 : Int32)) M else ck (okO Z v0 6) (bnd1 (Z.2.2.2 v0 1) (fun c15 => bnd2 (fX8_write N Z c15 ((v3 * (7 : Int32)) + v5) v1 M) (fun _ M16 => fX6_isStepTaken_62 N Z K4 fu v0 v1 v2 v3 v4 (v5 + (1 : Int32)) M16)))
set_option maxHeartbeats 4000000 in
set_option maxRecDepth 100000 in
theorem tX6_isStepTaken_62 {G : mG} {p : Program} {l : Launch} {e : Env} {s : State} {m : MethodId} {args : Array Value} {below : List Frame} {meth : Method} {c : Code} (C : Cx G p l s m args meth c RX6 cX6_isStepTaken 6 (some .boolean) []) (hnm : meth.name = yX6_isStepTaken.name) (N : Nat) (Z : mZ) (K4 : Nat → Int32 → Int32 → Int32 → mM → Option (Int32 × mM)) (hK4 : ∀ (v0 : Nat) (v1 : Int32) (v2 : Int32) (v3 : Int32) (M : mM) (r : Int32) (M' : mM), K4 v0 v1 v2 v3 M = some (r, M') → JJ G p l e rmX6_isStepTaken s m args below meth c 6 (mEnd G below args s rmX6_isStepTaken (.inl (some (.int r))) Z M') 0 0 4 [(0, .ref v0), (1, .int v1), (2, .int v2), (3, .int v3)] [] Z M) : ∀ (fu : Nat) (v0 : Nat) (v1 : Int32) (v2 : Int32) (v3 : Int32) (v4 : Int32) (v5 : Int32) (M : mM) (r : Int32) (M' : mM), fX6_isStepTaken_62 N Z K4 fu v0 v1 v2 v3 v4 v5 M = some (r, M') → JJ G p l e rmX6_isStepTaken s m args below meth c 6 (mEnd G below args s rmX6_isStepTaken (.inl (some (.int r))) Z M') 0 0 62 [(0, .ref v0), (1, .int v1), (2, .int v2), (3, .int v3), (4, .int v4), (5, .int v5)] [] Z M := by
  intro fu
  induction fu with
  | zero =>
    intro v0 v1 v2 v3 v4 v5 M r M' h
    cases h
  | succ fu ih =>
    intro v0 v1 v2 v3 v4 v5 M r M' h
    rw [fX6_isStepTaken_62] at h
    refine j_iload C dX6_isStepTaken_62 5 rfl ?_
    refine j_bipush C dX6_isStepTaken_64 (v := (6 : Int32)) (by decide) ?_
    refine j_icmp_gt C dX6_isStepTaken_66 (tgt := 100) (by decide) (fun hc12 => ?_) (fun hc12 => ?_)
    · rw [if_pos hc12] at h
      refine j_iinc C dX6_isStepTaken_100 3 rfl (v := (v3 + (1 : Int32))) (by first | rfl | decide) (by decide) (L' := [(3, .int (v3 + (1 : Int32))), (0, .ref v0), (1, .int v1), (2, .int v2), (4, .int v4), (5, .int v5)]) rfl ?_
      refine j_goto C dX6_isStepTaken_103 (tgt := 4) (by decide) ?_
      refine j_sub (L' := [(0, .ref v0), (1, .int v1), (2, .int v2), (3, .int (v3 + (1 : Int32)))]) [1, 2, 3, 0] rfl ?_
      exact hK4 v0 v1 v2 (v3 + (1 : Int32)) M r M' h
    · rw [if_neg hc12] at h
      refine j_iload C dX6_isStepTaken_69 4 rfl ?_
      refine j_iload C dX6_isStepTaken_71 5 rfl ?_
      refine j_ishr C dX6_isStepTaken_73 ?_
      refine j_iconst C dX6_isStepTaken_74 (v := (1 : Int32)) (by decide) ?_
      refine j_iand C dX6_isStepTaken_75 ?_
      refine j_if_eq C dX6_isStepTaken_76 (tgt := 94) (by decide) (fun hc13 => ?_) (fun hc13 => ?_)
      · rw [if_pos hc13] at h
        refine j_iinc C dX6_isStepTaken_94 5 rfl (v := (v5 + (1 : Int32))) (by first | rfl | decide) (by decide) (L' := [(5, .int (v5 + (1 : Int32))), (0, .ref v0), (1, .int v1), (2, .int v2), (3, .int v3), (4, .int v4)]) rfl ?_
        refine j_goto C dX6_isStepTaken_97 (tgt := 62) (by decide) ?_
        refine j_sub (L' := [(0, .ref v0), (1, .int v1), (2, .int v2), (3, .int v3), (4, .int v4), (5, .int (v5 + (1 : Int32)))]) [1, 2, 3, 4, 5, 0] rfl ?_
        exact ih v0 v1 v2 v3 v4 (v5 + (1 : Int32)) M r M' h
      · rw [if_neg hc13] at h
        refine j_aload_n C dX6_isStepTaken_79 rfl 0 rfl ?_
        obtain ⟨ho14, h⟩ := ck_spec h
        obtain ⟨c15, hr15, h⟩ := bnd1_spec h
        refine j_getR C (cn := RX6) (T := TX6) (N := 4) (ci := 6) rfl iX6 ho14 1 (by decide) rfl fwRX6_15 dX6_isStepTaken_80 hr15 ?_
        refine j_iload_n C dX6_isStepTaken_83 rfl 3 rfl ?_
        refine j_bipush C dX6_isStepTaken_84 (v := (7 : Int32)) (by decide) ?_
        refine j_imul C dX6_isStepTaken_86 ?_
        refine j_iload C dX6_isStepTaken_87 5 rfl ?_
        refine j_iadd C dX6_isStepTaken_89 ?_
        refine j_iload_n C dX6_isStepTaken_90 rfl 1 rfl ?_
        obtain ⟨_, M16, hq16, h⟩ := bnd2_spec h
        refine j_run0 (c_SN C (As := [.ref c15, .int ((v3 * (7 : Int32)) + v5), .int v1]) (rest := []) (ctX8_write C.2.2.2.2.2.2.2.2.1 N Z hq16) kcRX6_24 oyX8_write ⟨by decide, by decide⟩ ⟨by decide, by decide⟩ (Nat.le_of_ble_eq_true rfl) rfl dX6_isStepTaken_91) ?_
        refine j_iinc C dX6_isStepTaken_94 5 rfl (v := (v5 + (1 : Int32))) (by first | rfl | decide) (by decide) (L' := [(5, .int (v5 + (1 : Int32))), (0, .ref v0), (1, .int v1), (2, .int v2), (3, .int v3), (4, .int v4)]) rfl ?_
        refine j_goto C dX6_isStepTaken_97 (tgt := 62) (by decide) ?_
        refine j_sub (L' := [(0, .ref v0), (1, .int v1), (2, .int v2), (3, .int v3), (4, .int v4), (5, .int (v5 + (1 : Int32)))]) [1, 2, 3, 4, 5, 0] rfl ?_
        exact ih v0 v1 v2 v3 v4 (v5 + (1 : Int32)) M16 r M' h
def fX6_isStepTaken_4 (N : Nat) (Z : mZ) : Nat → Nat → Int32 → Int32 → Int32 → mM → Option (Int32 × mM)
  | 0, _, _, _, _, _ => none
  | fu + 1, v0, v1, v2, v3, M => if (10 : Int32) ≤ v3 then ck (isB v2) (some (v2, M)) else ck (okO Z v0 6) (bnd1 (Z.2.2.2 v0 3) (fun c4 => bnd2 (fX8_at N Z c4 v3 M) (fun r5 M5 => bnd1 (Z.2.2.2 v0 2) (fun c6 => bnd2 (fX8_write N Z c6 v3 r5 M5) (fun _ M7 => bnd1 (Z.2.2.2 v0 0) (fun c8 => bnd2 (fX8_at N Z c8 v3 M7) (fun r9 M9 => bnd2 (fX8_write N Z c8 v3 (r9 ||| r5) M9) (fun _ M10 => if r5 = 0 then fX6_isStepTaken_4 N Z fu v0 v1 v2 (v3 + (1 : Int32)) M10 else fX6_isStepTaken_62 N Z (fun w0 w1 w2 w3 M9 => fX6_isStepTaken_4 N Z fu w0 w1 w2 w3 M9) N v0 v1 (1 : Int32) v3 r5 (1 : Int32) M10))))))))
set_option maxHeartbeats 4000000 in
set_option maxRecDepth 100000 in
theorem tX6_isStepTaken_4 {G : mG} {p : Program} {l : Launch} {e : Env} {s : State} {m : MethodId} {args : Array Value} {below : List Frame} {meth : Method} {c : Code} (C : Cx G p l s m args meth c RX6 cX6_isStepTaken 6 (some .boolean) []) (hnm : meth.name = yX6_isStepTaken.name) (N : Nat) (Z : mZ) : ∀ (fu : Nat) (v0 : Nat) (v1 : Int32) (v2 : Int32) (v3 : Int32) (M : mM) (r : Int32) (M' : mM), fX6_isStepTaken_4 N Z fu v0 v1 v2 v3 M = some (r, M') → JJ G p l e rmX6_isStepTaken s m args below meth c 6 (mEnd G below args s rmX6_isStepTaken (.inl (some (.int r))) Z M') 0 0 4 [(0, .ref v0), (1, .int v1), (2, .int v2), (3, .int v3)] [] Z M := by
  intro fu
  induction fu with
  | zero =>
    intro v0 v1 v2 v3 M r M' h
    cases h
  | succ fu ih =>
    intro v0 v1 v2 v3 M r M' h
    rw [fX6_isStepTaken_4] at h
    refine j_iload_n C dX6_isStepTaken_4 rfl 3 rfl ?_
    refine j_bipush C dX6_isStepTaken_5 (v := (10 : Int32)) (by decide) ?_
    refine j_icmp_ge C dX6_isStepTaken_7 (tgt := 106) (by decide) (fun hc1 => ?_) (fun hc1 => ?_)
    · rw [if_pos hc1] at h
      refine j_iload_n C dX6_isStepTaken_106 rfl 2 rfl ?_
      obtain ⟨ho2, h⟩ := ck_spec h
      cases h
      exact j_zret C rfl (isB_spec ho2) (by decide) (by decide) dX6_isStepTaken_107
    · rw [if_neg hc1] at h
      refine j_aload_n C dX6_isStepTaken_10 rfl 0 rfl ?_
      obtain ⟨ho3, h⟩ := ck_spec h
      obtain ⟨c4, hr4, h⟩ := bnd1_spec h
      refine j_getR C (cn := RX6) (T := TX6) (N := 4) (ci := 6) rfl iX6 ho3 3 (by decide) rfl fwRX6_21 dX6_isStepTaken_11 hr4 ?_
      refine j_iload_n C dX6_isStepTaken_14 rfl 3 rfl ?_
      obtain ⟨r5, M5, hq5, h⟩ := bnd2_spec h
      refine j_run1 (c_SN C (As := [.ref c4, .int v3]) (rest := []) (ctX8_at C.2.2.2.2.2.2.2.2.1 N Z hq5) kcRX6_46 oyX8_at ⟨by decide, by decide⟩ ⟨by decide, by decide⟩ (Nat.le_of_ble_eq_true rfl) rfl dX6_isStepTaken_15) ?_
      refine j_istore C dX6_isStepTaken_18 (by decide) (L' := [(4, .int r5), (0, .ref v0), (1, .int v1), (2, .int v2), (3, .int v3)]) rfl ?_
      refine j_aload_n C dX6_isStepTaken_20 rfl 1 rfl ?_
      obtain ⟨c6, hr6, h⟩ := bnd1_spec h
      refine j_getR C (cn := RX6) (T := TX6) (N := 4) (ci := 6) rfl iX6 ho3 2 (by decide) rfl fwRX6_18 dX6_isStepTaken_21 hr6 ?_
      refine j_iload_n C dX6_isStepTaken_24 rfl 4 rfl ?_
      refine j_iload C dX6_isStepTaken_25 0 rfl ?_
      obtain ⟨_, M7, hq7, h⟩ := bnd2_spec h
      refine j_run0 (c_SN C (As := [.ref c6, .int v3, .int r5]) (rest := []) (ctX8_write C.2.2.2.2.2.2.2.2.1 N Z hq7) kcRX6_24 oyX8_write ⟨by decide, by decide⟩ ⟨by decide, by decide⟩ (Nat.le_of_ble_eq_true rfl) rfl dX6_isStepTaken_27) ?_
      refine j_aload_n C dX6_isStepTaken_30 rfl 1 rfl ?_
      obtain ⟨c8, hr8, h⟩ := bnd1_spec h
      refine j_getR C (cn := RX6) (T := TX6) (N := 4) (ci := 6) rfl iX6 ho3 0 (by decide) rfl fwRX6_9 dX6_isStepTaken_31 hr8 ?_
      refine j_iload_n C dX6_isStepTaken_34 rfl 4 rfl ?_
      refine j_aload_n C dX6_isStepTaken_35 rfl 1 rfl ?_
      refine j_getR C (cn := RX6) (T := TX6) (N := 4) (ci := 6) rfl iX6 ho3 0 (by decide) rfl fwRX6_9 dX6_isStepTaken_36 hr8 ?_
      refine j_iload_n C dX6_isStepTaken_39 rfl 4 rfl ?_
      obtain ⟨r9, M9, hq9, h⟩ := bnd2_spec h
      refine j_run1 (c_SN C (As := [.ref c8, .int v3]) (rest := [.int v3, .ref c8]) (ctX8_at C.2.2.2.2.2.2.2.2.1 N Z hq9) kcRX6_46 oyX8_at ⟨by decide, by decide⟩ ⟨by decide, by decide⟩ (Nat.le_of_ble_eq_true rfl) rfl dX6_isStepTaken_40) ?_
      refine j_iload C dX6_isStepTaken_43 0 rfl ?_
      refine j_ior C dX6_isStepTaken_45 ?_
      obtain ⟨_, M10, hq10, h⟩ := bnd2_spec h
      refine j_run0 (c_SN C (As := [.ref c8, .int v3, .int (r9 ||| r5)]) (rest := []) (ctX8_write C.2.2.2.2.2.2.2.2.1 N Z hq10) kcRX6_24 oyX8_write ⟨by decide, by decide⟩ ⟨by decide, by decide⟩ (Nat.le_of_ble_eq_true rfl) rfl dX6_isStepTaken_46) ?_
      refine j_iload C dX6_isStepTaken_49 0 rfl ?_
      refine j_if_ne C dX6_isStepTaken_51 (tgt := 57) (by decide) (fun hc11 => ?_) (fun hc11 => ?_)
      · rw [if_neg hc11] at h
        refine j_iconst C dX6_isStepTaken_57 (v := (1 : Int32)) (by decide) ?_
        refine j_istore_n C dX6_isStepTaken_58 rfl (by decide) (L' := [(2, .int (1 : Int32)), (4, .int r5), (0, .ref v0), (1, .int v1), (3, .int v3)]) rfl ?_
        refine j_iconst C dX6_isStepTaken_59 (v := (1 : Int32)) (by decide) ?_
        refine j_istore C dX6_isStepTaken_60 (by decide) (L' := [(5, .int (1 : Int32)), (2, .int (1 : Int32)), (4, .int r5), (0, .ref v0), (1, .int v1), (3, .int v3)]) rfl ?_
        refine j_sub (L' := [(0, .ref v0), (1, .int v1), (2, .int (1 : Int32)), (3, .int v3), (4, .int r5), (5, .int (1 : Int32))]) [3, 4, 1, 5, 2, 0] rfl ?_
        exact tX6_isStepTaken_62 C hnm N Z (fun w0 w1 w2 w3 M9 => fX6_isStepTaken_4 N Z fu w0 w1 w2 w3 M9) (fun w0 w1 w2 w3 M9 r9 M9' h9 => ih w0 w1 w2 w3 M9 r9 M9' h9) N v0 v1 (1 : Int32) v3 r5 (1 : Int32) M10 _ _ h
      · rw [if_pos hc11] at h
        refine j_goto C dX6_isStepTaken_54 (tgt := 100) (by decide) ?_
        refine j_iinc C dX6_isStepTaken_100 4 rfl (v := (v3 + (1 : Int32))) (by first | rfl | decide) (by decide) (L' := [(3, .int (v3 + (1 : Int32))), (4, .int r5), (0, .ref v0), (1, .int v1), (2, .int v2)]) rfl ?_
        refine j_goto C dX6_isStepTaken_103 (tgt := 4) (by decide) ?_
        refine j_sub (L' := [(0, .ref v0), (1, .int v1), (2, .int v2), (3, .int (v3 + (1 : Int32)))]) [2, 3, 4, 0] rfl ?_
        exact ih v0 v1 v2 (v3 + (1 : Int32)) M10 r M' h
def fX6_isStepTaken (N : Nat) (Z : mZ) (a0 : Nat) (a1 : Int32) (M : mM) : Option (Int32 × mM) := fX6_isStepTaken_4 N Z N a0 a1 (0 : Int32) (0 : Int32) M
set_option maxHeartbeats 4000000 in
set_option maxRecDepth 100000 in
theorem ctX6_isStepTaken {G : mG} {l : Launch} (hl : l.stackTraces = false) (N : Nat) (Z : mZ) {a0 : Nat} {a1 : Int32} {M : mM} {r : Int32} {M' : mM} (h : fX6_isStepTaken N Z a0 a1 M = some (r, M')) : CT G l yX6_isStepTaken (.code yX6_isStepTaken cX6_isStepTaken 6 (some .boolean)) rmX6_isStepTaken [.ref a0, .int a1] Z M (.inl (some (.int r))) Z M' := by
  unfold fX6_isStepTaken at h
  refine CT.of hl (by decide) (Nat.le_of_ble_eq_true rfl) ?_
  intro p e s m args below meth c C hnm
  refine j_sub (L' := [(0, .ref a0), (1, .int a1)]) [0, 1] rfl ?_
  refine j_iconst C dX6_isStepTaken_0 (v := (0 : Int32)) (by decide) ?_
  refine j_istore_n C dX6_isStepTaken_1 rfl (by decide) (L' := [(2, .int (0 : Int32)), (0, .ref a0), (1, .int a1)]) rfl ?_
  refine j_iconst C dX6_isStepTaken_2 (v := (0 : Int32)) (by decide) ?_
  refine j_istore_n C dX6_isStepTaken_3 rfl (by decide) (L' := [(3, .int (0 : Int32)), (2, .int (0 : Int32)), (0, .ref a0), (1, .int a1)]) rfl ?_
  refine j_sub (L' := [(0, .ref a0), (1, .int a1), (2, .int (0 : Int32)), (3, .int (0 : Int32))]) [2, 3, 1, 0] rfl ?_
  exact tX6_isStepTaken_4 C hnm N Z N a0 a1 (0 : Int32) (0 : Int32) M _ _ h
-- ScaffoldPlanner$Plan placeBefore
abbrev rmX4_placeBefore : Room := { frames := 0, cells := 0, slots := 0, locals := 0 }
theorem dX4_placeBefore_0 : decode cX4_placeBefore 0 = .ok (.iload_n 1, 1) := by decide +kernel
theorem dX4_placeBefore_1 : decode cX4_placeBefore 1 = .ok (.ifCond .ne 12, 3) := by decide +kernel
theorem dX4_placeBefore_4 : decode cX4_placeBefore 4 = .ok (.aload_n 0, 1) := by decide +kernel
theorem dX4_placeBefore_5 : decode cX4_placeBefore 5 = .ok (.getfield 9, 3) := by decide +kernel
theorem dX4_placeBefore_8 : decode cX4_placeBefore 8 = .ok (.iconst 1, 1) := by decide +kernel
theorem dX4_placeBefore_9 : decode cX4_placeBefore 9 = .ok (.isub, 1) := by decide +kernel
theorem dX4_placeBefore_10 : decode cX4_placeBefore 10 = .ok (.goto 6, 3) := by decide +kernel
theorem dX4_placeBefore_13 : decode cX4_placeBefore 13 = .ok (.iload_n 1, 1) := by decide +kernel
theorem dX4_placeBefore_14 : decode cX4_placeBefore 14 = .ok (.iconst 1, 1) := by decide +kernel
theorem dX4_placeBefore_15 : decode cX4_placeBefore 15 = .ok (.isub, 1) := by decide +kernel
theorem dX4_placeBefore_16 : decode cX4_placeBefore 16 = .ok (.ireturn, 1) := by decide +kernel
def fX4_placeBefore (N : Nat) (Z : mZ) (a0 : Nat) (a1 : Int32) (M : mM) : Option (Int32 × mM) := if a1 = 0 then ck (okO Z a0 4) (some (((M.1 a0 0) - (1 : Int32)), M)) else some ((a1 - (1 : Int32)), M)
set_option maxHeartbeats 4000000 in
set_option maxRecDepth 100000 in
theorem ctX4_placeBefore {G : mG} {l : Launch} (hl : l.stackTraces = false) (N : Nat) (Z : mZ) {a0 : Nat} {a1 : Int32} {M : mM} {r : Int32} {M' : mM} (h : fX4_placeBefore N Z a0 a1 M = some (r, M')) : CT G l yX4_placeBefore (.code yX4_placeBefore cX4_placeBefore 2 (some .int)) rmX4_placeBefore [.ref a0, .int a1] Z M (.inl (some (.int r))) Z M' := by
  unfold fX4_placeBefore at h
  refine CT.of hl (by decide) (Nat.le_of_ble_eq_true rfl) ?_
  intro p e s m args below meth c C hnm
  refine j_sub (L' := [(0, .ref a0), (1, .int a1)]) [0, 1] rfl ?_
  refine j_iload_n C dX4_placeBefore_0 rfl 1 rfl ?_
  refine j_if_ne C dX4_placeBefore_1 (tgt := 13) (by decide) (fun hc1 => ?_) (fun hc1 => ?_)
  · rw [if_neg hc1] at h
    refine j_iload_n C dX4_placeBefore_13 rfl 1 rfl ?_
    refine j_iconst C dX4_placeBefore_14 (v := (1 : Int32)) (by decide) ?_
    refine j_isub C dX4_placeBefore_15 ?_
    cases h
    exact j_iret C rfl (by decide) (by decide) dX4_placeBefore_16
  · rw [if_pos hc1] at h
    refine j_aload_n C dX4_placeBefore_4 rfl 0 rfl ?_
    obtain ⟨ho2, h⟩ := ck_spec h
    refine j_getI C (cn := RX4) (T := TX4) (N := 7) (ci := 4) rfl iX4 ho2 0 (by decide) rfl fwRX4_9 dX4_placeBefore_5 ?_
    refine j_iconst C dX4_placeBefore_8 (v := (1 : Int32)) (by decide) ?_
    refine j_isub C dX4_placeBefore_9 ?_
    refine j_goto C dX4_placeBefore_10 (tgt := 16) (by decide) ?_
    cases h
    exact j_iret C rfl (by decide) (by decide) dX4_placeBefore_16
-- ScaffoldPlanner$Plan placeAfter
abbrev rmX4_placeAfter : Room := { frames := 0, cells := 0, slots := 0, locals := 0 }
theorem dX4_placeAfter_0 : decode cX4_placeAfter 0 = .ok (.iload_n 1, 1) := by decide +kernel
theorem dX4_placeAfter_1 : decode cX4_placeAfter 1 = .ok (.aload_n 0, 1) := by decide +kernel
theorem dX4_placeAfter_2 : decode cX4_placeAfter 2 = .ok (.getfield 9, 3) := by decide +kernel
theorem dX4_placeAfter_5 : decode cX4_placeAfter 5 = .ok (.iconst 1, 1) := by decide +kernel
theorem dX4_placeAfter_6 : decode cX4_placeAfter 6 = .ok (.isub, 1) := by decide +kernel
theorem dX4_placeAfter_7 : decode cX4_placeAfter 7 = .ok (.if_icmp .ne 7, 3) := by decide +kernel
theorem dX4_placeAfter_10 : decode cX4_placeAfter 10 = .ok (.iconst 0, 1) := by decide +kernel
theorem dX4_placeAfter_11 : decode cX4_placeAfter 11 = .ok (.goto 6, 3) := by decide +kernel
theorem dX4_placeAfter_14 : decode cX4_placeAfter 14 = .ok (.iload_n 1, 1) := by decide +kernel
theorem dX4_placeAfter_15 : decode cX4_placeAfter 15 = .ok (.iconst 1, 1) := by decide +kernel
theorem dX4_placeAfter_16 : decode cX4_placeAfter 16 = .ok (.iadd, 1) := by decide +kernel
theorem dX4_placeAfter_17 : decode cX4_placeAfter 17 = .ok (.ireturn, 1) := by decide +kernel
def fX4_placeAfter (N : Nat) (Z : mZ) (a0 : Nat) (a1 : Int32) (M : mM) : Option (Int32 × mM) := ck (okO Z a0 4) (if a1 = ((M.1 a0 0) - (1 : Int32)) then some ((0 : Int32), M) else some ((a1 + (1 : Int32)), M))
set_option maxHeartbeats 4000000 in
set_option maxRecDepth 100000 in
theorem ctX4_placeAfter {G : mG} {l : Launch} (hl : l.stackTraces = false) (N : Nat) (Z : mZ) {a0 : Nat} {a1 : Int32} {M : mM} {r : Int32} {M' : mM} (h : fX4_placeAfter N Z a0 a1 M = some (r, M')) : CT G l yX4_placeAfter (.code yX4_placeAfter cX4_placeAfter 2 (some .int)) rmX4_placeAfter [.ref a0, .int a1] Z M (.inl (some (.int r))) Z M' := by
  unfold fX4_placeAfter at h
  refine CT.of hl (by decide) (Nat.le_of_ble_eq_true rfl) ?_
  intro p e s m args below meth c C hnm
  refine j_sub (L' := [(0, .ref a0), (1, .int a1)]) [0, 1] rfl ?_
  refine j_iload_n C dX4_placeAfter_0 rfl 1 rfl ?_
  refine j_aload_n C dX4_placeAfter_1 rfl 0 rfl ?_
  obtain ⟨ho1, h⟩ := ck_spec h
  refine j_getI C (cn := RX4) (T := TX4) (N := 7) (ci := 4) rfl iX4 ho1 0 (by decide) rfl fwRX4_9 dX4_placeAfter_2 ?_
  refine j_iconst C dX4_placeAfter_5 (v := (1 : Int32)) (by decide) ?_
  refine j_isub C dX4_placeAfter_6 ?_
  refine j_icmp_ne C dX4_placeAfter_7 (tgt := 14) (by decide) (fun hc2 => ?_) (fun hc2 => ?_)
  · rw [if_neg hc2] at h
    refine j_iload_n C dX4_placeAfter_14 rfl 1 rfl ?_
    refine j_iconst C dX4_placeAfter_15 (v := (1 : Int32)) (by decide) ?_
    refine j_iadd C dX4_placeAfter_16 ?_
    cases h
    exact j_iret C rfl (by decide) (by decide) dX4_placeAfter_17
  · rw [if_pos hc2] at h
    refine j_iconst C dX4_placeAfter_10 (v := (0 : Int32)) (by decide) ?_
    refine j_goto C dX4_placeAfter_11 (tgt := 17) (by decide) ?_
    cases h
    exact j_iret C rfl (by decide) (by decide) dX4_placeAfter_17
-- ScaffoldPlanner$Ways nextDecks
theorem kcRX6_28 : okV RX6 28 yX4_levelsWith (.code yX4_levelsWith cX4_levelsWith 4 (some .int)) = true := by decide +kernel
theorem oyX4_levelsWith : okY yX4_levelsWith 2 := ⟨by decide +kernel, by decide +kernel, by decide +kernel⟩
theorem kcRX6_50 : okV RX6 50 yX4_placeBefore (.code yX4_placeBefore cX4_placeBefore 2 (some .int)) = true := by decide +kernel
theorem oyX4_placeBefore : okY yX4_placeBefore 1 := ⟨by decide +kernel, by decide +kernel, by decide +kernel⟩
theorem kcRX6_54 : okV RX6 54 yX4_placeAfter (.code yX4_placeAfter cX4_placeAfter 2 (some .int)) = true := by decide +kernel
theorem oyX4_placeAfter : okY yX4_placeAfter 1 := ⟨by decide +kernel, by decide +kernel, by decide +kernel⟩
abbrev rmX6_nextDecks : Room := { frames := 1, cells := 0, slots := 0, locals := 23 }
theorem dX6_nextDecks_0 : decode cX6_nextDecks 0 = .ok (.aload_n 1, 1) := by decide +kernel
theorem dX6_nextDecks_1 : decode cX6_nextDecks 1 = .ok (.iconst 5, 1) := by decide +kernel
theorem dX6_nextDecks_2 : decode cX6_nextDecks 2 = .ok (.iload_n 2, 1) := by decide +kernel
theorem dX6_nextDecks_3 : decode cX6_nextDecks 3 = .ok (.invokevirtual 28, 3) := by decide +kernel
theorem dX6_nextDecks_6 : decode cX6_nextDecks 6 = .ok (.istore_n 3, 1) := by decide +kernel
theorem dX6_nextDecks_7 : decode cX6_nextDecks 7 = .ok (.aload_n 0, 1) := by decide +kernel
theorem dX6_nextDecks_8 : decode cX6_nextDecks 8 = .ok (.getfield 18, 3) := by decide +kernel
theorem dX6_nextDecks_11 : decode cX6_nextDecks 11 = .ok (.iload_n 2, 1) := by decide +kernel
theorem dX6_nextDecks_12 : decode cX6_nextDecks 12 = .ok (.invokestatic 46, 3) := by decide +kernel
theorem dX6_nextDecks_15 : decode cX6_nextDecks 15 = .ok (.istore 4, 2) := by decide +kernel
theorem dX6_nextDecks_17 : decode cX6_nextDecks 17 = .ok (.iload 4, 2) := by decide +kernel
theorem dX6_nextDecks_19 : decode cX6_nextDecks 19 = .ok (.iconst 1, 1) := by decide +kernel
theorem dX6_nextDecks_20 : decode cX6_nextDecks 20 = .ok (.ishl, 1) := by decide +kernel
theorem dX6_nextDecks_21 : decode cX6_nextDecks 21 = .ok (.iload_n 3, 1) := by decide +kernel
theorem dX6_nextDecks_22 : decode cX6_nextDecks 22 = .ok (.iand, 1) := by decide +kernel
theorem dX6_nextDecks_23 : decode cX6_nextDecks 23 = .ok (.istore 5, 2) := by decide +kernel
theorem dX6_nextDecks_25 : decode cX6_nextDecks 25 = .ok (.iload 4, 2) := by decide +kernel
theorem dX6_nextDecks_27 : decode cX6_nextDecks 27 = .ok (.iload_n 3, 1) := by decide +kernel
theorem dX6_nextDecks_28 : decode cX6_nextDecks 28 = .ok (.iand, 1) := by decide +kernel
theorem dX6_nextDecks_29 : decode cX6_nextDecks 29 = .ok (.iconst 1, 1) := by decide +kernel
theorem dX6_nextDecks_30 : decode cX6_nextDecks 30 = .ok (.ishr, 1) := by decide +kernel
theorem dX6_nextDecks_31 : decode cX6_nextDecks 31 = .ok (.istore 6, 2) := by decide +kernel
theorem dX6_nextDecks_33 : decode cX6_nextDecks 33 = .ok (.aload_n 0, 1) := by decide +kernel
theorem dX6_nextDecks_34 : decode cX6_nextDecks 34 = .ok (.getfield 18, 3) := by decide +kernel
theorem dX6_nextDecks_37 : decode cX6_nextDecks 37 = .ok (.aload_n 1, 1) := by decide +kernel
theorem dX6_nextDecks_38 : decode cX6_nextDecks 38 = .ok (.iload_n 2, 1) := by decide +kernel
theorem dX6_nextDecks_39 : decode cX6_nextDecks 39 = .ok (.invokevirtual 50, 3) := by decide +kernel
theorem dX6_nextDecks_42 : decode cX6_nextDecks 42 = .ok (.invokestatic 46, 3) := by decide +kernel
theorem dX6_nextDecks_45 : decode cX6_nextDecks 45 = .ok (.aload_n 0, 1) := by decide +kernel
theorem dX6_nextDecks_46 : decode cX6_nextDecks 46 = .ok (.getfield 18, 3) := by decide +kernel
theorem dX6_nextDecks_49 : decode cX6_nextDecks 49 = .ok (.aload_n 1, 1) := by decide +kernel
theorem dX6_nextDecks_50 : decode cX6_nextDecks 50 = .ok (.iload_n 2, 1) := by decide +kernel
theorem dX6_nextDecks_51 : decode cX6_nextDecks 51 = .ok (.invokevirtual 54, 3) := by decide +kernel
theorem dX6_nextDecks_54 : decode cX6_nextDecks 54 = .ok (.invokestatic 46, 3) := by decide +kernel
theorem dX6_nextDecks_57 : decode cX6_nextDecks 57 = .ok (.ior, 1) := by decide +kernel
theorem dX6_nextDecks_58 : decode cX6_nextDecks 58 = .ok (.istore 7, 2) := by decide +kernel
theorem dX6_nextDecks_60 : decode cX6_nextDecks 60 = .ok (.iload 5, 2) := by decide +kernel
theorem dX6_nextDecks_62 : decode cX6_nextDecks 62 = .ok (.iload 6, 2) := by decide +kernel
theorem dX6_nextDecks_64 : decode cX6_nextDecks 64 = .ok (.ior, 1) := by decide +kernel
theorem dX6_nextDecks_65 : decode cX6_nextDecks 65 = .ok (.iload 7, 2) := by decide +kernel
theorem dX6_nextDecks_67 : decode cX6_nextDecks 67 = .ok (.ior, 1) := by decide +kernel
theorem dX6_nextDecks_68 : decode cX6_nextDecks 68 = .ok (.aload_n 1, 1) := by decide +kernel
theorem dX6_nextDecks_69 : decode cX6_nextDecks 69 = .ok (.iconst 2, 1) := by decide +kernel
theorem dX6_nextDecks_70 : decode cX6_nextDecks 70 = .ok (.iload_n 2, 1) := by decide +kernel
theorem dX6_nextDecks_71 : decode cX6_nextDecks 71 = .ok (.invokevirtual 28, 3) := by decide +kernel
theorem dX6_nextDecks_74 : decode cX6_nextDecks 74 = .ok (.iand, 1) := by decide +kernel
theorem dX6_nextDecks_75 : decode cX6_nextDecks 75 = .ok (.aload_n 0, 1) := by decide +kernel
theorem dX6_nextDecks_76 : decode cX6_nextDecks 76 = .ok (.getfield 9, 3) := by decide +kernel
theorem dX6_nextDecks_79 : decode cX6_nextDecks 79 = .ok (.iload_n 2, 1) := by decide +kernel
theorem dX6_nextDecks_80 : decode cX6_nextDecks 80 = .ok (.invokestatic 46, 3) := by decide +kernel
theorem dX6_nextDecks_83 : decode cX6_nextDecks 83 = .ok (.iconst (-1), 1) := by decide +kernel
theorem dX6_nextDecks_84 : decode cX6_nextDecks 84 = .ok (.ixor, 1) := by decide +kernel
theorem dX6_nextDecks_85 : decode cX6_nextDecks 85 = .ok (.iand, 1) := by decide +kernel
theorem dX6_nextDecks_86 : decode cX6_nextDecks 86 = .ok (.ireturn, 1) := by decide +kernel
def fX6_nextDecks (N : Nat) (Z : mZ) (a0 : Nat) (a1 : Nat) (a2 : Int32) (M : mM) : Option (Int32 × mM) := ck (okO Z a1 4) (bnd2 (fX4_levelsWith N Z a1 (5 : Int32) a2 M) (fun r2 M2 => ck (okO Z a0 6) (bnd1 (Z.2.2.2 a0 2) (fun c4 => bnd2 (fX8_at N Z c4 a2 M2) (fun r5 M5 => bnd2 (fX4_placeBefore N Z a1 a2 M5) (fun r6 M6 => bnd2 (fX8_at N Z c4 r6 M6) (fun r7 M7 => bnd2 (fX4_placeAfter N Z a1 a2 M7) (fun r8 M8 => bnd2 (fX8_at N Z c4 r8 M8) (fun r9 M9 => bnd2 (fX4_levelsWith N Z a1 (2 : Int32) a2 M9) (fun r10 M10 => bnd1 (Z.2.2.2 a0 0) (fun c11 => bnd2 (fX8_at N Z c11 a2 M10) (fun r12 M12 => some (((((((r5 <<< ((1 : Int32) &&& 31)) &&& r2) ||| ((r5 &&& r2) >>> ((1 : Int32) &&& 31))) ||| (r7 ||| r9)) &&& r10) &&& (r12 ^^^ (-1 : Int32))), M12)))))))))))))
set_option maxHeartbeats 4000000 in
set_option maxRecDepth 100000 in
theorem ctX6_nextDecks {G : mG} {l : Launch} (hl : l.stackTraces = false) (N : Nat) (Z : mZ) {a0 : Nat} {a1 : Nat} {a2 : Int32} {M : mM} {r : Int32} {M' : mM} (h : fX6_nextDecks N Z a0 a1 a2 M = some (r, M')) : CT G l yX6_nextDecks (.code yX6_nextDecks cX6_nextDecks 8 (some .int)) rmX6_nextDecks [.ref a0, .ref a1, .int a2] Z M (.inl (some (.int r))) Z M' := by
  unfold fX6_nextDecks at h
  refine CT.of hl (by decide) (Nat.le_of_ble_eq_true rfl) ?_
  intro p e s m args below meth c C hnm
  refine j_sub (L' := [(0, .ref a0), (1, .ref a1), (2, .int a2)]) [0, 1, 2] rfl ?_
  refine j_aload_n C dX6_nextDecks_0 rfl 1 rfl ?_
  refine j_iconst C dX6_nextDecks_1 (v := (5 : Int32)) (by decide) ?_
  refine j_iload_n C dX6_nextDecks_2 rfl 2 rfl ?_
  obtain ⟨ho1, h⟩ := ck_spec h
  obtain ⟨r2, M2, hq2, h⟩ := bnd2_spec h
  refine j_run1 (c_V C (As := [.int (5 : Int32), .int a2]) (rest := []) (ctX4_levelsWith C.2.2.2.2.2.2.2.2.1 N Z hq2) kcRX6_28 oyX4_levelsWith (ci := 4) (T := TX4) (N := 7) rfl (by decide) ho1 ⟨by decide, by decide⟩ ⟨by decide, by decide⟩ (Nat.le_of_ble_eq_true rfl) rfl dX6_nextDecks_3) ?_
  refine j_istore_n C dX6_nextDecks_6 rfl (by decide) (L' := [(3, .int r2), (0, .ref a0), (1, .ref a1), (2, .int a2)]) rfl ?_
  refine j_aload_n C dX6_nextDecks_7 rfl 1 rfl ?_
  obtain ⟨ho3, h⟩ := ck_spec h
  obtain ⟨c4, hr4, h⟩ := bnd1_spec h
  refine j_getR C (cn := RX6) (T := TX6) (N := 4) (ci := 6) rfl iX6 ho3 2 (by decide) rfl fwRX6_18 dX6_nextDecks_8 hr4 ?_
  refine j_iload_n C dX6_nextDecks_11 rfl 3 rfl ?_
  obtain ⟨r5, M5, hq5, h⟩ := bnd2_spec h
  refine j_run1 (c_SN C (As := [.ref c4, .int a2]) (rest := []) (ctX8_at C.2.2.2.2.2.2.2.2.1 N Z hq5) kcRX6_46 oyX8_at ⟨by decide, by decide⟩ ⟨by decide, by decide⟩ (Nat.le_of_ble_eq_true rfl) rfl dX6_nextDecks_12) ?_
  refine j_istore C dX6_nextDecks_15 (by decide) (L' := [(4, .int r5), (3, .int r2), (0, .ref a0), (1, .ref a1), (2, .int a2)]) rfl ?_
  refine j_iload C dX6_nextDecks_17 0 rfl ?_
  refine j_iconst C dX6_nextDecks_19 (v := (1 : Int32)) (by decide) ?_
  refine j_ishl C dX6_nextDecks_20 ?_
  refine j_iload_n C dX6_nextDecks_21 rfl 1 rfl ?_
  refine j_iand C dX6_nextDecks_22 ?_
  refine j_istore C dX6_nextDecks_23 (by decide) (L' := [(5, .int ((r5 <<< ((1 : Int32) &&& 31)) &&& r2)), (4, .int r5), (3, .int r2), (0, .ref a0), (1, .ref a1), (2, .int a2)]) rfl ?_
  refine j_iload C dX6_nextDecks_25 1 rfl ?_
  refine j_iload_n C dX6_nextDecks_27 rfl 2 rfl ?_
  refine j_iand C dX6_nextDecks_28 ?_
  refine j_iconst C dX6_nextDecks_29 (v := (1 : Int32)) (by decide) ?_
  refine j_ishr C dX6_nextDecks_30 ?_
  refine j_istore C dX6_nextDecks_31 (by decide) (L' := [(6, .int ((r5 &&& r2) >>> ((1 : Int32) &&& 31))), (5, .int ((r5 <<< ((1 : Int32) &&& 31)) &&& r2)), (4, .int r5), (3, .int r2), (0, .ref a0), (1, .ref a1), (2, .int a2)]) rfl ?_
  refine j_aload_n C dX6_nextDecks_33 rfl 4 rfl ?_
  refine j_getR C (cn := RX6) (T := TX6) (N := 4) (ci := 6) rfl iX6 ho3 2 (by decide) rfl fwRX6_18 dX6_nextDecks_34 hr4 ?_
  refine j_aload_n C dX6_nextDecks_37 rfl 5 rfl ?_
  refine j_iload_n C dX6_nextDecks_38 rfl 6 rfl ?_
  obtain ⟨r6, M6, hq6, h⟩ := bnd2_spec h
  refine j_run1 (c_V C (As := [.int a2]) (rest := [.ref c4]) (ctX4_placeBefore C.2.2.2.2.2.2.2.2.1 N Z hq6) kcRX6_50 oyX4_placeBefore (ci := 4) (T := TX4) (N := 7) rfl (by decide) ho1 ⟨by decide, by decide⟩ ⟨by decide, by decide⟩ (Nat.le_of_ble_eq_true rfl) rfl dX6_nextDecks_39) ?_
  obtain ⟨r7, M7, hq7, h⟩ := bnd2_spec h
  refine j_run1 (c_SN C (As := [.ref c4, .int r6]) (rest := []) (ctX8_at C.2.2.2.2.2.2.2.2.1 N Z hq7) kcRX6_46 oyX8_at ⟨by decide, by decide⟩ ⟨by decide, by decide⟩ (Nat.le_of_ble_eq_true rfl) rfl dX6_nextDecks_42) ?_
  refine j_aload_n C dX6_nextDecks_45 rfl 4 rfl ?_
  refine j_getR C (cn := RX6) (T := TX6) (N := 4) (ci := 6) rfl iX6 ho3 2 (by decide) rfl fwRX6_18 dX6_nextDecks_46 hr4 ?_
  refine j_aload_n C dX6_nextDecks_49 rfl 5 rfl ?_
  refine j_iload_n C dX6_nextDecks_50 rfl 6 rfl ?_
  obtain ⟨r8, M8, hq8, h⟩ := bnd2_spec h
  refine j_run1 (c_V C (As := [.int a2]) (rest := [.ref c4, .int r7]) (ctX4_placeAfter C.2.2.2.2.2.2.2.2.1 N Z hq8) kcRX6_54 oyX4_placeAfter (ci := 4) (T := TX4) (N := 7) rfl (by decide) ho1 ⟨by decide, by decide⟩ ⟨by decide, by decide⟩ (Nat.le_of_ble_eq_true rfl) rfl dX6_nextDecks_51) ?_
  obtain ⟨r9, M9, hq9, h⟩ := bnd2_spec h
  refine j_run1 (c_SN C (As := [.ref c4, .int r8]) (rest := [.int r7]) (ctX8_at C.2.2.2.2.2.2.2.2.1 N Z hq9) kcRX6_46 oyX8_at ⟨by decide, by decide⟩ ⟨by decide, by decide⟩ (Nat.le_of_ble_eq_true rfl) rfl dX6_nextDecks_54) ?_
  refine j_ior C dX6_nextDecks_57 ?_
  refine j_istore C dX6_nextDecks_58 (by decide) (L' := [(7, .int (r7 ||| r9)), (6, .int ((r5 &&& r2) >>> ((1 : Int32) &&& 31))), (5, .int ((r5 <<< ((1 : Int32) &&& 31)) &&& r2)), (4, .int r5), (3, .int r2), (0, .ref a0), (1, .ref a1), (2, .int a2)]) rfl ?_
  refine j_iload C dX6_nextDecks_60 2 rfl ?_
  refine j_iload C dX6_nextDecks_62 1 rfl ?_
  refine j_ior C dX6_nextDecks_64 ?_
  refine j_iload C dX6_nextDecks_65 0 rfl ?_
  refine j_ior C dX6_nextDecks_67 ?_
  refine j_aload_n C dX6_nextDecks_68 rfl 6 rfl ?_
  refine j_iconst C dX6_nextDecks_69 (v := (2 : Int32)) (by decide) ?_
  refine j_iload_n C dX6_nextDecks_70 rfl 7 rfl ?_
  obtain ⟨r10, M10, hq10, h⟩ := bnd2_spec h
  refine j_run1 (c_V C (As := [.int (2 : Int32), .int a2]) (rest := [.int ((((r5 <<< ((1 : Int32) &&& 31)) &&& r2) ||| ((r5 &&& r2) >>> ((1 : Int32) &&& 31))) ||| (r7 ||| r9))]) (ctX4_levelsWith C.2.2.2.2.2.2.2.2.1 N Z hq10) kcRX6_28 oyX4_levelsWith (ci := 4) (T := TX4) (N := 7) rfl (by decide) ho1 ⟨by decide, by decide⟩ ⟨by decide, by decide⟩ (Nat.le_of_ble_eq_true rfl) rfl dX6_nextDecks_71) ?_
  refine j_iand C dX6_nextDecks_74 ?_
  refine j_aload_n C dX6_nextDecks_75 rfl 5 rfl ?_
  obtain ⟨c11, hr11, h⟩ := bnd1_spec h
  refine j_getR C (cn := RX6) (T := TX6) (N := 4) (ci := 6) rfl iX6 ho3 0 (by decide) rfl fwRX6_9 dX6_nextDecks_76 hr11 ?_
  refine j_iload_n C dX6_nextDecks_79 rfl 7 rfl ?_
  obtain ⟨r12, M12, hq12, h⟩ := bnd2_spec h
  refine j_run1 (c_SN C (As := [.ref c11, .int a2]) (rest := [.int (((((r5 <<< ((1 : Int32) &&& 31)) &&& r2) ||| ((r5 &&& r2) >>> ((1 : Int32) &&& 31))) ||| (r7 ||| r9)) &&& r10)]) (ctX8_at C.2.2.2.2.2.2.2.2.1 N Z hq12) kcRX6_46 oyX8_at ⟨by decide, by decide⟩ ⟨by decide, by decide⟩ (Nat.le_of_ble_eq_true rfl) rfl dX6_nextDecks_80) ?_
  refine j_iconst C dX6_nextDecks_83 (v := (-1 : Int32)) (by decide) ?_
  refine j_ixor C dX6_nextDecks_84 ?_
  refine j_iand C dX6_nextDecks_85 ?_
  cases h
  exact j_iret C rfl (by decide) (by decide) dX6_nextDecks_86
-- ScaffoldPlanner$Ways explore
theorem kcRX6_34 : okV RX6 34 yX6_isStepTaken (.code yX6_isStepTaken cX6_isStepTaken 6 (some .boolean)) = true := by decide +kernel
theorem oyX6_isStepTaken : okY yX6_isStepTaken 1 := ⟨by decide +kernel, by decide +kernel, by decide +kernel⟩
theorem fwRX6_38 : Cond.fieldLink RX6 38 RX4 (TX4 0).2.1 (TX4 0).2.2.1 ∈ gw := by decide +kernel
theorem kcRX6_42 : okV RX6 42 yX6_nextDecks (.code yX6_nextDecks cX6_nextDecks 8 (some .int)) = true := by decide +kernel
theorem oyX6_nextDecks : okY yX6_nextDecks 2 := ⟨by decide +kernel, by decide +kernel, by decide +kernel⟩
abbrev rmX6_explore : Room := { frames := 2, cells := 0, slots := 0, locals := 50 }
theorem dX6_explore_0 : decode cX6_explore 0 = .ok (.iconst 0, 1) := by decide +kernel
theorem dX6_explore_1 : decode cX6_explore 1 = .ok (.istore_n 2, 1) := by decide +kernel
theorem dX6_explore_2 : decode cX6_explore 2 = .ok (.iload_n 2, 1) := by decide +kernel
theorem dX6_explore_3 : decode cX6_explore 3 = .ok (.bipush 10, 2) := by decide +kernel
theorem dX6_explore_5 : decode cX6_explore 5 = .ok (.if_icmp .ge 41, 3) := by decide +kernel
theorem dX6_explore_8 : decode cX6_explore 8 = .ok (.aload_n 0, 1) := by decide +kernel
theorem dX6_explore_9 : decode cX6_explore 9 = .ok (.getfield 9, 3) := by decide +kernel
theorem dX6_explore_12 : decode cX6_explore 12 = .ok (.iload_n 2, 1) := by decide +kernel
theorem dX6_explore_13 : decode cX6_explore 13 = .ok (.iconst 0, 1) := by decide +kernel
theorem dX6_explore_14 : decode cX6_explore 14 = .ok (.invokestatic 24, 3) := by decide +kernel
theorem dX6_explore_17 : decode cX6_explore 17 = .ok (.aload_n 0, 1) := by decide +kernel
theorem dX6_explore_18 : decode cX6_explore 18 = .ok (.getfield 21, 3) := by decide +kernel
theorem dX6_explore_21 : decode cX6_explore 21 = .ok (.iload_n 2, 1) := by decide +kernel
theorem dX6_explore_22 : decode cX6_explore 22 = .ok (.aload_n 1, 1) := by decide +kernel
theorem dX6_explore_23 : decode cX6_explore 23 = .ok (.iconst 5, 1) := by decide +kernel
theorem dX6_explore_24 : decode cX6_explore 24 = .ok (.iload_n 2, 1) := by decide +kernel
theorem dX6_explore_25 : decode cX6_explore 25 = .ok (.invokevirtual 28, 3) := by decide +kernel
theorem dX6_explore_28 : decode cX6_explore 28 = .ok (.aload_n 1, 1) := by decide +kernel
theorem dX6_explore_29 : decode cX6_explore 29 = .ok (.iconst 2, 1) := by decide +kernel
theorem dX6_explore_30 : decode cX6_explore 30 = .ok (.iload_n 2, 1) := by decide +kernel
theorem dX6_explore_31 : decode cX6_explore 31 = .ok (.invokevirtual 28, 3) := by decide +kernel
theorem dX6_explore_34 : decode cX6_explore 34 = .ok (.iand, 1) := by decide +kernel
theorem dX6_explore_35 : decode cX6_explore 35 = .ok (.iconst 2, 1) := by decide +kernel
theorem dX6_explore_36 : decode cX6_explore 36 = .ok (.iand, 1) := by decide +kernel
theorem dX6_explore_37 : decode cX6_explore 37 = .ok (.invokestatic 24, 3) := by decide +kernel
theorem dX6_explore_40 : decode cX6_explore 40 = .ok (.iinc 2 1, 3) := by decide +kernel
theorem dX6_explore_43 : decode cX6_explore 43 = .ok (.goto (-41), 3) := by decide +kernel
theorem dX6_explore_46 : decode cX6_explore 46 = .ok (.iconst 1, 1) := by decide +kernel
theorem dX6_explore_47 : decode cX6_explore 47 = .ok (.istore_n 2, 1) := by decide +kernel
theorem dX6_explore_48 : decode cX6_explore 48 = .ok (.iload_n 2, 1) := by decide +kernel
theorem dX6_explore_49 : decode cX6_explore 49 = .ok (.bipush 60, 2) := by decide +kernel
theorem dX6_explore_51 : decode cX6_explore 51 = .ok (.if_icmp .gt 48, 3) := by decide +kernel
theorem dX6_explore_54 : decode cX6_explore 54 = .ok (.aload_n 0, 1) := by decide +kernel
theorem dX6_explore_55 : decode cX6_explore 55 = .ok (.iload_n 2, 1) := by decide +kernel
theorem dX6_explore_56 : decode cX6_explore 56 = .ok (.invokevirtual 34, 3) := by decide +kernel
theorem dX6_explore_59 : decode cX6_explore 59 = .ok (.ifCond .ne 4, 3) := by decide +kernel
theorem dX6_explore_62 : decode cX6_explore 62 = .ok (.return_, 1) := by decide +kernel
theorem dX6_explore_63 : decode cX6_explore 63 = .ok (.iconst 0, 1) := by decide +kernel
theorem dX6_explore_64 : decode cX6_explore 64 = .ok (.istore_n 3, 1) := by decide +kernel
theorem dX6_explore_65 : decode cX6_explore 65 = .ok (.iload_n 3, 1) := by decide +kernel
theorem dX6_explore_66 : decode cX6_explore 66 = .ok (.aload_n 1, 1) := by decide +kernel
theorem dX6_explore_67 : decode cX6_explore 67 = .ok (.getfield 38, 3) := by decide +kernel
theorem dX6_explore_70 : decode cX6_explore 70 = .ok (.if_icmp .ge 23, 3) := by decide +kernel
theorem dX6_explore_73 : decode cX6_explore 73 = .ok (.aload_n 0, 1) := by decide +kernel
theorem dX6_explore_74 : decode cX6_explore 74 = .ok (.getfield 21, 3) := by decide +kernel
theorem dX6_explore_77 : decode cX6_explore 77 = .ok (.iload_n 3, 1) := by decide +kernel
theorem dX6_explore_78 : decode cX6_explore 78 = .ok (.aload_n 0, 1) := by decide +kernel
theorem dX6_explore_79 : decode cX6_explore 79 = .ok (.aload_n 1, 1) := by decide +kernel
theorem dX6_explore_80 : decode cX6_explore 80 = .ok (.iload_n 3, 1) := by decide +kernel
theorem dX6_explore_81 : decode cX6_explore 81 = .ok (.invokevirtual 42, 3) := by decide +kernel
theorem dX6_explore_84 : decode cX6_explore 84 = .ok (.invokestatic 24, 3) := by decide +kernel
theorem dX6_explore_87 : decode cX6_explore 87 = .ok (.iinc 3 1, 3) := by decide +kernel
theorem dX6_explore_90 : decode cX6_explore 90 = .ok (.goto (-25), 3) := by decide +kernel
theorem dX6_explore_93 : decode cX6_explore 93 = .ok (.iinc 2 1, 3) := by decide +kernel
theorem dX6_explore_96 : decode cX6_explore 96 = .ok (.goto (-48), 3) := by decide +kernel
theorem dX6_explore_99 : decode cX6_explore 99 = .ok (.return_, 1) := by decide +kernel
def fX6_explore_65 (N : Nat) (Z : mZ) (K48 : Nat → Nat → Int32 → mM → Option (Unit × mM)) : Nat → Nat → Nat → Int32 → Int32 → mM → Option (Unit × mM)
  | 0, _, _, _, _, _ => none
  | fu + 1, v0, v1, v2, v3, M => ck (okO Z v1 4) (if (M.1 v1 0) ≤ v3 then K48 v0 v1 (v2 + (1 : Int32)) M else ck (okO Z v0 6) (bnd1 (Z.2.2.2 v0 3) (fun c9 => bnd2 (fX6_nextDecks N Z v0 v1 v3 M) (fun r10 M10 => bnd2 (fX8_write N Z c9 v3 r10 M10) (fun _ M11 => fX6_explore_65 N Z K48 fu v0 v1 v2 (v3 + (1 : Int32)) M11)))))
set_option maxHeartbeats 4000000 in
set_option maxRecDepth 100000 in
theorem tX6_explore_65 {G : mG} {p : Program} {l : Launch} {e : Env} {s : State} {m : MethodId} {args : Array Value} {below : List Frame} {meth : Method} {c : Code} (C : Cx G p l s m args meth c RX6 cX6_explore 4 none []) (hnm : meth.name = yX6_explore.name) (N : Nat) (Z : mZ) (K48 : Nat → Nat → Int32 → mM → Option (Unit × mM)) (hK48 : ∀ (v0 : Nat) (v1 : Nat) (v2 : Int32) (M : mM) (r : Unit) (M' : mM), K48 v0 v1 v2 M = some (r, M') → JJ G p l e rmX6_explore s m args below meth c 4 (mEnd G below args s rmX6_explore (.inl none) Z M') 0 0 48 [(0, .ref v0), (1, .ref v1), (2, .int v2)] [] Z M) : ∀ (fu : Nat) (v0 : Nat) (v1 : Nat) (v2 : Int32) (v3 : Int32) (M : mM) (r : Unit) (M' : mM), fX6_explore_65 N Z K48 fu v0 v1 v2 v3 M = some (r, M') → JJ G p l e rmX6_explore s m args below meth c 4 (mEnd G below args s rmX6_explore (.inl none) Z M') 0 0 65 [(0, .ref v0), (1, .ref v1), (2, .int v2), (3, .int v3)] [] Z M := by
  intro fu
  induction fu with
  | zero =>
    intro v0 v1 v2 v3 M r M' h
    cases h
  | succ fu ih =>
    intro v0 v1 v2 v3 M r M' h
    rw [fX6_explore_65] at h
    refine j_iload_n C dX6_explore_65 rfl 3 rfl ?_
    refine j_aload_n C dX6_explore_66 rfl 1 rfl ?_
    obtain ⟨ho6, h⟩ := ck_spec h
    refine j_getI C (cn := RX4) (T := TX4) (N := 7) (ci := 4) rfl iX4 ho6 0 (by decide) rfl fwRX6_38 dX6_explore_67 ?_
    refine j_icmp_ge C dX6_explore_70 (tgt := 93) (by decide) (fun hc7 => ?_) (fun hc7 => ?_)
    · rw [if_pos hc7] at h
      refine j_iinc C dX6_explore_93 2 rfl (v := (v2 + (1 : Int32))) (by first | rfl | decide) (by decide) (L' := [(2, .int (v2 + (1 : Int32))), (0, .ref v0), (1, .ref v1), (3, .int v3)]) rfl ?_
      refine j_goto C dX6_explore_96 (tgt := 48) (by decide) ?_
      refine j_sub (L' := [(0, .ref v0), (1, .ref v1), (2, .int (v2 + (1 : Int32)))]) [1, 2, 0] rfl ?_
      exact hK48 v0 v1 (v2 + (1 : Int32)) M r M' h
    · rw [if_neg hc7] at h
      refine j_aload_n C dX6_explore_73 rfl 0 rfl ?_
      obtain ⟨ho8, h⟩ := ck_spec h
      obtain ⟨c9, hr9, h⟩ := bnd1_spec h
      refine j_getR C (cn := RX6) (T := TX6) (N := 4) (ci := 6) rfl iX6 ho8 3 (by decide) rfl fwRX6_21 dX6_explore_74 hr9 ?_
      refine j_iload_n C dX6_explore_77 rfl 3 rfl ?_
      refine j_aload_n C dX6_explore_78 rfl 0 rfl ?_
      refine j_aload_n C dX6_explore_79 rfl 1 rfl ?_
      refine j_iload_n C dX6_explore_80 rfl 3 rfl ?_
      obtain ⟨r10, M10, hq10, h⟩ := bnd2_spec h
      refine j_run1 (c_V C (As := [.ref v1, .int v3]) (rest := [.int v3, .ref c9]) (ctX6_nextDecks C.2.2.2.2.2.2.2.2.1 N Z hq10) kcRX6_42 oyX6_nextDecks (ci := 6) (T := TX6) (N := 4) rfl (by decide) ho8 ⟨by decide, by decide⟩ ⟨by decide, by decide⟩ (Nat.le_of_ble_eq_true rfl) rfl dX6_explore_81) ?_
      obtain ⟨_, M11, hq11, h⟩ := bnd2_spec h
      refine j_run0 (c_SN C (As := [.ref c9, .int v3, .int r10]) (rest := []) (ctX8_write C.2.2.2.2.2.2.2.2.1 N Z hq11) kcRX6_24 oyX8_write ⟨by decide, by decide⟩ ⟨by decide, by decide⟩ (Nat.le_of_ble_eq_true rfl) rfl dX6_explore_84) ?_
      refine j_iinc C dX6_explore_87 3 rfl (v := (v3 + (1 : Int32))) (by first | rfl | decide) (by decide) (L' := [(3, .int (v3 + (1 : Int32))), (0, .ref v0), (1, .ref v1), (2, .int v2)]) rfl ?_
      refine j_goto C dX6_explore_90 (tgt := 65) (by decide) ?_
      refine j_sub (L' := [(0, .ref v0), (1, .ref v1), (2, .int v2), (3, .int (v3 + (1 : Int32)))]) [1, 2, 3, 0] rfl ?_
      exact ih v0 v1 v2 (v3 + (1 : Int32)) M11 r M' h
def fX6_explore_48 (N : Nat) (Z : mZ) : Nat → Nat → Nat → Int32 → mM → Option (Unit × mM)
  | 0, _, _, _, _ => none
  | fu + 1, v0, v1, v2, M => if (60 : Int32) < v2 then some ((), M) else ck (okO Z v0 6) (bnd2 (fX6_isStepTaken N Z v0 v2 M) (fun r4 M4 => if r4 = 0 then some ((), M4) else fX6_explore_65 N Z (fun w0 w1 w2 M9 => fX6_explore_48 N Z fu w0 w1 w2 M9) N v0 v1 v2 (0 : Int32) M4))
set_option maxHeartbeats 4000000 in
set_option maxRecDepth 100000 in
theorem tX6_explore_48 {G : mG} {p : Program} {l : Launch} {e : Env} {s : State} {m : MethodId} {args : Array Value} {below : List Frame} {meth : Method} {c : Code} (C : Cx G p l s m args meth c RX6 cX6_explore 4 none []) (hnm : meth.name = yX6_explore.name) (N : Nat) (Z : mZ) : ∀ (fu : Nat) (v0 : Nat) (v1 : Nat) (v2 : Int32) (M : mM) (r : Unit) (M' : mM), fX6_explore_48 N Z fu v0 v1 v2 M = some (r, M') → JJ G p l e rmX6_explore s m args below meth c 4 (mEnd G below args s rmX6_explore (.inl none) Z M') 0 0 48 [(0, .ref v0), (1, .ref v1), (2, .int v2)] [] Z M := by
  intro fu
  induction fu with
  | zero =>
    intro v0 v1 v2 M r M' h
    cases h
  | succ fu ih =>
    intro v0 v1 v2 M r M' h
    rw [fX6_explore_48] at h
    refine j_iload_n C dX6_explore_48 rfl 2 rfl ?_
    refine j_bipush C dX6_explore_49 (v := (60 : Int32)) (by decide) ?_
    refine j_icmp_gt C dX6_explore_51 (tgt := 99) (by decide) (fun hc2 => ?_) (fun hc2 => ?_)
    · rw [if_pos hc2] at h
      cases h
      exact j_vret C rfl (by decide) (by decide) dX6_explore_99
    · rw [if_neg hc2] at h
      refine j_aload_n C dX6_explore_54 rfl 0 rfl ?_
      refine j_iload_n C dX6_explore_55 rfl 2 rfl ?_
      obtain ⟨ho3, h⟩ := ck_spec h
      obtain ⟨r4, M4, hq4, h⟩ := bnd2_spec h
      refine j_run1 (c_V C (As := [.int v2]) (rest := []) (ctX6_isStepTaken C.2.2.2.2.2.2.2.2.1 N Z hq4) kcRX6_34 oyX6_isStepTaken (ci := 6) (T := TX6) (N := 4) rfl (by decide) ho3 ⟨by decide, by decide⟩ ⟨by decide, by decide⟩ (Nat.le_of_ble_eq_true rfl) rfl dX6_explore_56) ?_
      refine j_if_ne C dX6_explore_59 (tgt := 63) (by decide) (fun hc5 => ?_) (fun hc5 => ?_)
      · rw [if_neg hc5] at h
        refine j_iconst C dX6_explore_63 (v := (0 : Int32)) (by decide) ?_
        refine j_istore_n C dX6_explore_64 rfl (by decide) (L' := [(3, .int (0 : Int32)), (0, .ref v0), (1, .ref v1), (2, .int v2)]) rfl ?_
        refine j_sub (L' := [(0, .ref v0), (1, .ref v1), (2, .int v2), (3, .int (0 : Int32))]) [1, 2, 3, 0] rfl ?_
        exact tX6_explore_65 C hnm N Z (fun w0 w1 w2 M9 => fX6_explore_48 N Z fu w0 w1 w2 M9) (fun w0 w1 w2 M9 r9 M9' h9 => ih w0 w1 w2 M9 r9 M9' h9) N v0 v1 v2 (0 : Int32) M4 _ _ h
      · rw [if_pos hc5] at h
        cases h
        exact j_vret C rfl (by decide) (by decide) dX6_explore_62
def fX6_explore_2 (N : Nat) (Z : mZ) : Nat → Nat → Nat → Int32 → mM → Option (Unit × mM)
  | 0, _, _, _, _ => none
  | fu + 1, v0, v1, v2, M => if (10 : Int32) ≤ v2 then fX6_explore_48 N Z N v0 v1 (1 : Int32) M else ck (okO Z v0 6) (bnd1 (Z.2.2.2 v0 0) (fun c13 => bnd2 (fX8_write N Z c13 v2 (0 : Int32) M) (fun _ M14 => bnd1 (Z.2.2.2 v0 3) (fun c15 => ck (okO Z v1 4) (bnd2 (fX4_levelsWith N Z v1 (5 : Int32) v2 M14) (fun r17 M17 => bnd2 (fX4_levelsWith N Z v1 (2 : Int32) v2 M17) (fun r18 M18 => bnd2 (fX8_write N Z c15 v2 ((r17 &&& r18) &&& (2 : Int32)) M18) (fun _ M19 => fX6_explore_2 N Z fu v0 v1 (v2 + (1 : Int32)) M19))))))))
set_option maxHeartbeats 4000000 in
set_option maxRecDepth 100000 in
theorem tX6_explore_2 {G : mG} {p : Program} {l : Launch} {e : Env} {s : State} {m : MethodId} {args : Array Value} {below : List Frame} {meth : Method} {c : Code} (C : Cx G p l s m args meth c RX6 cX6_explore 4 none []) (hnm : meth.name = yX6_explore.name) (N : Nat) (Z : mZ) : ∀ (fu : Nat) (v0 : Nat) (v1 : Nat) (v2 : Int32) (M : mM) (r : Unit) (M' : mM), fX6_explore_2 N Z fu v0 v1 v2 M = some (r, M') → JJ G p l e rmX6_explore s m args below meth c 4 (mEnd G below args s rmX6_explore (.inl none) Z M') 0 0 2 [(0, .ref v0), (1, .ref v1), (2, .int v2)] [] Z M := by
  intro fu
  induction fu with
  | zero =>
    intro v0 v1 v2 M r M' h
    cases h
  | succ fu ih =>
    intro v0 v1 v2 M r M' h
    rw [fX6_explore_2] at h
    refine j_iload_n C dX6_explore_2 rfl 2 rfl ?_
    refine j_bipush C dX6_explore_3 (v := (10 : Int32)) (by decide) ?_
    refine j_icmp_ge C dX6_explore_5 (tgt := 46) (by decide) (fun hc1 => ?_) (fun hc1 => ?_)
    · rw [if_pos hc1] at h
      refine j_iconst C dX6_explore_46 (v := (1 : Int32)) (by decide) ?_
      refine j_istore_n C dX6_explore_47 rfl (by decide) (L' := [(2, .int (1 : Int32)), (0, .ref v0), (1, .ref v1)]) rfl ?_
      refine j_sub (L' := [(0, .ref v0), (1, .ref v1), (2, .int (1 : Int32))]) [1, 2, 0] rfl ?_
      exact tX6_explore_48 C hnm N Z N v0 v1 (1 : Int32) M _ _ h
    · rw [if_neg hc1] at h
      refine j_aload_n C dX6_explore_8 rfl 0 rfl ?_
      obtain ⟨ho12, h⟩ := ck_spec h
      obtain ⟨c13, hr13, h⟩ := bnd1_spec h
      refine j_getR C (cn := RX6) (T := TX6) (N := 4) (ci := 6) rfl iX6 ho12 0 (by decide) rfl fwRX6_9 dX6_explore_9 hr13 ?_
      refine j_iload_n C dX6_explore_12 rfl 2 rfl ?_
      refine j_iconst C dX6_explore_13 (v := (0 : Int32)) (by decide) ?_
      obtain ⟨_, M14, hq14, h⟩ := bnd2_spec h
      refine j_run0 (c_SN C (As := [.ref c13, .int v2, .int (0 : Int32)]) (rest := []) (ctX8_write C.2.2.2.2.2.2.2.2.1 N Z hq14) kcRX6_24 oyX8_write ⟨by decide, by decide⟩ ⟨by decide, by decide⟩ (Nat.le_of_ble_eq_true rfl) rfl dX6_explore_14) ?_
      refine j_aload_n C dX6_explore_17 rfl 0 rfl ?_
      obtain ⟨c15, hr15, h⟩ := bnd1_spec h
      refine j_getR C (cn := RX6) (T := TX6) (N := 4) (ci := 6) rfl iX6 ho12 3 (by decide) rfl fwRX6_21 dX6_explore_18 hr15 ?_
      refine j_iload_n C dX6_explore_21 rfl 2 rfl ?_
      refine j_aload_n C dX6_explore_22 rfl 1 rfl ?_
      refine j_iconst C dX6_explore_23 (v := (5 : Int32)) (by decide) ?_
      refine j_iload_n C dX6_explore_24 rfl 2 rfl ?_
      obtain ⟨ho16, h⟩ := ck_spec h
      obtain ⟨r17, M17, hq17, h⟩ := bnd2_spec h
      refine j_run1 (c_V C (As := [.int (5 : Int32), .int v2]) (rest := [.int v2, .ref c15]) (ctX4_levelsWith C.2.2.2.2.2.2.2.2.1 N Z hq17) kcRX6_28 oyX4_levelsWith (ci := 4) (T := TX4) (N := 7) rfl (by decide) ho16 ⟨by decide, by decide⟩ ⟨by decide, by decide⟩ (Nat.le_of_ble_eq_true rfl) rfl dX6_explore_25) ?_
      refine j_aload_n C dX6_explore_28 rfl 1 rfl ?_
      refine j_iconst C dX6_explore_29 (v := (2 : Int32)) (by decide) ?_
      refine j_iload_n C dX6_explore_30 rfl 2 rfl ?_
      obtain ⟨r18, M18, hq18, h⟩ := bnd2_spec h
      refine j_run1 (c_V C (As := [.int (2 : Int32), .int v2]) (rest := [.int r17, .int v2, .ref c15]) (ctX4_levelsWith C.2.2.2.2.2.2.2.2.1 N Z hq18) kcRX6_28 oyX4_levelsWith (ci := 4) (T := TX4) (N := 7) rfl (by decide) ho16 ⟨by decide, by decide⟩ ⟨by decide, by decide⟩ (Nat.le_of_ble_eq_true rfl) rfl dX6_explore_31) ?_
      refine j_iand C dX6_explore_34 ?_
      refine j_iconst C dX6_explore_35 (v := (2 : Int32)) (by decide) ?_
      refine j_iand C dX6_explore_36 ?_
      obtain ⟨_, M19, hq19, h⟩ := bnd2_spec h
      refine j_run0 (c_SN C (As := [.ref c15, .int v2, .int ((r17 &&& r18) &&& (2 : Int32))]) (rest := []) (ctX8_write C.2.2.2.2.2.2.2.2.1 N Z hq19) kcRX6_24 oyX8_write ⟨by decide, by decide⟩ ⟨by decide, by decide⟩ (Nat.le_of_ble_eq_true rfl) rfl dX6_explore_37) ?_
      refine j_iinc C dX6_explore_40 2 rfl (v := (v2 + (1 : Int32))) (by first | rfl | decide) (by decide) (L' := [(2, .int (v2 + (1 : Int32))), (0, .ref v0), (1, .ref v1)]) rfl ?_
      refine j_goto C dX6_explore_43 (tgt := 2) (by decide) ?_
      refine j_sub (L' := [(0, .ref v0), (1, .ref v1), (2, .int (v2 + (1 : Int32)))]) [1, 2, 0] rfl ?_
      exact ih v0 v1 (v2 + (1 : Int32)) M19 r M' h
def fX6_explore (N : Nat) (Z : mZ) (a0 : Nat) (a1 : Nat) (M : mM) : Option (Unit × mM) := fX6_explore_2 N Z N a0 a1 (0 : Int32) M
set_option maxHeartbeats 4000000 in
set_option maxRecDepth 100000 in
theorem ctX6_explore {G : mG} {l : Launch} (hl : l.stackTraces = false) (N : Nat) (Z : mZ) {a0 : Nat} {a1 : Nat} {M : mM} {r : Unit} {M' : mM} (h : fX6_explore N Z a0 a1 M = some (r, M')) : CT G l yX6_explore (.code yX6_explore cX6_explore 4 none) rmX6_explore [.ref a0, .ref a1] Z M (.inl none) Z M' := by
  unfold fX6_explore at h
  refine CT.of hl (by decide) (Nat.le_of_ble_eq_true rfl) ?_
  intro p e s m args below meth c C hnm
  refine j_sub (L' := [(0, .ref a0), (1, .ref a1)]) [0, 1] rfl ?_
  refine j_iconst C dX6_explore_0 (v := (0 : Int32)) (by decide) ?_
  refine j_istore_n C dX6_explore_1 rfl (by decide) (L' := [(2, .int (0 : Int32)), (0, .ref a0), (1, .ref a1)]) rfl ?_
  refine j_sub (L' := [(0, .ref a0), (1, .ref a1), (2, .int (0 : Int32))]) [1, 2, 0] rfl ?_
  exact tX6_explore_2 C hnm N Z N a0 a1 (0 : Int32) M _ _ h
-- ScaffoldPlanner$Plan has
theorem kcRX4_45 : okV RX4 45 yX4_levelsWith (.code yX4_levelsWith cX4_levelsWith 4 (some .int)) = true := by decide +kernel
abbrev rmX4_has : Room := { frames := 1, cells := 0, slots := 0, locals := 23 }
theorem dX4_has_0 : decode cX4_has 0 = .ok (.iload_n 3, 1) := by decide +kernel
theorem dX4_has_1 : decode cX4_has 1 = .ok (.iconst 1, 1) := by decide +kernel
theorem dX4_has_2 : decode cX4_has 2 = .ok (.if_icmp .lt 26, 3) := by decide +kernel
theorem dX4_has_5 : decode cX4_has 5 = .ok (.iload_n 3, 1) := by decide +kernel
theorem dX4_has_6 : decode cX4_has 6 = .ok (.bipush 6, 2) := by decide +kernel
theorem dX4_has_8 : decode cX4_has 8 = .ok (.if_icmp .gt 20, 3) := by decide +kernel
theorem dX4_has_11 : decode cX4_has 11 = .ok (.aload_n 0, 1) := by decide +kernel
theorem dX4_has_12 : decode cX4_has 12 = .ok (.iload_n 1, 1) := by decide +kernel
theorem dX4_has_13 : decode cX4_has 13 = .ok (.iload_n 2, 1) := by decide +kernel
theorem dX4_has_14 : decode cX4_has 14 = .ok (.invokevirtual 45, 3) := by decide +kernel
theorem dX4_has_17 : decode cX4_has 17 = .ok (.iload_n 3, 1) := by decide +kernel
theorem dX4_has_18 : decode cX4_has 18 = .ok (.ishr, 1) := by decide +kernel
theorem dX4_has_19 : decode cX4_has 19 = .ok (.iconst 1, 1) := by decide +kernel
theorem dX4_has_20 : decode cX4_has 20 = .ok (.iand, 1) := by decide +kernel
theorem dX4_has_21 : decode cX4_has 21 = .ok (.ifCond .eq 7, 3) := by decide +kernel
theorem dX4_has_24 : decode cX4_has 24 = .ok (.iconst 1, 1) := by decide +kernel
theorem dX4_has_25 : decode cX4_has 25 = .ok (.goto 4, 3) := by decide +kernel
theorem dX4_has_28 : decode cX4_has 28 = .ok (.iconst 0, 1) := by decide +kernel
theorem dX4_has_29 : decode cX4_has 29 = .ok (.ireturn, 1) := by decide +kernel
def fX4_has (N : Nat) (Z : mZ) (a0 : Nat) (a1 : Int32) (a2 : Int32) (a3 : Int32) (M : mM) : Option (Int32 × mM) := if a3 < (1 : Int32) then some ((0 : Int32), M) else if (6 : Int32) < a3 then some ((0 : Int32), M) else ck (okO Z a0 4) (bnd2 (fX4_levelsWith N Z a0 a1 a2 M) (fun r4 M4 => if ((r4 >>> (a3 &&& 31)) &&& (1 : Int32)) = 0 then some ((0 : Int32), M4) else some ((1 : Int32), M4)))
set_option maxHeartbeats 4000000 in
set_option maxRecDepth 100000 in
theorem ctX4_has {G : mG} {l : Launch} (hl : l.stackTraces = false) (N : Nat) (Z : mZ) {a0 : Nat} {a1 : Int32} {a2 : Int32} {a3 : Int32} {M : mM} {r : Int32} {M' : mM} (h : fX4_has N Z a0 a1 a2 a3 M = some (r, M')) : CT G l yX4_has (.code yX4_has cX4_has 4 (some .boolean)) rmX4_has [.ref a0, .int a1, .int a2, .int a3] Z M (.inl (some (.int r))) Z M' := by
  unfold fX4_has at h
  refine CT.of hl (by decide) (Nat.le_of_ble_eq_true rfl) ?_
  intro p e s m args below meth c C hnm
  refine j_sub (L' := [(0, .ref a0), (1, .int a1), (2, .int a2), (3, .int a3)]) [0, 1, 2, 3] rfl ?_
  refine j_iload_n C dX4_has_0 rfl 3 rfl ?_
  refine j_iconst C dX4_has_1 (v := (1 : Int32)) (by decide) ?_
  refine j_icmp_lt C dX4_has_2 (tgt := 28) (by decide) (fun hc1 => ?_) (fun hc1 => ?_)
  · rw [if_pos hc1] at h
    refine j_iconst C dX4_has_28 (v := (0 : Int32)) (by decide) ?_
    cases h
    exact j_zret C rfl (by decide) (by decide) (by decide) dX4_has_29
  · rw [if_neg hc1] at h
    refine j_iload_n C dX4_has_5 rfl 3 rfl ?_
    refine j_bipush C dX4_has_6 (v := (6 : Int32)) (by decide) ?_
    refine j_icmp_gt C dX4_has_8 (tgt := 28) (by decide) (fun hc2 => ?_) (fun hc2 => ?_)
    · rw [if_pos hc2] at h
      refine j_iconst C dX4_has_28 (v := (0 : Int32)) (by decide) ?_
      cases h
      exact j_zret C rfl (by decide) (by decide) (by decide) dX4_has_29
    · rw [if_neg hc2] at h
      refine j_aload_n C dX4_has_11 rfl 0 rfl ?_
      refine j_iload_n C dX4_has_12 rfl 1 rfl ?_
      refine j_iload_n C dX4_has_13 rfl 2 rfl ?_
      obtain ⟨ho3, h⟩ := ck_spec h
      obtain ⟨r4, M4, hq4, h⟩ := bnd2_spec h
      refine j_run1 (c_V C (As := [.int a1, .int a2]) (rest := []) (ctX4_levelsWith C.2.2.2.2.2.2.2.2.1 N Z hq4) kcRX4_45 oyX4_levelsWith (ci := 4) (T := TX4) (N := 7) rfl (by decide) ho3 ⟨by decide, by decide⟩ ⟨by decide, by decide⟩ (Nat.le_of_ble_eq_true rfl) rfl dX4_has_14) ?_
      refine j_iload_n C dX4_has_17 rfl 3 rfl ?_
      refine j_ishr C dX4_has_18 ?_
      refine j_iconst C dX4_has_19 (v := (1 : Int32)) (by decide) ?_
      refine j_iand C dX4_has_20 ?_
      refine j_if_eq C dX4_has_21 (tgt := 28) (by decide) (fun hc5 => ?_) (fun hc5 => ?_)
      · rw [if_pos hc5] at h
        refine j_iconst C dX4_has_28 (v := (0 : Int32)) (by decide) ?_
        cases h
        exact j_zret C rfl (by decide) (by decide) (by decide) dX4_has_29
      · rw [if_neg hc5] at h
        refine j_iconst C dX4_has_24 (v := (1 : Int32)) (by decide) ?_
        refine j_goto C dX4_has_25 (tgt := 29) (by decide) ?_
        cases h
        exact j_zret C rfl (by decide) (by decide) (by decide) dX4_has_29
-- ScaffoldPlanner$Plan postHeight
theorem kcRX4_49 : okV RX4 49 yX4_placeBefore (.code yX4_placeBefore cX4_placeBefore 2 (some .int)) = true := by decide +kernel
theorem mmRX4_53 : okM RX4 53 Lib.Math.max.name Lib.Math.max.code = true := by decide +kernel
abbrev rmX4_postHeight : Room := { frames := 1, cells := 0, slots := 0, locals := 21 }
theorem dX4_postHeight_0 : decode cX4_postHeight 0 = .ok (.aload_n 0, 1) := by decide +kernel
theorem dX4_postHeight_1 : decode cX4_postHeight 1 = .ok (.getfield 18, 3) := by decide +kernel
theorem dX4_postHeight_4 : decode cX4_postHeight 4 = .ok (.aload_n 0, 1) := by decide +kernel
theorem dX4_postHeight_5 : decode cX4_postHeight 5 = .ok (.iload_n 1, 1) := by decide +kernel
theorem dX4_postHeight_6 : decode cX4_postHeight 6 = .ok (.invokevirtual 49, 3) := by decide +kernel
theorem dX4_postHeight_9 : decode cX4_postHeight 9 = .ok (.invokestatic 41, 3) := by decide +kernel
theorem dX4_postHeight_12 : decode cX4_postHeight 12 = .ok (.aload_n 0, 1) := by decide +kernel
theorem dX4_postHeight_13 : decode cX4_postHeight 13 = .ok (.getfield 18, 3) := by decide +kernel
theorem dX4_postHeight_16 : decode cX4_postHeight 16 = .ok (.iload_n 1, 1) := by decide +kernel
theorem dX4_postHeight_17 : decode cX4_postHeight 17 = .ok (.invokestatic 41, 3) := by decide +kernel
theorem dX4_postHeight_20 : decode cX4_postHeight 20 = .ok (.invokestatic 53, 3) := by decide +kernel
theorem dX4_postHeight_23 : decode cX4_postHeight 23 = .ok (.ireturn, 1) := by decide +kernel
def fX4_postHeight (N : Nat) (Z : mZ) (a0 : Nat) (a1 : Int32) (M : mM) : Option (Int32 × mM) := ck (okO Z a0 4) (bnd1 (Z.2.2.2 a0 2) (fun c2 => bnd2 (fX4_placeBefore N Z a0 a1 M) (fun r3 M3 => bnd2 (fX8_at N Z c2 r3 M3) (fun r4 M4 => bnd2 (fX8_at N Z c2 a1 M4) (fun r5 M5 => some ((if r4 < r5 then r5 else r4), M5))))))
set_option maxHeartbeats 4000000 in
set_option maxRecDepth 100000 in
theorem ctX4_postHeight {G : mG} {l : Launch} (hl : l.stackTraces = false) (N : Nat) (Z : mZ) {a0 : Nat} {a1 : Int32} {M : mM} {r : Int32} {M' : mM} (h : fX4_postHeight N Z a0 a1 M = some (r, M')) : CT G l yX4_postHeight (.code yX4_postHeight cX4_postHeight 2 (some .int)) rmX4_postHeight [.ref a0, .int a1] Z M (.inl (some (.int r))) Z M' := by
  unfold fX4_postHeight at h
  refine CT.of hl (by decide) (Nat.le_of_ble_eq_true rfl) ?_
  intro p e s m args below meth c C hnm
  refine j_sub (L' := [(0, .ref a0), (1, .int a1)]) [0, 1] rfl ?_
  refine j_aload_n C dX4_postHeight_0 rfl 0 rfl ?_
  obtain ⟨ho1, h⟩ := ck_spec h
  obtain ⟨c2, hr2, h⟩ := bnd1_spec h
  refine j_getR C (cn := RX4) (T := TX4) (N := 7) (ci := 4) rfl iX4 ho1 2 (by decide) rfl fwRX4_18 dX4_postHeight_1 hr2 ?_
  refine j_aload_n C dX4_postHeight_4 rfl 0 rfl ?_
  refine j_iload_n C dX4_postHeight_5 rfl 1 rfl ?_
  obtain ⟨r3, M3, hq3, h⟩ := bnd2_spec h
  refine j_run1 (c_V C (As := [.int a1]) (rest := [.ref c2]) (ctX4_placeBefore C.2.2.2.2.2.2.2.2.1 N Z hq3) kcRX4_49 oyX4_placeBefore (ci := 4) (T := TX4) (N := 7) rfl (by decide) ho1 ⟨by decide, by decide⟩ ⟨by decide, by decide⟩ (Nat.le_of_ble_eq_true rfl) rfl dX4_postHeight_6) ?_
  obtain ⟨r4, M4, hq4, h⟩ := bnd2_spec h
  refine j_run1 (c_SN C (As := [.ref c2, .int r3]) (rest := []) (ctX8_at C.2.2.2.2.2.2.2.2.1 N Z hq4) kcRX4_41 oyX8_at ⟨by decide, by decide⟩ ⟨by decide, by decide⟩ (Nat.le_of_ble_eq_true rfl) rfl dX4_postHeight_9) ?_
  refine j_aload_n C dX4_postHeight_12 rfl 0 rfl ?_
  refine j_getR C (cn := RX4) (T := TX4) (N := 7) (ci := 4) rfl iX4 ho1 2 (by decide) rfl fwRX4_18 dX4_postHeight_13 hr2 ?_
  refine j_iload_n C dX4_postHeight_16 rfl 1 rfl ?_
  obtain ⟨r5, M5, hq5, h⟩ := bnd2_spec h
  refine j_run1 (c_SN C (As := [.ref c2, .int a1]) (rest := [.int r4]) (ctX8_at C.2.2.2.2.2.2.2.2.1 N Z hq5) kcRX4_41 oyX8_at ⟨by decide, by decide⟩ ⟨by decide, by decide⟩ (Nat.le_of_ble_eq_true rfl) rfl dX4_postHeight_17) ?_
  refine j_mmax C mmRX4_53 (by decide) (Nat.le_of_ble_eq_true rfl) (by decide) (by decide) dX4_postHeight_20 ?_
  cases h
  exact j_iret C rfl (by decide) (by decide) dX4_postHeight_23
-- ScaffoldPlanner$Plan heightFor
theorem fwRX4_58 : Cond.fieldLink RX4 58 RX7 (TX7 0).2.1 (TX7 0).2.2.1 ∈ gw := by decide +kernel
theorem fwRX4_63 : Cond.fieldLink RX4 63 RX7 (TX7 1).2.1 (TX7 1).2.2.1 ∈ gw := by decide +kernel
theorem kcRX4_66 : okV RX4 66 yX4_postHeight (.code yX4_postHeight cX4_postHeight 2 (some .int)) = true := by decide +kernel
theorem oyX4_postHeight : okY yX4_postHeight 1 := ⟨by decide +kernel, by decide +kernel, by decide +kernel⟩
abbrev rmX4_heightFor : Room := { frames := 2, cells := 0, slots := 0, locals := 42 }
theorem dX4_heightFor_0 : decode cX4_heightFor 0 = .ok (.aload_n 1, 1) := by decide +kernel
theorem dX4_heightFor_1 : decode cX4_heightFor 1 = .ok (.getfield 58, 3) := by decide +kernel
theorem dX4_heightFor_4 : decode cX4_heightFor 4 = .ok (.iconst 4, 1) := by decide +kernel
theorem dX4_heightFor_5 : decode cX4_heightFor 5 = .ok (.if_icmp .ne 14, 3) := by decide +kernel
theorem dX4_heightFor_8 : decode cX4_heightFor 8 = .ok (.aload_n 0, 1) := by decide +kernel
theorem dX4_heightFor_9 : decode cX4_heightFor 9 = .ok (.aload_n 1, 1) := by decide +kernel
theorem dX4_heightFor_10 : decode cX4_heightFor 10 = .ok (.getfield 63, 3) := by decide +kernel
theorem dX4_heightFor_13 : decode cX4_heightFor 13 = .ok (.invokevirtual 66, 3) := by decide +kernel
theorem dX4_heightFor_16 : decode cX4_heightFor 16 = .ok (.goto 14, 3) := by decide +kernel
theorem dX4_heightFor_19 : decode cX4_heightFor 19 = .ok (.aload_n 0, 1) := by decide +kernel
theorem dX4_heightFor_20 : decode cX4_heightFor 20 = .ok (.getfield 18, 3) := by decide +kernel
theorem dX4_heightFor_23 : decode cX4_heightFor 23 = .ok (.aload_n 1, 1) := by decide +kernel
theorem dX4_heightFor_24 : decode cX4_heightFor 24 = .ok (.getfield 63, 3) := by decide +kernel
theorem dX4_heightFor_27 : decode cX4_heightFor 27 = .ok (.invokestatic 41, 3) := by decide +kernel
theorem dX4_heightFor_30 : decode cX4_heightFor 30 = .ok (.ireturn, 1) := by decide +kernel
def fX4_heightFor (N : Nat) (Z : mZ) (a0 : Nat) (a1 : Nat) (M : mM) : Option (Int32 × mM) := ck (okO Z a1 7) (if (M.1 a1 0) = (4 : Int32) then ck (okO Z a0 4) (bnd2 (fX4_postHeight N Z a0 (M.1 a1 1) M) (fun r4 M4 => some (r4, M4))) else ck (okO Z a0 4) (bnd1 (Z.2.2.2 a0 2) (fun c6 => bnd2 (fX8_at N Z c6 (M.1 a1 1) M) (fun r7 M7 => some (r7, M7)))))
set_option maxHeartbeats 4000000 in
set_option maxRecDepth 100000 in
theorem ctX4_heightFor {G : mG} {l : Launch} (hl : l.stackTraces = false) (N : Nat) (Z : mZ) {a0 : Nat} {a1 : Nat} {M : mM} {r : Int32} {M' : mM} (h : fX4_heightFor N Z a0 a1 M = some (r, M')) : CT G l yX4_heightFor (.code yX4_heightFor cX4_heightFor 2 (some .int)) rmX4_heightFor [.ref a0, .ref a1] Z M (.inl (some (.int r))) Z M' := by
  unfold fX4_heightFor at h
  refine CT.of hl (by decide) (Nat.le_of_ble_eq_true rfl) ?_
  intro p e s m args below meth c C hnm
  refine j_sub (L' := [(0, .ref a0), (1, .ref a1)]) [0, 1] rfl ?_
  refine j_aload_n C dX4_heightFor_0 rfl 1 rfl ?_
  obtain ⟨ho1, h⟩ := ck_spec h
  refine j_getI C (cn := RX7) (T := TX7) (N := 5) (ci := 7) rfl iX7 ho1 0 (by decide) rfl fwRX4_58 dX4_heightFor_1 ?_
  refine j_iconst C dX4_heightFor_4 (v := (4 : Int32)) (by decide) ?_
  refine j_icmp_ne C dX4_heightFor_5 (tgt := 19) (by decide) (fun hc2 => ?_) (fun hc2 => ?_)
  · rw [if_neg hc2] at h
    refine j_aload_n C dX4_heightFor_19 rfl 0 rfl ?_
    obtain ⟨ho5, h⟩ := ck_spec h
    obtain ⟨c6, hr6, h⟩ := bnd1_spec h
    refine j_getR C (cn := RX4) (T := TX4) (N := 7) (ci := 4) rfl iX4 ho5 2 (by decide) rfl fwRX4_18 dX4_heightFor_20 hr6 ?_
    refine j_aload_n C dX4_heightFor_23 rfl 1 rfl ?_
    refine j_getI C (cn := RX7) (T := TX7) (N := 5) (ci := 7) rfl iX7 ho1 1 (by decide) rfl fwRX4_63 dX4_heightFor_24 ?_
    obtain ⟨r7, M7, hq7, h⟩ := bnd2_spec h
    refine j_run1 (c_SN C (As := [.ref c6, .int (M.1 a1 1)]) (rest := []) (ctX8_at C.2.2.2.2.2.2.2.2.1 N Z hq7) kcRX4_41 oyX8_at ⟨by decide, by decide⟩ ⟨by decide, by decide⟩ (Nat.le_of_ble_eq_true rfl) rfl dX4_heightFor_27) ?_
    cases h
    exact j_iret C rfl (by decide) (by decide) dX4_heightFor_30
  · rw [if_pos hc2] at h
    refine j_aload_n C dX4_heightFor_8 rfl 0 rfl ?_
    refine j_aload_n C dX4_heightFor_9 rfl 1 rfl ?_
    refine j_getI C (cn := RX7) (T := TX7) (N := 5) (ci := 7) rfl iX7 ho1 1 (by decide) rfl fwRX4_63 dX4_heightFor_10 ?_
    obtain ⟨ho3, h⟩ := ck_spec h
    obtain ⟨r4, M4, hq4, h⟩ := bnd2_spec h
    refine j_run1 (c_V C (As := [.int (M.1 a1 1)]) (rest := []) (ctX4_postHeight C.2.2.2.2.2.2.2.2.1 N Z hq4) kcRX4_66 oyX4_postHeight (ci := 4) (T := TX4) (N := 7) rfl (by decide) ho3 ⟨by decide, by decide⟩ ⟨by decide, by decide⟩ (Nat.le_of_ble_eq_true rfl) rfl dX4_heightFor_13) ?_
    refine j_goto C dX4_heightFor_16 (tgt := 30) (by decide) ?_
    cases h
    exact j_iret C rfl (by decide) (by decide) dX4_heightFor_30
-- ScaffoldPlanner$Judge refuse
abbrev rmX3_refuse : Room := { frames := 0, cells := 0, slots := 0, locals := 0 }
theorem dX3_refuse_0 : decode cX3_refuse 0 = .ok (.aload_n 0, 1) := by decide +kernel
theorem dX3_refuse_1 : decode cX3_refuse 1 = .ok (.iload_n 1, 1) := by decide +kernel
theorem dX3_refuse_2 : decode cX3_refuse 2 = .ok (.putfield 9, 3) := by decide +kernel
theorem dX3_refuse_5 : decode cX3_refuse 5 = .ok (.aload_n 0, 1) := by decide +kernel
theorem dX3_refuse_6 : decode cX3_refuse 6 = .ok (.iload_n 2, 1) := by decide +kernel
theorem dX3_refuse_7 : decode cX3_refuse 7 = .ok (.putfield 15, 3) := by decide +kernel
theorem dX3_refuse_10 : decode cX3_refuse 10 = .ok (.return_, 1) := by decide +kernel
def fX3_refuse (N : Nat) (Z : mZ) (a0 : Nat) (a1 : Int32) (a2 : Int32) (M : mM) : Option (Unit × mM) := ck (okO Z a0 3) (some ((), (sI (sI M a0 0 a1) a0 1 a2)))
set_option maxHeartbeats 4000000 in
set_option maxRecDepth 100000 in
theorem ctX3_refuse {G : mG} {l : Launch} (hl : l.stackTraces = false) (N : Nat) (Z : mZ) {a0 : Nat} {a1 : Int32} {a2 : Int32} {M : mM} {r : Unit} {M' : mM} (h : fX3_refuse N Z a0 a1 a2 M = some (r, M')) : CT G l yX3_refuse (.code yX3_refuse cX3_refuse 3 none) rmX3_refuse [.ref a0, .int a1, .int a2] Z M (.inl none) Z M' := by
  unfold fX3_refuse at h
  refine CT.of hl (by decide) (Nat.le_of_ble_eq_true rfl) ?_
  intro p e s m args below meth c C hnm
  refine j_sub (L' := [(0, .ref a0), (1, .int a1), (2, .int a2)]) [0, 1, 2] rfl ?_
  refine j_aload_n C dX3_refuse_0 rfl 0 rfl ?_
  refine j_iload_n C dX3_refuse_1 rfl 1 rfl ?_
  obtain ⟨ho1, h⟩ := ck_spec h
  refine j_putI C tyX3 tyX3_ok nmX3 (cn := RX3) (T := TX3) (N := 3) (ci := 3) rfl iX3 ho1 0 (by decide) rfl fwRX3_9 ⟨rfl, rfl⟩ dX3_refuse_2 ?_
  refine j_aload_n C dX3_refuse_5 rfl 0 rfl ?_
  refine j_iload_n C dX3_refuse_6 rfl 2 rfl ?_
  refine j_putI C tyX3 tyX3_ok nmX3 (cn := RX3) (T := TX3) (N := 3) (ci := 3) rfl iX3 ho1 1 (by decide) rfl fwRX3_15 ⟨rfl, rfl⟩ dX3_refuse_7 ?_
  cases h
  exact j_vret C rfl (by decide) (by decide) dX3_refuse_10
-- ScaffoldPlanner$Judge examineLevel
theorem kcRX3_79 : okV RX3 79 yX4_heightFor (.code yX4_heightFor cX4_heightFor 2 (some .int)) = true := by decide +kernel
theorem oyX4_heightFor : okY yX4_heightFor 1 := ⟨by decide +kernel, by decide +kernel, by decide +kernel⟩
theorem fwRX3_29 : Cond.fieldLink RX3 29 RX7 (TX7 0).2.1 (TX7 0).2.2.1 ∈ gw := by decide +kernel
theorem fwRX3_37 : Cond.fieldLink RX3 37 RX7 (TX7 4).2.1 (TX7 4).2.2.1 ∈ gw := by decide +kernel
theorem fwRX3_83 : Cond.fieldLink RX3 83 RX7 (TX7 2).2.1 (TX7 2).2.2.1 ∈ gw := by decide +kernel
theorem kcRX3_86 : okV RX3 86 yX3_refuse (.code yX3_refuse cX3_refuse 3 none) = true := by decide +kernel
theorem oyX3_refuse : okY yX3_refuse 2 := ⟨by decide +kernel, by decide +kernel, by decide +kernel⟩
abbrev rmX3_examineLevel : Room := { frames := 3, cells := 0, slots := 0, locals := 63 }
theorem dX3_examineLevel_0 : decode cX3_examineLevel 0 = .ok (.aload_n 1, 1) := by decide +kernel
theorem dX3_examineLevel_1 : decode cX3_examineLevel 1 = .ok (.aload_n 2, 1) := by decide +kernel
theorem dX3_examineLevel_2 : decode cX3_examineLevel 2 = .ok (.invokevirtual 79, 3) := by decide +kernel
theorem dX3_examineLevel_5 : decode cX3_examineLevel 5 = .ok (.istore_n 3, 1) := by decide +kernel
theorem dX3_examineLevel_6 : decode cX3_examineLevel 6 = .ok (.aload_n 2, 1) := by decide +kernel
theorem dX3_examineLevel_7 : decode cX3_examineLevel 7 = .ok (.getfield 29, 3) := by decide +kernel
theorem dX3_examineLevel_10 : decode cX3_examineLevel 10 = .ok (.ifCond .ne 21, 3) := by decide +kernel
theorem dX3_examineLevel_13 : decode cX3_examineLevel 13 = .ok (.aload_n 2, 1) := by decide +kernel
theorem dX3_examineLevel_14 : decode cX3_examineLevel 14 = .ok (.aload_n 2, 1) := by decide +kernel
theorem dX3_examineLevel_15 : decode cX3_examineLevel 15 = .ok (.getfield 37, 3) := by decide +kernel
theorem dX3_examineLevel_18 : decode cX3_examineLevel 18 = .ok (.ifCond .eq 7, 3) := by decide +kernel
theorem dX3_examineLevel_21 : decode cX3_examineLevel 21 = .ok (.iload_n 3, 1) := by decide +kernel
theorem dX3_examineLevel_22 : decode cX3_examineLevel 22 = .ok (.goto 6, 3) := by decide +kernel
theorem dX3_examineLevel_25 : decode cX3_examineLevel 25 = .ok (.iload_n 3, 1) := by decide +kernel
theorem dX3_examineLevel_26 : decode cX3_examineLevel 26 = .ok (.iconst 1, 1) := by decide +kernel
theorem dX3_examineLevel_27 : decode cX3_examineLevel 27 = .ok (.iadd, 1) := by decide +kernel
theorem dX3_examineLevel_28 : decode cX3_examineLevel 28 = .ok (.putfield 83, 3) := by decide +kernel
theorem dX3_examineLevel_31 : decode cX3_examineLevel 31 = .ok (.aload_n 2, 1) := by decide +kernel
theorem dX3_examineLevel_32 : decode cX3_examineLevel 32 = .ok (.getfield 29, 3) := by decide +kernel
theorem dX3_examineLevel_35 : decode cX3_examineLevel 35 = .ok (.ifCond .ne 15, 3) := by decide +kernel
theorem dX3_examineLevel_38 : decode cX3_examineLevel 38 = .ok (.aload_n 2, 1) := by decide +kernel
theorem dX3_examineLevel_39 : decode cX3_examineLevel 39 = .ok (.getfield 37, 3) := by decide +kernel
theorem dX3_examineLevel_42 : decode cX3_examineLevel 42 = .ok (.ifCond .ne 8, 3) := by decide +kernel
theorem dX3_examineLevel_45 : decode cX3_examineLevel 45 = .ok (.bipush 6, 2) := by decide +kernel
theorem dX3_examineLevel_47 : decode cX3_examineLevel 47 = .ok (.goto 4, 3) := by decide +kernel
theorem dX3_examineLevel_50 : decode cX3_examineLevel 50 = .ok (.iload_n 3, 1) := by decide +kernel
theorem dX3_examineLevel_51 : decode cX3_examineLevel 51 = .ok (.istore 4, 2) := by decide +kernel
theorem dX3_examineLevel_53 : decode cX3_examineLevel 53 = .ok (.aload_n 2, 1) := by decide +kernel
theorem dX3_examineLevel_54 : decode cX3_examineLevel 54 = .ok (.getfield 83, 3) := by decide +kernel
theorem dX3_examineLevel_57 : decode cX3_examineLevel 57 = .ok (.iconst 1, 1) := by decide +kernel
theorem dX3_examineLevel_58 : decode cX3_examineLevel 58 = .ok (.if_icmp .lt 12, 3) := by decide +kernel
theorem dX3_examineLevel_61 : decode cX3_examineLevel 61 = .ok (.aload_n 2, 1) := by decide +kernel
theorem dX3_examineLevel_62 : decode cX3_examineLevel 62 = .ok (.getfield 83, 3) := by decide +kernel
theorem dX3_examineLevel_65 : decode cX3_examineLevel 65 = .ok (.iload 4, 2) := by decide +kernel
theorem dX3_examineLevel_67 : decode cX3_examineLevel 67 = .ok (.if_icmp .le 9, 3) := by decide +kernel
theorem dX3_examineLevel_70 : decode cX3_examineLevel 70 = .ok (.aload_n 0, 1) := by decide +kernel
theorem dX3_examineLevel_71 : decode cX3_examineLevel 71 = .ok (.iconst 1, 1) := by decide +kernel
theorem dX3_examineLevel_72 : decode cX3_examineLevel 72 = .ok (.iload_n 3, 1) := by decide +kernel
theorem dX3_examineLevel_73 : decode cX3_examineLevel 73 = .ok (.invokevirtual 86, 3) := by decide +kernel
theorem dX3_examineLevel_76 : decode cX3_examineLevel 76 = .ok (.return_, 1) := by decide +kernel
def fX3_examineLevel_50 (N : Nat) (Z : mZ) (v0 : Nat) (v2 : Nat) (v3 : Int32) (M : mM) : Option (Unit × mM) := ck (okO Z v2 7) (if (M.1 v2 2) < (1 : Int32) then ck (okO Z v0 3) (bnd2 (fX3_refuse N Z v0 (1 : Int32) v3 M) (fun _ M18 => some ((), M18))) else if (M.1 v2 2) ≤ v3 then some ((), M) else ck (okO Z v0 3) (bnd2 (fX3_refuse N Z v0 (1 : Int32) v3 M) (fun _ M21 => some ((), M21))))
set_option maxHeartbeats 4000000 in
set_option maxRecDepth 100000 in
theorem tX3_examineLevel_50 {G : mG} {p : Program} {l : Launch} {e : Env} {s : State} {m : MethodId} {args : Array Value} {below : List Frame} {meth : Method} {c : Code} (C : Cx G p l s m args meth c RX3 cX3_examineLevel 5 none []) (hnm : meth.name = yX3_examineLevel.name) (N : Nat) (Z : mZ) : ∀ (v0 : Nat) (v2 : Nat) (v3 : Int32) (M : mM) (r : Unit) (M' : mM), fX3_examineLevel_50 N Z v0 v2 v3 M = some (r, M') → JJ G p l e rmX3_examineLevel s m args below meth c 5 (mEnd G below args s rmX3_examineLevel (.inl none) Z M') 0 0 50 [(0, .ref v0), (2, .ref v2), (3, .int v3)] [] Z M := by
  intro v0 v2 v3 M r M' h
  unfold fX3_examineLevel_50 at h
  refine j_iload_n C dX3_examineLevel_50 rfl 2 rfl ?_
  refine j_istore C dX3_examineLevel_51 (by decide) (L' := [(4, .int v3), (0, .ref v0), (2, .ref v2), (3, .int v3)]) rfl ?_
  refine j_aload_n C dX3_examineLevel_53 rfl 2 rfl ?_
  obtain ⟨ho15, h⟩ := ck_spec h
  refine j_getI C (cn := RX7) (T := TX7) (N := 5) (ci := 7) rfl iX7 ho15 2 (by decide) rfl fwRX3_83 dX3_examineLevel_54 ?_
  refine j_iconst C dX3_examineLevel_57 (v := (1 : Int32)) (by decide) ?_
  refine j_icmp_lt C dX3_examineLevel_58 (tgt := 70) (by decide) (fun hc16 => ?_) (fun hc16 => ?_)
  · rw [if_pos hc16] at h
    refine j_aload_n C dX3_examineLevel_70 rfl 1 rfl ?_
    refine j_iconst C dX3_examineLevel_71 (v := (1 : Int32)) (by decide) ?_
    refine j_iload_n C dX3_examineLevel_72 rfl 3 rfl ?_
    obtain ⟨ho17, h⟩ := ck_spec h
    obtain ⟨_, M18, hq18, h⟩ := bnd2_spec h
    refine j_run0 (c_V C (As := [.int (1 : Int32), .int v3]) (rest := []) (ctX3_refuse C.2.2.2.2.2.2.2.2.1 N Z hq18) kcRX3_86 oyX3_refuse (ci := 3) (T := TX3) (N := 3) rfl (by decide) ho17 ⟨by decide, by decide⟩ ⟨by decide, by decide⟩ (Nat.le_of_ble_eq_true rfl) rfl dX3_examineLevel_73) ?_
    cases h
    exact j_vret C rfl (by decide) (by decide) dX3_examineLevel_76
  · rw [if_neg hc16] at h
    refine j_aload_n C dX3_examineLevel_61 rfl 2 rfl ?_
    refine j_getI C (cn := RX7) (T := TX7) (N := 5) (ci := 7) rfl iX7 ho15 2 (by decide) rfl fwRX3_83 dX3_examineLevel_62 ?_
    refine j_iload C dX3_examineLevel_65 0 rfl ?_
    refine j_icmp_le C dX3_examineLevel_67 (tgt := 76) (by decide) (fun hc19 => ?_) (fun hc19 => ?_)
    · rw [if_pos hc19] at h
      cases h
      exact j_vret C rfl (by decide) (by decide) dX3_examineLevel_76
    · rw [if_neg hc19] at h
      refine j_aload_n C dX3_examineLevel_70 rfl 1 rfl ?_
      refine j_iconst C dX3_examineLevel_71 (v := (1 : Int32)) (by decide) ?_
      refine j_iload_n C dX3_examineLevel_72 rfl 3 rfl ?_
      obtain ⟨ho20, h⟩ := ck_spec h
      obtain ⟨_, M21, hq21, h⟩ := bnd2_spec h
      refine j_run0 (c_V C (As := [.int (1 : Int32), .int v3]) (rest := []) (ctX3_refuse C.2.2.2.2.2.2.2.2.1 N Z hq21) kcRX3_86 oyX3_refuse (ci := 3) (T := TX3) (N := 3) rfl (by decide) ho20 ⟨by decide, by decide⟩ ⟨by decide, by decide⟩ (Nat.le_of_ble_eq_true rfl) rfl dX3_examineLevel_73) ?_
      cases h
      exact j_vret C rfl (by decide) (by decide) dX3_examineLevel_76
def fX3_examineLevel_31 (N : Nat) (Z : mZ) (v0 : Nat) (v2 : Nat) (v3 : Int32) (M : mM) : Option (Unit × mM) := ck (okO Z v2 7) (if (M.1 v2 0) = 0 then if (M.1 v2 4) = 0 then if (M.1 v2 2) < (1 : Int32) then ck (okO Z v0 3) (bnd2 (fX3_refuse N Z v0 (1 : Int32) v3 M) (fun _ M11 => some ((), M11))) else if (M.1 v2 2) ≤ (6 : Int32) then some ((), M) else ck (okO Z v0 3) (bnd2 (fX3_refuse N Z v0 (1 : Int32) v3 M) (fun _ M14 => some ((), M14))) else fX3_examineLevel_50 N Z v0 v2 v3 M else fX3_examineLevel_50 N Z v0 v2 v3 M)
set_option maxHeartbeats 4000000 in
set_option maxRecDepth 100000 in
theorem tX3_examineLevel_31 {G : mG} {p : Program} {l : Launch} {e : Env} {s : State} {m : MethodId} {args : Array Value} {below : List Frame} {meth : Method} {c : Code} (C : Cx G p l s m args meth c RX3 cX3_examineLevel 5 none []) (hnm : meth.name = yX3_examineLevel.name) (N : Nat) (Z : mZ) : ∀ (v0 : Nat) (v2 : Nat) (v3 : Int32) (M : mM) (r : Unit) (M' : mM), fX3_examineLevel_31 N Z v0 v2 v3 M = some (r, M') → JJ G p l e rmX3_examineLevel s m args below meth c 5 (mEnd G below args s rmX3_examineLevel (.inl none) Z M') 0 0 31 [(0, .ref v0), (2, .ref v2), (3, .int v3)] [] Z M := by
  intro v0 v2 v3 M r M' h
  unfold fX3_examineLevel_31 at h
  refine j_aload_n C dX3_examineLevel_31 rfl 1 rfl ?_
  obtain ⟨ho6, h⟩ := ck_spec h
  refine j_getI C (cn := RX7) (T := TX7) (N := 5) (ci := 7) rfl iX7 ho6 0 (by decide) rfl fwRX3_29 dX3_examineLevel_32 ?_
  refine j_if_ne C dX3_examineLevel_35 (tgt := 50) (by decide) (fun hc7 => ?_) (fun hc7 => ?_)
  · rw [if_neg hc7] at h
    refine j_sub (L' := [(0, .ref v0), (2, .ref v2), (3, .int v3)]) [0, 1, 2] rfl ?_
    exact tX3_examineLevel_50 C hnm N Z v0 v2 v3 M _ _ h
  · rw [if_pos hc7] at h
    refine j_aload_n C dX3_examineLevel_38 rfl 1 rfl ?_
    refine j_getI C (cn := RX7) (T := TX7) (N := 5) (ci := 7) rfl iX7 ho6 4 (by decide) rfl fwRX3_37 dX3_examineLevel_39 ?_
    refine j_if_ne C dX3_examineLevel_42 (tgt := 50) (by decide) (fun hc8 => ?_) (fun hc8 => ?_)
    · rw [if_neg hc8] at h
      refine j_sub (L' := [(0, .ref v0), (2, .ref v2), (3, .int v3)]) [0, 1, 2] rfl ?_
      exact tX3_examineLevel_50 C hnm N Z v0 v2 v3 M _ _ h
    · rw [if_pos hc8] at h
      refine j_bipush C dX3_examineLevel_45 (v := (6 : Int32)) (by decide) ?_
      refine j_goto C dX3_examineLevel_47 (tgt := 51) (by decide) ?_
      refine j_istore C dX3_examineLevel_51 (by decide) (L' := [(4, .int (6 : Int32)), (0, .ref v0), (2, .ref v2), (3, .int v3)]) rfl ?_
      refine j_aload_n C dX3_examineLevel_53 rfl 2 rfl ?_
      refine j_getI C (cn := RX7) (T := TX7) (N := 5) (ci := 7) rfl iX7 ho6 2 (by decide) rfl fwRX3_83 dX3_examineLevel_54 ?_
      refine j_iconst C dX3_examineLevel_57 (v := (1 : Int32)) (by decide) ?_
      refine j_icmp_lt C dX3_examineLevel_58 (tgt := 70) (by decide) (fun hc9 => ?_) (fun hc9 => ?_)
      · rw [if_pos hc9] at h
        refine j_aload_n C dX3_examineLevel_70 rfl 1 rfl ?_
        refine j_iconst C dX3_examineLevel_71 (v := (1 : Int32)) (by decide) ?_
        refine j_iload_n C dX3_examineLevel_72 rfl 3 rfl ?_
        obtain ⟨ho10, h⟩ := ck_spec h
        obtain ⟨_, M11, hq11, h⟩ := bnd2_spec h
        refine j_run0 (c_V C (As := [.int (1 : Int32), .int v3]) (rest := []) (ctX3_refuse C.2.2.2.2.2.2.2.2.1 N Z hq11) kcRX3_86 oyX3_refuse (ci := 3) (T := TX3) (N := 3) rfl (by decide) ho10 ⟨by decide, by decide⟩ ⟨by decide, by decide⟩ (Nat.le_of_ble_eq_true rfl) rfl dX3_examineLevel_73) ?_
        cases h
        exact j_vret C rfl (by decide) (by decide) dX3_examineLevel_76
      · rw [if_neg hc9] at h
        refine j_aload_n C dX3_examineLevel_61 rfl 2 rfl ?_
        refine j_getI C (cn := RX7) (T := TX7) (N := 5) (ci := 7) rfl iX7 ho6 2 (by decide) rfl fwRX3_83 dX3_examineLevel_62 ?_
        refine j_iload C dX3_examineLevel_65 0 rfl ?_
        refine j_icmp_le C dX3_examineLevel_67 (tgt := 76) (by decide) (fun hc12 => ?_) (fun hc12 => ?_)
        · rw [if_pos hc12] at h
          cases h
          exact j_vret C rfl (by decide) (by decide) dX3_examineLevel_76
        · rw [if_neg hc12] at h
          refine j_aload_n C dX3_examineLevel_70 rfl 1 rfl ?_
          refine j_iconst C dX3_examineLevel_71 (v := (1 : Int32)) (by decide) ?_
          refine j_iload_n C dX3_examineLevel_72 rfl 3 rfl ?_
          obtain ⟨ho13, h⟩ := ck_spec h
          obtain ⟨_, M14, hq14, h⟩ := bnd2_spec h
          refine j_run0 (c_V C (As := [.int (1 : Int32), .int v3]) (rest := []) (ctX3_refuse C.2.2.2.2.2.2.2.2.1 N Z hq14) kcRX3_86 oyX3_refuse (ci := 3) (T := TX3) (N := 3) rfl (by decide) ho13 ⟨by decide, by decide⟩ ⟨by decide, by decide⟩ (Nat.le_of_ble_eq_true rfl) rfl dX3_examineLevel_73) ?_
          cases h
          exact j_vret C rfl (by decide) (by decide) dX3_examineLevel_76
def fX3_examineLevel (N : Nat) (Z : mZ) (a0 : Nat) (a1 : Nat) (a2 : Nat) (M : mM) : Option (Unit × mM) := ck (okO Z a1 4) (bnd2 (fX4_heightFor N Z a1 a2 M) (fun r2 M2 => ck (okO Z a2 7) (if (M2.1 a2 0) = 0 then if (M2.1 a2 4) = 0 then fX3_examineLevel_31 N Z a0 a2 r2 (sI M2 a2 2 (r2 + (1 : Int32))) else fX3_examineLevel_31 N Z a0 a2 r2 (sI M2 a2 2 r2) else fX3_examineLevel_31 N Z a0 a2 r2 M2)))
set_option maxHeartbeats 4000000 in
set_option maxRecDepth 100000 in
theorem ctX3_examineLevel {G : mG} {l : Launch} (hl : l.stackTraces = false) (N : Nat) (Z : mZ) {a0 : Nat} {a1 : Nat} {a2 : Nat} {M : mM} {r : Unit} {M' : mM} (h : fX3_examineLevel N Z a0 a1 a2 M = some (r, M')) : CT G l yX3_examineLevel (.code yX3_examineLevel cX3_examineLevel 5 none) rmX3_examineLevel [.ref a0, .ref a1, .ref a2] Z M (.inl none) Z M' := by
  unfold fX3_examineLevel at h
  refine CT.of hl (by decide) (Nat.le_of_ble_eq_true rfl) ?_
  intro p e s m args below meth c C hnm
  refine j_sub (L' := [(0, .ref a0), (1, .ref a1), (2, .ref a2)]) [0, 1, 2] rfl ?_
  refine j_aload_n C dX3_examineLevel_0 rfl 1 rfl ?_
  refine j_aload_n C dX3_examineLevel_1 rfl 2 rfl ?_
  obtain ⟨ho1, h⟩ := ck_spec h
  obtain ⟨r2, M2, hq2, h⟩ := bnd2_spec h
  refine j_run1 (c_V C (As := [.ref a2]) (rest := []) (ctX4_heightFor C.2.2.2.2.2.2.2.2.1 N Z hq2) kcRX3_79 oyX4_heightFor (ci := 4) (T := TX4) (N := 7) rfl (by decide) ho1 ⟨by decide, by decide⟩ ⟨by decide, by decide⟩ (Nat.le_of_ble_eq_true rfl) rfl dX3_examineLevel_2) ?_
  refine j_istore_n C dX3_examineLevel_5 rfl (by decide) (L' := [(3, .int r2), (0, .ref a0), (1, .ref a1), (2, .ref a2)]) rfl ?_
  refine j_aload_n C dX3_examineLevel_6 rfl 3 rfl ?_
  obtain ⟨ho3, h⟩ := ck_spec h
  refine j_getI C (cn := RX7) (T := TX7) (N := 5) (ci := 7) rfl iX7 ho3 0 (by decide) rfl fwRX3_29 dX3_examineLevel_7 ?_
  refine j_if_ne C dX3_examineLevel_10 (tgt := 31) (by decide) (fun hc4 => ?_) (fun hc4 => ?_)
  · rw [if_neg hc4] at h
    refine j_sub (L' := [(0, .ref a0), (2, .ref a2), (3, .int r2)]) [1, 3, 0] rfl ?_
    exact tX3_examineLevel_31 C hnm N Z a0 a2 r2 M2 _ _ h
  · rw [if_pos hc4] at h
    refine j_aload_n C dX3_examineLevel_13 rfl 3 rfl ?_
    refine j_aload_n C dX3_examineLevel_14 rfl 3 rfl ?_
    refine j_getI C (cn := RX7) (T := TX7) (N := 5) (ci := 7) rfl iX7 ho3 4 (by decide) rfl fwRX3_37 dX3_examineLevel_15 ?_
    refine j_if_eq C dX3_examineLevel_18 (tgt := 25) (by decide) (fun hc5 => ?_) (fun hc5 => ?_)
    · rw [if_pos hc5] at h
      refine j_iload_n C dX3_examineLevel_25 rfl 0 rfl ?_
      refine j_iconst C dX3_examineLevel_26 (v := (1 : Int32)) (by decide) ?_
      refine j_iadd C dX3_examineLevel_27 ?_
      refine j_putI C tyX7 tyX7_ok nmX7 (cn := RX7) (T := TX7) (N := 5) (ci := 7) rfl iX7 ho3 2 (by decide) rfl fwRX3_83 ⟨rfl, rfl⟩ dX3_examineLevel_28 ?_
      refine j_sub (L' := [(0, .ref a0), (2, .ref a2), (3, .int r2)]) [1, 3, 0] rfl ?_
      exact tX3_examineLevel_31 C hnm N Z a0 a2 r2 (sI M2 a2 2 (r2 + (1 : Int32))) _ _ h
    · rw [if_neg hc5] at h
      refine j_iload_n C dX3_examineLevel_21 rfl 0 rfl ?_
      refine j_goto C dX3_examineLevel_22 (tgt := 28) (by decide) ?_
      refine j_putI C tyX7 tyX7_ok nmX7 (cn := RX7) (T := TX7) (N := 5) (ci := 7) rfl iX7 ho3 2 (by decide) rfl fwRX3_83 ⟨rfl, rfl⟩ dX3_examineLevel_28 ?_
      refine j_sub (L' := [(0, .ref a0), (2, .ref a2), (3, .int r2)]) [1, 3, 0] rfl ?_
      exact tX3_examineLevel_31 C hnm N Z a0 a2 r2 (sI M2 a2 2 r2) _ _ h
-- ScaffoldPlanner$Judge examinePlace
theorem fwRX3_89 : Cond.fieldLink RX3 89 RX7 (TX7 1).2.1 (TX7 1).2.2.1 ∈ gw := by decide +kernel
theorem kcRX3_92 : okV RX3 92 yX4_has (.code yX4_has cX4_has 4 (some .boolean)) = true := by decide +kernel
theorem oyX4_has : okY yX4_has 3 := ⟨by decide +kernel, by decide +kernel, by decide +kernel⟩
abbrev rmX3_examinePlace : Room := { frames := 2, cells := 0, slots := 0, locals := 46 }
theorem dX3_examinePlace_0 : decode cX3_examinePlace 0 = .ok (.aload_n 1, 1) := by decide +kernel
theorem dX3_examinePlace_1 : decode cX3_examinePlace 1 = .ok (.aload_n 2, 1) := by decide +kernel
theorem dX3_examinePlace_2 : decode cX3_examinePlace 2 = .ok (.getfield 29, 3) := by decide +kernel
theorem dX3_examinePlace_5 : decode cX3_examinePlace 5 = .ok (.aload_n 2, 1) := by decide +kernel
theorem dX3_examinePlace_6 : decode cX3_examinePlace 6 = .ok (.getfield 89, 3) := by decide +kernel
theorem dX3_examinePlace_9 : decode cX3_examinePlace 9 = .ok (.aload_n 2, 1) := by decide +kernel
theorem dX3_examinePlace_10 : decode cX3_examinePlace 10 = .ok (.getfield 83, 3) := by decide +kernel
theorem dX3_examinePlace_13 : decode cX3_examinePlace 13 = .ok (.invokevirtual 92, 3) := by decide +kernel
theorem dX3_examinePlace_16 : decode cX3_examinePlace 16 = .ok (.aload_n 2, 1) := by decide +kernel
theorem dX3_examinePlace_17 : decode cX3_examinePlace 17 = .ok (.getfield 37, 3) := by decide +kernel
theorem dX3_examinePlace_20 : decode cX3_examinePlace 20 = .ok (.if_icmp .eq 12, 3) := by decide +kernel
theorem dX3_examinePlace_23 : decode cX3_examinePlace 23 = .ok (.aload_n 0, 1) := by decide +kernel
theorem dX3_examinePlace_24 : decode cX3_examinePlace 24 = .ok (.iconst 2, 1) := by decide +kernel
theorem dX3_examinePlace_25 : decode cX3_examinePlace 25 = .ok (.aload_n 2, 1) := by decide +kernel
theorem dX3_examinePlace_26 : decode cX3_examinePlace 26 = .ok (.getfield 83, 3) := by decide +kernel
theorem dX3_examinePlace_29 : decode cX3_examinePlace 29 = .ok (.invokevirtual 86, 3) := by decide +kernel
theorem dX3_examinePlace_32 : decode cX3_examinePlace 32 = .ok (.return_, 1) := by decide +kernel
def fX3_examinePlace (N : Nat) (Z : mZ) (a0 : Nat) (a1 : Nat) (a2 : Nat) (M : mM) : Option (Unit × mM) := ck (okO Z a2 7) (ck (okO Z a1 4) (bnd2 (fX4_has N Z a1 (M.1 a2 0) (M.1 a2 1) (M.1 a2 2) M) (fun r3 M3 => if r3 = (M3.1 a2 4) then some ((), M3) else ck (okO Z a0 3) (bnd2 (fX3_refuse N Z a0 (2 : Int32) (M3.1 a2 2) M3) (fun _ M6 => some ((), M6))))))
set_option maxHeartbeats 4000000 in
set_option maxRecDepth 100000 in
theorem ctX3_examinePlace {G : mG} {l : Launch} (hl : l.stackTraces = false) (N : Nat) (Z : mZ) {a0 : Nat} {a1 : Nat} {a2 : Nat} {M : mM} {r : Unit} {M' : mM} (h : fX3_examinePlace N Z a0 a1 a2 M = some (r, M')) : CT G l yX3_examinePlace (.code yX3_examinePlace cX3_examinePlace 3 none) rmX3_examinePlace [.ref a0, .ref a1, .ref a2] Z M (.inl none) Z M' := by
  unfold fX3_examinePlace at h
  refine CT.of hl (by decide) (Nat.le_of_ble_eq_true rfl) ?_
  intro p e s m args below meth c C hnm
  refine j_sub (L' := [(0, .ref a0), (1, .ref a1), (2, .ref a2)]) [0, 1, 2] rfl ?_
  refine j_aload_n C dX3_examinePlace_0 rfl 1 rfl ?_
  refine j_aload_n C dX3_examinePlace_1 rfl 2 rfl ?_
  obtain ⟨ho1, h⟩ := ck_spec h
  refine j_getI C (cn := RX7) (T := TX7) (N := 5) (ci := 7) rfl iX7 ho1 0 (by decide) rfl fwRX3_29 dX3_examinePlace_2 ?_
  refine j_aload_n C dX3_examinePlace_5 rfl 2 rfl ?_
  refine j_getI C (cn := RX7) (T := TX7) (N := 5) (ci := 7) rfl iX7 ho1 1 (by decide) rfl fwRX3_89 dX3_examinePlace_6 ?_
  refine j_aload_n C dX3_examinePlace_9 rfl 2 rfl ?_
  refine j_getI C (cn := RX7) (T := TX7) (N := 5) (ci := 7) rfl iX7 ho1 2 (by decide) rfl fwRX3_83 dX3_examinePlace_10 ?_
  obtain ⟨ho2, h⟩ := ck_spec h
  obtain ⟨r3, M3, hq3, h⟩ := bnd2_spec h
  refine j_run1 (c_V C (As := [.int (M.1 a2 0), .int (M.1 a2 1), .int (M.1 a2 2)]) (rest := []) (ctX4_has C.2.2.2.2.2.2.2.2.1 N Z hq3) kcRX3_92 oyX4_has (ci := 4) (T := TX4) (N := 7) rfl (by decide) ho2 ⟨by decide, by decide⟩ ⟨by decide, by decide⟩ (Nat.le_of_ble_eq_true rfl) rfl dX3_examinePlace_13) ?_
  refine j_aload_n C dX3_examinePlace_16 rfl 2 rfl ?_
  refine j_getI C (cn := RX7) (T := TX7) (N := 5) (ci := 7) rfl iX7 ho1 4 (by decide) rfl fwRX3_37 dX3_examinePlace_17 ?_
  refine j_icmp_eq C dX3_examinePlace_20 (tgt := 32) (by decide) (fun hc4 => ?_) (fun hc4 => ?_)
  · rw [if_pos hc4] at h
    cases h
    exact j_vret C rfl (by decide) (by decide) dX3_examinePlace_32
  · rw [if_neg hc4] at h
    refine j_aload_n C dX3_examinePlace_23 rfl 0 rfl ?_
    refine j_iconst C dX3_examinePlace_24 (v := (2 : Int32)) (by decide) ?_
    refine j_aload_n C dX3_examinePlace_25 rfl 2 rfl ?_
    refine j_getI C (cn := RX7) (T := TX7) (N := 5) (ci := 7) rfl iX7 ho1 2 (by decide) rfl fwRX3_83 dX3_examinePlace_26 ?_
    obtain ⟨ho5, h⟩ := ck_spec h
    obtain ⟨_, M6, hq6, h⟩ := bnd2_spec h
    refine j_run0 (c_V C (As := [.int (2 : Int32), .int (M3.1 a2 2)]) (rest := []) (ctX3_refuse C.2.2.2.2.2.2.2.2.1 N Z hq6) kcRX3_86 oyX3_refuse (ci := 3) (T := TX3) (N := 3) rfl (by decide) ho5 ⟨by decide, by decide⟩ ⟨by decide, by decide⟩ (Nat.le_of_ble_eq_true rfl) rfl dX3_examinePlace_29) ?_
    cases h
    exact j_vret C rfl (by decide) (by decide) dX3_examinePlace_32
-- ScaffoldPlanner$Judge examineDecksOfLadder
abbrev rmX3_examineDecksOfLadder : Room := { frames := 2, cells := 0, slots := 0, locals := 46 }
theorem dX3_examineDecksOfLadder_0 : decode cX3_examineDecksOfLadder 0 = .ok (.aload_n 2, 1) := by decide +kernel
theorem dX3_examineDecksOfLadder_1 : decode cX3_examineDecksOfLadder 1 = .ok (.getfield 83, 3) := by decide +kernel
theorem dX3_examineDecksOfLadder_4 : decode cX3_examineDecksOfLadder 4 = .ok (.iconst 1, 1) := by decide +kernel
theorem dX3_examineDecksOfLadder_5 : decode cX3_examineDecksOfLadder 5 = .ok (.isub, 1) := by decide +kernel
theorem dX3_examineDecksOfLadder_6 : decode cX3_examineDecksOfLadder 6 = .ok (.istore_n 3, 1) := by decide +kernel
theorem dX3_examineDecksOfLadder_7 : decode cX3_examineDecksOfLadder 7 = .ok (.iload_n 3, 1) := by decide +kernel
theorem dX3_examineDecksOfLadder_8 : decode cX3_examineDecksOfLadder 8 = .ok (.ifCond .le 25, 3) := by decide +kernel
theorem dX3_examineDecksOfLadder_11 : decode cX3_examineDecksOfLadder 11 = .ok (.aload_n 1, 1) := by decide +kernel
theorem dX3_examineDecksOfLadder_12 : decode cX3_examineDecksOfLadder 12 = .ok (.iconst 2, 1) := by decide +kernel
theorem dX3_examineDecksOfLadder_13 : decode cX3_examineDecksOfLadder 13 = .ok (.aload_n 2, 1) := by decide +kernel
theorem dX3_examineDecksOfLadder_14 : decode cX3_examineDecksOfLadder 14 = .ok (.getfield 89, 3) := by decide +kernel
theorem dX3_examineDecksOfLadder_17 : decode cX3_examineDecksOfLadder 17 = .ok (.iload_n 3, 1) := by decide +kernel
theorem dX3_examineDecksOfLadder_18 : decode cX3_examineDecksOfLadder 18 = .ok (.invokevirtual 92, 3) := by decide +kernel
theorem dX3_examineDecksOfLadder_21 : decode cX3_examineDecksOfLadder 21 = .ok (.ifCond .ne 12, 3) := by decide +kernel
theorem dX3_examineDecksOfLadder_24 : decode cX3_examineDecksOfLadder 24 = .ok (.aload_n 0, 1) := by decide +kernel
theorem dX3_examineDecksOfLadder_25 : decode cX3_examineDecksOfLadder 25 = .ok (.iconst 3, 1) := by decide +kernel
theorem dX3_examineDecksOfLadder_26 : decode cX3_examineDecksOfLadder 26 = .ok (.iload_n 3, 1) := by decide +kernel
theorem dX3_examineDecksOfLadder_27 : decode cX3_examineDecksOfLadder 27 = .ok (.invokevirtual 86, 3) := by decide +kernel
theorem dX3_examineDecksOfLadder_30 : decode cX3_examineDecksOfLadder 30 = .ok (.goto 28, 3) := by decide +kernel
theorem dX3_examineDecksOfLadder_33 : decode cX3_examineDecksOfLadder 33 = .ok (.aload_n 1, 1) := by decide +kernel
theorem dX3_examineDecksOfLadder_34 : decode cX3_examineDecksOfLadder 34 = .ok (.iconst 2, 1) := by decide +kernel
theorem dX3_examineDecksOfLadder_35 : decode cX3_examineDecksOfLadder 35 = .ok (.aload_n 2, 1) := by decide +kernel
theorem dX3_examineDecksOfLadder_36 : decode cX3_examineDecksOfLadder 36 = .ok (.getfield 89, 3) := by decide +kernel
theorem dX3_examineDecksOfLadder_39 : decode cX3_examineDecksOfLadder 39 = .ok (.aload_n 2, 1) := by decide +kernel
theorem dX3_examineDecksOfLadder_40 : decode cX3_examineDecksOfLadder 40 = .ok (.getfield 83, 3) := by decide +kernel
theorem dX3_examineDecksOfLadder_43 : decode cX3_examineDecksOfLadder 43 = .ok (.invokevirtual 92, 3) := by decide +kernel
theorem dX3_examineDecksOfLadder_46 : decode cX3_examineDecksOfLadder 46 = .ok (.ifCond .ne 12, 3) := by decide +kernel
theorem dX3_examineDecksOfLadder_49 : decode cX3_examineDecksOfLadder 49 = .ok (.aload_n 0, 1) := by decide +kernel
theorem dX3_examineDecksOfLadder_50 : decode cX3_examineDecksOfLadder 50 = .ok (.iconst 3, 1) := by decide +kernel
theorem dX3_examineDecksOfLadder_51 : decode cX3_examineDecksOfLadder 51 = .ok (.aload_n 2, 1) := by decide +kernel
theorem dX3_examineDecksOfLadder_52 : decode cX3_examineDecksOfLadder 52 = .ok (.getfield 83, 3) := by decide +kernel
theorem dX3_examineDecksOfLadder_55 : decode cX3_examineDecksOfLadder 55 = .ok (.invokevirtual 86, 3) := by decide +kernel
theorem dX3_examineDecksOfLadder_58 : decode cX3_examineDecksOfLadder 58 = .ok (.return_, 1) := by decide +kernel
def fX3_examineDecksOfLadder (N : Nat) (Z : mZ) (a0 : Nat) (a1 : Nat) (a2 : Nat) (M : mM) : Option (Unit × mM) := ck (okO Z a2 7) (if ((M.1 a2 2) - (1 : Int32)) ≤ 0 then ck (okO Z a1 4) (bnd2 (fX4_has N Z a1 (2 : Int32) (M.1 a2 1) (M.1 a2 2) M) (fun r4 M4 => if r4 = 0 then ck (okO Z a0 3) (bnd2 (fX3_refuse N Z a0 (3 : Int32) (M4.1 a2 2) M4) (fun _ M7 => some ((), M7))) else some ((), M4))) else ck (okO Z a1 4) (bnd2 (fX4_has N Z a1 (2 : Int32) (M.1 a2 1) ((M.1 a2 2) - (1 : Int32)) M) (fun r9 M9 => if r9 = 0 then ck (okO Z a0 3) (bnd2 (fX3_refuse N Z a0 (3 : Int32) ((M.1 a2 2) - (1 : Int32)) M9) (fun _ M12 => some ((), M12))) else bnd2 (fX4_has N Z a1 (2 : Int32) (M9.1 a2 1) (M9.1 a2 2) M9) (fun r13 M13 => if r13 = 0 then ck (okO Z a0 3) (bnd2 (fX3_refuse N Z a0 (3 : Int32) (M13.1 a2 2) M13) (fun _ M16 => some ((), M16))) else some ((), M13)))))
set_option maxHeartbeats 4000000 in
set_option maxRecDepth 100000 in
theorem ctX3_examineDecksOfLadder {G : mG} {l : Launch} (hl : l.stackTraces = false) (N : Nat) (Z : mZ) {a0 : Nat} {a1 : Nat} {a2 : Nat} {M : mM} {r : Unit} {M' : mM} (h : fX3_examineDecksOfLadder N Z a0 a1 a2 M = some (r, M')) : CT G l yX3_examineDecksOfLadder (.code yX3_examineDecksOfLadder cX3_examineDecksOfLadder 4 none) rmX3_examineDecksOfLadder [.ref a0, .ref a1, .ref a2] Z M (.inl none) Z M' := by
  unfold fX3_examineDecksOfLadder at h
  refine CT.of hl (by decide) (Nat.le_of_ble_eq_true rfl) ?_
  intro p e s m args below meth c C hnm
  refine j_sub (L' := [(0, .ref a0), (1, .ref a1), (2, .ref a2)]) [0, 1, 2] rfl ?_
  refine j_aload_n C dX3_examineDecksOfLadder_0 rfl 2 rfl ?_
  obtain ⟨ho1, h⟩ := ck_spec h
  refine j_getI C (cn := RX7) (T := TX7) (N := 5) (ci := 7) rfl iX7 ho1 2 (by decide) rfl fwRX3_83 dX3_examineDecksOfLadder_1 ?_
  refine j_iconst C dX3_examineDecksOfLadder_4 (v := (1 : Int32)) (by decide) ?_
  refine j_isub C dX3_examineDecksOfLadder_5 ?_
  refine j_istore_n C dX3_examineDecksOfLadder_6 rfl (by decide) (L' := [(3, .int ((M.1 a2 2) - (1 : Int32))), (0, .ref a0), (1, .ref a1), (2, .ref a2)]) rfl ?_
  refine j_iload_n C dX3_examineDecksOfLadder_7 rfl 0 rfl ?_
  refine j_if_le C dX3_examineDecksOfLadder_8 (tgt := 33) (by decide) (fun hc2 => ?_) (fun hc2 => ?_)
  · rw [if_pos hc2] at h
    refine j_aload_n C dX3_examineDecksOfLadder_33 rfl 2 rfl ?_
    refine j_iconst C dX3_examineDecksOfLadder_34 (v := (2 : Int32)) (by decide) ?_
    refine j_aload_n C dX3_examineDecksOfLadder_35 rfl 3 rfl ?_
    refine j_getI C (cn := RX7) (T := TX7) (N := 5) (ci := 7) rfl iX7 ho1 1 (by decide) rfl fwRX3_89 dX3_examineDecksOfLadder_36 ?_
    refine j_aload_n C dX3_examineDecksOfLadder_39 rfl 3 rfl ?_
    refine j_getI C (cn := RX7) (T := TX7) (N := 5) (ci := 7) rfl iX7 ho1 2 (by decide) rfl fwRX3_83 dX3_examineDecksOfLadder_40 ?_
    obtain ⟨ho3, h⟩ := ck_spec h
    obtain ⟨r4, M4, hq4, h⟩ := bnd2_spec h
    refine j_run1 (c_V C (As := [.int (2 : Int32), .int (M.1 a2 1), .int (M.1 a2 2)]) (rest := []) (ctX4_has C.2.2.2.2.2.2.2.2.1 N Z hq4) kcRX3_92 oyX4_has (ci := 4) (T := TX4) (N := 7) rfl (by decide) ho3 ⟨by decide, by decide⟩ ⟨by decide, by decide⟩ (Nat.le_of_ble_eq_true rfl) rfl dX3_examineDecksOfLadder_43) ?_
    refine j_if_ne C dX3_examineDecksOfLadder_46 (tgt := 58) (by decide) (fun hc5 => ?_) (fun hc5 => ?_)
    · rw [if_neg hc5] at h
      cases h
      exact j_vret C rfl (by decide) (by decide) dX3_examineDecksOfLadder_58
    · rw [if_pos hc5] at h
      refine j_aload_n C dX3_examineDecksOfLadder_49 rfl 1 rfl ?_
      refine j_iconst C dX3_examineDecksOfLadder_50 (v := (3 : Int32)) (by decide) ?_
      refine j_aload_n C dX3_examineDecksOfLadder_51 rfl 3 rfl ?_
      refine j_getI C (cn := RX7) (T := TX7) (N := 5) (ci := 7) rfl iX7 ho1 2 (by decide) rfl fwRX3_83 dX3_examineDecksOfLadder_52 ?_
      obtain ⟨ho6, h⟩ := ck_spec h
      obtain ⟨_, M7, hq7, h⟩ := bnd2_spec h
      refine j_run0 (c_V C (As := [.int (3 : Int32), .int (M4.1 a2 2)]) (rest := []) (ctX3_refuse C.2.2.2.2.2.2.2.2.1 N Z hq7) kcRX3_86 oyX3_refuse (ci := 3) (T := TX3) (N := 3) rfl (by decide) ho6 ⟨by decide, by decide⟩ ⟨by decide, by decide⟩ (Nat.le_of_ble_eq_true rfl) rfl dX3_examineDecksOfLadder_55) ?_
      cases h
      exact j_vret C rfl (by decide) (by decide) dX3_examineDecksOfLadder_58
  · rw [if_neg hc2] at h
    refine j_aload_n C dX3_examineDecksOfLadder_11 rfl 2 rfl ?_
    refine j_iconst C dX3_examineDecksOfLadder_12 (v := (2 : Int32)) (by decide) ?_
    refine j_aload_n C dX3_examineDecksOfLadder_13 rfl 3 rfl ?_
    refine j_getI C (cn := RX7) (T := TX7) (N := 5) (ci := 7) rfl iX7 ho1 1 (by decide) rfl fwRX3_89 dX3_examineDecksOfLadder_14 ?_
    refine j_iload_n C dX3_examineDecksOfLadder_17 rfl 0 rfl ?_
    obtain ⟨ho8, h⟩ := ck_spec h
    obtain ⟨r9, M9, hq9, h⟩ := bnd2_spec h
    refine j_run1 (c_V C (As := [.int (2 : Int32), .int (M.1 a2 1), .int ((M.1 a2 2) - (1 : Int32))]) (rest := []) (ctX4_has C.2.2.2.2.2.2.2.2.1 N Z hq9) kcRX3_92 oyX4_has (ci := 4) (T := TX4) (N := 7) rfl (by decide) ho8 ⟨by decide, by decide⟩ ⟨by decide, by decide⟩ (Nat.le_of_ble_eq_true rfl) rfl dX3_examineDecksOfLadder_18) ?_
    refine j_if_ne C dX3_examineDecksOfLadder_21 (tgt := 33) (by decide) (fun hc10 => ?_) (fun hc10 => ?_)
    · rw [if_neg hc10] at h
      refine j_aload_n C dX3_examineDecksOfLadder_33 rfl 2 rfl ?_
      refine j_iconst C dX3_examineDecksOfLadder_34 (v := (2 : Int32)) (by decide) ?_
      refine j_aload_n C dX3_examineDecksOfLadder_35 rfl 3 rfl ?_
      refine j_getI C (cn := RX7) (T := TX7) (N := 5) (ci := 7) rfl iX7 ho1 1 (by decide) rfl fwRX3_89 dX3_examineDecksOfLadder_36 ?_
      refine j_aload_n C dX3_examineDecksOfLadder_39 rfl 3 rfl ?_
      refine j_getI C (cn := RX7) (T := TX7) (N := 5) (ci := 7) rfl iX7 ho1 2 (by decide) rfl fwRX3_83 dX3_examineDecksOfLadder_40 ?_
      obtain ⟨r13, M13, hq13, h⟩ := bnd2_spec h
      refine j_run1 (c_V C (As := [.int (2 : Int32), .int (M9.1 a2 1), .int (M9.1 a2 2)]) (rest := []) (ctX4_has C.2.2.2.2.2.2.2.2.1 N Z hq13) kcRX3_92 oyX4_has (ci := 4) (T := TX4) (N := 7) rfl (by decide) ho8 ⟨by decide, by decide⟩ ⟨by decide, by decide⟩ (Nat.le_of_ble_eq_true rfl) rfl dX3_examineDecksOfLadder_43) ?_
      refine j_if_ne C dX3_examineDecksOfLadder_46 (tgt := 58) (by decide) (fun hc14 => ?_) (fun hc14 => ?_)
      · rw [if_neg hc14] at h
        cases h
        exact j_vret C rfl (by decide) (by decide) dX3_examineDecksOfLadder_58
      · rw [if_pos hc14] at h
        refine j_aload_n C dX3_examineDecksOfLadder_49 rfl 1 rfl ?_
        refine j_iconst C dX3_examineDecksOfLadder_50 (v := (3 : Int32)) (by decide) ?_
        refine j_aload_n C dX3_examineDecksOfLadder_51 rfl 3 rfl ?_
        refine j_getI C (cn := RX7) (T := TX7) (N := 5) (ci := 7) rfl iX7 ho1 2 (by decide) rfl fwRX3_83 dX3_examineDecksOfLadder_52 ?_
        obtain ⟨ho15, h⟩ := ck_spec h
        obtain ⟨_, M16, hq16, h⟩ := bnd2_spec h
        refine j_run0 (c_V C (As := [.int (3 : Int32), .int (M13.1 a2 2)]) (rest := []) (ctX3_refuse C.2.2.2.2.2.2.2.2.1 N Z hq16) kcRX3_86 oyX3_refuse (ci := 3) (T := TX3) (N := 3) rfl (by decide) ho15 ⟨by decide, by decide⟩ ⟨by decide, by decide⟩ (Nat.le_of_ble_eq_true rfl) rfl dX3_examineDecksOfLadder_55) ?_
        cases h
        exact j_vret C rfl (by decide) (by decide) dX3_examineDecksOfLadder_58
    · rw [if_pos hc10] at h
      refine j_aload_n C dX3_examineDecksOfLadder_24 rfl 1 rfl ?_
      refine j_iconst C dX3_examineDecksOfLadder_25 (v := (3 : Int32)) (by decide) ?_
      refine j_iload_n C dX3_examineDecksOfLadder_26 rfl 0 rfl ?_
      obtain ⟨ho11, h⟩ := ck_spec h
      obtain ⟨_, M12, hq12, h⟩ := bnd2_spec h
      refine j_run0 (c_V C (As := [.int (3 : Int32), .int ((M.1 a2 2) - (1 : Int32))]) (rest := []) (ctX3_refuse C.2.2.2.2.2.2.2.2.1 N Z hq12) kcRX3_86 oyX3_refuse (ci := 3) (T := TX3) (N := 3) rfl (by decide) ho11 ⟨by decide, by decide⟩ ⟨by decide, by decide⟩ (Nat.le_of_ble_eq_true rfl) rfl dX3_examineDecksOfLadder_27) ?_
      refine j_goto C dX3_examineDecksOfLadder_30 (tgt := 58) (by decide) ?_
      cases h
      exact j_vret C rfl (by decide) (by decide) dX3_examineDecksOfLadder_58
