-- ScaffoldPlanner$Plan lowestUnbracedBay
theorem kcRX4_110 : okV RX4 110 yX4_bracedOrHighest (.code yX4_bracedOrHighest cX4_bracedOrHighest 6 (some .int)) = true := by decide +kernel
theorem oyX4_bracedOrHighest : okY yX4_bracedOrHighest 1 := ⟨by decide +kernel, by decide +kernel, by decide +kernel⟩
abbrev rmX4_lowestUnbracedBay : Room := { frames := 2, cells := 0, slots := 0, locals := 48 }
theorem dX4_lowestUnbracedBay_0 : decode cX4_lowestUnbracedBay 0 = .ok (.iconst 0, 1) := by decide +kernel
theorem dX4_lowestUnbracedBay_1 : decode cX4_lowestUnbracedBay 1 = .ok (.istore_n 1, 1) := by decide +kernel
theorem dX4_lowestUnbracedBay_2 : decode cX4_lowestUnbracedBay 2 = .ok (.iload_n 1, 1) := by decide +kernel
theorem dX4_lowestUnbracedBay_3 : decode cX4_lowestUnbracedBay 3 = .ok (.aload_n 0, 1) := by decide +kernel
theorem dX4_lowestUnbracedBay_4 : decode cX4_lowestUnbracedBay 4 = .ok (.getfield 9, 3) := by decide +kernel
theorem dX4_lowestUnbracedBay_7 : decode cX4_lowestUnbracedBay 7 = .ok (.if_icmp .ge 33, 3) := by decide +kernel
theorem dX4_lowestUnbracedBay_10 : decode cX4_lowestUnbracedBay 10 = .ok (.iconst 2, 1) := by decide +kernel
theorem dX4_lowestUnbracedBay_11 : decode cX4_lowestUnbracedBay 11 = .ok (.aload_n 0, 1) := by decide +kernel
theorem dX4_lowestUnbracedBay_12 : decode cX4_lowestUnbracedBay 12 = .ok (.getfield 18, 3) := by decide +kernel
theorem dX4_lowestUnbracedBay_15 : decode cX4_lowestUnbracedBay 15 = .ok (.iload_n 1, 1) := by decide +kernel
theorem dX4_lowestUnbracedBay_16 : decode cX4_lowestUnbracedBay 16 = .ok (.invokestatic 41, 3) := by decide +kernel
theorem dX4_lowestUnbracedBay_19 : decode cX4_lowestUnbracedBay 19 = .ok (.ishl, 1) := by decide +kernel
theorem dX4_lowestUnbracedBay_20 : decode cX4_lowestUnbracedBay 20 = .ok (.iconst 2, 1) := by decide +kernel
theorem dX4_lowestUnbracedBay_21 : decode cX4_lowestUnbracedBay 21 = .ok (.isub, 1) := by decide +kernel
theorem dX4_lowestUnbracedBay_22 : decode cX4_lowestUnbracedBay 22 = .ok (.istore_n 2, 1) := by decide +kernel
theorem dX4_lowestUnbracedBay_23 : decode cX4_lowestUnbracedBay 23 = .ok (.aload_n 0, 1) := by decide +kernel
theorem dX4_lowestUnbracedBay_24 : decode cX4_lowestUnbracedBay 24 = .ok (.iload_n 1, 1) := by decide +kernel
theorem dX4_lowestUnbracedBay_25 : decode cX4_lowestUnbracedBay 25 = .ok (.invokevirtual 110, 3) := by decide +kernel
theorem dX4_lowestUnbracedBay_28 : decode cX4_lowestUnbracedBay 28 = .ok (.iload_n 2, 1) := by decide +kernel
theorem dX4_lowestUnbracedBay_29 : decode cX4_lowestUnbracedBay 29 = .ok (.if_icmp .eq 5, 3) := by decide +kernel
theorem dX4_lowestUnbracedBay_32 : decode cX4_lowestUnbracedBay 32 = .ok (.iload_n 1, 1) := by decide +kernel
theorem dX4_lowestUnbracedBay_33 : decode cX4_lowestUnbracedBay 33 = .ok (.ireturn, 1) := by decide +kernel
theorem dX4_lowestUnbracedBay_34 : decode cX4_lowestUnbracedBay 34 = .ok (.iinc 1 1, 3) := by decide +kernel
theorem dX4_lowestUnbracedBay_37 : decode cX4_lowestUnbracedBay 37 = .ok (.goto (-35), 3) := by decide +kernel
theorem dX4_lowestUnbracedBay_40 : decode cX4_lowestUnbracedBay 40 = .ok (.iconst (-1), 1) := by decide +kernel
theorem dX4_lowestUnbracedBay_41 : decode cX4_lowestUnbracedBay 41 = .ok (.ireturn, 1) := by decide +kernel
def fX4_lowestUnbracedBay_2 (N : Nat) (Z : mZ) : Nat → Nat → Int32 → mM → Option (Int32 × mM)
  | 0, _, _, _ => none
  | fu + 1, v0, v1, M => ck (okO Z v0 4) (if (M.1 v0 0) ≤ v1 then some ((-1 : Int32), M) else bnd1 (Z.2.2.2 v0 2) (fun c3 => bnd2 (fX8_at N Z c3 v1 M) (fun r4 M4 => bnd2 (fX4_bracedOrHighest N Z v0 v1 M4) (fun r5 M5 => if r5 = (((2 : Int32) <<< (r4 &&& 31)) - (2 : Int32)) then fX4_lowestUnbracedBay_2 N Z fu v0 (v1 + (1 : Int32)) M5 else some (v1, M5)))))
set_option maxHeartbeats 4000000 in
set_option maxRecDepth 100000 in
theorem tX4_lowestUnbracedBay_2 {G : mG} {p : Program} {l : Launch} {e : Env} {s : State} {m : MethodId} {args : Array Value} {below : List Frame} {meth : Method} {c : Code} (C : Cx G p l s m args meth c RX4 cX4_lowestUnbracedBay 3 (some .int) []) (hnm : meth.name = yX4_lowestUnbracedBay.name) (N : Nat) (Z : mZ) : ∀ (fu : Nat) (v0 : Nat) (v1 : Int32) (M : mM) (r : Int32) (M' : mM), fX4_lowestUnbracedBay_2 N Z fu v0 v1 M = some (r, M') → JJ G p l e rmX4_lowestUnbracedBay s m args below meth c 3 (mEnd G below args s rmX4_lowestUnbracedBay (.inl (some (.int r))) Z M') 0 0 2 [(0, .ref v0), (1, .int v1)] [] Z M := by
  intro fu
  induction fu with
  | zero =>
    intro v0 v1 M r M' h
    cases h
  | succ fu ih =>
    intro v0 v1 M r M' h
    rw [fX4_lowestUnbracedBay_2] at h
    refine j_iload_n C dX4_lowestUnbracedBay_2 rfl 1 rfl ?_
    refine j_aload_n C dX4_lowestUnbracedBay_3 rfl 0 rfl ?_
    obtain ⟨ho1, h⟩ := ck_spec h
    refine j_getI C (cn := RX4) (T := TX4) (N := 7) (ci := 4) rfl iX4 ho1 0 (by decide) rfl fwRX4_9 dX4_lowestUnbracedBay_4 ?_
    refine j_icmp_ge C dX4_lowestUnbracedBay_7 (tgt := 40) (by decide) (fun hc2 => ?_) (fun hc2 => ?_)
    · rw [if_pos hc2] at h
      refine j_iconst C dX4_lowestUnbracedBay_40 (v := (-1 : Int32)) (by decide) ?_
      cases h
      exact j_iret C rfl (by decide) (by decide) dX4_lowestUnbracedBay_41
    · rw [if_neg hc2] at h
      refine j_iconst C dX4_lowestUnbracedBay_10 (v := (2 : Int32)) (by decide) ?_
      refine j_aload_n C dX4_lowestUnbracedBay_11 rfl 0 rfl ?_
      obtain ⟨c3, hr3, h⟩ := bnd1_spec h
      refine j_getR C (cn := RX4) (T := TX4) (N := 7) (ci := 4) rfl iX4 ho1 2 (by decide) rfl fwRX4_18 dX4_lowestUnbracedBay_12 hr3 ?_
      refine j_iload_n C dX4_lowestUnbracedBay_15 rfl 1 rfl ?_
      obtain ⟨r4, M4, hq4, h⟩ := bnd2_spec h
      refine j_run1 (c_SN C (As := [.ref c3, .int v1]) (rest := [.int (2 : Int32)]) (ctX8_at C.2.2.2.2.2.2.2.2.1 N Z hq4) kcRX4_41 oyX8_at ⟨by decide, by decide⟩ ⟨by decide, by decide⟩ (Nat.le_of_ble_eq_true rfl) rfl dX4_lowestUnbracedBay_16) ?_
      refine j_ishl C dX4_lowestUnbracedBay_19 ?_
      refine j_iconst C dX4_lowestUnbracedBay_20 (v := (2 : Int32)) (by decide) ?_
      refine j_isub C dX4_lowestUnbracedBay_21 ?_
      refine j_istore_n C dX4_lowestUnbracedBay_22 rfl (by decide) (L' := [(2, .int (((2 : Int32) <<< (r4 &&& 31)) - (2 : Int32))), (0, .ref v0), (1, .int v1)]) rfl ?_
      refine j_aload_n C dX4_lowestUnbracedBay_23 rfl 1 rfl ?_
      refine j_iload_n C dX4_lowestUnbracedBay_24 rfl 2 rfl ?_
      obtain ⟨r5, M5, hq5, h⟩ := bnd2_spec h
      refine j_run1 (c_V C (As := [.int v1]) (rest := []) (ctX4_bracedOrHighest C.2.2.2.2.2.2.2.2.1 N Z hq5) kcRX4_110 oyX4_bracedOrHighest (ci := 4) (T := TX4) (N := 7) rfl (by decide) ho1 ⟨by decide, by decide⟩ ⟨by decide, by decide⟩ (Nat.le_of_ble_eq_true rfl) rfl dX4_lowestUnbracedBay_25) ?_
      refine j_iload_n C dX4_lowestUnbracedBay_28 rfl 0 rfl ?_
      refine j_icmp_eq C dX4_lowestUnbracedBay_29 (tgt := 34) (by decide) (fun hc6 => ?_) (fun hc6 => ?_)
      · rw [if_pos hc6] at h
        refine j_iinc C dX4_lowestUnbracedBay_34 2 rfl (v := (v1 + (1 : Int32))) (by first | rfl | decide) (by decide) (L' := [(1, .int (v1 + (1 : Int32))), (2, .int (((2 : Int32) <<< (r4 &&& 31)) - (2 : Int32))), (0, .ref v0)]) rfl ?_
        refine j_goto C dX4_lowestUnbracedBay_37 (tgt := 2) (by decide) ?_
        refine j_sub (L' := [(0, .ref v0), (1, .int (v1 + (1 : Int32)))]) [2, 0] rfl ?_
        exact ih v0 (v1 + (1 : Int32)) M5 r M' h
      · rw [if_neg hc6] at h
        refine j_iload_n C dX4_lowestUnbracedBay_32 rfl 2 rfl ?_
        cases h
        exact j_iret C rfl (by decide) (by decide) dX4_lowestUnbracedBay_33
def fX4_lowestUnbracedBay (N : Nat) (Z : mZ) (a0 : Nat) (M : mM) : Option (Int32 × mM) := fX4_lowestUnbracedBay_2 N Z N a0 (0 : Int32) M
set_option maxHeartbeats 4000000 in
set_option maxRecDepth 100000 in
theorem ctX4_lowestUnbracedBay {G : mG} {l : Launch} (hl : l.stackTraces = false) (N : Nat) (Z : mZ) {a0 : Nat} {M : mM} {r : Int32} {M' : mM} (h : fX4_lowestUnbracedBay N Z a0 M = some (r, M')) : CT G l yX4_lowestUnbracedBay (.code yX4_lowestUnbracedBay cX4_lowestUnbracedBay 3 (some .int)) rmX4_lowestUnbracedBay [.ref a0] Z M (.inl (some (.int r))) Z M' := by
  unfold fX4_lowestUnbracedBay at h
  refine CT.of hl (by decide) (Nat.le_of_ble_eq_true rfl) ?_
  intro p e s m args below meth c C hnm
  refine j_sub (L' := [(0, .ref a0)]) [0] rfl ?_
  refine j_iconst C dX4_lowestUnbracedBay_0 (v := (0 : Int32)) (by decide) ?_
  refine j_istore_n C dX4_lowestUnbracedBay_1 rfl (by decide) (L' := [(1, .int (0 : Int32)), (0, .ref a0)]) rfl ?_
  refine j_sub (L' := [(0, .ref a0), (1, .int (0 : Int32))]) [1, 0] rfl ?_
  exact tX4_lowestUnbracedBay_2 C hnm N Z N a0 (0 : Int32) M _ _ h
-- ScaffoldPlanner$Plan postLoad
abbrev rmX4_postLoad : Room := { frames := 2, cells := 0, slots := 0, locals := 42 }
theorem dX4_postLoad_0 : decode cX4_postLoad 0 = .ok (.aload_n 0, 1) := by decide +kernel
theorem dX4_postLoad_1 : decode cX4_postLoad 1 = .ok (.iload_n 1, 1) := by decide +kernel
theorem dX4_postLoad_2 : decode cX4_postLoad 2 = .ok (.invokevirtual 49, 3) := by decide +kernel
theorem dX4_postLoad_5 : decode cX4_postLoad 5 = .ok (.bipush 7, 2) := by decide +kernel
theorem dX4_postLoad_7 : decode cX4_postLoad 7 = .ok (.imul, 1) := by decide +kernel
theorem dX4_postLoad_8 : decode cX4_postLoad 8 = .ok (.istore_n 2, 1) := by decide +kernel
theorem dX4_postLoad_9 : decode cX4_postLoad 9 = .ok (.iload_n 1, 1) := by decide +kernel
theorem dX4_postLoad_10 : decode cX4_postLoad 10 = .ok (.bipush 7, 2) := by decide +kernel
theorem dX4_postLoad_12 : decode cX4_postLoad 12 = .ok (.imul, 1) := by decide +kernel
theorem dX4_postLoad_13 : decode cX4_postLoad 13 = .ok (.istore_n 3, 1) := by decide +kernel
theorem dX4_postLoad_14 : decode cX4_postLoad 14 = .ok (.iconst 0, 1) := by decide +kernel
theorem dX4_postLoad_15 : decode cX4_postLoad 15 = .ok (.istore 4, 2) := by decide +kernel
theorem dX4_postLoad_17 : decode cX4_postLoad 17 = .ok (.iconst 1, 1) := by decide +kernel
theorem dX4_postLoad_18 : decode cX4_postLoad 18 = .ok (.istore 5, 2) := by decide +kernel
theorem dX4_postLoad_20 : decode cX4_postLoad 20 = .ok (.iload 5, 2) := by decide +kernel
theorem dX4_postLoad_22 : decode cX4_postLoad 22 = .ok (.bipush 6, 2) := by decide +kernel
theorem dX4_postLoad_24 : decode cX4_postLoad 24 = .ok (.if_icmp .gt 37, 3) := by decide +kernel
theorem dX4_postLoad_27 : decode cX4_postLoad 27 = .ok (.iload 4, 2) := by decide +kernel
theorem dX4_postLoad_29 : decode cX4_postLoad 29 = .ok (.aload_n 0, 1) := by decide +kernel
theorem dX4_postLoad_30 : decode cX4_postLoad 30 = .ok (.getfield 25, 3) := by decide +kernel
theorem dX4_postLoad_33 : decode cX4_postLoad 33 = .ok (.iload_n 2, 1) := by decide +kernel
theorem dX4_postLoad_34 : decode cX4_postLoad 34 = .ok (.iload 5, 2) := by decide +kernel
theorem dX4_postLoad_36 : decode cX4_postLoad 36 = .ok (.iadd, 1) := by decide +kernel
theorem dX4_postLoad_37 : decode cX4_postLoad 37 = .ok (.invokestatic 41, 3) := by decide +kernel
theorem dX4_postLoad_40 : decode cX4_postLoad 40 = .ok (.aload_n 0, 1) := by decide +kernel
theorem dX4_postLoad_41 : decode cX4_postLoad 41 = .ok (.getfield 25, 3) := by decide +kernel
theorem dX4_postLoad_44 : decode cX4_postLoad 44 = .ok (.iload_n 3, 1) := by decide +kernel
theorem dX4_postLoad_45 : decode cX4_postLoad 45 = .ok (.iload 5, 2) := by decide +kernel
theorem dX4_postLoad_47 : decode cX4_postLoad 47 = .ok (.iadd, 1) := by decide +kernel
theorem dX4_postLoad_48 : decode cX4_postLoad 48 = .ok (.invokestatic 41, 3) := by decide +kernel
theorem dX4_postLoad_51 : decode cX4_postLoad 51 = .ok (.iadd, 1) := by decide +kernel
theorem dX4_postLoad_52 : decode cX4_postLoad 52 = .ok (.iadd, 1) := by decide +kernel
theorem dX4_postLoad_53 : decode cX4_postLoad 53 = .ok (.istore 4, 2) := by decide +kernel
theorem dX4_postLoad_55 : decode cX4_postLoad 55 = .ok (.iinc 5 1, 3) := by decide +kernel
theorem dX4_postLoad_58 : decode cX4_postLoad 58 = .ok (.goto (-38), 3) := by decide +kernel
theorem dX4_postLoad_61 : decode cX4_postLoad 61 = .ok (.bipush 20, 2) := by decide +kernel
theorem dX4_postLoad_63 : decode cX4_postLoad 63 = .ok (.aload_n 0, 1) := by decide +kernel
theorem dX4_postLoad_64 : decode cX4_postLoad 64 = .ok (.iload_n 1, 1) := by decide +kernel
theorem dX4_postLoad_65 : decode cX4_postLoad 65 = .ok (.invokevirtual 66, 3) := by decide +kernel
theorem dX4_postLoad_68 : decode cX4_postLoad 68 = .ok (.imul, 1) := by decide +kernel
theorem dX4_postLoad_69 : decode cX4_postLoad 69 = .ok (.bipush 50, 2) := by decide +kernel
theorem dX4_postLoad_71 : decode cX4_postLoad 71 = .ok (.iload 4, 2) := by decide +kernel
theorem dX4_postLoad_73 : decode cX4_postLoad 73 = .ok (.imul, 1) := by decide +kernel
theorem dX4_postLoad_74 : decode cX4_postLoad 74 = .ok (.iadd, 1) := by decide +kernel
theorem dX4_postLoad_75 : decode cX4_postLoad 75 = .ok (.ireturn, 1) := by decide +kernel
def fX4_postLoad_20 (N : Nat) (Z : mZ) : Nat → Nat → Int32 → Int32 → Int32 → Int32 → Int32 → mM → Option (Int32 × mM)
  | 0, _, _, _, _, _, _, _ => none
  | fu + 1, v0, v1, v2, v3, v4, v5, M => if (6 : Int32) < v5 then ck (okO Z v0 4) (bnd2 (fX4_postHeight N Z v0 v1 M) (fun r5 M5 => some ((((20 : Int32) * r5) + ((50 : Int32) * v4)), M5))) else ck (okO Z v0 4) (bnd1 (Z.2.2.2 v0 4) (fun c7 => bnd2 (fX8_at N Z c7 (v2 + v5) M) (fun r8 M8 => bnd2 (fX8_at N Z c7 (v3 + v5) M8) (fun r9 M9 => fX4_postLoad_20 N Z fu v0 v1 v2 v3 (v4 + (r8 + r9)) (v5 + (1 : Int32)) M9))))
set_option maxHeartbeats 4000000 in
set_option maxRecDepth 100000 in
theorem tX4_postLoad_20 {G : mG} {p : Program} {l : Launch} {e : Env} {s : State} {m : MethodId} {args : Array Value} {below : List Frame} {meth : Method} {c : Code} (C : Cx G p l s m args meth c RX4 cX4_postLoad 6 (some .int) []) (hnm : meth.name = yX4_postLoad.name) (N : Nat) (Z : mZ) : ∀ (fu : Nat) (v0 : Nat) (v1 : Int32) (v2 : Int32) (v3 : Int32) (v4 : Int32) (v5 : Int32) (M : mM) (r : Int32) (M' : mM), fX4_postLoad_20 N Z fu v0 v1 v2 v3 v4 v5 M = some (r, M') → JJ G p l e rmX4_postLoad s m args below meth c 6 (mEnd G below args s rmX4_postLoad (.inl (some (.int r))) Z M') 0 0 20 [(0, .ref v0), (1, .int v1), (2, .int v2), (3, .int v3), (4, .int v4), (5, .int v5)] [] Z M := by
  intro fu
  induction fu with
  | zero =>
    intro v0 v1 v2 v3 v4 v5 M r M' h
    cases h
  | succ fu ih =>
    intro v0 v1 v2 v3 v4 v5 M r M' h
    rw [fX4_postLoad_20] at h
    refine j_iload C dX4_postLoad_20 5 rfl ?_
    refine j_bipush C dX4_postLoad_22 (v := (6 : Int32)) (by decide) ?_
    refine j_icmp_gt C dX4_postLoad_24 (tgt := 61) (by decide) (fun hc3 => ?_) (fun hc3 => ?_)
    · rw [if_pos hc3] at h
      refine j_bipush C dX4_postLoad_61 (v := (20 : Int32)) (by decide) ?_
      refine j_aload_n C dX4_postLoad_63 rfl 0 rfl ?_
      refine j_iload_n C dX4_postLoad_64 rfl 1 rfl ?_
      obtain ⟨ho4, h⟩ := ck_spec h
      obtain ⟨r5, M5, hq5, h⟩ := bnd2_spec h
      refine j_run1 (c_V C (As := [.int v1]) (rest := [.int (20 : Int32)]) (ctX4_postHeight C.2.2.2.2.2.2.2.2.1 N Z hq5) kcRX4_66 oyX4_postHeight (ci := 4) (T := TX4) (N := 7) rfl (by decide) ho4 ⟨by decide, by decide⟩ ⟨by decide, by decide⟩ (Nat.le_of_ble_eq_true rfl) rfl dX4_postLoad_65) ?_
      refine j_imul C dX4_postLoad_68 ?_
      refine j_bipush C dX4_postLoad_69 (v := (50 : Int32)) (by decide) ?_
      refine j_iload C dX4_postLoad_71 4 rfl ?_
      refine j_imul C dX4_postLoad_73 ?_
      refine j_iadd C dX4_postLoad_74 ?_
      cases h
      exact j_iret C rfl (by decide) (by decide) dX4_postLoad_75
    · rw [if_neg hc3] at h
      refine j_iload C dX4_postLoad_27 4 rfl ?_
      refine j_aload_n C dX4_postLoad_29 rfl 0 rfl ?_
      obtain ⟨ho6, h⟩ := ck_spec h
      obtain ⟨c7, hr7, h⟩ := bnd1_spec h
      refine j_getR C (cn := RX4) (T := TX4) (N := 7) (ci := 4) rfl iX4 ho6 4 (by decide) rfl fwRX4_25 dX4_postLoad_30 hr7 ?_
      refine j_iload_n C dX4_postLoad_33 rfl 2 rfl ?_
      refine j_iload C dX4_postLoad_34 5 rfl ?_
      refine j_iadd C dX4_postLoad_36 ?_
      obtain ⟨r8, M8, hq8, h⟩ := bnd2_spec h
      refine j_run1 (c_SN C (As := [.ref c7, .int (v2 + v5)]) (rest := [.int v4]) (ctX8_at C.2.2.2.2.2.2.2.2.1 N Z hq8) kcRX4_41 oyX8_at ⟨by decide, by decide⟩ ⟨by decide, by decide⟩ (Nat.le_of_ble_eq_true rfl) rfl dX4_postLoad_37) ?_
      refine j_aload_n C dX4_postLoad_40 rfl 0 rfl ?_
      refine j_getR C (cn := RX4) (T := TX4) (N := 7) (ci := 4) rfl iX4 ho6 4 (by decide) rfl fwRX4_25 dX4_postLoad_41 hr7 ?_
      refine j_iload_n C dX4_postLoad_44 rfl 3 rfl ?_
      refine j_iload C dX4_postLoad_45 5 rfl ?_
      refine j_iadd C dX4_postLoad_47 ?_
      obtain ⟨r9, M9, hq9, h⟩ := bnd2_spec h
      refine j_run1 (c_SN C (As := [.ref c7, .int (v3 + v5)]) (rest := [.int r8, .int v4]) (ctX8_at C.2.2.2.2.2.2.2.2.1 N Z hq9) kcRX4_41 oyX8_at ⟨by decide, by decide⟩ ⟨by decide, by decide⟩ (Nat.le_of_ble_eq_true rfl) rfl dX4_postLoad_48) ?_
      refine j_iadd C dX4_postLoad_51 ?_
      refine j_iadd C dX4_postLoad_52 ?_
      refine j_istore C dX4_postLoad_53 (by decide) (L' := [(4, .int (v4 + (r8 + r9))), (0, .ref v0), (1, .int v1), (2, .int v2), (3, .int v3), (5, .int v5)]) rfl ?_
      refine j_iinc C dX4_postLoad_55 5 rfl (v := (v5 + (1 : Int32))) (by first | rfl | decide) (by decide) (L' := [(5, .int (v5 + (1 : Int32))), (4, .int (v4 + (r8 + r9))), (0, .ref v0), (1, .int v1), (2, .int v2), (3, .int v3)]) rfl ?_
      refine j_goto C dX4_postLoad_58 (tgt := 20) (by decide) ?_
      refine j_sub (L' := [(0, .ref v0), (1, .int v1), (2, .int v2), (3, .int v3), (4, .int (v4 + (r8 + r9))), (5, .int (v5 + (1 : Int32)))]) [2, 3, 4, 5, 1, 0] rfl ?_
      exact ih v0 v1 v2 v3 (v4 + (r8 + r9)) (v5 + (1 : Int32)) M9 r M' h
def fX4_postLoad (N : Nat) (Z : mZ) (a0 : Nat) (a1 : Int32) (M : mM) : Option (Int32 × mM) := ck (okO Z a0 4) (bnd2 (fX4_placeBefore N Z a0 a1 M) (fun r2 M2 => fX4_postLoad_20 N Z N a0 a1 (r2 * (7 : Int32)) (a1 * (7 : Int32)) (0 : Int32) (1 : Int32) M2))
set_option maxHeartbeats 4000000 in
set_option maxRecDepth 100000 in
theorem ctX4_postLoad {G : mG} {l : Launch} (hl : l.stackTraces = false) (N : Nat) (Z : mZ) {a0 : Nat} {a1 : Int32} {M : mM} {r : Int32} {M' : mM} (h : fX4_postLoad N Z a0 a1 M = some (r, M')) : CT G l yX4_postLoad (.code yX4_postLoad cX4_postLoad 6 (some .int)) rmX4_postLoad [.ref a0, .int a1] Z M (.inl (some (.int r))) Z M' := by
  unfold fX4_postLoad at h
  refine CT.of hl (by decide) (Nat.le_of_ble_eq_true rfl) ?_
  intro p e s m args below meth c C hnm
  refine j_sub (L' := [(0, .ref a0), (1, .int a1)]) [0, 1] rfl ?_
  refine j_aload_n C dX4_postLoad_0 rfl 0 rfl ?_
  refine j_iload_n C dX4_postLoad_1 rfl 1 rfl ?_
  obtain ⟨ho1, h⟩ := ck_spec h
  obtain ⟨r2, M2, hq2, h⟩ := bnd2_spec h
  refine j_run1 (c_V C (As := [.int a1]) (rest := []) (ctX4_placeBefore C.2.2.2.2.2.2.2.2.1 N Z hq2) kcRX4_49 oyX4_placeBefore (ci := 4) (T := TX4) (N := 7) rfl (by decide) ho1 ⟨by decide, by decide⟩ ⟨by decide, by decide⟩ (Nat.le_of_ble_eq_true rfl) rfl dX4_postLoad_2) ?_
  refine j_bipush C dX4_postLoad_5 (v := (7 : Int32)) (by decide) ?_
  refine j_imul C dX4_postLoad_7 ?_
  refine j_istore_n C dX4_postLoad_8 rfl (by decide) (L' := [(2, .int (r2 * (7 : Int32))), (0, .ref a0), (1, .int a1)]) rfl ?_
  refine j_iload_n C dX4_postLoad_9 rfl 2 rfl ?_
  refine j_bipush C dX4_postLoad_10 (v := (7 : Int32)) (by decide) ?_
  refine j_imul C dX4_postLoad_12 ?_
  refine j_istore_n C dX4_postLoad_13 rfl (by decide) (L' := [(3, .int (a1 * (7 : Int32))), (2, .int (r2 * (7 : Int32))), (0, .ref a0), (1, .int a1)]) rfl ?_
  refine j_iconst C dX4_postLoad_14 (v := (0 : Int32)) (by decide) ?_
  refine j_istore C dX4_postLoad_15 (by decide) (L' := [(4, .int (0 : Int32)), (3, .int (a1 * (7 : Int32))), (2, .int (r2 * (7 : Int32))), (0, .ref a0), (1, .int a1)]) rfl ?_
  refine j_iconst C dX4_postLoad_17 (v := (1 : Int32)) (by decide) ?_
  refine j_istore C dX4_postLoad_18 (by decide) (L' := [(5, .int (1 : Int32)), (4, .int (0 : Int32)), (3, .int (a1 * (7 : Int32))), (2, .int (r2 * (7 : Int32))), (0, .ref a0), (1, .int a1)]) rfl ?_
  refine j_sub (L' := [(0, .ref a0), (1, .int a1), (2, .int (r2 * (7 : Int32))), (3, .int (a1 * (7 : Int32))), (4, .int (0 : Int32)), (5, .int (1 : Int32))]) [4, 5, 3, 2, 1, 0] rfl ?_
  exact tX4_postLoad_20 C hnm N Z N a0 a1 (r2 * (7 : Int32)) (a1 * (7 : Int32)) (0 : Int32) (1 : Int32) M2 _ _ h
-- ScaffoldPlanner$Plan lowestOverloadedPost
theorem kcRX4_113 : okV RX4 113 yX4_postLoad (.code yX4_postLoad cX4_postLoad 6 (some .int)) = true := by decide +kernel
theorem oyX4_postLoad : okY yX4_postLoad 1 := ⟨by decide +kernel, by decide +kernel, by decide +kernel⟩
abbrev rmX4_lowestOverloadedPost : Room := { frames := 3, cells := 0, slots := 0, locals := 67 }
theorem dX4_lowestOverloadedPost_0 : decode cX4_lowestOverloadedPost 0 = .ok (.aload_n 0, 1) := by decide +kernel
theorem dX4_lowestOverloadedPost_1 : decode cX4_lowestOverloadedPost 1 = .ok (.getfield 28, 3) := by decide +kernel
theorem dX4_lowestOverloadedPost_4 : decode cX4_lowestOverloadedPost 4 = .ok (.iconst 2, 1) := by decide +kernel
theorem dX4_lowestOverloadedPost_5 : decode cX4_lowestOverloadedPost 5 = .ok (.invokestatic 41, 3) := by decide +kernel
theorem dX4_lowestOverloadedPost_8 : decode cX4_lowestOverloadedPost 8 = .ok (.istore_n 1, 1) := by decide +kernel
theorem dX4_lowestOverloadedPost_9 : decode cX4_lowestOverloadedPost 9 = .ok (.iconst 0, 1) := by decide +kernel
theorem dX4_lowestOverloadedPost_10 : decode cX4_lowestOverloadedPost 10 = .ok (.istore_n 2, 1) := by decide +kernel
theorem dX4_lowestOverloadedPost_11 : decode cX4_lowestOverloadedPost 11 = .ok (.iload_n 2, 1) := by decide +kernel
theorem dX4_lowestOverloadedPost_12 : decode cX4_lowestOverloadedPost 12 = .ok (.aload_n 0, 1) := by decide +kernel
theorem dX4_lowestOverloadedPost_13 : decode cX4_lowestOverloadedPost 13 = .ok (.getfield 9, 3) := by decide +kernel
theorem dX4_lowestOverloadedPost_16 : decode cX4_lowestOverloadedPost 16 = .ok (.if_icmp .ge 20, 3) := by decide +kernel
theorem dX4_lowestOverloadedPost_19 : decode cX4_lowestOverloadedPost 19 = .ok (.aload_n 0, 1) := by decide +kernel
theorem dX4_lowestOverloadedPost_20 : decode cX4_lowestOverloadedPost 20 = .ok (.iload_n 2, 1) := by decide +kernel
theorem dX4_lowestOverloadedPost_21 : decode cX4_lowestOverloadedPost 21 = .ok (.invokevirtual 113, 3) := by decide +kernel
theorem dX4_lowestOverloadedPost_24 : decode cX4_lowestOverloadedPost 24 = .ok (.iload_n 1, 1) := by decide +kernel
theorem dX4_lowestOverloadedPost_25 : decode cX4_lowestOverloadedPost 25 = .ok (.if_icmp .le 5, 3) := by decide +kernel
theorem dX4_lowestOverloadedPost_28 : decode cX4_lowestOverloadedPost 28 = .ok (.iload_n 2, 1) := by decide +kernel
theorem dX4_lowestOverloadedPost_29 : decode cX4_lowestOverloadedPost 29 = .ok (.ireturn, 1) := by decide +kernel
theorem dX4_lowestOverloadedPost_30 : decode cX4_lowestOverloadedPost 30 = .ok (.iinc 2 1, 3) := by decide +kernel
theorem dX4_lowestOverloadedPost_33 : decode cX4_lowestOverloadedPost 33 = .ok (.goto (-22), 3) := by decide +kernel
theorem dX4_lowestOverloadedPost_36 : decode cX4_lowestOverloadedPost 36 = .ok (.iconst (-1), 1) := by decide +kernel
theorem dX4_lowestOverloadedPost_37 : decode cX4_lowestOverloadedPost 37 = .ok (.ireturn, 1) := by decide +kernel
def fX4_lowestOverloadedPost_11 (N : Nat) (Z : mZ) : Nat → Nat → Int32 → Int32 → mM → Option (Int32 × mM)
  | 0, _, _, _, _ => none
  | fu + 1, v0, v1, v2, M => ck (okO Z v0 4) (if (M.1 v0 0) ≤ v2 then some ((-1 : Int32), M) else bnd2 (fX4_postLoad N Z v0 v2 M) (fun r6 M6 => if r6 ≤ v1 then fX4_lowestOverloadedPost_11 N Z fu v0 v1 (v2 + (1 : Int32)) M6 else some (v2, M6)))
set_option maxHeartbeats 4000000 in
set_option maxRecDepth 100000 in
theorem tX4_lowestOverloadedPost_11 {G : mG} {p : Program} {l : Launch} {e : Env} {s : State} {m : MethodId} {args : Array Value} {below : List Frame} {meth : Method} {c : Code} (C : Cx G p l s m args meth c RX4 cX4_lowestOverloadedPost 3 (some .int) []) (hnm : meth.name = yX4_lowestOverloadedPost.name) (N : Nat) (Z : mZ) : ∀ (fu : Nat) (v0 : Nat) (v1 : Int32) (v2 : Int32) (M : mM) (r : Int32) (M' : mM), fX4_lowestOverloadedPost_11 N Z fu v0 v1 v2 M = some (r, M') → JJ G p l e rmX4_lowestOverloadedPost s m args below meth c 3 (mEnd G below args s rmX4_lowestOverloadedPost (.inl (some (.int r))) Z M') 0 0 11 [(0, .ref v0), (1, .int v1), (2, .int v2)] [] Z M := by
  intro fu
  induction fu with
  | zero =>
    intro v0 v1 v2 M r M' h
    cases h
  | succ fu ih =>
    intro v0 v1 v2 M r M' h
    rw [fX4_lowestOverloadedPost_11] at h
    refine j_iload_n C dX4_lowestOverloadedPost_11 rfl 2 rfl ?_
    refine j_aload_n C dX4_lowestOverloadedPost_12 rfl 0 rfl ?_
    obtain ⟨ho4, h⟩ := ck_spec h
    refine j_getI C (cn := RX4) (T := TX4) (N := 7) (ci := 4) rfl iX4 ho4 0 (by decide) rfl fwRX4_9 dX4_lowestOverloadedPost_13 ?_
    refine j_icmp_ge C dX4_lowestOverloadedPost_16 (tgt := 36) (by decide) (fun hc5 => ?_) (fun hc5 => ?_)
    · rw [if_pos hc5] at h
      refine j_iconst C dX4_lowestOverloadedPost_36 (v := (-1 : Int32)) (by decide) ?_
      cases h
      exact j_iret C rfl (by decide) (by decide) dX4_lowestOverloadedPost_37
    · rw [if_neg hc5] at h
      refine j_aload_n C dX4_lowestOverloadedPost_19 rfl 0 rfl ?_
      refine j_iload_n C dX4_lowestOverloadedPost_20 rfl 2 rfl ?_
      obtain ⟨r6, M6, hq6, h⟩ := bnd2_spec h
      refine j_run1 (c_V C (As := [.int v2]) (rest := []) (ctX4_postLoad C.2.2.2.2.2.2.2.2.1 N Z hq6) kcRX4_113 oyX4_postLoad (ci := 4) (T := TX4) (N := 7) rfl (by decide) ho4 ⟨by decide, by decide⟩ ⟨by decide, by decide⟩ (Nat.le_of_ble_eq_true rfl) rfl dX4_lowestOverloadedPost_21) ?_
      refine j_iload_n C dX4_lowestOverloadedPost_24 rfl 1 rfl ?_
      refine j_icmp_le C dX4_lowestOverloadedPost_25 (tgt := 30) (by decide) (fun hc7 => ?_) (fun hc7 => ?_)
      · rw [if_pos hc7] at h
        refine j_iinc C dX4_lowestOverloadedPost_30 2 rfl (v := (v2 + (1 : Int32))) (by first | rfl | decide) (by decide) (L' := [(2, .int (v2 + (1 : Int32))), (0, .ref v0), (1, .int v1)]) rfl ?_
        refine j_goto C dX4_lowestOverloadedPost_33 (tgt := 11) (by decide) ?_
        refine j_sub (L' := [(0, .ref v0), (1, .int v1), (2, .int (v2 + (1 : Int32)))]) [1, 2, 0] rfl ?_
        exact ih v0 v1 (v2 + (1 : Int32)) M6 r M' h
      · rw [if_neg hc7] at h
        refine j_iload_n C dX4_lowestOverloadedPost_28 rfl 2 rfl ?_
        cases h
        exact j_iret C rfl (by decide) (by decide) dX4_lowestOverloadedPost_29
def fX4_lowestOverloadedPost (N : Nat) (Z : mZ) (a0 : Nat) (M : mM) : Option (Int32 × mM) := ck (okO Z a0 4) (bnd1 (Z.2.2.2 a0 5) (fun c2 => bnd2 (fX8_at N Z c2 (2 : Int32) M) (fun r3 M3 => fX4_lowestOverloadedPost_11 N Z N a0 r3 (0 : Int32) M3)))
set_option maxHeartbeats 4000000 in
set_option maxRecDepth 100000 in
theorem ctX4_lowestOverloadedPost {G : mG} {l : Launch} (hl : l.stackTraces = false) (N : Nat) (Z : mZ) {a0 : Nat} {M : mM} {r : Int32} {M' : mM} (h : fX4_lowestOverloadedPost N Z a0 M = some (r, M')) : CT G l yX4_lowestOverloadedPost (.code yX4_lowestOverloadedPost cX4_lowestOverloadedPost 3 (some .int)) rmX4_lowestOverloadedPost [.ref a0] Z M (.inl (some (.int r))) Z M' := by
  unfold fX4_lowestOverloadedPost at h
  refine CT.of hl (by decide) (Nat.le_of_ble_eq_true rfl) ?_
  intro p e s m args below meth c C hnm
  refine j_sub (L' := [(0, .ref a0)]) [0] rfl ?_
  refine j_aload_n C dX4_lowestOverloadedPost_0 rfl 0 rfl ?_
  obtain ⟨ho1, h⟩ := ck_spec h
  obtain ⟨c2, hr2, h⟩ := bnd1_spec h
  refine j_getR C (cn := RX4) (T := TX4) (N := 7) (ci := 4) rfl iX4 ho1 5 (by decide) rfl fwRX4_28 dX4_lowestOverloadedPost_1 hr2 ?_
  refine j_iconst C dX4_lowestOverloadedPost_4 (v := (2 : Int32)) (by decide) ?_
  obtain ⟨r3, M3, hq3, h⟩ := bnd2_spec h
  refine j_run1 (c_SN C (As := [.ref c2, .int (2 : Int32)]) (rest := []) (ctX8_at C.2.2.2.2.2.2.2.2.1 N Z hq3) kcRX4_41 oyX8_at ⟨by decide, by decide⟩ ⟨by decide, by decide⟩ (Nat.le_of_ble_eq_true rfl) rfl dX4_lowestOverloadedPost_5) ?_
  refine j_istore_n C dX4_lowestOverloadedPost_8 rfl (by decide) (L' := [(1, .int r3), (0, .ref a0)]) rfl ?_
  refine j_iconst C dX4_lowestOverloadedPost_9 (v := (0 : Int32)) (by decide) ?_
  refine j_istore_n C dX4_lowestOverloadedPost_10 rfl (by decide) (L' := [(2, .int (0 : Int32)), (1, .int r3), (0, .ref a0)]) rfl ?_
  refine j_sub (L' := [(0, .ref a0), (1, .int r3), (2, .int (0 : Int32))]) [2, 1, 0] rfl ?_
  exact tX4_lowestOverloadedPost_11 C hnm N Z N a0 r3 (0 : Int32) M3 _ _ h
-- ScaffoldPlanner$Judge examine
theorem kcRX3_25 : okV RX3 25 yX3_examineLevel (.code yX3_examineLevel cX3_examineLevel 5 none) = true := by decide +kernel
theorem oyX3_examineLevel : okY yX3_examineLevel 2 := ⟨by decide +kernel, by decide +kernel, by decide +kernel⟩
theorem kcRX3_41 : okV RX3 41 yX3_examineDecksOfLadder (.code yX3_examineDecksOfLadder cX3_examineDecksOfLadder 4 none) = true := by decide +kernel
theorem oyX3_examineDecksOfLadder : okY yX3_examineDecksOfLadder 2 := ⟨by decide +kernel, by decide +kernel, by decide +kernel⟩
theorem kcRX3_50 : okV RX3 50 yX3_examineStanding (.code yX3_examineStanding cX3_examineStanding 5 none) = true := by decide +kernel
theorem oyX3_examineStanding : okY yX3_examineStanding 3 := ⟨by decide +kernel, by decide +kernel, by decide +kernel⟩
theorem kcRX3_54 : okV RX3 54 yX3_examineYard (.code yX3_examineYard cX3_examineYard 3 none) = true := by decide +kernel
theorem oyX3_examineYard : okY yX3_examineYard 2 := ⟨by decide +kernel, by decide +kernel, by decide +kernel⟩
theorem kcRX3_57 : okV RX3 57 yX4_copyFrom (.code yX4_copyFrom cX4_copyFrom 3 none) = true := by decide +kernel
theorem oyX4_copyFrom : okY yX4_copyFrom 1 := ⟨by decide +kernel, by decide +kernel, by decide +kernel⟩
theorem kcRX3_61 : okV RX3 61 yX4_carryOut (.code yX4_carryOut cX4_carryOut 4 none) = true := by decide +kernel
theorem oyX4_carryOut : okY yX4_carryOut 1 := ⟨by decide +kernel, by decide +kernel, by decide +kernel⟩
theorem kcRX3_65 : okV RX3 65 yX4_lowestUnheldPost (.code yX4_lowestUnheldPost cX4_lowestUnheldPost 2 (some .int)) = true := by decide +kernel
theorem oyX4_lowestUnheldPost : okY yX4_lowestUnheldPost 0 := ⟨by decide +kernel, by decide +kernel, by decide +kernel⟩
theorem kcRX3_69 : okV RX3 69 yX3_examineLowest (.code yX3_examineLowest cX3_examineLowest 3 none) = true := by decide +kernel
theorem oyX3_examineLowest : okY yX3_examineLowest 2 := ⟨by decide +kernel, by decide +kernel, by decide +kernel⟩
theorem kcRX3_73 : okV RX3 73 yX4_lowestUnbracedBay (.code yX4_lowestUnbracedBay cX4_lowestUnbracedBay 3 (some .int)) = true := by decide +kernel
theorem oyX4_lowestUnbracedBay : okY yX4_lowestUnbracedBay 0 := ⟨by decide +kernel, by decide +kernel, by decide +kernel⟩
theorem kcRX3_76 : okV RX3 76 yX4_lowestOverloadedPost (.code yX4_lowestOverloadedPost cX4_lowestOverloadedPost 3 (some .int)) = true := by decide +kernel
theorem oyX4_lowestOverloadedPost : okY yX4_lowestOverloadedPost 0 := ⟨by decide +kernel, by decide +kernel, by decide +kernel⟩
theorem kcRX3_47 : okV RX3 47 yX3_examinePiecesOfLevel (.code yX3_examinePiecesOfLevel cX3_examinePiecesOfLevel 3 none) = true := by decide +kernel
theorem oyX3_examinePiecesOfLevel : okY yX3_examinePiecesOfLevel 2 := ⟨by decide +kernel, by decide +kernel, by decide +kernel⟩
theorem kcRX3_44 : okV RX3 44 yX3_examineLaddersOfDeck (.code yX3_examineLaddersOfDeck cX3_examineLaddersOfDeck 4 none) = true := by decide +kernel
theorem oyX3_examineLaddersOfDeck : okY yX3_examineLaddersOfDeck 2 := ⟨by decide +kernel, by decide +kernel, by decide +kernel⟩
theorem kcRX3_34 : okV RX3 34 yX3_examinePlace (.code yX3_examinePlace cX3_examinePlace 3 none) = true := by decide +kernel
theorem oyX3_examinePlace : okY yX3_examinePlace 2 := ⟨by decide +kernel, by decide +kernel, by decide +kernel⟩
abbrev rmX3_examine : Room := { frames := 4, cells := 0, slots := 0, locals := 93 }
theorem dX3_examine_0 : decode cX3_examine 0 = .ok (.aload_n 0, 1) := by decide +kernel
theorem dX3_examine_1 : decode cX3_examine 1 = .ok (.iconst 0, 1) := by decide +kernel
theorem dX3_examine_2 : decode cX3_examine 2 = .ok (.putfield 9, 3) := by decide +kernel
theorem dX3_examine_5 : decode cX3_examine 5 = .ok (.aload_n 0, 1) := by decide +kernel
theorem dX3_examine_6 : decode cX3_examine 6 = .ok (.iconst 0, 1) := by decide +kernel
theorem dX3_examine_7 : decode cX3_examine 7 = .ok (.putfield 15, 3) := by decide +kernel
theorem dX3_examine_10 : decode cX3_examine 10 = .ok (.aload_n 0, 1) := by decide +kernel
theorem dX3_examine_11 : decode cX3_examine 11 = .ok (.aload_n 1, 1) := by decide +kernel
theorem dX3_examine_12 : decode cX3_examine 12 = .ok (.aload_n 3, 1) := by decide +kernel
theorem dX3_examine_13 : decode cX3_examine 13 = .ok (.invokevirtual 25, 3) := by decide +kernel
theorem dX3_examine_16 : decode cX3_examine 16 = .ok (.aload_n 0, 1) := by decide +kernel
theorem dX3_examine_17 : decode cX3_examine 17 = .ok (.getfield 9, 3) := by decide +kernel
theorem dX3_examine_20 : decode cX3_examine 20 = .ok (.ifCond .ne 16, 3) := by decide +kernel
theorem dX3_examine_23 : decode cX3_examine 23 = .ok (.aload_n 3, 1) := by decide +kernel
theorem dX3_examine_24 : decode cX3_examine 24 = .ok (.getfield 29, 3) := by decide +kernel
theorem dX3_examine_27 : decode cX3_examine 27 = .ok (.ifCond .eq 9, 3) := by decide +kernel
theorem dX3_examine_30 : decode cX3_examine 30 = .ok (.aload_n 0, 1) := by decide +kernel
theorem dX3_examine_31 : decode cX3_examine 31 = .ok (.aload_n 1, 1) := by decide +kernel
theorem dX3_examine_32 : decode cX3_examine 32 = .ok (.aload_n 3, 1) := by decide +kernel
theorem dX3_examine_33 : decode cX3_examine 33 = .ok (.invokevirtual 34, 3) := by decide +kernel
theorem dX3_examine_36 : decode cX3_examine 36 = .ok (.aload_n 0, 1) := by decide +kernel
theorem dX3_examine_37 : decode cX3_examine 37 = .ok (.getfield 9, 3) := by decide +kernel
theorem dX3_examine_40 : decode cX3_examine 40 = .ok (.ifCond .ne 24, 3) := by decide +kernel
theorem dX3_examine_43 : decode cX3_examine 43 = .ok (.aload_n 3, 1) := by decide +kernel
theorem dX3_examine_44 : decode cX3_examine 44 = .ok (.getfield 29, 3) := by decide +kernel
theorem dX3_examine_47 : decode cX3_examine 47 = .ok (.iconst 5, 1) := by decide +kernel
theorem dX3_examine_48 : decode cX3_examine 48 = .ok (.if_icmp .ne 16, 3) := by decide +kernel
theorem dX3_examine_51 : decode cX3_examine 51 = .ok (.aload_n 3, 1) := by decide +kernel
theorem dX3_examine_52 : decode cX3_examine 52 = .ok (.getfield 37, 3) := by decide +kernel
theorem dX3_examine_55 : decode cX3_examine 55 = .ok (.ifCond .ne 9, 3) := by decide +kernel
theorem dX3_examine_58 : decode cX3_examine 58 = .ok (.aload_n 0, 1) := by decide +kernel
theorem dX3_examine_59 : decode cX3_examine 59 = .ok (.aload_n 1, 1) := by decide +kernel
theorem dX3_examine_60 : decode cX3_examine 60 = .ok (.aload_n 3, 1) := by decide +kernel
theorem dX3_examine_61 : decode cX3_examine 61 = .ok (.invokevirtual 41, 3) := by decide +kernel
theorem dX3_examine_64 : decode cX3_examine 64 = .ok (.aload_n 0, 1) := by decide +kernel
theorem dX3_examine_65 : decode cX3_examine 65 = .ok (.getfield 9, 3) := by decide +kernel
theorem dX3_examine_68 : decode cX3_examine 68 = .ok (.ifCond .ne 24, 3) := by decide +kernel
theorem dX3_examine_71 : decode cX3_examine 71 = .ok (.aload_n 3, 1) := by decide +kernel
theorem dX3_examine_72 : decode cX3_examine 72 = .ok (.getfield 29, 3) := by decide +kernel
theorem dX3_examine_75 : decode cX3_examine 75 = .ok (.iconst 2, 1) := by decide +kernel
theorem dX3_examine_76 : decode cX3_examine 76 = .ok (.if_icmp .ne 16, 3) := by decide +kernel
theorem dX3_examine_79 : decode cX3_examine 79 = .ok (.aload_n 3, 1) := by decide +kernel
theorem dX3_examine_80 : decode cX3_examine 80 = .ok (.getfield 37, 3) := by decide +kernel
theorem dX3_examine_83 : decode cX3_examine 83 = .ok (.ifCond .eq 9, 3) := by decide +kernel
theorem dX3_examine_86 : decode cX3_examine 86 = .ok (.aload_n 0, 1) := by decide +kernel
theorem dX3_examine_87 : decode cX3_examine 87 = .ok (.aload_n 1, 1) := by decide +kernel
theorem dX3_examine_88 : decode cX3_examine 88 = .ok (.aload_n 3, 1) := by decide +kernel
theorem dX3_examine_89 : decode cX3_examine 89 = .ok (.invokevirtual 44, 3) := by decide +kernel
theorem dX3_examine_92 : decode cX3_examine 92 = .ok (.aload_n 0, 1) := by decide +kernel
theorem dX3_examine_93 : decode cX3_examine 93 = .ok (.getfield 9, 3) := by decide +kernel
theorem dX3_examine_96 : decode cX3_examine 96 = .ok (.ifCond .ne 23, 3) := by decide +kernel
theorem dX3_examine_99 : decode cX3_examine 99 = .ok (.aload_n 3, 1) := by decide +kernel
theorem dX3_examine_100 : decode cX3_examine 100 = .ok (.getfield 29, 3) := by decide +kernel
theorem dX3_examine_103 : decode cX3_examine 103 = .ok (.ifCond .ne 16, 3) := by decide +kernel
theorem dX3_examine_106 : decode cX3_examine 106 = .ok (.aload_n 3, 1) := by decide +kernel
theorem dX3_examine_107 : decode cX3_examine 107 = .ok (.getfield 37, 3) := by decide +kernel
theorem dX3_examine_110 : decode cX3_examine 110 = .ok (.ifCond .eq 9, 3) := by decide +kernel
theorem dX3_examine_113 : decode cX3_examine 113 = .ok (.aload_n 0, 1) := by decide +kernel
theorem dX3_examine_114 : decode cX3_examine 114 = .ok (.aload_n 1, 1) := by decide +kernel
theorem dX3_examine_115 : decode cX3_examine 115 = .ok (.aload_n 3, 1) := by decide +kernel
theorem dX3_examine_116 : decode cX3_examine 116 = .ok (.invokevirtual 47, 3) := by decide +kernel
theorem dX3_examine_119 : decode cX3_examine 119 = .ok (.aload_n 0, 1) := by decide +kernel
theorem dX3_examine_120 : decode cX3_examine 120 = .ok (.getfield 9, 3) := by decide +kernel
theorem dX3_examine_123 : decode cX3_examine 123 = .ok (.ifCond .ne 10, 3) := by decide +kernel
theorem dX3_examine_126 : decode cX3_examine 126 = .ok (.aload_n 0, 1) := by decide +kernel
theorem dX3_examine_127 : decode cX3_examine 127 = .ok (.aload_n 1, 1) := by decide +kernel
theorem dX3_examine_128 : decode cX3_examine 128 = .ok (.aload_n 2, 1) := by decide +kernel
theorem dX3_examine_129 : decode cX3_examine 129 = .ok (.aload_n 3, 1) := by decide +kernel
theorem dX3_examine_130 : decode cX3_examine 130 = .ok (.invokevirtual 50, 3) := by decide +kernel
theorem dX3_examine_133 : decode cX3_examine 133 = .ok (.aload_n 0, 1) := by decide +kernel
theorem dX3_examine_134 : decode cX3_examine 134 = .ok (.getfield 9, 3) := by decide +kernel
theorem dX3_examine_137 : decode cX3_examine 137 = .ok (.ifCond .ne 16, 3) := by decide +kernel
theorem dX3_examine_140 : decode cX3_examine 140 = .ok (.aload_n 3, 1) := by decide +kernel
theorem dX3_examine_141 : decode cX3_examine 141 = .ok (.getfield 37, 3) := by decide +kernel
theorem dX3_examine_144 : decode cX3_examine 144 = .ok (.ifCond .ne 9, 3) := by decide +kernel
theorem dX3_examine_147 : decode cX3_examine 147 = .ok (.aload_n 0, 1) := by decide +kernel
theorem dX3_examine_148 : decode cX3_examine 148 = .ok (.aload_n 1, 1) := by decide +kernel
theorem dX3_examine_149 : decode cX3_examine 149 = .ok (.aload_n 3, 1) := by decide +kernel
theorem dX3_examine_150 : decode cX3_examine 150 = .ok (.invokevirtual 54, 3) := by decide +kernel
theorem dX3_examine_153 : decode cX3_examine 153 = .ok (.aload_n 0, 1) := by decide +kernel
theorem dX3_examine_154 : decode cX3_examine 154 = .ok (.getfield 9, 3) := by decide +kernel
theorem dX3_examine_157 : decode cX3_examine 157 = .ok (.ifCond .eq 4, 3) := by decide +kernel
theorem dX3_examine_160 : decode cX3_examine 160 = .ok (.return_, 1) := by decide +kernel
theorem dX3_examine_161 : decode cX3_examine 161 = .ok (.aload_n 0, 1) := by decide +kernel
theorem dX3_examine_162 : decode cX3_examine 162 = .ok (.getfield 21, 3) := by decide +kernel
theorem dX3_examine_165 : decode cX3_examine 165 = .ok (.aload_n 1, 1) := by decide +kernel
theorem dX3_examine_166 : decode cX3_examine 166 = .ok (.invokevirtual 57, 3) := by decide +kernel
theorem dX3_examine_169 : decode cX3_examine 169 = .ok (.aload_n 0, 1) := by decide +kernel
theorem dX3_examine_170 : decode cX3_examine 170 = .ok (.getfield 21, 3) := by decide +kernel
theorem dX3_examine_173 : decode cX3_examine 173 = .ok (.aload_n 3, 1) := by decide +kernel
theorem dX3_examine_174 : decode cX3_examine 174 = .ok (.invokevirtual 61, 3) := by decide +kernel
theorem dX3_examine_177 : decode cX3_examine 177 = .ok (.aload_n 0, 1) := by decide +kernel
theorem dX3_examine_178 : decode cX3_examine 178 = .ok (.bipush 6, 2) := by decide +kernel
theorem dX3_examine_180 : decode cX3_examine 180 = .ok (.aload_n 0, 1) := by decide +kernel
theorem dX3_examine_181 : decode cX3_examine 181 = .ok (.getfield 21, 3) := by decide +kernel
theorem dX3_examine_184 : decode cX3_examine 184 = .ok (.invokevirtual 65, 3) := by decide +kernel
theorem dX3_examine_187 : decode cX3_examine 187 = .ok (.invokevirtual 69, 3) := by decide +kernel
theorem dX3_examine_190 : decode cX3_examine 190 = .ok (.aload_n 0, 1) := by decide +kernel
theorem dX3_examine_191 : decode cX3_examine 191 = .ok (.bipush 7, 2) := by decide +kernel
theorem dX3_examine_193 : decode cX3_examine 193 = .ok (.aload_n 0, 1) := by decide +kernel
theorem dX3_examine_194 : decode cX3_examine 194 = .ok (.getfield 21, 3) := by decide +kernel
theorem dX3_examine_197 : decode cX3_examine 197 = .ok (.invokevirtual 73, 3) := by decide +kernel
theorem dX3_examine_200 : decode cX3_examine 200 = .ok (.invokevirtual 69, 3) := by decide +kernel
theorem dX3_examine_203 : decode cX3_examine 203 = .ok (.aload_n 0, 1) := by decide +kernel
theorem dX3_examine_204 : decode cX3_examine 204 = .ok (.bipush 8, 2) := by decide +kernel
theorem dX3_examine_206 : decode cX3_examine 206 = .ok (.aload_n 0, 1) := by decide +kernel
theorem dX3_examine_207 : decode cX3_examine 207 = .ok (.getfield 21, 3) := by decide +kernel
theorem dX3_examine_210 : decode cX3_examine 210 = .ok (.invokevirtual 76, 3) := by decide +kernel
theorem dX3_examine_213 : decode cX3_examine 213 = .ok (.invokevirtual 69, 3) := by decide +kernel
theorem dX3_examine_216 : decode cX3_examine 216 = .ok (.return_, 1) := by decide +kernel
def fX3_examine_153 (N : Nat) (Z : mZ) (v0 : Nat) (v1 : Nat) (v3 : Nat) (M : mM) : Option (Unit × mM) := ck (okO Z v0 3) (if (M.1 v0 0) = 0 then bnd1 (Z.2.2.2 v0 2) (fun c29 => ck (okO Z c29 4) (bnd2 (fX4_copyFrom N Z c29 v1 M) (fun _ M31 => bnd2 (fX4_carryOut N Z c29 v3 M31) (fun _ M32 => bnd2 (fX4_lowestUnheldPost N Z c29 M32) (fun r33 M33 => bnd2 (fX3_examineLowest N Z v0 (6 : Int32) r33 M33) (fun _ M34 => bnd2 (fX4_lowestUnbracedBay N Z c29 M34) (fun r35 M35 => bnd2 (fX3_examineLowest N Z v0 (7 : Int32) r35 M35) (fun _ M36 => bnd2 (fX4_lowestOverloadedPost N Z c29 M36) (fun r37 M37 => bnd2 (fX3_examineLowest N Z v0 (8 : Int32) r37 M37) (fun _ M38 => some ((), M38))))))))))) else some ((), M))
set_option maxHeartbeats 4000000 in
set_option maxRecDepth 100000 in
theorem tX3_examine_153 {G : mG} {p : Program} {l : Launch} {e : Env} {s : State} {m : MethodId} {args : Array Value} {below : List Frame} {meth : Method} {c : Code} (C : Cx G p l s m args meth c RX3 cX3_examine 4 none []) (hnm : meth.name = yX3_examine.name) (N : Nat) (Z : mZ) : ∀ (v0 : Nat) (v1 : Nat) (v3 : Nat) (M : mM) (r : Unit) (M' : mM), fX3_examine_153 N Z v0 v1 v3 M = some (r, M') → JJ G p l e rmX3_examine s m args below meth c 4 (mEnd G below args s rmX3_examine (.inl none) Z M') 0 0 153 [(0, .ref v0), (1, .ref v1), (3, .ref v3)] [] Z M := by
  intro v0 v1 v3 M r M' h
  unfold fX3_examine_153 at h
  refine j_aload_n C dX3_examine_153 rfl 0 rfl ?_
  obtain ⟨ho27, h⟩ := ck_spec h
  refine j_getI C (cn := RX3) (T := TX3) (N := 3) (ci := 3) rfl iX3 ho27 0 (by decide) rfl fwRX3_9 dX3_examine_154 ?_
  refine j_if_eq C dX3_examine_157 (tgt := 161) (by decide) (fun hc28 => ?_) (fun hc28 => ?_)
  · rw [if_pos hc28] at h
    refine j_aload_n C dX3_examine_161 rfl 0 rfl ?_
    obtain ⟨c29, hr29, h⟩ := bnd1_spec h
    refine j_getR C (cn := RX3) (T := TX3) (N := 3) (ci := 3) rfl iX3 ho27 2 (by decide) rfl fwRX3_21 dX3_examine_162 hr29 ?_
    refine j_aload_n C dX3_examine_165 rfl 1 rfl ?_
    obtain ⟨ho30, h⟩ := ck_spec h
    obtain ⟨_, M31, hq31, h⟩ := bnd2_spec h
    refine j_run0 (c_V C (As := [.ref v1]) (rest := []) (ctX4_copyFrom C.2.2.2.2.2.2.2.2.1 N Z hq31) kcRX3_57 oyX4_copyFrom (ci := 4) (T := TX4) (N := 7) rfl (by decide) ho30 ⟨by decide, by decide⟩ ⟨by decide, by decide⟩ (Nat.le_of_ble_eq_true rfl) rfl dX3_examine_166) ?_
    refine j_aload_n C dX3_examine_169 rfl 0 rfl ?_
    refine j_getR C (cn := RX3) (T := TX3) (N := 3) (ci := 3) rfl iX3 ho27 2 (by decide) rfl fwRX3_21 dX3_examine_170 hr29 ?_
    refine j_aload_n C dX3_examine_173 rfl 2 rfl ?_
    obtain ⟨_, M32, hq32, h⟩ := bnd2_spec h
    refine j_run0 (c_V C (As := [.ref v3]) (rest := []) (ctX4_carryOut C.2.2.2.2.2.2.2.2.1 N Z hq32) kcRX3_61 oyX4_carryOut (ci := 4) (T := TX4) (N := 7) rfl (by decide) ho30 ⟨by decide, by decide⟩ ⟨by decide, by decide⟩ (Nat.le_of_ble_eq_true rfl) rfl dX3_examine_174) ?_
    refine j_aload_n C dX3_examine_177 rfl 0 rfl ?_
    refine j_bipush C dX3_examine_178 (v := (6 : Int32)) (by decide) ?_
    refine j_aload_n C dX3_examine_180 rfl 0 rfl ?_
    refine j_getR C (cn := RX3) (T := TX3) (N := 3) (ci := 3) rfl iX3 ho27 2 (by decide) rfl fwRX3_21 dX3_examine_181 hr29 ?_
    obtain ⟨r33, M33, hq33, h⟩ := bnd2_spec h
    refine j_run1 (c_V C (As := []) (rest := [.int (6 : Int32), .ref v0]) (ctX4_lowestUnheldPost C.2.2.2.2.2.2.2.2.1 N Z hq33) kcRX3_65 oyX4_lowestUnheldPost (ci := 4) (T := TX4) (N := 7) rfl (by decide) ho30 ⟨by decide, by decide⟩ ⟨by decide, by decide⟩ (Nat.le_of_ble_eq_true rfl) rfl dX3_examine_184) ?_
    obtain ⟨_, M34, hq34, h⟩ := bnd2_spec h
    refine j_run0 (c_V C (As := [.int (6 : Int32), .int r33]) (rest := []) (ctX3_examineLowest C.2.2.2.2.2.2.2.2.1 N Z hq34) kcRX3_69 oyX3_examineLowest (ci := 3) (T := TX3) (N := 3) rfl (by decide) ho27 ⟨by decide, by decide⟩ ⟨by decide, by decide⟩ (Nat.le_of_ble_eq_true rfl) rfl dX3_examine_187) ?_
    refine j_aload_n C dX3_examine_190 rfl 0 rfl ?_
    refine j_bipush C dX3_examine_191 (v := (7 : Int32)) (by decide) ?_
    refine j_aload_n C dX3_examine_193 rfl 0 rfl ?_
    refine j_getR C (cn := RX3) (T := TX3) (N := 3) (ci := 3) rfl iX3 ho27 2 (by decide) rfl fwRX3_21 dX3_examine_194 hr29 ?_
    obtain ⟨r35, M35, hq35, h⟩ := bnd2_spec h
    refine j_run1 (c_V C (As := []) (rest := [.int (7 : Int32), .ref v0]) (ctX4_lowestUnbracedBay C.2.2.2.2.2.2.2.2.1 N Z hq35) kcRX3_73 oyX4_lowestUnbracedBay (ci := 4) (T := TX4) (N := 7) rfl (by decide) ho30 ⟨by decide, by decide⟩ ⟨by decide, by decide⟩ (Nat.le_of_ble_eq_true rfl) rfl dX3_examine_197) ?_
    obtain ⟨_, M36, hq36, h⟩ := bnd2_spec h
    refine j_run0 (c_V C (As := [.int (7 : Int32), .int r35]) (rest := []) (ctX3_examineLowest C.2.2.2.2.2.2.2.2.1 N Z hq36) kcRX3_69 oyX3_examineLowest (ci := 3) (T := TX3) (N := 3) rfl (by decide) ho27 ⟨by decide, by decide⟩ ⟨by decide, by decide⟩ (Nat.le_of_ble_eq_true rfl) rfl dX3_examine_200) ?_
    refine j_aload_n C dX3_examine_203 rfl 0 rfl ?_
    refine j_bipush C dX3_examine_204 (v := (8 : Int32)) (by decide) ?_
    refine j_aload_n C dX3_examine_206 rfl 0 rfl ?_
    refine j_getR C (cn := RX3) (T := TX3) (N := 3) (ci := 3) rfl iX3 ho27 2 (by decide) rfl fwRX3_21 dX3_examine_207 hr29 ?_
    obtain ⟨r37, M37, hq37, h⟩ := bnd2_spec h
    refine j_run1 (c_V C (As := []) (rest := [.int (8 : Int32), .ref v0]) (ctX4_lowestOverloadedPost C.2.2.2.2.2.2.2.2.1 N Z hq37) kcRX3_76 oyX4_lowestOverloadedPost (ci := 4) (T := TX4) (N := 7) rfl (by decide) ho30 ⟨by decide, by decide⟩ ⟨by decide, by decide⟩ (Nat.le_of_ble_eq_true rfl) rfl dX3_examine_210) ?_
    obtain ⟨_, M38, hq38, h⟩ := bnd2_spec h
    refine j_run0 (c_V C (As := [.int (8 : Int32), .int r37]) (rest := []) (ctX3_examineLowest C.2.2.2.2.2.2.2.2.1 N Z hq38) kcRX3_69 oyX3_examineLowest (ci := 3) (T := TX3) (N := 3) rfl (by decide) ho27 ⟨by decide, by decide⟩ ⟨by decide, by decide⟩ (Nat.le_of_ble_eq_true rfl) rfl dX3_examine_213) ?_
    cases h
    exact j_vret C rfl (by decide) (by decide) dX3_examine_216
  · rw [if_neg hc28] at h
    cases h
    exact j_vret C rfl (by decide) (by decide) dX3_examine_160
def fX3_examine_119 (N : Nat) (Z : mZ) (v0 : Nat) (v1 : Nat) (v2 : Nat) (v3 : Nat) (M : mM) : Option (Unit × mM) := ck (okO Z v0 3) (if (M.1 v0 0) = 0 then bnd2 (fX3_examineStanding N Z v0 v1 v2 v3 M) (fun _ M22 => if (M22.1 v0 0) = 0 then ck (okO Z v3 7) (if (M22.1 v3 4) = 0 then bnd2 (fX3_examineYard N Z v0 v1 v3 M22) (fun _ M26 => fX3_examine_153 N Z v0 v1 v3 M26) else fX3_examine_153 N Z v0 v1 v3 M22) else fX3_examine_153 N Z v0 v1 v3 M22) else if (M.1 v0 0) = 0 then ck (okO Z v3 7) (if (M.1 v3 4) = 0 then bnd2 (fX3_examineYard N Z v0 v1 v3 M) (fun _ M42 => fX3_examine_153 N Z v0 v1 v3 M42) else fX3_examine_153 N Z v0 v1 v3 M) else fX3_examine_153 N Z v0 v1 v3 M)
set_option maxHeartbeats 4000000 in
set_option maxRecDepth 100000 in
theorem tX3_examine_119 {G : mG} {p : Program} {l : Launch} {e : Env} {s : State} {m : MethodId} {args : Array Value} {below : List Frame} {meth : Method} {c : Code} (C : Cx G p l s m args meth c RX3 cX3_examine 4 none []) (hnm : meth.name = yX3_examine.name) (N : Nat) (Z : mZ) : ∀ (v0 : Nat) (v1 : Nat) (v2 : Nat) (v3 : Nat) (M : mM) (r : Unit) (M' : mM), fX3_examine_119 N Z v0 v1 v2 v3 M = some (r, M') → JJ G p l e rmX3_examine s m args below meth c 4 (mEnd G below args s rmX3_examine (.inl none) Z M') 0 0 119 [(0, .ref v0), (1, .ref v1), (2, .ref v2), (3, .ref v3)] [] Z M := by
  intro v0 v1 v2 v3 M r M' h
  unfold fX3_examine_119 at h
  refine j_aload_n C dX3_examine_119 rfl 0 rfl ?_
  obtain ⟨ho20, h⟩ := ck_spec h
  refine j_getI C (cn := RX3) (T := TX3) (N := 3) (ci := 3) rfl iX3 ho20 0 (by decide) rfl fwRX3_9 dX3_examine_120 ?_
  refine j_if_ne C dX3_examine_123 (tgt := 133) (by decide) (fun hc21 => ?_) (fun hc21 => ?_)
  · rw [if_neg hc21] at h
    refine j_aload_n C dX3_examine_133 rfl 0 rfl ?_
    refine j_getI C (cn := RX3) (T := TX3) (N := 3) (ci := 3) rfl iX3 ho20 0 (by decide) rfl fwRX3_9 dX3_examine_134 ?_
    refine j_if_ne C dX3_examine_137 (tgt := 153) (by decide) (fun hc39 => ?_) (fun hc39 => ?_)
    · rw [if_neg hc39] at h
      refine j_sub (L' := [(0, .ref v0), (1, .ref v1), (3, .ref v3)]) [0, 1, 3] rfl ?_
      exact tX3_examine_153 C hnm N Z v0 v1 v3 M _ _ h
    · rw [if_pos hc39] at h
      refine j_aload_n C dX3_examine_140 rfl 3 rfl ?_
      obtain ⟨ho40, h⟩ := ck_spec h
      refine j_getI C (cn := RX7) (T := TX7) (N := 5) (ci := 7) rfl iX7 ho40 4 (by decide) rfl fwRX3_37 dX3_examine_141 ?_
      refine j_if_ne C dX3_examine_144 (tgt := 153) (by decide) (fun hc41 => ?_) (fun hc41 => ?_)
      · rw [if_neg hc41] at h
        refine j_sub (L' := [(0, .ref v0), (1, .ref v1), (3, .ref v3)]) [0, 1, 3] rfl ?_
        exact tX3_examine_153 C hnm N Z v0 v1 v3 M _ _ h
      · rw [if_pos hc41] at h
        refine j_aload_n C dX3_examine_147 rfl 0 rfl ?_
        refine j_aload_n C dX3_examine_148 rfl 1 rfl ?_
        refine j_aload_n C dX3_examine_149 rfl 3 rfl ?_
        obtain ⟨_, M42, hq42, h⟩ := bnd2_spec h
        refine j_run0 (c_V C (As := [.ref v1, .ref v3]) (rest := []) (ctX3_examineYard C.2.2.2.2.2.2.2.2.1 N Z hq42) kcRX3_54 oyX3_examineYard (ci := 3) (T := TX3) (N := 3) rfl (by decide) ho20 ⟨by decide, by decide⟩ ⟨by decide, by decide⟩ (Nat.le_of_ble_eq_true rfl) rfl dX3_examine_150) ?_
        refine j_sub (L' := [(0, .ref v0), (1, .ref v1), (3, .ref v3)]) [0, 1, 3] rfl ?_
        exact tX3_examine_153 C hnm N Z v0 v1 v3 M42 _ _ h
  · rw [if_pos hc21] at h
    refine j_aload_n C dX3_examine_126 rfl 0 rfl ?_
    refine j_aload_n C dX3_examine_127 rfl 1 rfl ?_
    refine j_aload_n C dX3_examine_128 rfl 2 rfl ?_
    refine j_aload_n C dX3_examine_129 rfl 3 rfl ?_
    obtain ⟨_, M22, hq22, h⟩ := bnd2_spec h
    refine j_run0 (c_V C (As := [.ref v1, .ref v2, .ref v3]) (rest := []) (ctX3_examineStanding C.2.2.2.2.2.2.2.2.1 N Z hq22) kcRX3_50 oyX3_examineStanding (ci := 3) (T := TX3) (N := 3) rfl (by decide) ho20 ⟨by decide, by decide⟩ ⟨by decide, by decide⟩ (Nat.le_of_ble_eq_true rfl) rfl dX3_examine_130) ?_
    refine j_aload_n C dX3_examine_133 rfl 0 rfl ?_
    refine j_getI C (cn := RX3) (T := TX3) (N := 3) (ci := 3) rfl iX3 ho20 0 (by decide) rfl fwRX3_9 dX3_examine_134 ?_
    refine j_if_ne C dX3_examine_137 (tgt := 153) (by decide) (fun hc23 => ?_) (fun hc23 => ?_)
    · rw [if_neg hc23] at h
      refine j_sub (L' := [(0, .ref v0), (1, .ref v1), (3, .ref v3)]) [0, 1, 3] rfl ?_
      exact tX3_examine_153 C hnm N Z v0 v1 v3 M22 _ _ h
    · rw [if_pos hc23] at h
      refine j_aload_n C dX3_examine_140 rfl 3 rfl ?_
      obtain ⟨ho24, h⟩ := ck_spec h
      refine j_getI C (cn := RX7) (T := TX7) (N := 5) (ci := 7) rfl iX7 ho24 4 (by decide) rfl fwRX3_37 dX3_examine_141 ?_
      refine j_if_ne C dX3_examine_144 (tgt := 153) (by decide) (fun hc25 => ?_) (fun hc25 => ?_)
      · rw [if_neg hc25] at h
        refine j_sub (L' := [(0, .ref v0), (1, .ref v1), (3, .ref v3)]) [0, 1, 3] rfl ?_
        exact tX3_examine_153 C hnm N Z v0 v1 v3 M22 _ _ h
      · rw [if_pos hc25] at h
        refine j_aload_n C dX3_examine_147 rfl 0 rfl ?_
        refine j_aload_n C dX3_examine_148 rfl 1 rfl ?_
        refine j_aload_n C dX3_examine_149 rfl 3 rfl ?_
        obtain ⟨_, M26, hq26, h⟩ := bnd2_spec h
        refine j_run0 (c_V C (As := [.ref v1, .ref v3]) (rest := []) (ctX3_examineYard C.2.2.2.2.2.2.2.2.1 N Z hq26) kcRX3_54 oyX3_examineYard (ci := 3) (T := TX3) (N := 3) rfl (by decide) ho20 ⟨by decide, by decide⟩ ⟨by decide, by decide⟩ (Nat.le_of_ble_eq_true rfl) rfl dX3_examine_150) ?_
        refine j_sub (L' := [(0, .ref v0), (1, .ref v1), (3, .ref v3)]) [0, 1, 3] rfl ?_
        exact tX3_examine_153 C hnm N Z v0 v1 v3 M26 _ _ h
def fX3_examine_64 (N : Nat) (Z : mZ) (v0 : Nat) (v1 : Nat) (v2 : Nat) (v3 : Nat) (M : mM) : Option (Unit × mM) := ck (okO Z v0 3) (if (M.1 v0 0) = 0 then ck (okO Z v3 7) (if (M.1 v3 0) = (2 : Int32) then if (M.1 v3 4) = 0 then if (M.1 v0 0) = 0 then if (M.1 v3 0) = 0 then if (M.1 v3 4) = 0 then fX3_examine_119 N Z v0 v1 v2 v3 M else bnd2 (fX3_examinePiecesOfLevel N Z v0 v1 v3 M) (fun _ M43 => fX3_examine_119 N Z v0 v1 v2 v3 M43) else fX3_examine_119 N Z v0 v1 v2 v3 M else fX3_examine_119 N Z v0 v1 v2 v3 M else bnd2 (fX3_examineLaddersOfDeck N Z v0 v1 v3 M) (fun _ M44 => if (M44.1 v0 0) = 0 then if (M44.1 v3 0) = 0 then if (M44.1 v3 4) = 0 then fX3_examine_119 N Z v0 v1 v2 v3 M44 else bnd2 (fX3_examinePiecesOfLevel N Z v0 v1 v3 M44) (fun _ M48 => fX3_examine_119 N Z v0 v1 v2 v3 M48) else fX3_examine_119 N Z v0 v1 v2 v3 M44 else fX3_examine_119 N Z v0 v1 v2 v3 M44) else if (M.1 v0 0) = 0 then if (M.1 v3 0) = 0 then if (M.1 v3 4) = 0 then fX3_examine_119 N Z v0 v1 v2 v3 M else bnd2 (fX3_examinePiecesOfLevel N Z v0 v1 v3 M) (fun _ M52 => fX3_examine_119 N Z v0 v1 v2 v3 M52) else fX3_examine_119 N Z v0 v1 v2 v3 M else fX3_examine_119 N Z v0 v1 v2 v3 M) else if (M.1 v0 0) = 0 then ck (okO Z v3 7) (if (M.1 v3 0) = 0 then if (M.1 v3 4) = 0 then fX3_examine_119 N Z v0 v1 v2 v3 M else bnd2 (fX3_examinePiecesOfLevel N Z v0 v1 v3 M) (fun _ M57 => fX3_examine_119 N Z v0 v1 v2 v3 M57) else fX3_examine_119 N Z v0 v1 v2 v3 M) else fX3_examine_119 N Z v0 v1 v2 v3 M)
set_option maxHeartbeats 4000000 in
set_option maxRecDepth 100000 in
theorem tX3_examine_64 {G : mG} {p : Program} {l : Launch} {e : Env} {s : State} {m : MethodId} {args : Array Value} {below : List Frame} {meth : Method} {c : Code} (C : Cx G p l s m args meth c RX3 cX3_examine 4 none []) (hnm : meth.name = yX3_examine.name) (N : Nat) (Z : mZ) : ∀ (v0 : Nat) (v1 : Nat) (v2 : Nat) (v3 : Nat) (M : mM) (r : Unit) (M' : mM), fX3_examine_64 N Z v0 v1 v2 v3 M = some (r, M') → JJ G p l e rmX3_examine s m args below meth c 4 (mEnd G below args s rmX3_examine (.inl none) Z M') 0 0 64 [(0, .ref v0), (1, .ref v1), (2, .ref v2), (3, .ref v3)] [] Z M := by
  intro v0 v1 v2 v3 M r M' h
  unfold fX3_examine_64 at h
  refine j_aload_n C dX3_examine_64 rfl 0 rfl ?_
  obtain ⟨ho12, h⟩ := ck_spec h
  refine j_getI C (cn := RX3) (T := TX3) (N := 3) (ci := 3) rfl iX3 ho12 0 (by decide) rfl fwRX3_9 dX3_examine_65 ?_
  refine j_if_ne C dX3_examine_68 (tgt := 92) (by decide) (fun hc13 => ?_) (fun hc13 => ?_)
  · rw [if_neg hc13] at h
    refine j_aload_n C dX3_examine_92 rfl 0 rfl ?_
    refine j_getI C (cn := RX3) (T := TX3) (N := 3) (ci := 3) rfl iX3 ho12 0 (by decide) rfl fwRX3_9 dX3_examine_93 ?_
    refine j_if_ne C dX3_examine_96 (tgt := 119) (by decide) (fun hc53 => ?_) (fun hc53 => ?_)
    · rw [if_neg hc53] at h
      refine j_sub (L' := [(0, .ref v0), (1, .ref v1), (2, .ref v2), (3, .ref v3)]) [0, 1, 2, 3] rfl ?_
      exact tX3_examine_119 C hnm N Z v0 v1 v2 v3 M _ _ h
    · rw [if_pos hc53] at h
      refine j_aload_n C dX3_examine_99 rfl 3 rfl ?_
      obtain ⟨ho54, h⟩ := ck_spec h
      refine j_getI C (cn := RX7) (T := TX7) (N := 5) (ci := 7) rfl iX7 ho54 0 (by decide) rfl fwRX3_29 dX3_examine_100 ?_
      refine j_if_ne C dX3_examine_103 (tgt := 119) (by decide) (fun hc55 => ?_) (fun hc55 => ?_)
      · rw [if_neg hc55] at h
        refine j_sub (L' := [(0, .ref v0), (1, .ref v1), (2, .ref v2), (3, .ref v3)]) [0, 1, 2, 3] rfl ?_
        exact tX3_examine_119 C hnm N Z v0 v1 v2 v3 M _ _ h
      · rw [if_pos hc55] at h
        refine j_aload_n C dX3_examine_106 rfl 3 rfl ?_
        refine j_getI C (cn := RX7) (T := TX7) (N := 5) (ci := 7) rfl iX7 ho54 4 (by decide) rfl fwRX3_37 dX3_examine_107 ?_
        refine j_if_eq C dX3_examine_110 (tgt := 119) (by decide) (fun hc56 => ?_) (fun hc56 => ?_)
        · rw [if_pos hc56] at h
          refine j_sub (L' := [(0, .ref v0), (1, .ref v1), (2, .ref v2), (3, .ref v3)]) [0, 1, 2, 3] rfl ?_
          exact tX3_examine_119 C hnm N Z v0 v1 v2 v3 M _ _ h
        · rw [if_neg hc56] at h
          refine j_aload_n C dX3_examine_113 rfl 0 rfl ?_
          refine j_aload_n C dX3_examine_114 rfl 1 rfl ?_
          refine j_aload_n C dX3_examine_115 rfl 3 rfl ?_
          obtain ⟨_, M57, hq57, h⟩ := bnd2_spec h
          refine j_run0 (c_V C (As := [.ref v1, .ref v3]) (rest := []) (ctX3_examinePiecesOfLevel C.2.2.2.2.2.2.2.2.1 N Z hq57) kcRX3_47 oyX3_examinePiecesOfLevel (ci := 3) (T := TX3) (N := 3) rfl (by decide) ho12 ⟨by decide, by decide⟩ ⟨by decide, by decide⟩ (Nat.le_of_ble_eq_true rfl) rfl dX3_examine_116) ?_
          refine j_sub (L' := [(0, .ref v0), (1, .ref v1), (2, .ref v2), (3, .ref v3)]) [0, 1, 2, 3] rfl ?_
          exact tX3_examine_119 C hnm N Z v0 v1 v2 v3 M57 _ _ h
  · rw [if_pos hc13] at h
    refine j_aload_n C dX3_examine_71 rfl 3 rfl ?_
    obtain ⟨ho14, h⟩ := ck_spec h
    refine j_getI C (cn := RX7) (T := TX7) (N := 5) (ci := 7) rfl iX7 ho14 0 (by decide) rfl fwRX3_29 dX3_examine_72 ?_
    refine j_iconst C dX3_examine_75 (v := (2 : Int32)) (by decide) ?_
    refine j_icmp_ne C dX3_examine_76 (tgt := 92) (by decide) (fun hc15 => ?_) (fun hc15 => ?_)
    · rw [if_neg hc15] at h
      refine j_aload_n C dX3_examine_92 rfl 0 rfl ?_
      refine j_getI C (cn := RX3) (T := TX3) (N := 3) (ci := 3) rfl iX3 ho12 0 (by decide) rfl fwRX3_9 dX3_examine_93 ?_
      refine j_if_ne C dX3_examine_96 (tgt := 119) (by decide) (fun hc49 => ?_) (fun hc49 => ?_)
      · rw [if_neg hc49] at h
        refine j_sub (L' := [(0, .ref v0), (1, .ref v1), (2, .ref v2), (3, .ref v3)]) [0, 1, 2, 3] rfl ?_
        exact tX3_examine_119 C hnm N Z v0 v1 v2 v3 M _ _ h
      · rw [if_pos hc49] at h
        refine j_aload_n C dX3_examine_99 rfl 3 rfl ?_
        refine j_getI C (cn := RX7) (T := TX7) (N := 5) (ci := 7) rfl iX7 ho14 0 (by decide) rfl fwRX3_29 dX3_examine_100 ?_
        refine j_if_ne C dX3_examine_103 (tgt := 119) (by decide) (fun hc50 => ?_) (fun hc50 => ?_)
        · rw [if_neg hc50] at h
          refine j_sub (L' := [(0, .ref v0), (1, .ref v1), (2, .ref v2), (3, .ref v3)]) [0, 1, 2, 3] rfl ?_
          exact tX3_examine_119 C hnm N Z v0 v1 v2 v3 M _ _ h
        · rw [if_pos hc50] at h
          refine j_aload_n C dX3_examine_106 rfl 3 rfl ?_
          refine j_getI C (cn := RX7) (T := TX7) (N := 5) (ci := 7) rfl iX7 ho14 4 (by decide) rfl fwRX3_37 dX3_examine_107 ?_
          refine j_if_eq C dX3_examine_110 (tgt := 119) (by decide) (fun hc51 => ?_) (fun hc51 => ?_)
          · rw [if_pos hc51] at h
            refine j_sub (L' := [(0, .ref v0), (1, .ref v1), (2, .ref v2), (3, .ref v3)]) [0, 1, 2, 3] rfl ?_
            exact tX3_examine_119 C hnm N Z v0 v1 v2 v3 M _ _ h
          · rw [if_neg hc51] at h
            refine j_aload_n C dX3_examine_113 rfl 0 rfl ?_
            refine j_aload_n C dX3_examine_114 rfl 1 rfl ?_
            refine j_aload_n C dX3_examine_115 rfl 3 rfl ?_
            obtain ⟨_, M52, hq52, h⟩ := bnd2_spec h
            refine j_run0 (c_V C (As := [.ref v1, .ref v3]) (rest := []) (ctX3_examinePiecesOfLevel C.2.2.2.2.2.2.2.2.1 N Z hq52) kcRX3_47 oyX3_examinePiecesOfLevel (ci := 3) (T := TX3) (N := 3) rfl (by decide) ho12 ⟨by decide, by decide⟩ ⟨by decide, by decide⟩ (Nat.le_of_ble_eq_true rfl) rfl dX3_examine_116) ?_
            refine j_sub (L' := [(0, .ref v0), (1, .ref v1), (2, .ref v2), (3, .ref v3)]) [0, 1, 2, 3] rfl ?_
            exact tX3_examine_119 C hnm N Z v0 v1 v2 v3 M52 _ _ h
    · rw [if_pos hc15] at h
      refine j_aload_n C dX3_examine_79 rfl 3 rfl ?_
      refine j_getI C (cn := RX7) (T := TX7) (N := 5) (ci := 7) rfl iX7 ho14 4 (by decide) rfl fwRX3_37 dX3_examine_80 ?_
      refine j_if_eq C dX3_examine_83 (tgt := 92) (by decide) (fun hc16 => ?_) (fun hc16 => ?_)
      · rw [if_pos hc16] at h
        refine j_aload_n C dX3_examine_92 rfl 0 rfl ?_
        refine j_getI C (cn := RX3) (T := TX3) (N := 3) (ci := 3) rfl iX3 ho12 0 (by decide) rfl fwRX3_9 dX3_examine_93 ?_
        refine j_if_ne C dX3_examine_96 (tgt := 119) (by decide) (fun hc17 => ?_) (fun hc17 => ?_)
        · rw [if_neg hc17] at h
          refine j_sub (L' := [(0, .ref v0), (1, .ref v1), (2, .ref v2), (3, .ref v3)]) [0, 1, 2, 3] rfl ?_
          exact tX3_examine_119 C hnm N Z v0 v1 v2 v3 M _ _ h
        · rw [if_pos hc17] at h
          refine j_aload_n C dX3_examine_99 rfl 3 rfl ?_
          refine j_getI C (cn := RX7) (T := TX7) (N := 5) (ci := 7) rfl iX7 ho14 0 (by decide) rfl fwRX3_29 dX3_examine_100 ?_
          refine j_if_ne C dX3_examine_103 (tgt := 119) (by decide) (fun hc18 => ?_) (fun hc18 => ?_)
          · rw [if_neg hc18] at h
            refine j_sub (L' := [(0, .ref v0), (1, .ref v1), (2, .ref v2), (3, .ref v3)]) [0, 1, 2, 3] rfl ?_
            exact tX3_examine_119 C hnm N Z v0 v1 v2 v3 M _ _ h
          · rw [if_pos hc18] at h
            refine j_aload_n C dX3_examine_106 rfl 3 rfl ?_
            refine j_getI C (cn := RX7) (T := TX7) (N := 5) (ci := 7) rfl iX7 ho14 4 (by decide) rfl fwRX3_37 dX3_examine_107 ?_
            refine j_if_eq C dX3_examine_110 (tgt := 119) (by decide) (fun hc19 => ?_) (fun hc19 => ?_)
            · rw [if_pos hc19] at h
              refine j_sub (L' := [(0, .ref v0), (1, .ref v1), (2, .ref v2), (3, .ref v3)]) [0, 1, 2, 3] rfl ?_
              exact tX3_examine_119 C hnm N Z v0 v1 v2 v3 M _ _ h
            · rw [if_neg hc19] at h
              refine j_aload_n C dX3_examine_113 rfl 0 rfl ?_
              refine j_aload_n C dX3_examine_114 rfl 1 rfl ?_
              refine j_aload_n C dX3_examine_115 rfl 3 rfl ?_
              obtain ⟨_, M43, hq43, h⟩ := bnd2_spec h
              refine j_run0 (c_V C (As := [.ref v1, .ref v3]) (rest := []) (ctX3_examinePiecesOfLevel C.2.2.2.2.2.2.2.2.1 N Z hq43) kcRX3_47 oyX3_examinePiecesOfLevel (ci := 3) (T := TX3) (N := 3) rfl (by decide) ho12 ⟨by decide, by decide⟩ ⟨by decide, by decide⟩ (Nat.le_of_ble_eq_true rfl) rfl dX3_examine_116) ?_
              refine j_sub (L' := [(0, .ref v0), (1, .ref v1), (2, .ref v2), (3, .ref v3)]) [0, 1, 2, 3] rfl ?_
              exact tX3_examine_119 C hnm N Z v0 v1 v2 v3 M43 _ _ h
      · rw [if_neg hc16] at h
        refine j_aload_n C dX3_examine_86 rfl 0 rfl ?_
        refine j_aload_n C dX3_examine_87 rfl 1 rfl ?_
        refine j_aload_n C dX3_examine_88 rfl 3 rfl ?_
        obtain ⟨_, M44, hq44, h⟩ := bnd2_spec h
        refine j_run0 (c_V C (As := [.ref v1, .ref v3]) (rest := []) (ctX3_examineLaddersOfDeck C.2.2.2.2.2.2.2.2.1 N Z hq44) kcRX3_44 oyX3_examineLaddersOfDeck (ci := 3) (T := TX3) (N := 3) rfl (by decide) ho12 ⟨by decide, by decide⟩ ⟨by decide, by decide⟩ (Nat.le_of_ble_eq_true rfl) rfl dX3_examine_89) ?_
        refine j_aload_n C dX3_examine_92 rfl 0 rfl ?_
        refine j_getI C (cn := RX3) (T := TX3) (N := 3) (ci := 3) rfl iX3 ho12 0 (by decide) rfl fwRX3_9 dX3_examine_93 ?_
        refine j_if_ne C dX3_examine_96 (tgt := 119) (by decide) (fun hc45 => ?_) (fun hc45 => ?_)
        · rw [if_neg hc45] at h
          refine j_sub (L' := [(0, .ref v0), (1, .ref v1), (2, .ref v2), (3, .ref v3)]) [0, 1, 2, 3] rfl ?_
          exact tX3_examine_119 C hnm N Z v0 v1 v2 v3 M44 _ _ h
        · rw [if_pos hc45] at h
          refine j_aload_n C dX3_examine_99 rfl 3 rfl ?_
          refine j_getI C (cn := RX7) (T := TX7) (N := 5) (ci := 7) rfl iX7 ho14 0 (by decide) rfl fwRX3_29 dX3_examine_100 ?_
          refine j_if_ne C dX3_examine_103 (tgt := 119) (by decide) (fun hc46 => ?_) (fun hc46 => ?_)
          · rw [if_neg hc46] at h
            refine j_sub (L' := [(0, .ref v0), (1, .ref v1), (2, .ref v2), (3, .ref v3)]) [0, 1, 2, 3] rfl ?_
            exact tX3_examine_119 C hnm N Z v0 v1 v2 v3 M44 _ _ h
          · rw [if_pos hc46] at h
            refine j_aload_n C dX3_examine_106 rfl 3 rfl ?_
            refine j_getI C (cn := RX7) (T := TX7) (N := 5) (ci := 7) rfl iX7 ho14 4 (by decide) rfl fwRX3_37 dX3_examine_107 ?_
            refine j_if_eq C dX3_examine_110 (tgt := 119) (by decide) (fun hc47 => ?_) (fun hc47 => ?_)
            · rw [if_pos hc47] at h
              refine j_sub (L' := [(0, .ref v0), (1, .ref v1), (2, .ref v2), (3, .ref v3)]) [0, 1, 2, 3] rfl ?_
              exact tX3_examine_119 C hnm N Z v0 v1 v2 v3 M44 _ _ h
            · rw [if_neg hc47] at h
              refine j_aload_n C dX3_examine_113 rfl 0 rfl ?_
              refine j_aload_n C dX3_examine_114 rfl 1 rfl ?_
              refine j_aload_n C dX3_examine_115 rfl 3 rfl ?_
              obtain ⟨_, M48, hq48, h⟩ := bnd2_spec h
              refine j_run0 (c_V C (As := [.ref v1, .ref v3]) (rest := []) (ctX3_examinePiecesOfLevel C.2.2.2.2.2.2.2.2.1 N Z hq48) kcRX3_47 oyX3_examinePiecesOfLevel (ci := 3) (T := TX3) (N := 3) rfl (by decide) ho12 ⟨by decide, by decide⟩ ⟨by decide, by decide⟩ (Nat.le_of_ble_eq_true rfl) rfl dX3_examine_116) ?_
              refine j_sub (L' := [(0, .ref v0), (1, .ref v1), (2, .ref v2), (3, .ref v3)]) [0, 1, 2, 3] rfl ?_
              exact tX3_examine_119 C hnm N Z v0 v1 v2 v3 M48 _ _ h
def fX3_examine_36 (N : Nat) (Z : mZ) (v0 : Nat) (v1 : Nat) (v2 : Nat) (v3 : Nat) (M : mM) : Option (Unit × mM) := ck (okO Z v0 3) (if (M.1 v0 0) = 0 then ck (okO Z v3 7) (if (M.1 v3 0) = (5 : Int32) then if (M.1 v3 4) = 0 then bnd2 (fX3_examineDecksOfLadder N Z v0 v1 v3 M) (fun _ M11 => fX3_examine_64 N Z v0 v1 v2 v3 M11) else fX3_examine_64 N Z v0 v1 v2 v3 M else fX3_examine_64 N Z v0 v1 v2 v3 M) else fX3_examine_64 N Z v0 v1 v2 v3 M)
set_option maxHeartbeats 4000000 in
set_option maxRecDepth 100000 in
theorem tX3_examine_36 {G : mG} {p : Program} {l : Launch} {e : Env} {s : State} {m : MethodId} {args : Array Value} {below : List Frame} {meth : Method} {c : Code} (C : Cx G p l s m args meth c RX3 cX3_examine 4 none []) (hnm : meth.name = yX3_examine.name) (N : Nat) (Z : mZ) : ∀ (v0 : Nat) (v1 : Nat) (v2 : Nat) (v3 : Nat) (M : mM) (r : Unit) (M' : mM), fX3_examine_36 N Z v0 v1 v2 v3 M = some (r, M') → JJ G p l e rmX3_examine s m args below meth c 4 (mEnd G below args s rmX3_examine (.inl none) Z M') 0 0 36 [(0, .ref v0), (1, .ref v1), (2, .ref v2), (3, .ref v3)] [] Z M := by
  intro v0 v1 v2 v3 M r M' h
  unfold fX3_examine_36 at h
  refine j_aload_n C dX3_examine_36 rfl 0 rfl ?_
  obtain ⟨ho6, h⟩ := ck_spec h
  refine j_getI C (cn := RX3) (T := TX3) (N := 3) (ci := 3) rfl iX3 ho6 0 (by decide) rfl fwRX3_9 dX3_examine_37 ?_
  refine j_if_ne C dX3_examine_40 (tgt := 64) (by decide) (fun hc7 => ?_) (fun hc7 => ?_)
  · rw [if_neg hc7] at h
    refine j_sub (L' := [(0, .ref v0), (1, .ref v1), (2, .ref v2), (3, .ref v3)]) [0, 1, 2, 3] rfl ?_
    exact tX3_examine_64 C hnm N Z v0 v1 v2 v3 M _ _ h
  · rw [if_pos hc7] at h
    refine j_aload_n C dX3_examine_43 rfl 3 rfl ?_
    obtain ⟨ho8, h⟩ := ck_spec h
    refine j_getI C (cn := RX7) (T := TX7) (N := 5) (ci := 7) rfl iX7 ho8 0 (by decide) rfl fwRX3_29 dX3_examine_44 ?_
    refine j_iconst C dX3_examine_47 (v := (5 : Int32)) (by decide) ?_
    refine j_icmp_ne C dX3_examine_48 (tgt := 64) (by decide) (fun hc9 => ?_) (fun hc9 => ?_)
    · rw [if_neg hc9] at h
      refine j_sub (L' := [(0, .ref v0), (1, .ref v1), (2, .ref v2), (3, .ref v3)]) [0, 1, 2, 3] rfl ?_
      exact tX3_examine_64 C hnm N Z v0 v1 v2 v3 M _ _ h
    · rw [if_pos hc9] at h
      refine j_aload_n C dX3_examine_51 rfl 3 rfl ?_
      refine j_getI C (cn := RX7) (T := TX7) (N := 5) (ci := 7) rfl iX7 ho8 4 (by decide) rfl fwRX3_37 dX3_examine_52 ?_
      refine j_if_ne C dX3_examine_55 (tgt := 64) (by decide) (fun hc10 => ?_) (fun hc10 => ?_)
      · rw [if_neg hc10] at h
        refine j_sub (L' := [(0, .ref v0), (1, .ref v1), (2, .ref v2), (3, .ref v3)]) [0, 1, 2, 3] rfl ?_
        exact tX3_examine_64 C hnm N Z v0 v1 v2 v3 M _ _ h
      · rw [if_pos hc10] at h
        refine j_aload_n C dX3_examine_58 rfl 0 rfl ?_
        refine j_aload_n C dX3_examine_59 rfl 1 rfl ?_
        refine j_aload_n C dX3_examine_60 rfl 3 rfl ?_
        obtain ⟨_, M11, hq11, h⟩ := bnd2_spec h
        refine j_run0 (c_V C (As := [.ref v1, .ref v3]) (rest := []) (ctX3_examineDecksOfLadder C.2.2.2.2.2.2.2.2.1 N Z hq11) kcRX3_41 oyX3_examineDecksOfLadder (ci := 3) (T := TX3) (N := 3) rfl (by decide) ho6 ⟨by decide, by decide⟩ ⟨by decide, by decide⟩ (Nat.le_of_ble_eq_true rfl) rfl dX3_examine_61) ?_
        refine j_sub (L' := [(0, .ref v0), (1, .ref v1), (2, .ref v2), (3, .ref v3)]) [0, 1, 2, 3] rfl ?_
        exact tX3_examine_64 C hnm N Z v0 v1 v2 v3 M11 _ _ h
def fX3_examine (N : Nat) (Z : mZ) (a0 : Nat) (a1 : Nat) (a2 : Nat) (a3 : Nat) (M : mM) : Option (Unit × mM) := ck (okO Z a0 3) (bnd2 (fX3_examineLevel N Z a0 a1 a3 (sI (sI M a0 0 (0 : Int32)) a0 1 (0 : Int32))) (fun _ M2 => if (M2.1 a0 0) = 0 then ck (okO Z a3 7) (if (M2.1 a3 0) = 0 then fX3_examine_36 N Z a0 a1 a2 a3 M2 else bnd2 (fX3_examinePlace N Z a0 a1 a3 M2) (fun _ M58 => fX3_examine_36 N Z a0 a1 a2 a3 M58)) else fX3_examine_36 N Z a0 a1 a2 a3 M2))
set_option maxHeartbeats 4000000 in
set_option maxRecDepth 100000 in
theorem ctX3_examine {G : mG} {l : Launch} (hl : l.stackTraces = false) (N : Nat) (Z : mZ) {a0 : Nat} {a1 : Nat} {a2 : Nat} {a3 : Nat} {M : mM} {r : Unit} {M' : mM} (h : fX3_examine N Z a0 a1 a2 a3 M = some (r, M')) : CT G l yX3_examine (.code yX3_examine cX3_examine 4 none) rmX3_examine [.ref a0, .ref a1, .ref a2, .ref a3] Z M (.inl none) Z M' := by
  unfold fX3_examine at h
  refine CT.of hl (by decide) (Nat.le_of_ble_eq_true rfl) ?_
  intro p e s m args below meth c C hnm
  refine j_sub (L' := [(0, .ref a0), (1, .ref a1), (2, .ref a2), (3, .ref a3)]) [0, 1, 2, 3] rfl ?_
  refine j_aload_n C dX3_examine_0 rfl 0 rfl ?_
  refine j_iconst C dX3_examine_1 (v := (0 : Int32)) (by decide) ?_
  obtain ⟨ho1, h⟩ := ck_spec h
  refine j_putI C tyX3 tyX3_ok nmX3 (cn := RX3) (T := TX3) (N := 3) (ci := 3) rfl iX3 ho1 0 (by decide) rfl fwRX3_9 ⟨rfl, rfl⟩ dX3_examine_2 ?_
  refine j_aload_n C dX3_examine_5 rfl 0 rfl ?_
  refine j_iconst C dX3_examine_6 (v := (0 : Int32)) (by decide) ?_
  refine j_putI C tyX3 tyX3_ok nmX3 (cn := RX3) (T := TX3) (N := 3) (ci := 3) rfl iX3 ho1 1 (by decide) rfl fwRX3_15 ⟨rfl, rfl⟩ dX3_examine_7 ?_
  refine j_aload_n C dX3_examine_10 rfl 0 rfl ?_
  refine j_aload_n C dX3_examine_11 rfl 1 rfl ?_
  refine j_aload_n C dX3_examine_12 rfl 3 rfl ?_
  obtain ⟨_, M2, hq2, h⟩ := bnd2_spec h
  refine j_run0 (c_V C (As := [.ref a1, .ref a3]) (rest := []) (ctX3_examineLevel C.2.2.2.2.2.2.2.2.1 N Z hq2) kcRX3_25 oyX3_examineLevel (ci := 3) (T := TX3) (N := 3) rfl (by decide) ho1 ⟨by decide, by decide⟩ ⟨by decide, by decide⟩ (Nat.le_of_ble_eq_true rfl) rfl dX3_examine_13) ?_
  refine j_aload_n C dX3_examine_16 rfl 0 rfl ?_
  refine j_getI C (cn := RX3) (T := TX3) (N := 3) (ci := 3) rfl iX3 ho1 0 (by decide) rfl fwRX3_9 dX3_examine_17 ?_
  refine j_if_ne C dX3_examine_20 (tgt := 36) (by decide) (fun hc3 => ?_) (fun hc3 => ?_)
  · rw [if_neg hc3] at h
    refine j_sub (L' := [(0, .ref a0), (1, .ref a1), (2, .ref a2), (3, .ref a3)]) [0, 1, 2, 3] rfl ?_
    exact tX3_examine_36 C hnm N Z a0 a1 a2 a3 M2 _ _ h
  · rw [if_pos hc3] at h
    refine j_aload_n C dX3_examine_23 rfl 3 rfl ?_
    obtain ⟨ho4, h⟩ := ck_spec h
    refine j_getI C (cn := RX7) (T := TX7) (N := 5) (ci := 7) rfl iX7 ho4 0 (by decide) rfl fwRX3_29 dX3_examine_24 ?_
    refine j_if_eq C dX3_examine_27 (tgt := 36) (by decide) (fun hc5 => ?_) (fun hc5 => ?_)
    · rw [if_pos hc5] at h
      refine j_sub (L' := [(0, .ref a0), (1, .ref a1), (2, .ref a2), (3, .ref a3)]) [0, 1, 2, 3] rfl ?_
      exact tX3_examine_36 C hnm N Z a0 a1 a2 a3 M2 _ _ h
    · rw [if_neg hc5] at h
      refine j_aload_n C dX3_examine_30 rfl 0 rfl ?_
      refine j_aload_n C dX3_examine_31 rfl 1 rfl ?_
      refine j_aload_n C dX3_examine_32 rfl 3 rfl ?_
      obtain ⟨_, M58, hq58, h⟩ := bnd2_spec h
      refine j_run0 (c_V C (As := [.ref a1, .ref a3]) (rest := []) (ctX3_examinePlace C.2.2.2.2.2.2.2.2.1 N Z hq58) kcRX3_34 oyX3_examinePlace (ci := 3) (T := TX3) (N := 3) rfl (by decide) ho1 ⟨by decide, by decide⟩ ⟨by decide, by decide⟩ (Nat.le_of_ble_eq_true rfl) rfl dX3_examine_33) ?_
      refine j_sub (L' := [(0, .ref a0), (1, .ref a1), (2, .ref a2), (3, .ref a3)]) [0, 1, 2, 3] rfl ?_
      exact tX3_examine_36 C hnm N Z a0 a1 a2 a3 M58 _ _ h
-- ScaffoldPlanner$Dismantler isDone
theorem fwRX1_58 : Cond.fieldLinkNest RX1 58 RX8 "DISMANTLING_ORDER" "[I" "ScaffoldPlanner" ∈ nw := by decide +kernel
theorem fwRX1_61 : Cond.fieldLink RX1 61 RX4 (TX4 0).2.1 (TX4 0).2.2.1 ∈ gw := by decide +kernel
theorem kcRX1_75 : okSN RX1 75 yX8_at "ScaffoldPlanner" (.code yX8_at cX8_at 2 (some .int)) = true := by decide +kernel
theorem fwRX1_79 : Cond.fieldLink RX1 79 RX4 (TX4 2).2.1 (TX4 2).2.2.1 ∈ gw := by decide +kernel
theorem kcRX1_86 : okV RX1 86 yX7_fill (.code yX7_fill cX7_fill 5 none) = true := by decide +kernel
theorem kcRX1_90 : okV RX1 90 yX3_examine (.code yX3_examine cX3_examine 4 none) = true := by decide +kernel
theorem oyX3_examine : okY yX3_examine 3 := ⟨by decide +kernel, by decide +kernel, by decide +kernel⟩
theorem fwRX1_94 : Cond.fieldLink RX1 94 RX3 (TX3 0).2.1 (TX3 0).2.2.1 ∈ gw := by decide +kernel
theorem kcRX1_97 : okV RX1 97 yX4_carryOut (.code yX4_carryOut cX4_carryOut 4 none) = true := by decide +kernel
theorem kcRX1_101 : okSN RX1 101 yX8_write "ScaffoldPlanner" (.code yX8_write cX8_write 3 none) = true := by decide +kernel
theorem kcRX1_82 : okV RX1 82 yX4_has (.code yX4_has cX4_has 4 (some .boolean)) = true := by decide +kernel
abbrev rmX1_isDone : Room := { frames := 5, cells := 0, slots := 0, locals := 116 }
theorem dX1_isDone_0 : decode cX1_isDone 0 = .ok (.getstatic 58, 3) := by decide +kernel
theorem dX1_isDone_3 : decode cX1_isDone 3 = .ok (.arraylength, 1) := by decide +kernel
theorem dX1_isDone_4 : decode cX1_isDone 4 = .ok (.istore_n 2, 1) := by decide +kernel
theorem dX1_isDone_5 : decode cX1_isDone 5 = .ok (.iload_n 2, 1) := by decide +kernel
theorem dX1_isDone_6 : decode cX1_isDone 6 = .ok (.ifCond .eq 13, 3) := by decide +kernel
theorem dX1_isDone_9 : decode cX1_isDone 9 = .ok (.aload_n 0, 1) := by decide +kernel
theorem dX1_isDone_10 : decode cX1_isDone 10 = .ok (.getfield 29, 3) := by decide +kernel
theorem dX1_isDone_13 : decode cX1_isDone 13 = .ok (.getfield 61, 3) := by decide +kernel
theorem dX1_isDone_16 : decode cX1_isDone 16 = .ok (.ifCond .ne 5, 3) := by decide +kernel
theorem dX1_isDone_19 : decode cX1_isDone 19 = .ok (.iconst 0, 1) := by decide +kernel
theorem dX1_isDone_20 : decode cX1_isDone 20 = .ok (.ireturn, 1) := by decide +kernel
theorem dX1_isDone_21 : decode cX1_isDone 21 = .ok (.iload_n 1, 1) := by decide +kernel
theorem dX1_isDone_22 : decode cX1_isDone 22 = .ok (.aload_n 0, 1) := by decide +kernel
theorem dX1_isDone_23 : decode cX1_isDone 23 = .ok (.getfield 29, 3) := by decide +kernel
theorem dX1_isDone_26 : decode cX1_isDone 26 = .ok (.getfield 61, 3) := by decide +kernel
theorem dX1_isDone_29 : decode cX1_isDone 29 = .ok (.irem, 1) := by decide +kernel
theorem dX1_isDone_30 : decode cX1_isDone 30 = .ok (.istore_n 3, 1) := by decide +kernel
theorem dX1_isDone_31 : decode cX1_isDone 31 = .ok (.getstatic 58, 3) := by decide +kernel
theorem dX1_isDone_34 : decode cX1_isDone 34 = .ok (.iload_n 1, 1) := by decide +kernel
theorem dX1_isDone_35 : decode cX1_isDone 35 = .ok (.aload_n 0, 1) := by decide +kernel
theorem dX1_isDone_36 : decode cX1_isDone 36 = .ok (.getfield 29, 3) := by decide +kernel
theorem dX1_isDone_39 : decode cX1_isDone 39 = .ok (.getfield 61, 3) := by decide +kernel
theorem dX1_isDone_42 : decode cX1_isDone 42 = .ok (.idiv, 1) := by decide +kernel
theorem dX1_isDone_43 : decode cX1_isDone 43 = .ok (.iload_n 2, 1) := by decide +kernel
theorem dX1_isDone_44 : decode cX1_isDone 44 = .ok (.irem, 1) := by decide +kernel
theorem dX1_isDone_45 : decode cX1_isDone 45 = .ok (.invokestatic 75, 3) := by decide +kernel
theorem dX1_isDone_48 : decode cX1_isDone 48 = .ok (.istore 4, 2) := by decide +kernel
theorem dX1_isDone_50 : decode cX1_isDone 50 = .ok (.bipush 6, 2) := by decide +kernel
theorem dX1_isDone_52 : decode cX1_isDone 52 = .ok (.iload_n 1, 1) := by decide +kernel
theorem dX1_isDone_53 : decode cX1_isDone 53 = .ok (.aload_n 0, 1) := by decide +kernel
theorem dX1_isDone_54 : decode cX1_isDone 54 = .ok (.getfield 29, 3) := by decide +kernel
theorem dX1_isDone_57 : decode cX1_isDone 57 = .ok (.getfield 61, 3) := by decide +kernel
theorem dX1_isDone_60 : decode cX1_isDone 60 = .ok (.idiv, 1) := by decide +kernel
theorem dX1_isDone_61 : decode cX1_isDone 61 = .ok (.iload_n 2, 1) := by decide +kernel
theorem dX1_isDone_62 : decode cX1_isDone 62 = .ok (.idiv, 1) := by decide +kernel
theorem dX1_isDone_63 : decode cX1_isDone 63 = .ok (.isub, 1) := by decide +kernel
theorem dX1_isDone_64 : decode cX1_isDone 64 = .ok (.istore 5, 2) := by decide +kernel
theorem dX1_isDone_66 : decode cX1_isDone 66 = .ok (.iload 4, 2) := by decide +kernel
theorem dX1_isDone_68 : decode cX1_isDone 68 = .ok (.ifCond .ne 27, 3) := by decide +kernel
theorem dX1_isDone_71 : decode cX1_isDone 71 = .ok (.aload_n 0, 1) := by decide +kernel
theorem dX1_isDone_72 : decode cX1_isDone 72 = .ok (.getfield 29, 3) := by decide +kernel
theorem dX1_isDone_75 : decode cX1_isDone 75 = .ok (.getfield 79, 3) := by decide +kernel
theorem dX1_isDone_78 : decode cX1_isDone 78 = .ok (.iload_n 3, 1) := by decide +kernel
theorem dX1_isDone_79 : decode cX1_isDone 79 = .ok (.invokestatic 75, 3) := by decide +kernel
theorem dX1_isDone_82 : decode cX1_isDone 82 = .ok (.iload 5, 2) := by decide +kernel
theorem dX1_isDone_84 : decode cX1_isDone 84 = .ok (.if_icmp .ne 7, 3) := by decide +kernel
theorem dX1_isDone_87 : decode cX1_isDone 87 = .ok (.iconst 1, 1) := by decide +kernel
theorem dX1_isDone_88 : decode cX1_isDone 88 = .ok (.goto 19, 3) := by decide +kernel
theorem dX1_isDone_91 : decode cX1_isDone 91 = .ok (.iconst 0, 1) := by decide +kernel
theorem dX1_isDone_92 : decode cX1_isDone 92 = .ok (.goto 15, 3) := by decide +kernel
theorem dX1_isDone_95 : decode cX1_isDone 95 = .ok (.aload_n 0, 1) := by decide +kernel
theorem dX1_isDone_96 : decode cX1_isDone 96 = .ok (.getfield 29, 3) := by decide +kernel
theorem dX1_isDone_99 : decode cX1_isDone 99 = .ok (.iload 4, 2) := by decide +kernel
theorem dX1_isDone_101 : decode cX1_isDone 101 = .ok (.iload_n 3, 1) := by decide +kernel
theorem dX1_isDone_102 : decode cX1_isDone 102 = .ok (.iload 5, 2) := by decide +kernel
theorem dX1_isDone_104 : decode cX1_isDone 104 = .ok (.invokevirtual 82, 3) := by decide +kernel
theorem dX1_isDone_107 : decode cX1_isDone 107 = .ok (.istore 6, 2) := by decide +kernel
theorem dX1_isDone_109 : decode cX1_isDone 109 = .ok (.iload 6, 2) := by decide +kernel
theorem dX1_isDone_111 : decode cX1_isDone 111 = .ok (.ifCond .ne 5, 3) := by decide +kernel
theorem dX1_isDone_114 : decode cX1_isDone 114 = .ok (.iconst 0, 1) := by decide +kernel
theorem dX1_isDone_115 : decode cX1_isDone 115 = .ok (.ireturn, 1) := by decide +kernel
theorem dX1_isDone_116 : decode cX1_isDone 116 = .ok (.aload_n 0, 1) := by decide +kernel
theorem dX1_isDone_117 : decode cX1_isDone 117 = .ok (.getfield 50, 3) := by decide +kernel
theorem dX1_isDone_120 : decode cX1_isDone 120 = .ok (.iload 4, 2) := by decide +kernel
theorem dX1_isDone_122 : decode cX1_isDone 122 = .ok (.iload_n 3, 1) := by decide +kernel
theorem dX1_isDone_123 : decode cX1_isDone 123 = .ok (.iload 5, 2) := by decide +kernel
theorem dX1_isDone_125 : decode cX1_isDone 125 = .ok (.iconst 1, 1) := by decide +kernel
theorem dX1_isDone_126 : decode cX1_isDone 126 = .ok (.invokevirtual 86, 3) := by decide +kernel
theorem dX1_isDone_129 : decode cX1_isDone 129 = .ok (.aload_n 0, 1) := by decide +kernel
theorem dX1_isDone_130 : decode cX1_isDone 130 = .ok (.getfield 43, 3) := by decide +kernel
theorem dX1_isDone_133 : decode cX1_isDone 133 = .ok (.aload_n 0, 1) := by decide +kernel
theorem dX1_isDone_134 : decode cX1_isDone 134 = .ok (.getfield 29, 3) := by decide +kernel
theorem dX1_isDone_137 : decode cX1_isDone 137 = .ok (.aload_n 0, 1) := by decide +kernel
theorem dX1_isDone_138 : decode cX1_isDone 138 = .ok (.getfield 36, 3) := by decide +kernel
theorem dX1_isDone_141 : decode cX1_isDone 141 = .ok (.aload_n 0, 1) := by decide +kernel
theorem dX1_isDone_142 : decode cX1_isDone 142 = .ok (.getfield 50, 3) := by decide +kernel
theorem dX1_isDone_145 : decode cX1_isDone 145 = .ok (.invokevirtual 90, 3) := by decide +kernel
theorem dX1_isDone_148 : decode cX1_isDone 148 = .ok (.aload_n 0, 1) := by decide +kernel
theorem dX1_isDone_149 : decode cX1_isDone 149 = .ok (.getfield 43, 3) := by decide +kernel
theorem dX1_isDone_152 : decode cX1_isDone 152 = .ok (.getfield 94, 3) := by decide +kernel
theorem dX1_isDone_155 : decode cX1_isDone 155 = .ok (.ifCond .eq 5, 3) := by decide +kernel
theorem dX1_isDone_158 : decode cX1_isDone 158 = .ok (.iconst 0, 1) := by decide +kernel
theorem dX1_isDone_159 : decode cX1_isDone 159 = .ok (.ireturn, 1) := by decide +kernel
theorem dX1_isDone_160 : decode cX1_isDone 160 = .ok (.aload_n 0, 1) := by decide +kernel
theorem dX1_isDone_161 : decode cX1_isDone 161 = .ok (.getfield 29, 3) := by decide +kernel
theorem dX1_isDone_164 : decode cX1_isDone 164 = .ok (.aload_n 0, 1) := by decide +kernel
theorem dX1_isDone_165 : decode cX1_isDone 165 = .ok (.getfield 50, 3) := by decide +kernel
theorem dX1_isDone_168 : decode cX1_isDone 168 = .ok (.invokevirtual 97, 3) := by decide +kernel
theorem dX1_isDone_171 : decode cX1_isDone 171 = .ok (.aload_n 0, 1) := by decide +kernel
theorem dX1_isDone_172 : decode cX1_isDone 172 = .ok (.getfield 22, 3) := by decide +kernel
theorem dX1_isDone_175 : decode cX1_isDone 175 = .ok (.aload_n 0, 1) := by decide +kernel
theorem dX1_isDone_176 : decode cX1_isDone 176 = .ok (.getfield 9, 3) := by decide +kernel
theorem dX1_isDone_179 : decode cX1_isDone 179 = .ok (.iconst 3, 1) := by decide +kernel
theorem dX1_isDone_180 : decode cX1_isDone 180 = .ok (.imul, 1) := by decide +kernel
theorem dX1_isDone_181 : decode cX1_isDone 181 = .ok (.iload 4, 2) := by decide +kernel
theorem dX1_isDone_183 : decode cX1_isDone 183 = .ok (.invokestatic 101, 3) := by decide +kernel
theorem dX1_isDone_186 : decode cX1_isDone 186 = .ok (.aload_n 0, 1) := by decide +kernel
theorem dX1_isDone_187 : decode cX1_isDone 187 = .ok (.getfield 22, 3) := by decide +kernel
theorem dX1_isDone_190 : decode cX1_isDone 190 = .ok (.aload_n 0, 1) := by decide +kernel
theorem dX1_isDone_191 : decode cX1_isDone 191 = .ok (.getfield 9, 3) := by decide +kernel
theorem dX1_isDone_194 : decode cX1_isDone 194 = .ok (.iconst 3, 1) := by decide +kernel
theorem dX1_isDone_195 : decode cX1_isDone 195 = .ok (.imul, 1) := by decide +kernel
theorem dX1_isDone_196 : decode cX1_isDone 196 = .ok (.iconst 1, 1) := by decide +kernel
theorem dX1_isDone_197 : decode cX1_isDone 197 = .ok (.iadd, 1) := by decide +kernel
theorem dX1_isDone_198 : decode cX1_isDone 198 = .ok (.iload_n 3, 1) := by decide +kernel
theorem dX1_isDone_199 : decode cX1_isDone 199 = .ok (.invokestatic 101, 3) := by decide +kernel
theorem dX1_isDone_202 : decode cX1_isDone 202 = .ok (.aload_n 0, 1) := by decide +kernel
theorem dX1_isDone_203 : decode cX1_isDone 203 = .ok (.getfield 22, 3) := by decide +kernel
theorem dX1_isDone_206 : decode cX1_isDone 206 = .ok (.aload_n 0, 1) := by decide +kernel
theorem dX1_isDone_207 : decode cX1_isDone 207 = .ok (.getfield 9, 3) := by decide +kernel
theorem dX1_isDone_210 : decode cX1_isDone 210 = .ok (.iconst 3, 1) := by decide +kernel
theorem dX1_isDone_211 : decode cX1_isDone 211 = .ok (.imul, 1) := by decide +kernel
theorem dX1_isDone_212 : decode cX1_isDone 212 = .ok (.iconst 2, 1) := by decide +kernel
theorem dX1_isDone_213 : decode cX1_isDone 213 = .ok (.iadd, 1) := by decide +kernel
theorem dX1_isDone_214 : decode cX1_isDone 214 = .ok (.iload 5, 2) := by decide +kernel
theorem dX1_isDone_216 : decode cX1_isDone 216 = .ok (.invokestatic 101, 3) := by decide +kernel
theorem dX1_isDone_219 : decode cX1_isDone 219 = .ok (.iconst 1, 1) := by decide +kernel
theorem dX1_isDone_220 : decode cX1_isDone 220 = .ok (.ireturn, 1) := by decide +kernel
def fX1_isDone_107 (N : Nat) (Z : mZ) (v0 : Nat) (v3 : Int32) (v4 : Int32) (v5 : Int32) (x0 : Int32) (M : mM) : Option (Int32 × mM) := if x0 = 0 then some ((0 : Int32), M) else ck (okO Z v0 1) (bnd1 (Z.2.2.2 v0 7) (fun c17 => ck (okO Z c17 7) (bnd2 (fX7_fill N Z c17 v4 v3 v5 (1 : Int32) M) (fun _ M19 => bnd1 (Z.2.2.2 v0 6) (fun c20 => bnd1 (Z.2.2.2 v0 4) (fun c21 => bnd1 (Z.2.2.2 v0 5) (fun c22 => ck (okO Z c20 3) (bnd2 (fX3_examine N Z c20 c21 c22 c17 M19) (fun _ M24 => if (M24.1 c20 0) = 0 then ck (okO Z c21 4) (bnd2 (fX4_carryOut N Z c21 c17 M24) (fun _ M27 => bnd1 (Z.2.2.2 v0 3) (fun c28 => bnd2 (fX8_write N Z c28 ((M27.1 v0 0) * (3 : Int32)) v4 M27) (fun _ M29 => bnd2 (fX8_write N Z c28 (((M29.1 v0 0) * (3 : Int32)) + (1 : Int32)) v3 M29) (fun _ M30 => bnd2 (fX8_write N Z c28 (((M30.1 v0 0) * (3 : Int32)) + (2 : Int32)) v5 M30) (fun _ M31 => some ((1 : Int32), M31))))))) else some ((0 : Int32), M24))))))))))
set_option maxHeartbeats 4000000 in
set_option maxRecDepth 100000 in
theorem tX1_isDone_107 {G : mG} {p : Program} {l : Launch} {e : Env} {s : State} {m : MethodId} {args : Array Value} {below : List Frame} {meth : Method} {c : Code} (C : Cx G p l s m args meth c RX1 cX1_isDone 7 (some .boolean) []) (hnm : meth.name = yX1_isDone.name) (N : Nat) (Z : mZ) : ∀ (v0 : Nat) (v3 : Int32) (v4 : Int32) (v5 : Int32) (x0 : Int32) (M : mM) (r : Int32) (M' : mM), fX1_isDone_107 N Z v0 v3 v4 v5 x0 M = some (r, M') → JJ G p l e rmX1_isDone s m args below meth c 7 (mEnd G below args s rmX1_isDone (.inl (some (.int r))) Z M') 0 0 107 [(0, .ref v0), (3, .int v3), (4, .int v4), (5, .int v5)] [.int x0] Z M := by
  intro v0 v3 v4 v5 x0 M r M' h
  unfold fX1_isDone_107 at h
  refine j_istore C dX1_isDone_107 (by decide) (L' := [(6, .int x0), (0, .ref v0), (3, .int v3), (4, .int v4), (5, .int v5)]) rfl ?_
  refine j_iload C dX1_isDone_109 0 rfl ?_
  refine j_if_ne C dX1_isDone_111 (tgt := 116) (by decide) (fun hc15 => ?_) (fun hc15 => ?_)
  · rw [if_neg hc15] at h
    refine j_aload_n C dX1_isDone_116 rfl 1 rfl ?_
    obtain ⟨ho16, h⟩ := ck_spec h
    obtain ⟨c17, hr17, h⟩ := bnd1_spec h
    refine j_getR C (cn := RX1) (T := TX1) (N := 8) (ci := 1) rfl iX1 ho16 7 (by decide) rfl fwRX1_50 dX1_isDone_117 hr17 ?_
    refine j_iload C dX1_isDone_120 3 rfl ?_
    refine j_iload_n C dX1_isDone_122 rfl 2 rfl ?_
    refine j_iload C dX1_isDone_123 4 rfl ?_
    refine j_iconst C dX1_isDone_125 (v := (1 : Int32)) (by decide) ?_
    obtain ⟨ho18, h⟩ := ck_spec h
    obtain ⟨_, M19, hq19, h⟩ := bnd2_spec h
    refine j_run0 (c_V C (As := [.int v4, .int v3, .int v5, .int (1 : Int32)]) (rest := []) (ctX7_fill C.2.2.2.2.2.2.2.2.1 N Z hq19) kcRX1_86 oyX7_fill (ci := 7) (T := TX7) (N := 5) rfl (by decide) ho18 ⟨by decide, by decide⟩ ⟨by decide, by decide⟩ (Nat.le_of_ble_eq_true rfl) rfl dX1_isDone_126) ?_
    refine j_aload_n C dX1_isDone_129 rfl 1 rfl ?_
    obtain ⟨c20, hr20, h⟩ := bnd1_spec h
    refine j_getR C (cn := RX1) (T := TX1) (N := 8) (ci := 1) rfl iX1 ho16 6 (by decide) rfl fwRX1_43 dX1_isDone_130 hr20 ?_
    refine j_aload_n C dX1_isDone_133 rfl 1 rfl ?_
    obtain ⟨c21, hr21, h⟩ := bnd1_spec h
    refine j_getR C (cn := RX1) (T := TX1) (N := 8) (ci := 1) rfl iX1 ho16 4 (by decide) rfl fwRX1_29 dX1_isDone_134 hr21 ?_
    refine j_aload_n C dX1_isDone_137 rfl 1 rfl ?_
    obtain ⟨c22, hr22, h⟩ := bnd1_spec h
    refine j_getR C (cn := RX1) (T := TX1) (N := 8) (ci := 1) rfl iX1 ho16 5 (by decide) rfl fwRX1_36 dX1_isDone_138 hr22 ?_
    refine j_aload_n C dX1_isDone_141 rfl 1 rfl ?_
    refine j_getR C (cn := RX1) (T := TX1) (N := 8) (ci := 1) rfl iX1 ho16 7 (by decide) rfl fwRX1_50 dX1_isDone_142 hr17 ?_
    obtain ⟨ho23, h⟩ := ck_spec h
    obtain ⟨_, M24, hq24, h⟩ := bnd2_spec h
    refine j_run0 (c_V C (As := [.ref c21, .ref c22, .ref c17]) (rest := []) (ctX3_examine C.2.2.2.2.2.2.2.2.1 N Z hq24) kcRX1_90 oyX3_examine (ci := 3) (T := TX3) (N := 3) rfl (by decide) ho23 ⟨by decide, by decide⟩ ⟨by decide, by decide⟩ (Nat.le_of_ble_eq_true rfl) rfl dX1_isDone_145) ?_
    refine j_aload_n C dX1_isDone_148 rfl 1 rfl ?_
    refine j_getR C (cn := RX1) (T := TX1) (N := 8) (ci := 1) rfl iX1 ho16 6 (by decide) rfl fwRX1_43 dX1_isDone_149 hr20 ?_
    refine j_getI C (cn := RX3) (T := TX3) (N := 3) (ci := 3) rfl iX3 ho23 0 (by decide) rfl fwRX1_94 dX1_isDone_152 ?_
    refine j_if_eq C dX1_isDone_155 (tgt := 160) (by decide) (fun hc25 => ?_) (fun hc25 => ?_)
    · rw [if_pos hc25] at h
      refine j_aload_n C dX1_isDone_160 rfl 1 rfl ?_
      refine j_getR C (cn := RX1) (T := TX1) (N := 8) (ci := 1) rfl iX1 ho16 4 (by decide) rfl fwRX1_29 dX1_isDone_161 hr21 ?_
      refine j_aload_n C dX1_isDone_164 rfl 1 rfl ?_
      refine j_getR C (cn := RX1) (T := TX1) (N := 8) (ci := 1) rfl iX1 ho16 7 (by decide) rfl fwRX1_50 dX1_isDone_165 hr17 ?_
      obtain ⟨ho26, h⟩ := ck_spec h
      obtain ⟨_, M27, hq27, h⟩ := bnd2_spec h
      refine j_run0 (c_V C (As := [.ref c17]) (rest := []) (ctX4_carryOut C.2.2.2.2.2.2.2.2.1 N Z hq27) kcRX1_97 oyX4_carryOut (ci := 4) (T := TX4) (N := 7) rfl (by decide) ho26 ⟨by decide, by decide⟩ ⟨by decide, by decide⟩ (Nat.le_of_ble_eq_true rfl) rfl dX1_isDone_168) ?_
      refine j_aload_n C dX1_isDone_171 rfl 1 rfl ?_
      obtain ⟨c28, hr28, h⟩ := bnd1_spec h
      refine j_getR C (cn := RX1) (T := TX1) (N := 8) (ci := 1) rfl iX1 ho16 3 (by decide) rfl fwRX1_22 dX1_isDone_172 hr28 ?_
      refine j_aload_n C dX1_isDone_175 rfl 1 rfl ?_
      refine j_getI C (cn := RX1) (T := TX1) (N := 8) (ci := 1) rfl iX1 ho16 0 (by decide) rfl fwRX1_9 dX1_isDone_176 ?_
      refine j_iconst C dX1_isDone_179 (v := (3 : Int32)) (by decide) ?_
      refine j_imul C dX1_isDone_180 ?_
      refine j_iload C dX1_isDone_181 3 rfl ?_
      obtain ⟨_, M29, hq29, h⟩ := bnd2_spec h
      refine j_run0 (c_SN C (As := [.ref c28, .int ((M27.1 v0 0) * (3 : Int32)), .int v4]) (rest := []) (ctX8_write C.2.2.2.2.2.2.2.2.1 N Z hq29) kcRX1_101 oyX8_write ⟨by decide, by decide⟩ ⟨by decide, by decide⟩ (Nat.le_of_ble_eq_true rfl) rfl dX1_isDone_183) ?_
      refine j_aload_n C dX1_isDone_186 rfl 1 rfl ?_
      refine j_getR C (cn := RX1) (T := TX1) (N := 8) (ci := 1) rfl iX1 ho16 3 (by decide) rfl fwRX1_22 dX1_isDone_187 hr28 ?_
      refine j_aload_n C dX1_isDone_190 rfl 1 rfl ?_
      refine j_getI C (cn := RX1) (T := TX1) (N := 8) (ci := 1) rfl iX1 ho16 0 (by decide) rfl fwRX1_9 dX1_isDone_191 ?_
      refine j_iconst C dX1_isDone_194 (v := (3 : Int32)) (by decide) ?_
      refine j_imul C dX1_isDone_195 ?_
      refine j_iconst C dX1_isDone_196 (v := (1 : Int32)) (by decide) ?_
      refine j_iadd C dX1_isDone_197 ?_
      refine j_iload_n C dX1_isDone_198 rfl 2 rfl ?_
      obtain ⟨_, M30, hq30, h⟩ := bnd2_spec h
      refine j_run0 (c_SN C (As := [.ref c28, .int (((M29.1 v0 0) * (3 : Int32)) + (1 : Int32)), .int v3]) (rest := []) (ctX8_write C.2.2.2.2.2.2.2.2.1 N Z hq30) kcRX1_101 oyX8_write ⟨by decide, by decide⟩ ⟨by decide, by decide⟩ (Nat.le_of_ble_eq_true rfl) rfl dX1_isDone_199) ?_
      refine j_aload_n C dX1_isDone_202 rfl 1 rfl ?_
      refine j_getR C (cn := RX1) (T := TX1) (N := 8) (ci := 1) rfl iX1 ho16 3 (by decide) rfl fwRX1_22 dX1_isDone_203 hr28 ?_
      refine j_aload_n C dX1_isDone_206 rfl 1 rfl ?_
      refine j_getI C (cn := RX1) (T := TX1) (N := 8) (ci := 1) rfl iX1 ho16 0 (by decide) rfl fwRX1_9 dX1_isDone_207 ?_
      refine j_iconst C dX1_isDone_210 (v := (3 : Int32)) (by decide) ?_
      refine j_imul C dX1_isDone_211 ?_
      refine j_iconst C dX1_isDone_212 (v := (2 : Int32)) (by decide) ?_
      refine j_iadd C dX1_isDone_213 ?_
      refine j_iload C dX1_isDone_214 4 rfl ?_
      obtain ⟨_, M31, hq31, h⟩ := bnd2_spec h
      refine j_run0 (c_SN C (As := [.ref c28, .int (((M30.1 v0 0) * (3 : Int32)) + (2 : Int32)), .int v5]) (rest := []) (ctX8_write C.2.2.2.2.2.2.2.2.1 N Z hq31) kcRX1_101 oyX8_write ⟨by decide, by decide⟩ ⟨by decide, by decide⟩ (Nat.le_of_ble_eq_true rfl) rfl dX1_isDone_216) ?_
      refine j_iconst C dX1_isDone_219 (v := (1 : Int32)) (by decide) ?_
      cases h
      exact j_zret C rfl (by decide) (by decide) (by decide) dX1_isDone_220
    · rw [if_neg hc25] at h
      refine j_iconst C dX1_isDone_158 (v := (0 : Int32)) (by decide) ?_
      cases h
      exact j_zret C rfl (by decide) (by decide) (by decide) dX1_isDone_159
  · rw [if_pos hc15] at h
    refine j_iconst C dX1_isDone_114 (v := (0 : Int32)) (by decide) ?_
    cases h
    exact j_zret C rfl (by decide) (by decide) (by decide) dX1_isDone_115
def fX1_isDone (N : Nat) (Z : mZ) (a0 : Nat) (a1 : Int32) (M : mM) : Option (Int32 × mM) := ck (okI Z 4) (if (Int32.ofNat (Z.2.2.1 4)) = 0 then some ((0 : Int32), M) else ck (okO Z a0 1) (bnd1 (Z.2.2.2 a0 4) (fun c4 => ck (okO Z c4 4) (if (M.1 c4 0) = 0 then some ((0 : Int32), M) else ck (decide (¬ (M.1 c4 0) = 0)) (ck (decide (¬ (Int32.ofNat (Z.2.2.1 4)) = 0)) (bnd2 (fX8_at N Z 4 ((a1 / (M.1 c4 0)) - (a1 / (M.1 c4 0)) / (Int32.ofNat (Z.2.2.1 4)) * (Int32.ofNat (Z.2.2.1 4))) M) (fun r9 M9 => ck (decide (¬ (M9.1 c4 0) = 0)) (if r9 = 0 then bnd1 (Z.2.2.2 c4 2) (fun c12 => bnd2 (fX8_at N Z c12 (a1 - a1 / (M.1 c4 0) * (M.1 c4 0)) M9) (fun r13 M13 => if r13 = ((6 : Int32) - ((a1 / (M9.1 c4 0)) / (Int32.ofNat (Z.2.2.1 4)))) then fX1_isDone_107 N Z a0 (a1 - a1 / (M.1 c4 0) * (M.1 c4 0)) r9 ((6 : Int32) - ((a1 / (M9.1 c4 0)) / (Int32.ofNat (Z.2.2.1 4)))) (1 : Int32) M13 else fX1_isDone_107 N Z a0 (a1 - a1 / (M.1 c4 0) * (M.1 c4 0)) r9 ((6 : Int32) - ((a1 / (M9.1 c4 0)) / (Int32.ofNat (Z.2.2.1 4)))) (0 : Int32) M13)) else bnd2 (fX4_has N Z c4 r9 (a1 - a1 / (M.1 c4 0) * (M.1 c4 0)) ((6 : Int32) - ((a1 / (M9.1 c4 0)) / (Int32.ofNat (Z.2.2.1 4)))) M9) (fun r32 M32 => fX1_isDone_107 N Z a0 (a1 - a1 / (M.1 c4 0) * (M.1 c4 0)) r9 ((6 : Int32) - ((a1 / (M9.1 c4 0)) / (Int32.ofNat (Z.2.2.1 4)))) r32 M32)))))))))
set_option maxHeartbeats 4000000 in
set_option maxRecDepth 100000 in
theorem ctX1_isDone {G : mG} {l : Launch} (hl : l.stackTraces = false) (N : Nat) (Z : mZ) {a0 : Nat} {a1 : Int32} {M : mM} {r : Int32} {M' : mM} (h : fX1_isDone N Z a0 a1 M = some (r, M')) : CT G l yX1_isDone (.code yX1_isDone cX1_isDone 7 (some .boolean)) rmX1_isDone [.ref a0, .int a1] Z M (.inl (some (.int r))) Z M' := by
  unfold fX1_isDone at h
  refine CT.of hl (by decide) (Nat.le_of_ble_eq_true rfl) ?_
  intro p e s m args below meth c C hnm
  refine j_sub (L' := [(0, .ref a0), (1, .int a1)]) [0, 1] rfl ?_
  refine j_getsN C (r := 4) (by decide) C.2.2.2.2.2.2.1.2.2.1.2.2.2 fwRX1_58 dX1_isDone_0 ?_
  obtain ⟨ho1, h⟩ := ck_spec h
  refine j_alen C ho1 dX1_isDone_3 ?_
  refine j_istore_n C dX1_isDone_4 rfl (by decide) (L' := [(2, .int (Int32.ofNat (Z.2.2.1 4))), (0, .ref a0), (1, .int a1)]) rfl ?_
  refine j_iload_n C dX1_isDone_5 rfl 0 rfl ?_
  refine j_if_eq C dX1_isDone_6 (tgt := 19) (by decide) (fun hc2 => ?_) (fun hc2 => ?_)
  · rw [if_pos hc2] at h
    refine j_iconst C dX1_isDone_19 (v := (0 : Int32)) (by decide) ?_
    cases h
    exact j_zret C rfl (by decide) (by decide) (by decide) dX1_isDone_20
  · rw [if_neg hc2] at h
    refine j_aload_n C dX1_isDone_9 rfl 1 rfl ?_
    obtain ⟨ho3, h⟩ := ck_spec h
    obtain ⟨c4, hr4, h⟩ := bnd1_spec h
    refine j_getR C (cn := RX1) (T := TX1) (N := 8) (ci := 1) rfl iX1 ho3 4 (by decide) rfl fwRX1_29 dX1_isDone_10 hr4 ?_
    obtain ⟨ho5, h⟩ := ck_spec h
    refine j_getI C (cn := RX4) (T := TX4) (N := 7) (ci := 4) rfl iX4 ho5 0 (by decide) rfl fwRX1_61 dX1_isDone_13 ?_
    refine j_if_ne C dX1_isDone_16 (tgt := 21) (by decide) (fun hc6 => ?_) (fun hc6 => ?_)
    · rw [if_neg hc6] at h
      refine j_iload_n C dX1_isDone_21 rfl 2 rfl ?_
      refine j_aload_n C dX1_isDone_22 rfl 1 rfl ?_
      refine j_getR C (cn := RX1) (T := TX1) (N := 8) (ci := 1) rfl iX1 ho3 4 (by decide) rfl fwRX1_29 dX1_isDone_23 hr4 ?_
      refine j_getI C (cn := RX4) (T := TX4) (N := 7) (ci := 4) rfl iX4 ho5 0 (by decide) rfl fwRX1_61 dX1_isDone_26 ?_
      obtain ⟨ho7, h⟩ := ck_spec h
      refine j_irem C dX1_isDone_29 (of_decide_eq_true ho7) ?_
      refine j_istore_n C dX1_isDone_30 rfl (by decide) (L' := [(3, .int (a1 - a1 / (M.1 c4 0) * (M.1 c4 0))), (2, .int (Int32.ofNat (Z.2.2.1 4))), (0, .ref a0), (1, .int a1)]) rfl ?_
      refine j_getsN C (r := 4) (by decide) C.2.2.2.2.2.2.1.2.2.1.2.2.2 fwRX1_58 dX1_isDone_31 ?_
      refine j_iload_n C dX1_isDone_34 rfl 3 rfl ?_
      refine j_aload_n C dX1_isDone_35 rfl 2 rfl ?_
      refine j_getR C (cn := RX1) (T := TX1) (N := 8) (ci := 1) rfl iX1 ho3 4 (by decide) rfl fwRX1_29 dX1_isDone_36 hr4 ?_
      refine j_getI C (cn := RX4) (T := TX4) (N := 7) (ci := 4) rfl iX4 ho5 0 (by decide) rfl fwRX1_61 dX1_isDone_39 ?_
      refine j_idiv C dX1_isDone_42 (of_decide_eq_true ho7) ?_
      refine j_iload_n C dX1_isDone_43 rfl 1 rfl ?_
      obtain ⟨ho8, h⟩ := ck_spec h
      refine j_irem C dX1_isDone_44 (of_decide_eq_true ho8) ?_
      obtain ⟨r9, M9, hq9, h⟩ := bnd2_spec h
      refine j_run1 (c_SN C (As := [.ref 4, .int ((a1 / (M.1 c4 0)) - (a1 / (M.1 c4 0)) / (Int32.ofNat (Z.2.2.1 4)) * (Int32.ofNat (Z.2.2.1 4)))]) (rest := []) (ctX8_at C.2.2.2.2.2.2.2.2.1 N Z hq9) kcRX1_75 oyX8_at ⟨by decide, by decide⟩ ⟨by decide, by decide⟩ (Nat.le_of_ble_eq_true rfl) rfl dX1_isDone_45) ?_
      refine j_istore C dX1_isDone_48 (by decide) (L' := [(4, .int r9), (3, .int (a1 - a1 / (M.1 c4 0) * (M.1 c4 0))), (2, .int (Int32.ofNat (Z.2.2.1 4))), (0, .ref a0), (1, .int a1)]) rfl ?_
      refine j_bipush C dX1_isDone_50 (v := (6 : Int32)) (by decide) ?_
      refine j_iload_n C dX1_isDone_52 rfl 4 rfl ?_
      refine j_aload_n C dX1_isDone_53 rfl 3 rfl ?_
      refine j_getR C (cn := RX1) (T := TX1) (N := 8) (ci := 1) rfl iX1 ho3 4 (by decide) rfl fwRX1_29 dX1_isDone_54 hr4 ?_
      refine j_getI C (cn := RX4) (T := TX4) (N := 7) (ci := 4) rfl iX4 ho5 0 (by decide) rfl fwRX1_61 dX1_isDone_57 ?_
      obtain ⟨ho10, h⟩ := ck_spec h
      refine j_idiv C dX1_isDone_60 (of_decide_eq_true ho10) ?_
      refine j_iload_n C dX1_isDone_61 rfl 2 rfl ?_
      refine j_idiv C dX1_isDone_62 (of_decide_eq_true ho8) ?_
      refine j_isub C dX1_isDone_63 ?_
      refine j_istore C dX1_isDone_64 (by decide) (L' := [(5, .int ((6 : Int32) - ((a1 / (M9.1 c4 0)) / (Int32.ofNat (Z.2.2.1 4))))), (4, .int r9), (3, .int (a1 - a1 / (M.1 c4 0) * (M.1 c4 0))), (2, .int (Int32.ofNat (Z.2.2.1 4))), (0, .ref a0), (1, .int a1)]) rfl ?_
      refine j_iload C dX1_isDone_66 1 rfl ?_
      refine j_if_ne C dX1_isDone_68 (tgt := 95) (by decide) (fun hc11 => ?_) (fun hc11 => ?_)
      · rw [if_neg hc11] at h
        refine j_aload_n C dX1_isDone_95 rfl 4 rfl ?_
        refine j_getR C (cn := RX1) (T := TX1) (N := 8) (ci := 1) rfl iX1 ho3 4 (by decide) rfl fwRX1_29 dX1_isDone_96 hr4 ?_
        refine j_iload C dX1_isDone_99 1 rfl ?_
        refine j_iload_n C dX1_isDone_101 rfl 2 rfl ?_
        refine j_iload C dX1_isDone_102 0 rfl ?_
        obtain ⟨r32, M32, hq32, h⟩ := bnd2_spec h
        refine j_run1 (c_V C (As := [.int r9, .int (a1 - a1 / (M.1 c4 0) * (M.1 c4 0)), .int ((6 : Int32) - ((a1 / (M9.1 c4 0)) / (Int32.ofNat (Z.2.2.1 4))))]) (rest := []) (ctX4_has C.2.2.2.2.2.2.2.2.1 N Z hq32) kcRX1_82 oyX4_has (ci := 4) (T := TX4) (N := 7) rfl (by decide) ho5 ⟨by decide, by decide⟩ ⟨by decide, by decide⟩ (Nat.le_of_ble_eq_true rfl) rfl dX1_isDone_104) ?_
        refine j_sub (L' := [(0, .ref a0), (3, .int (a1 - a1 / (M.1 c4 0) * (M.1 c4 0))), (4, .int r9), (5, .int ((6 : Int32) - ((a1 / (M9.1 c4 0)) / (Int32.ofNat (Z.2.2.1 4)))))]) [4, 2, 1, 0] rfl ?_
        exact tX1_isDone_107 C hnm N Z a0 (a1 - a1 / (M.1 c4 0) * (M.1 c4 0)) r9 ((6 : Int32) - ((a1 / (M9.1 c4 0)) / (Int32.ofNat (Z.2.2.1 4)))) r32 M32 _ _ h
      · rw [if_pos hc11] at h
        refine j_aload_n C dX1_isDone_71 rfl 4 rfl ?_
        refine j_getR C (cn := RX1) (T := TX1) (N := 8) (ci := 1) rfl iX1 ho3 4 (by decide) rfl fwRX1_29 dX1_isDone_72 hr4 ?_
        obtain ⟨c12, hr12, h⟩ := bnd1_spec h
        refine j_getR C (cn := RX4) (T := TX4) (N := 7) (ci := 4) rfl iX4 ho5 2 (by decide) rfl fwRX1_79 dX1_isDone_75 hr12 ?_
        refine j_iload_n C dX1_isDone_78 rfl 2 rfl ?_
        obtain ⟨r13, M13, hq13, h⟩ := bnd2_spec h
        refine j_run1 (c_SN C (As := [.ref c12, .int (a1 - a1 / (M.1 c4 0) * (M.1 c4 0))]) (rest := []) (ctX8_at C.2.2.2.2.2.2.2.2.1 N Z hq13) kcRX1_75 oyX8_at ⟨by decide, by decide⟩ ⟨by decide, by decide⟩ (Nat.le_of_ble_eq_true rfl) rfl dX1_isDone_79) ?_
        refine j_iload C dX1_isDone_82 0 rfl ?_
        refine j_icmp_ne C dX1_isDone_84 (tgt := 91) (by decide) (fun hc14 => ?_) (fun hc14 => ?_)
        · rw [if_neg hc14] at h
          refine j_iconst C dX1_isDone_91 (v := (0 : Int32)) (by decide) ?_
          refine j_goto C dX1_isDone_92 (tgt := 107) (by decide) ?_
          refine j_sub (L' := [(0, .ref a0), (3, .int (a1 - a1 / (M.1 c4 0) * (M.1 c4 0))), (4, .int r9), (5, .int ((6 : Int32) - ((a1 / (M9.1 c4 0)) / (Int32.ofNat (Z.2.2.1 4)))))]) [4, 2, 1, 0] rfl ?_
          exact tX1_isDone_107 C hnm N Z a0 (a1 - a1 / (M.1 c4 0) * (M.1 c4 0)) r9 ((6 : Int32) - ((a1 / (M9.1 c4 0)) / (Int32.ofNat (Z.2.2.1 4)))) (0 : Int32) M13 _ _ h
        · rw [if_pos hc14] at h
          refine j_iconst C dX1_isDone_87 (v := (1 : Int32)) (by decide) ?_
          refine j_goto C dX1_isDone_88 (tgt := 107) (by decide) ?_
          refine j_sub (L' := [(0, .ref a0), (3, .int (a1 - a1 / (M.1 c4 0) * (M.1 c4 0))), (4, .int r9), (5, .int ((6 : Int32) - ((a1 / (M9.1 c4 0)) / (Int32.ofNat (Z.2.2.1 4)))))]) [4, 2, 1, 0] rfl ?_
          exact tX1_isDone_107 C hnm N Z a0 (a1 - a1 / (M.1 c4 0) * (M.1 c4 0)) r9 ((6 : Int32) - ((a1 / (M9.1 c4 0)) / (Int32.ofNat (Z.2.2.1 4)))) (1 : Int32) M13 _ _ h
    · rw [if_pos hc6] at h
      refine j_iconst C dX1_isDone_19 (v := (0 : Int32)) (by decide) ?_
      cases h
      exact j_zret C rfl (by decide) (by decide) (by decide) dX1_isDone_20
-- java/lang/Integer bitCount
theorem wkRJ6_265 : Cond.constant RJ6 265 (1431655765 : Int32) ∈ gw := by decide +kernel
theorem wkRJ6_266 : Cond.constant RJ6 266 (858993459 : Int32) ∈ gw := by decide +kernel
theorem wkRJ6_267 : Cond.constant RJ6 267 (252645135 : Int32) ∈ gw := by decide +kernel
abbrev rmJ6_bitCount_0f7a4 : Room := { frames := 0, cells := 0, slots := 0, locals := 0 }
theorem dJ6_bitCount_0f7a4_0 : decode cJ6_bitCount_0f7a4 0 = .ok (.iload_n 0, 1) := by decide +kernel
theorem dJ6_bitCount_0f7a4_1 : decode cJ6_bitCount_0f7a4 1 = .ok (.iload_n 0, 1) := by decide +kernel
theorem dJ6_bitCount_0f7a4_2 : decode cJ6_bitCount_0f7a4 2 = .ok (.iconst 1, 1) := by decide +kernel
theorem dJ6_bitCount_0f7a4_3 : decode cJ6_bitCount_0f7a4 3 = .ok (.iushr, 1) := by decide +kernel
theorem dJ6_bitCount_0f7a4_4 : decode cJ6_bitCount_0f7a4 4 = .ok (.ldc_w 265, 3) := by decide +kernel
theorem dJ6_bitCount_0f7a4_7 : decode cJ6_bitCount_0f7a4 7 = .ok (.iand, 1) := by decide +kernel
theorem dJ6_bitCount_0f7a4_8 : decode cJ6_bitCount_0f7a4 8 = .ok (.isub, 1) := by decide +kernel
theorem dJ6_bitCount_0f7a4_9 : decode cJ6_bitCount_0f7a4 9 = .ok (.istore_n 0, 1) := by decide +kernel
theorem dJ6_bitCount_0f7a4_10 : decode cJ6_bitCount_0f7a4 10 = .ok (.iload_n 0, 1) := by decide +kernel
theorem dJ6_bitCount_0f7a4_11 : decode cJ6_bitCount_0f7a4 11 = .ok (.ldc_w 266, 3) := by decide +kernel
theorem dJ6_bitCount_0f7a4_14 : decode cJ6_bitCount_0f7a4 14 = .ok (.iand, 1) := by decide +kernel
theorem dJ6_bitCount_0f7a4_15 : decode cJ6_bitCount_0f7a4 15 = .ok (.iload_n 0, 1) := by decide +kernel
theorem dJ6_bitCount_0f7a4_16 : decode cJ6_bitCount_0f7a4 16 = .ok (.iconst 2, 1) := by decide +kernel
theorem dJ6_bitCount_0f7a4_17 : decode cJ6_bitCount_0f7a4 17 = .ok (.iushr, 1) := by decide +kernel
theorem dJ6_bitCount_0f7a4_18 : decode cJ6_bitCount_0f7a4 18 = .ok (.ldc_w 266, 3) := by decide +kernel
theorem dJ6_bitCount_0f7a4_21 : decode cJ6_bitCount_0f7a4 21 = .ok (.iand, 1) := by decide +kernel
theorem dJ6_bitCount_0f7a4_22 : decode cJ6_bitCount_0f7a4 22 = .ok (.iadd, 1) := by decide +kernel
theorem dJ6_bitCount_0f7a4_23 : decode cJ6_bitCount_0f7a4 23 = .ok (.istore_n 0, 1) := by decide +kernel
theorem dJ6_bitCount_0f7a4_24 : decode cJ6_bitCount_0f7a4 24 = .ok (.iload_n 0, 1) := by decide +kernel
theorem dJ6_bitCount_0f7a4_25 : decode cJ6_bitCount_0f7a4 25 = .ok (.iload_n 0, 1) := by decide +kernel
theorem dJ6_bitCount_0f7a4_26 : decode cJ6_bitCount_0f7a4 26 = .ok (.iconst 4, 1) := by decide +kernel
theorem dJ6_bitCount_0f7a4_27 : decode cJ6_bitCount_0f7a4 27 = .ok (.iushr, 1) := by decide +kernel
theorem dJ6_bitCount_0f7a4_28 : decode cJ6_bitCount_0f7a4 28 = .ok (.iadd, 1) := by decide +kernel
theorem dJ6_bitCount_0f7a4_29 : decode cJ6_bitCount_0f7a4 29 = .ok (.ldc_w 267, 3) := by decide +kernel
theorem dJ6_bitCount_0f7a4_32 : decode cJ6_bitCount_0f7a4 32 = .ok (.iand, 1) := by decide +kernel
theorem dJ6_bitCount_0f7a4_33 : decode cJ6_bitCount_0f7a4 33 = .ok (.istore_n 0, 1) := by decide +kernel
theorem dJ6_bitCount_0f7a4_34 : decode cJ6_bitCount_0f7a4 34 = .ok (.iload_n 0, 1) := by decide +kernel
theorem dJ6_bitCount_0f7a4_35 : decode cJ6_bitCount_0f7a4 35 = .ok (.iload_n 0, 1) := by decide +kernel
theorem dJ6_bitCount_0f7a4_36 : decode cJ6_bitCount_0f7a4 36 = .ok (.bipush 8, 2) := by decide +kernel
theorem dJ6_bitCount_0f7a4_38 : decode cJ6_bitCount_0f7a4 38 = .ok (.iushr, 1) := by decide +kernel
theorem dJ6_bitCount_0f7a4_39 : decode cJ6_bitCount_0f7a4 39 = .ok (.iadd, 1) := by decide +kernel
theorem dJ6_bitCount_0f7a4_40 : decode cJ6_bitCount_0f7a4 40 = .ok (.istore_n 0, 1) := by decide +kernel
theorem dJ6_bitCount_0f7a4_41 : decode cJ6_bitCount_0f7a4 41 = .ok (.iload_n 0, 1) := by decide +kernel
theorem dJ6_bitCount_0f7a4_42 : decode cJ6_bitCount_0f7a4 42 = .ok (.iload_n 0, 1) := by decide +kernel
theorem dJ6_bitCount_0f7a4_43 : decode cJ6_bitCount_0f7a4 43 = .ok (.bipush 16, 2) := by decide +kernel
theorem dJ6_bitCount_0f7a4_45 : decode cJ6_bitCount_0f7a4 45 = .ok (.iushr, 1) := by decide +kernel
theorem dJ6_bitCount_0f7a4_46 : decode cJ6_bitCount_0f7a4 46 = .ok (.iadd, 1) := by decide +kernel
theorem dJ6_bitCount_0f7a4_47 : decode cJ6_bitCount_0f7a4 47 = .ok (.istore_n 0, 1) := by decide +kernel
theorem dJ6_bitCount_0f7a4_48 : decode cJ6_bitCount_0f7a4 48 = .ok (.iload_n 0, 1) := by decide +kernel
theorem dJ6_bitCount_0f7a4_49 : decode cJ6_bitCount_0f7a4 49 = .ok (.bipush 63, 2) := by decide +kernel
theorem dJ6_bitCount_0f7a4_51 : decode cJ6_bitCount_0f7a4 51 = .ok (.iand, 1) := by decide +kernel
theorem dJ6_bitCount_0f7a4_52 : decode cJ6_bitCount_0f7a4 52 = .ok (.ireturn, 1) := by decide +kernel
def fJ6_bitCount_0f7a4 (N : Nat) (Z : mZ) (a0 : Int32) (M : mM) : Option (Int32 × mM) := some (((((((((a0 - ((((a0).toUInt32 >>> (((1 : Int32)).toUInt32 &&& Int32.toUInt32 31)).toInt32) &&& (1431655765 : Int32))) &&& (858993459 : Int32)) + (((((a0 - ((((a0).toUInt32 >>> (((1 : Int32)).toUInt32 &&& Int32.toUInt32 31)).toInt32) &&& (1431655765 : Int32)))).toUInt32 >>> (((2 : Int32)).toUInt32 &&& Int32.toUInt32 31)).toInt32) &&& (858993459 : Int32))) + ((((((a0 - ((((a0).toUInt32 >>> (((1 : Int32)).toUInt32 &&& Int32.toUInt32 31)).toInt32) &&& (1431655765 : Int32))) &&& (858993459 : Int32)) + (((((a0 - ((((a0).toUInt32 >>> (((1 : Int32)).toUInt32 &&& Int32.toUInt32 31)).toInt32) &&& (1431655765 : Int32)))).toUInt32 >>> (((2 : Int32)).toUInt32 &&& Int32.toUInt32 31)).toInt32) &&& (858993459 : Int32)))).toUInt32 >>> (((4 : Int32)).toUInt32 &&& Int32.toUInt32 31)).toInt32)) &&& (252645135 : Int32)) + ((((((((a0 - ((((a0).toUInt32 >>> (((1 : Int32)).toUInt32 &&& Int32.toUInt32 31)).toInt32) &&& (1431655765 : Int32))) &&& (858993459 : Int32)) + (((((a0 - ((((a0).toUInt32 >>> (((1 : Int32)).toUInt32 &&& Int32.toUInt32 31)).toInt32) &&& (1431655765 : Int32)))).toUInt32 >>> (((2 : Int32)).toUInt32 &&& Int32.toUInt32 31)).toInt32) &&& (858993459 : Int32))) + ((((((a0 - ((((a0).toUInt32 >>> (((1 : Int32)).toUInt32 &&& Int32.toUInt32 31)).toInt32) &&& (1431655765 : Int32))) &&& (858993459 : Int32)) + (((((a0 - ((((a0).toUInt32 >>> (((1 : Int32)).toUInt32 &&& Int32.toUInt32 31)).toInt32) &&& (1431655765 : Int32)))).toUInt32 >>> (((2 : Int32)).toUInt32 &&& Int32.toUInt32 31)).toInt32) &&& (858993459 : Int32)))).toUInt32 >>> (((4 : Int32)).toUInt32 &&& Int32.toUInt32 31)).toInt32)) &&& (252645135 : Int32))).toUInt32 >>> (((8 : Int32)).toUInt32 &&& Int32.toUInt32 31)).toInt32)) + (((((((((a0 - ((((a0).toUInt32 >>> (((1 : Int32)).toUInt32 &&& Int32.toUInt32 31)).toInt32) &&& (1431655765 : Int32))) &&& (858993459 : Int32)) + (((((a0 - ((((a0).toUInt32 >>> (((1 : Int32)).toUInt32 &&& Int32.toUInt32 31)).toInt32) &&& (1431655765 : Int32)))).toUInt32 >>> (((2 : Int32)).toUInt32 &&& Int32.toUInt32 31)).toInt32) &&& (858993459 : Int32))) + ((((((a0 - ((((a0).toUInt32 >>> (((1 : Int32)).toUInt32 &&& Int32.toUInt32 31)).toInt32) &&& (1431655765 : Int32))) &&& (858993459 : Int32)) + (((((a0 - ((((a0).toUInt32 >>> (((1 : Int32)).toUInt32 &&& Int32.toUInt32 31)).toInt32) &&& (1431655765 : Int32)))).toUInt32 >>> (((2 : Int32)).toUInt32 &&& Int32.toUInt32 31)).toInt32) &&& (858993459 : Int32)))).toUInt32 >>> (((4 : Int32)).toUInt32 &&& Int32.toUInt32 31)).toInt32)) &&& (252645135 : Int32)) + ((((((((a0 - ((((a0).toUInt32 >>> (((1 : Int32)).toUInt32 &&& Int32.toUInt32 31)).toInt32) &&& (1431655765 : Int32))) &&& (858993459 : Int32)) + (((((a0 - ((((a0).toUInt32 >>> (((1 : Int32)).toUInt32 &&& Int32.toUInt32 31)).toInt32) &&& (1431655765 : Int32)))).toUInt32 >>> (((2 : Int32)).toUInt32 &&& Int32.toUInt32 31)).toInt32) &&& (858993459 : Int32))) + ((((((a0 - ((((a0).toUInt32 >>> (((1 : Int32)).toUInt32 &&& Int32.toUInt32 31)).toInt32) &&& (1431655765 : Int32))) &&& (858993459 : Int32)) + (((((a0 - ((((a0).toUInt32 >>> (((1 : Int32)).toUInt32 &&& Int32.toUInt32 31)).toInt32) &&& (1431655765 : Int32)))).toUInt32 >>> (((2 : Int32)).toUInt32 &&& Int32.toUInt32 31)).toInt32) &&& (858993459 : Int32)))).toUInt32 >>> (((4 : Int32)).toUInt32 &&& Int32.toUInt32 31)).toInt32)) &&& (252645135 : Int32))).toUInt32 >>> (((8 : Int32)).toUInt32 &&& Int32.toUInt32 31)).toInt32))).toUInt32 >>> (((16 : Int32)).toUInt32 &&& Int32.toUInt32 31)).toInt32)) &&& (63 : Int32)), M)
set_option maxHeartbeats 4000000 in
set_option maxRecDepth 100000 in
theorem ctJ6_bitCount_0f7a4 {G : mG} {l : Launch} (hl : l.stackTraces = false) (N : Nat) (Z : mZ) {a0 : Int32} {M : mM} {r : Int32} {M' : mM} (h : fJ6_bitCount_0f7a4 N Z a0 M = some (r, M')) : CT G l yJ6_bitCount_0f7a4 (.code yJ6_bitCount_0f7a4 cJ6_bitCount_0f7a4 1 (some .int)) rmJ6_bitCount_0f7a4 [.int a0] Z M (.inl (some (.int r))) Z M' := by
  unfold fJ6_bitCount_0f7a4 at h
  refine CT.of hl (by decide) (Nat.le_of_ble_eq_true rfl) ?_
  intro p e s m args below meth c C hnm
  refine j_sub (L' := [(0, .int a0)]) [0] rfl ?_
  refine j_iload_n C dJ6_bitCount_0f7a4_0 rfl 0 rfl ?_
  refine j_iload_n C dJ6_bitCount_0f7a4_1 rfl 0 rfl ?_
  refine j_iconst C dJ6_bitCount_0f7a4_2 (v := (1 : Int32)) (by decide) ?_
  refine j_iushr C dJ6_bitCount_0f7a4_3 ?_
  refine j_ldcw C dJ6_bitCount_0f7a4_4 wkRJ6_265 ?_
  refine j_iand C dJ6_bitCount_0f7a4_7 ?_
  refine j_isub C dJ6_bitCount_0f7a4_8 ?_
  refine j_istore_n C dJ6_bitCount_0f7a4_9 rfl (by decide) (L' := [(0, .int (a0 - ((((a0).toUInt32 >>> (((1 : Int32)).toUInt32 &&& Int32.toUInt32 31)).toInt32) &&& (1431655765 : Int32))))]) rfl ?_
  refine j_iload_n C dJ6_bitCount_0f7a4_10 rfl 0 rfl ?_
  refine j_ldcw C dJ6_bitCount_0f7a4_11 wkRJ6_266 ?_
  refine j_iand C dJ6_bitCount_0f7a4_14 ?_
  refine j_iload_n C dJ6_bitCount_0f7a4_15 rfl 0 rfl ?_
  refine j_iconst C dJ6_bitCount_0f7a4_16 (v := (2 : Int32)) (by decide) ?_
  refine j_iushr C dJ6_bitCount_0f7a4_17 ?_
  refine j_ldcw C dJ6_bitCount_0f7a4_18 wkRJ6_266 ?_
  refine j_iand C dJ6_bitCount_0f7a4_21 ?_
  refine j_iadd C dJ6_bitCount_0f7a4_22 ?_
  refine j_istore_n C dJ6_bitCount_0f7a4_23 rfl (by decide) (L' := [(0, .int (((a0 - ((((a0).toUInt32 >>> (((1 : Int32)).toUInt32 &&& Int32.toUInt32 31)).toInt32) &&& (1431655765 : Int32))) &&& (858993459 : Int32)) + (((((a0 - ((((a0).toUInt32 >>> (((1 : Int32)).toUInt32 &&& Int32.toUInt32 31)).toInt32) &&& (1431655765 : Int32)))).toUInt32 >>> (((2 : Int32)).toUInt32 &&& Int32.toUInt32 31)).toInt32) &&& (858993459 : Int32))))]) rfl ?_
  refine j_iload_n C dJ6_bitCount_0f7a4_24 rfl 0 rfl ?_
  refine j_iload_n C dJ6_bitCount_0f7a4_25 rfl 0 rfl ?_
  refine j_iconst C dJ6_bitCount_0f7a4_26 (v := (4 : Int32)) (by decide) ?_
  refine j_iushr C dJ6_bitCount_0f7a4_27 ?_
  refine j_iadd C dJ6_bitCount_0f7a4_28 ?_
  refine j_ldcw C dJ6_bitCount_0f7a4_29 wkRJ6_267 ?_
  refine j_iand C dJ6_bitCount_0f7a4_32 ?_
  refine j_istore_n C dJ6_bitCount_0f7a4_33 rfl (by decide) (L' := [(0, .int (((((a0 - ((((a0).toUInt32 >>> (((1 : Int32)).toUInt32 &&& Int32.toUInt32 31)).toInt32) &&& (1431655765 : Int32))) &&& (858993459 : Int32)) + (((((a0 - ((((a0).toUInt32 >>> (((1 : Int32)).toUInt32 &&& Int32.toUInt32 31)).toInt32) &&& (1431655765 : Int32)))).toUInt32 >>> (((2 : Int32)).toUInt32 &&& Int32.toUInt32 31)).toInt32) &&& (858993459 : Int32))) + ((((((a0 - ((((a0).toUInt32 >>> (((1 : Int32)).toUInt32 &&& Int32.toUInt32 31)).toInt32) &&& (1431655765 : Int32))) &&& (858993459 : Int32)) + (((((a0 - ((((a0).toUInt32 >>> (((1 : Int32)).toUInt32 &&& Int32.toUInt32 31)).toInt32) &&& (1431655765 : Int32)))).toUInt32 >>> (((2 : Int32)).toUInt32 &&& Int32.toUInt32 31)).toInt32) &&& (858993459 : Int32)))).toUInt32 >>> (((4 : Int32)).toUInt32 &&& Int32.toUInt32 31)).toInt32)) &&& (252645135 : Int32)))]) rfl ?_
  refine j_iload_n C dJ6_bitCount_0f7a4_34 rfl 0 rfl ?_
  refine j_iload_n C dJ6_bitCount_0f7a4_35 rfl 0 rfl ?_
  refine j_bipush C dJ6_bitCount_0f7a4_36 (v := (8 : Int32)) (by decide) ?_
  refine j_iushr C dJ6_bitCount_0f7a4_38 ?_
  refine j_iadd C dJ6_bitCount_0f7a4_39 ?_
  refine j_istore_n C dJ6_bitCount_0f7a4_40 rfl (by decide) (L' := [(0, .int ((((((a0 - ((((a0).toUInt32 >>> (((1 : Int32)).toUInt32 &&& Int32.toUInt32 31)).toInt32) &&& (1431655765 : Int32))) &&& (858993459 : Int32)) + (((((a0 - ((((a0).toUInt32 >>> (((1 : Int32)).toUInt32 &&& Int32.toUInt32 31)).toInt32) &&& (1431655765 : Int32)))).toUInt32 >>> (((2 : Int32)).toUInt32 &&& Int32.toUInt32 31)).toInt32) &&& (858993459 : Int32))) + ((((((a0 - ((((a0).toUInt32 >>> (((1 : Int32)).toUInt32 &&& Int32.toUInt32 31)).toInt32) &&& (1431655765 : Int32))) &&& (858993459 : Int32)) + (((((a0 - ((((a0).toUInt32 >>> (((1 : Int32)).toUInt32 &&& Int32.toUInt32 31)).toInt32) &&& (1431655765 : Int32)))).toUInt32 >>> (((2 : Int32)).toUInt32 &&& Int32.toUInt32 31)).toInt32) &&& (858993459 : Int32)))).toUInt32 >>> (((4 : Int32)).toUInt32 &&& Int32.toUInt32 31)).toInt32)) &&& (252645135 : Int32)) + ((((((((a0 - ((((a0).toUInt32 >>> (((1 : Int32)).toUInt32 &&& Int32.toUInt32 31)).toInt32) &&& (1431655765 : Int32))) &&& (858993459 : Int32)) + (((((a0 - ((((a0).toUInt32 >>> (((1 : Int32)).toUInt32 &&& Int32.toUInt32 31)).toInt32) &&& (1431655765 : Int32)))).toUInt32 >>> (((2 : Int32)).toUInt32 &&& Int32.toUInt32 31)).toInt32) &&& (858993459 : Int32))) + ((((((a0 - ((((a0).toUInt32 >>> (((1 : Int32)).toUInt32 &&& Int32.toUInt32 31)).toInt32) &&& (1431655765 : Int32))) &&& (858993459 : Int32)) + (((((a0 - ((((a0).toUInt32 >>> (((1 : Int32)).toUInt32 &&& Int32.toUInt32 31)).toInt32) &&& (1431655765 : Int32)))).toUInt32 >>> (((2 : Int32)).toUInt32 &&& Int32.toUInt32 31)).toInt32) &&& (858993459 : Int32)))).toUInt32 >>> (((4 : Int32)).toUInt32 &&& Int32.toUInt32 31)).toInt32)) &&& (252645135 : Int32))).toUInt32 >>> (((8 : Int32)).toUInt32 &&& Int32.toUInt32 31)).toInt32)))]) rfl ?_
  refine j_iload_n C dJ6_bitCount_0f7a4_41 rfl 0 rfl ?_
  refine j_iload_n C dJ6_bitCount_0f7a4_42 rfl 0 rfl ?_
  refine j_bipush C dJ6_bitCount_0f7a4_43 (v := (16 : Int32)) (by decide) ?_
  refine j_iushr C dJ6_bitCount_0f7a4_45 ?_
  refine j_iadd C dJ6_bitCount_0f7a4_46 ?_
  refine j_istore_n C dJ6_bitCount_0f7a4_47 rfl (by decide) (L' := [(0, .int (((((((a0 - ((((a0).toUInt32 >>> (((1 : Int32)).toUInt32 &&& Int32.toUInt32 31)).toInt32) &&& (1431655765 : Int32))) &&& (858993459 : Int32)) + (((((a0 - ((((a0).toUInt32 >>> (((1 : Int32)).toUInt32 &&& Int32.toUInt32 31)).toInt32) &&& (1431655765 : Int32)))).toUInt32 >>> (((2 : Int32)).toUInt32 &&& Int32.toUInt32 31)).toInt32) &&& (858993459 : Int32))) + ((((((a0 - ((((a0).toUInt32 >>> (((1 : Int32)).toUInt32 &&& Int32.toUInt32 31)).toInt32) &&& (1431655765 : Int32))) &&& (858993459 : Int32)) + (((((a0 - ((((a0).toUInt32 >>> (((1 : Int32)).toUInt32 &&& Int32.toUInt32 31)).toInt32) &&& (1431655765 : Int32)))).toUInt32 >>> (((2 : Int32)).toUInt32 &&& Int32.toUInt32 31)).toInt32) &&& (858993459 : Int32)))).toUInt32 >>> (((4 : Int32)).toUInt32 &&& Int32.toUInt32 31)).toInt32)) &&& (252645135 : Int32)) + ((((((((a0 - ((((a0).toUInt32 >>> (((1 : Int32)).toUInt32 &&& Int32.toUInt32 31)).toInt32) &&& (1431655765 : Int32))) &&& (858993459 : Int32)) + (((((a0 - ((((a0).toUInt32 >>> (((1 : Int32)).toUInt32 &&& Int32.toUInt32 31)).toInt32) &&& (1431655765 : Int32)))).toUInt32 >>> (((2 : Int32)).toUInt32 &&& Int32.toUInt32 31)).toInt32) &&& (858993459 : Int32))) + ((((((a0 - ((((a0).toUInt32 >>> (((1 : Int32)).toUInt32 &&& Int32.toUInt32 31)).toInt32) &&& (1431655765 : Int32))) &&& (858993459 : Int32)) + (((((a0 - ((((a0).toUInt32 >>> (((1 : Int32)).toUInt32 &&& Int32.toUInt32 31)).toInt32) &&& (1431655765 : Int32)))).toUInt32 >>> (((2 : Int32)).toUInt32 &&& Int32.toUInt32 31)).toInt32) &&& (858993459 : Int32)))).toUInt32 >>> (((4 : Int32)).toUInt32 &&& Int32.toUInt32 31)).toInt32)) &&& (252645135 : Int32))).toUInt32 >>> (((8 : Int32)).toUInt32 &&& Int32.toUInt32 31)).toInt32)) + (((((((((a0 - ((((a0).toUInt32 >>> (((1 : Int32)).toUInt32 &&& Int32.toUInt32 31)).toInt32) &&& (1431655765 : Int32))) &&& (858993459 : Int32)) + (((((a0 - ((((a0).toUInt32 >>> (((1 : Int32)).toUInt32 &&& Int32.toUInt32 31)).toInt32) &&& (1431655765 : Int32)))).toUInt32 >>> (((2 : Int32)).toUInt32 &&& Int32.toUInt32 31)).toInt32) &&& (858993459 : Int32))) + ((((((a0 - ((((a0).toUInt32 >>> (((1 : Int32)).toUInt32 &&& Int32.toUInt32 31)).toInt32) &&& (1431655765 : Int32))) &&& (858993459 : Int32)) + (((((a0 - ((((a0).toUInt32 >>> (((1 : Int32)).toUInt32 &&& Int32.toUInt32 31)).toInt32) &&& (1431655765 : Int32)))).toUInt32 >>> (((2 : Int32)).toUInt32 &&& Int32.toUInt32 31)).toInt32) &&& (858993459 : Int32)))).toUInt32 >>> (((4 : Int32)).toUInt32 &&& Int32.toUInt32 31)).toInt32)) &&& (252645135 : Int32)) + ((((((((a0 - ((((a0).toUInt32 >>> (((1 : Int32)).toUInt32 &&& Int32.toUInt32 31)).toInt32) &&& (1431655765 : Int32))) &&& (858993459 : Int32)) + (((((a0 - ((((a0).toUInt32 >>> (((1 : Int32)).toUInt32 &&& Int32.toUInt32 31)).toInt32) &&& (1431655765 : Int32)))).toUInt32 >>> (((2 : Int32)).toUInt32 &&& Int32.toUInt32 31)).toInt32) &&& (858993459 : Int32))) + ((((((a0 - ((((a0).toUInt32 >>> (((1 : Int32)).toUInt32 &&& Int32.toUInt32 31)).toInt32) &&& (1431655765 : Int32))) &&& (858993459 : Int32)) + (((((a0 - ((((a0).toUInt32 >>> (((1 : Int32)).toUInt32 &&& Int32.toUInt32 31)).toInt32) &&& (1431655765 : Int32)))).toUInt32 >>> (((2 : Int32)).toUInt32 &&& Int32.toUInt32 31)).toInt32) &&& (858993459 : Int32)))).toUInt32 >>> (((4 : Int32)).toUInt32 &&& Int32.toUInt32 31)).toInt32)) &&& (252645135 : Int32))).toUInt32 >>> (((8 : Int32)).toUInt32 &&& Int32.toUInt32 31)).toInt32))).toUInt32 >>> (((16 : Int32)).toUInt32 &&& Int32.toUInt32 31)).toInt32)))]) rfl ?_
  refine j_iload_n C dJ6_bitCount_0f7a4_48 rfl 0 rfl ?_
  refine j_bipush C dJ6_bitCount_0f7a4_49 (v := (63 : Int32)) (by decide) ?_
  refine j_iand C dJ6_bitCount_0f7a4_51 ?_
  cases h
  exact j_iret C rfl (by decide) (by decide) dJ6_bitCount_0f7a4_52
-- ScaffoldPlanner$Plan piecesPlaced
theorem kcRX4_97 : okS RX4 97 yJ6_bitCount_0f7a4 (.code yJ6_bitCount_0f7a4 cJ6_bitCount_0f7a4 1 (some .int)) = true := by decide +kernel
theorem oyJ6_bitCount_0f7a4 : okY yJ6_bitCount_0f7a4 1 := ⟨by decide +kernel, by decide +kernel, by decide +kernel⟩
abbrev rmX4_piecesPlaced : Room := { frames := 2, cells := 0, slots := 0, locals := 42 }
theorem dX4_piecesPlaced_0 : decode cX4_piecesPlaced 0 = .ok (.iconst 0, 1) := by decide +kernel
theorem dX4_piecesPlaced_1 : decode cX4_piecesPlaced 1 = .ok (.istore_n 2, 1) := by decide +kernel
theorem dX4_piecesPlaced_2 : decode cX4_piecesPlaced 2 = .ok (.iconst 0, 1) := by decide +kernel
theorem dX4_piecesPlaced_3 : decode cX4_piecesPlaced 3 = .ok (.istore_n 3, 1) := by decide +kernel
theorem dX4_piecesPlaced_4 : decode cX4_piecesPlaced 4 = .ok (.iload_n 3, 1) := by decide +kernel
theorem dX4_piecesPlaced_5 : decode cX4_piecesPlaced 5 = .ok (.aload_n 0, 1) := by decide +kernel
theorem dX4_piecesPlaced_6 : decode cX4_piecesPlaced 6 = .ok (.getfield 9, 3) := by decide +kernel
theorem dX4_piecesPlaced_9 : decode cX4_piecesPlaced 9 = .ok (.if_icmp .ge 57, 3) := by decide +kernel
theorem dX4_piecesPlaced_12 : decode cX4_piecesPlaced 12 = .ok (.iload_n 1, 1) := by decide +kernel
theorem dX4_piecesPlaced_13 : decode cX4_piecesPlaced 13 = .ok (.ifCond .ne 14, 3) := by decide +kernel
theorem dX4_piecesPlaced_16 : decode cX4_piecesPlaced 16 = .ok (.iload_n 2, 1) := by decide +kernel
theorem dX4_piecesPlaced_17 : decode cX4_piecesPlaced 17 = .ok (.aload_n 0, 1) := by decide +kernel
theorem dX4_piecesPlaced_18 : decode cX4_piecesPlaced 18 = .ok (.iload_n 3, 1) := by decide +kernel
theorem dX4_piecesPlaced_19 : decode cX4_piecesPlaced 19 = .ok (.invokevirtual 66, 3) := by decide +kernel
theorem dX4_piecesPlaced_22 : decode cX4_piecesPlaced 22 = .ok (.iadd, 1) := by decide +kernel
theorem dX4_piecesPlaced_23 : decode cX4_piecesPlaced 23 = .ok (.istore_n 2, 1) := by decide +kernel
theorem dX4_piecesPlaced_24 : decode cX4_piecesPlaced 24 = .ok (.goto 36, 3) := by decide +kernel
theorem dX4_piecesPlaced_27 : decode cX4_piecesPlaced 27 = .ok (.iload_n 1, 1) := by decide +kernel
theorem dX4_piecesPlaced_28 : decode cX4_piecesPlaced 28 = .ok (.iconst 1, 1) := by decide +kernel
theorem dX4_piecesPlaced_29 : decode cX4_piecesPlaced 29 = .ok (.if_icmp .ne 19, 3) := by decide +kernel
theorem dX4_piecesPlaced_32 : decode cX4_piecesPlaced 32 = .ok (.iload_n 2, 1) := by decide +kernel
theorem dX4_piecesPlaced_33 : decode cX4_piecesPlaced 33 = .ok (.iconst 2, 1) := by decide +kernel
theorem dX4_piecesPlaced_34 : decode cX4_piecesPlaced 34 = .ok (.aload_n 0, 1) := by decide +kernel
theorem dX4_piecesPlaced_35 : decode cX4_piecesPlaced 35 = .ok (.getfield 18, 3) := by decide +kernel
theorem dX4_piecesPlaced_38 : decode cX4_piecesPlaced 38 = .ok (.iload_n 3, 1) := by decide +kernel
theorem dX4_piecesPlaced_39 : decode cX4_piecesPlaced 39 = .ok (.invokestatic 41, 3) := by decide +kernel
theorem dX4_piecesPlaced_42 : decode cX4_piecesPlaced 42 = .ok (.imul, 1) := by decide +kernel
theorem dX4_piecesPlaced_43 : decode cX4_piecesPlaced 43 = .ok (.iadd, 1) := by decide +kernel
theorem dX4_piecesPlaced_44 : decode cX4_piecesPlaced 44 = .ok (.istore_n 2, 1) := by decide +kernel
theorem dX4_piecesPlaced_45 : decode cX4_piecesPlaced 45 = .ok (.goto 15, 3) := by decide +kernel
theorem dX4_piecesPlaced_48 : decode cX4_piecesPlaced 48 = .ok (.iload_n 2, 1) := by decide +kernel
theorem dX4_piecesPlaced_49 : decode cX4_piecesPlaced 49 = .ok (.aload_n 0, 1) := by decide +kernel
theorem dX4_piecesPlaced_50 : decode cX4_piecesPlaced 50 = .ok (.iload_n 1, 1) := by decide +kernel
theorem dX4_piecesPlaced_51 : decode cX4_piecesPlaced 51 = .ok (.iload_n 3, 1) := by decide +kernel
theorem dX4_piecesPlaced_52 : decode cX4_piecesPlaced 52 = .ok (.invokevirtual 45, 3) := by decide +kernel
theorem dX4_piecesPlaced_55 : decode cX4_piecesPlaced 55 = .ok (.invokestatic 97, 3) := by decide +kernel
theorem dX4_piecesPlaced_58 : decode cX4_piecesPlaced 58 = .ok (.iadd, 1) := by decide +kernel
theorem dX4_piecesPlaced_59 : decode cX4_piecesPlaced 59 = .ok (.istore_n 2, 1) := by decide +kernel
theorem dX4_piecesPlaced_60 : decode cX4_piecesPlaced 60 = .ok (.iinc 3 1, 3) := by decide +kernel
theorem dX4_piecesPlaced_63 : decode cX4_piecesPlaced 63 = .ok (.goto (-59), 3) := by decide +kernel
theorem dX4_piecesPlaced_66 : decode cX4_piecesPlaced 66 = .ok (.iload_n 2, 1) := by decide +kernel
theorem dX4_piecesPlaced_67 : decode cX4_piecesPlaced 67 = .ok (.ireturn, 1) := by decide +kernel
def fX4_piecesPlaced_4 (N : Nat) (Z : mZ) : Nat → Nat → Int32 → Int32 → Int32 → mM → Option (Int32 × mM)
  | 0, _, _, _, _, _ => none
  | fu + 1, v0, v1, v2, v3, M => ck (okO Z v0 4) (if (M.1 v0 0) ≤ v3 then some (v2, M) else if v1 = 0 then bnd2 (fX4_postHeight N Z v0 v3 M) (fun r4 M4 => fX4_piecesPlaced_4 N Z fu v0 v1 (v2 + r4) (v3 + (1 : Int32)) M4) else if v1 = (1 : Int32) then bnd1 (Z.2.2.2 v0 2) (fun c6 => bnd2 (fX8_at N Z c6 v3 M) (fun r7 M7 => fX4_piecesPlaced_4 N Z fu v0 v1 (v2 + ((2 : Int32) * r7)) (v3 + (1 : Int32)) M7)) else bnd2 (fX4_levelsWith N Z v0 v1 v3 M) (fun r8 M8 => bnd2 (fJ6_bitCount_0f7a4 N Z r8 M8) (fun r9 M9 => fX4_piecesPlaced_4 N Z fu v0 v1 (v2 + r9) (v3 + (1 : Int32)) M9)))
set_option maxHeartbeats 4000000 in
set_option maxRecDepth 100000 in
theorem tX4_piecesPlaced_4 {G : mG} {p : Program} {l : Launch} {e : Env} {s : State} {m : MethodId} {args : Array Value} {below : List Frame} {meth : Method} {c : Code} (C : Cx G p l s m args meth c RX4 cX4_piecesPlaced 4 (some .int) []) (hnm : meth.name = yX4_piecesPlaced.name) (N : Nat) (Z : mZ) : ∀ (fu : Nat) (v0 : Nat) (v1 : Int32) (v2 : Int32) (v3 : Int32) (M : mM) (r : Int32) (M' : mM), fX4_piecesPlaced_4 N Z fu v0 v1 v2 v3 M = some (r, M') → JJ G p l e rmX4_piecesPlaced s m args below meth c 4 (mEnd G below args s rmX4_piecesPlaced (.inl (some (.int r))) Z M') 0 0 4 [(0, .ref v0), (1, .int v1), (2, .int v2), (3, .int v3)] [] Z M := by
  intro fu
  induction fu with
  | zero =>
    intro v0 v1 v2 v3 M r M' h
    cases h
  | succ fu ih =>
    intro v0 v1 v2 v3 M r M' h
    rw [fX4_piecesPlaced_4] at h
    refine j_iload_n C dX4_piecesPlaced_4 rfl 3 rfl ?_
    refine j_aload_n C dX4_piecesPlaced_5 rfl 0 rfl ?_
    obtain ⟨ho1, h⟩ := ck_spec h
    refine j_getI C (cn := RX4) (T := TX4) (N := 7) (ci := 4) rfl iX4 ho1 0 (by decide) rfl fwRX4_9 dX4_piecesPlaced_6 ?_
    refine j_icmp_ge C dX4_piecesPlaced_9 (tgt := 66) (by decide) (fun hc2 => ?_) (fun hc2 => ?_)
    · rw [if_pos hc2] at h
      refine j_iload_n C dX4_piecesPlaced_66 rfl 2 rfl ?_
      cases h
      exact j_iret C rfl (by decide) (by decide) dX4_piecesPlaced_67
    · rw [if_neg hc2] at h
      refine j_iload_n C dX4_piecesPlaced_12 rfl 1 rfl ?_
      refine j_if_ne C dX4_piecesPlaced_13 (tgt := 27) (by decide) (fun hc3 => ?_) (fun hc3 => ?_)
      · rw [if_neg hc3] at h
        refine j_iload_n C dX4_piecesPlaced_27 rfl 1 rfl ?_
        refine j_iconst C dX4_piecesPlaced_28 (v := (1 : Int32)) (by decide) ?_
        refine j_icmp_ne C dX4_piecesPlaced_29 (tgt := 48) (by decide) (fun hc5 => ?_) (fun hc5 => ?_)
        · rw [if_neg hc5] at h
          refine j_iload_n C dX4_piecesPlaced_48 rfl 2 rfl ?_
          refine j_aload_n C dX4_piecesPlaced_49 rfl 0 rfl ?_
          refine j_iload_n C dX4_piecesPlaced_50 rfl 1 rfl ?_
          refine j_iload_n C dX4_piecesPlaced_51 rfl 3 rfl ?_
          obtain ⟨r8, M8, hq8, h⟩ := bnd2_spec h
          refine j_run1 (c_V C (As := [.int v1, .int v3]) (rest := [.int v2]) (ctX4_levelsWith C.2.2.2.2.2.2.2.2.1 N Z hq8) kcRX4_45 oyX4_levelsWith (ci := 4) (T := TX4) (N := 7) rfl (by decide) ho1 ⟨by decide, by decide⟩ ⟨by decide, by decide⟩ (Nat.le_of_ble_eq_true rfl) rfl dX4_piecesPlaced_52) ?_
          obtain ⟨r9, M9, hq9, h⟩ := bnd2_spec h
          refine j_run1 (c_S C (As := [.int r8]) (rest := [.int v2]) (ctJ6_bitCount_0f7a4 C.2.2.2.2.2.2.2.2.1 N Z hq9) kcRX4_97 oyJ6_bitCount_0f7a4 ⟨by decide, by decide⟩ ⟨by decide, by decide⟩ (Nat.le_of_ble_eq_true rfl) rfl dX4_piecesPlaced_55) ?_
          refine j_iadd C dX4_piecesPlaced_58 ?_
          refine j_istore_n C dX4_piecesPlaced_59 rfl (by decide) (L' := [(2, .int (v2 + r9)), (0, .ref v0), (1, .int v1), (3, .int v3)]) rfl ?_
          refine j_iinc C dX4_piecesPlaced_60 3 rfl (v := (v3 + (1 : Int32))) (by first | rfl | decide) (by decide) (L' := [(3, .int (v3 + (1 : Int32))), (2, .int (v2 + r9)), (0, .ref v0), (1, .int v1)]) rfl ?_
          refine j_goto C dX4_piecesPlaced_63 (tgt := 4) (by decide) ?_
          refine j_sub (L' := [(0, .ref v0), (1, .int v1), (2, .int (v2 + r9)), (3, .int (v3 + (1 : Int32)))]) [2, 3, 1, 0] rfl ?_
          exact ih v0 v1 (v2 + r9) (v3 + (1 : Int32)) M9 r M' h
        · rw [if_pos hc5] at h
          refine j_iload_n C dX4_piecesPlaced_32 rfl 2 rfl ?_
          refine j_iconst C dX4_piecesPlaced_33 (v := (2 : Int32)) (by decide) ?_
          refine j_aload_n C dX4_piecesPlaced_34 rfl 0 rfl ?_
          obtain ⟨c6, hr6, h⟩ := bnd1_spec h
          refine j_getR C (cn := RX4) (T := TX4) (N := 7) (ci := 4) rfl iX4 ho1 2 (by decide) rfl fwRX4_18 dX4_piecesPlaced_35 hr6 ?_
          refine j_iload_n C dX4_piecesPlaced_38 rfl 3 rfl ?_
          obtain ⟨r7, M7, hq7, h⟩ := bnd2_spec h
          refine j_run1 (c_SN C (As := [.ref c6, .int v3]) (rest := [.int (2 : Int32), .int v2]) (ctX8_at C.2.2.2.2.2.2.2.2.1 N Z hq7) kcRX4_41 oyX8_at ⟨by decide, by decide⟩ ⟨by decide, by decide⟩ (Nat.le_of_ble_eq_true rfl) rfl dX4_piecesPlaced_39) ?_
          refine j_imul C dX4_piecesPlaced_42 ?_
          refine j_iadd C dX4_piecesPlaced_43 ?_
          refine j_istore_n C dX4_piecesPlaced_44 rfl (by decide) (L' := [(2, .int (v2 + ((2 : Int32) * r7))), (0, .ref v0), (1, .int v1), (3, .int v3)]) rfl ?_
          refine j_goto C dX4_piecesPlaced_45 (tgt := 60) (by decide) ?_
          refine j_iinc C dX4_piecesPlaced_60 3 rfl (v := (v3 + (1 : Int32))) (by first | rfl | decide) (by decide) (L' := [(3, .int (v3 + (1 : Int32))), (2, .int (v2 + ((2 : Int32) * r7))), (0, .ref v0), (1, .int v1)]) rfl ?_
          refine j_goto C dX4_piecesPlaced_63 (tgt := 4) (by decide) ?_
          refine j_sub (L' := [(0, .ref v0), (1, .int v1), (2, .int (v2 + ((2 : Int32) * r7))), (3, .int (v3 + (1 : Int32)))]) [2, 3, 1, 0] rfl ?_
          exact ih v0 v1 (v2 + ((2 : Int32) * r7)) (v3 + (1 : Int32)) M7 r M' h
      · rw [if_pos hc3] at h
        refine j_iload_n C dX4_piecesPlaced_16 rfl 2 rfl ?_
        refine j_aload_n C dX4_piecesPlaced_17 rfl 0 rfl ?_
        refine j_iload_n C dX4_piecesPlaced_18 rfl 3 rfl ?_
        obtain ⟨r4, M4, hq4, h⟩ := bnd2_spec h
        refine j_run1 (c_V C (As := [.int v3]) (rest := [.int v2]) (ctX4_postHeight C.2.2.2.2.2.2.2.2.1 N Z hq4) kcRX4_66 oyX4_postHeight (ci := 4) (T := TX4) (N := 7) rfl (by decide) ho1 ⟨by decide, by decide⟩ ⟨by decide, by decide⟩ (Nat.le_of_ble_eq_true rfl) rfl dX4_piecesPlaced_19) ?_
        refine j_iadd C dX4_piecesPlaced_22 ?_
        refine j_istore_n C dX4_piecesPlaced_23 rfl (by decide) (L' := [(2, .int (v2 + r4)), (0, .ref v0), (1, .int v1), (3, .int v3)]) rfl ?_
        refine j_goto C dX4_piecesPlaced_24 (tgt := 60) (by decide) ?_
        refine j_iinc C dX4_piecesPlaced_60 3 rfl (v := (v3 + (1 : Int32))) (by first | rfl | decide) (by decide) (L' := [(3, .int (v3 + (1 : Int32))), (2, .int (v2 + r4)), (0, .ref v0), (1, .int v1)]) rfl ?_
        refine j_goto C dX4_piecesPlaced_63 (tgt := 4) (by decide) ?_
        refine j_sub (L' := [(0, .ref v0), (1, .int v1), (2, .int (v2 + r4)), (3, .int (v3 + (1 : Int32)))]) [2, 3, 1, 0] rfl ?_
        exact ih v0 v1 (v2 + r4) (v3 + (1 : Int32)) M4 r M' h
def fX4_piecesPlaced (N : Nat) (Z : mZ) (a0 : Nat) (a1 : Int32) (M : mM) : Option (Int32 × mM) := fX4_piecesPlaced_4 N Z N a0 a1 (0 : Int32) (0 : Int32) M
set_option maxHeartbeats 4000000 in
set_option maxRecDepth 100000 in
theorem ctX4_piecesPlaced {G : mG} {l : Launch} (hl : l.stackTraces = false) (N : Nat) (Z : mZ) {a0 : Nat} {a1 : Int32} {M : mM} {r : Int32} {M' : mM} (h : fX4_piecesPlaced N Z a0 a1 M = some (r, M')) : CT G l yX4_piecesPlaced (.code yX4_piecesPlaced cX4_piecesPlaced 4 (some .int)) rmX4_piecesPlaced [.ref a0, .int a1] Z M (.inl (some (.int r))) Z M' := by
  unfold fX4_piecesPlaced at h
  refine CT.of hl (by decide) (Nat.le_of_ble_eq_true rfl) ?_
  intro p e s m args below meth c C hnm
  refine j_sub (L' := [(0, .ref a0), (1, .int a1)]) [0, 1] rfl ?_
  refine j_iconst C dX4_piecesPlaced_0 (v := (0 : Int32)) (by decide) ?_
  refine j_istore_n C dX4_piecesPlaced_1 rfl (by decide) (L' := [(2, .int (0 : Int32)), (0, .ref a0), (1, .int a1)]) rfl ?_
  refine j_iconst C dX4_piecesPlaced_2 (v := (0 : Int32)) (by decide) ?_
  refine j_istore_n C dX4_piecesPlaced_3 rfl (by decide) (L' := [(3, .int (0 : Int32)), (2, .int (0 : Int32)), (0, .ref a0), (1, .int a1)]) rfl ?_
  refine j_sub (L' := [(0, .ref a0), (1, .int a1), (2, .int (0 : Int32)), (3, .int (0 : Int32))]) [2, 3, 1, 0] rfl ?_
  exact tX4_piecesPlaced_4 C hnm N Z N a0 a1 (0 : Int32) (0 : Int32) M _ _ h
