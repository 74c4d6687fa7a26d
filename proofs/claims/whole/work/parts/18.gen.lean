-- ScaffoldPlannerModel has
abbrev rmX9_has : Room := { frames := 1, cells := 0, slots := 0, locals := 22 }
theorem dX9_has_0 : decode cX9_has 0 = .ok (.iload_n 3, 1) := by decide +kernel
theorem dX9_has_1 : decode cX9_has 1 = .ok (.iconst 1, 1) := by decide +kernel
theorem dX9_has_2 : decode cX9_has 2 = .ok (.bipush 6, 2) := by decide +kernel
theorem dX9_has_4 : decode cX9_has 4 = .ok (.invokestatic 54, 3) := by decide +kernel
theorem dX9_has_7 : decode cX9_has 7 = .ok (.ifCond .eq 23, 3) := by decide +kernel
theorem dX9_has_10 : decode cX9_has 10 = .ok (.aload_n 0, 1) := by decide +kernel
theorem dX9_has_11 : decode cX9_has 11 = .ok (.getfield 7, 3) := by decide +kernel
theorem dX9_has_14 : decode cX9_has 14 = .ok (.iload_n 1, 1) := by decide +kernel
theorem dX9_has_15 : decode cX9_has 15 = .ok (.iload_n 2, 1) := by decide +kernel
theorem dX9_has_16 : decode cX9_has 16 = .ok (.iadd, 1) := by decide +kernel
theorem dX9_has_17 : decode cX9_has 17 = .ok (.iaload, 1) := by decide +kernel
theorem dX9_has_18 : decode cX9_has 18 = .ok (.iload_n 3, 1) := by decide +kernel
theorem dX9_has_19 : decode cX9_has 19 = .ok (.ishr, 1) := by decide +kernel
theorem dX9_has_20 : decode cX9_has 20 = .ok (.iconst 1, 1) := by decide +kernel
theorem dX9_has_21 : decode cX9_has 21 = .ok (.iand, 1) := by decide +kernel
theorem dX9_has_22 : decode cX9_has 22 = .ok (.iconst 1, 1) := by decide +kernel
theorem dX9_has_23 : decode cX9_has 23 = .ok (.if_icmp .ne 7, 3) := by decide +kernel
theorem dX9_has_26 : decode cX9_has 26 = .ok (.iconst 1, 1) := by decide +kernel
theorem dX9_has_27 : decode cX9_has 27 = .ok (.goto 4, 3) := by decide +kernel
theorem dX9_has_30 : decode cX9_has 30 = .ok (.iconst 0, 1) := by decide +kernel
theorem dX9_has_31 : decode cX9_has 31 = .ok (.ireturn, 1) := by decide +kernel
def fX9_has (N : Nat) (Z : mZ) (a0 : Nat) (a1 : Int32) (a2 : Int32) (a3 : Int32) (M : mM) : Option (Int32 × mM) := bnd2 (fX9_in N Z a3 (1 : Int32) (6 : Int32) M) (fun r1 M1 => if r1 = 0 then some ((0 : Int32), M1) else ck (okO Z a0 9) (bnd1 (Z.2.2.2 a0 0) (fun c4 => ck (okI Z c4) (ck (inB (a1 + a2) (Z.2.2.1 c4)) (if (((M1.1 c4 ((a1 + a2)).toNatClampNeg) >>> (a3 &&& 31)) &&& (1 : Int32)) = (1 : Int32) then some ((1 : Int32), M1) else some ((0 : Int32), M1))))))
set_option maxHeartbeats 4000000 in
set_option maxRecDepth 100000 in
theorem ctX9_has {G : mG} {l : Launch} (hl : l.stackTraces = false) (N : Nat) (Z : mZ) {a0 : Nat} {a1 : Int32} {a2 : Int32} {a3 : Int32} {M : mM} {r : Int32} {M' : mM} (h : fX9_has N Z a0 a1 a2 a3 M = some (r, M')) : CT G l yX9_has (.code yX9_has cX9_has 4 (some .boolean)) rmX9_has [.ref a0, .int a1, .int a2, .int a3] Z M (.inl (some (.int r))) Z M' := by
  unfold fX9_has at h
  refine CT.of hl (by decide) (Nat.le_of_ble_eq_true rfl) ?_
  intro p e s m args below meth c C hnm
  refine j_sub (L' := [(0, .ref a0), (1, .int a1), (2, .int a2), (3, .int a3)]) [0, 1, 2, 3] rfl ?_
  refine j_iload_n C dX9_has_0 rfl 3 rfl ?_
  refine j_iconst C dX9_has_1 (v := (1 : Int32)) (by decide) ?_
  refine j_bipush C dX9_has_2 (v := (6 : Int32)) (by decide) ?_
  obtain ⟨r1, M1, hq1, h⟩ := bnd2_spec h
  refine j_run1 (c_S C (As := [.int a3, .int (1 : Int32), .int (6 : Int32)]) (rest := []) (ctX9_in C.2.2.2.2.2.2.2.2.1 N Z hq1) kcRX9_54 oyX9_in ⟨by decide, by decide⟩ ⟨by decide, by decide⟩ (Nat.le_of_ble_eq_true rfl) rfl dX9_has_4) ?_
  refine j_if_eq C dX9_has_7 (tgt := 30) (by decide) (fun hc2 => ?_) (fun hc2 => ?_)
  · rw [if_pos hc2] at h
    refine j_iconst C dX9_has_30 (v := (0 : Int32)) (by decide) ?_
    cases h
    exact j_zret C rfl (by decide) (by decide) (by decide) dX9_has_31
  · rw [if_neg hc2] at h
    refine j_aload_n C dX9_has_10 rfl 0 rfl ?_
    obtain ⟨ho3, h⟩ := ck_spec h
    obtain ⟨c4, hr4, h⟩ := bnd1_spec h
    refine j_getR C (cn := RX9) (T := TX9) (N := 23) (ci := 9) rfl iX9 ho3 0 (by decide) rfl fwRX9_7 dX9_has_11 hr4 ?_
    refine j_iload_n C dX9_has_14 rfl 1 rfl ?_
    refine j_iload_n C dX9_has_15 rfl 2 rfl ?_
    refine j_iadd C dX9_has_16 ?_
    obtain ⟨ho5, h⟩ := ck_spec h
    obtain ⟨ho6, h⟩ := ck_spec h
    refine j_iald C ho5 ho6 dX9_has_17 ?_
    refine j_iload_n C dX9_has_18 rfl 3 rfl ?_
    refine j_ishr C dX9_has_19 ?_
    refine j_iconst C dX9_has_20 (v := (1 : Int32)) (by decide) ?_
    refine j_iand C dX9_has_21 ?_
    refine j_iconst C dX9_has_22 (v := (1 : Int32)) (by decide) ?_
    refine j_icmp_ne C dX9_has_23 (tgt := 30) (by decide) (fun hc7 => ?_) (fun hc7 => ?_)
    · rw [if_neg hc7] at h
      refine j_iconst C dX9_has_30 (v := (0 : Int32)) (by decide) ?_
      cases h
      exact j_zret C rfl (by decide) (by decide) (by decide) dX9_has_31
    · rw [if_pos hc7] at h
      refine j_iconst C dX9_has_26 (v := (1 : Int32)) (by decide) ?_
      refine j_goto C dX9_has_27 (tgt := 31) (by decide) ?_
      cases h
      exact j_zret C rfl (by decide) (by decide) (by decide) dX9_has_31
-- ScaffoldPlannerModel isHeldBy
abbrev rmX9_isHeldBy : Room := { frames := 0, cells := 0, slots := 0, locals := 0 }
theorem dX9_isHeldBy_0 : decode cX9_isHeldBy 0 = .ok (.iconst 0, 1) := by decide +kernel
theorem dX9_isHeldBy_1 : decode cX9_isHeldBy 1 = .ok (.istore 4, 2) := by decide +kernel
theorem dX9_isHeldBy_3 : decode cX9_isHeldBy 3 = .ok (.iconst 1, 1) := by decide +kernel
theorem dX9_isHeldBy_4 : decode cX9_isHeldBy 4 = .ok (.istore 5, 2) := by decide +kernel
theorem dX9_isHeldBy_6 : decode cX9_isHeldBy 6 = .ok (.iload 5, 2) := by decide +kernel
theorem dX9_isHeldBy_8 : decode cX9_isHeldBy 8 = .ok (.bipush 12, 2) := by decide +kernel
theorem dX9_isHeldBy_10 : decode cX9_isHeldBy 10 = .ok (.if_icmp .gt 34, 3) := by decide +kernel
theorem dX9_isHeldBy_13 : decode cX9_isHeldBy 13 = .ok (.iload_n 1, 1) := by decide +kernel
theorem dX9_isHeldBy_14 : decode cX9_isHeldBy 14 = .ok (.iload 5, 2) := by decide +kernel
theorem dX9_isHeldBy_16 : decode cX9_isHeldBy 16 = .ok (.ishr, 1) := by decide +kernel
theorem dX9_isHeldBy_17 : decode cX9_isHeldBy 17 = .ok (.iconst 1, 1) := by decide +kernel
theorem dX9_isHeldBy_18 : decode cX9_isHeldBy 18 = .ok (.iand, 1) := by decide +kernel
theorem dX9_isHeldBy_19 : decode cX9_isHeldBy 19 = .ok (.iconst 1, 1) := by decide +kernel
theorem dX9_isHeldBy_20 : decode cX9_isHeldBy 20 = .ok (.if_icmp .ne 18, 3) := by decide +kernel
theorem dX9_isHeldBy_23 : decode cX9_isHeldBy 23 = .ok (.iload 5, 2) := by decide +kernel
theorem dX9_isHeldBy_25 : decode cX9_isHeldBy 25 = .ok (.iload 4, 2) := by decide +kernel
theorem dX9_isHeldBy_27 : decode cX9_isHeldBy 27 = .ok (.isub, 1) := by decide +kernel
theorem dX9_isHeldBy_28 : decode cX9_isHeldBy 28 = .ok (.iload_n 2, 1) := by decide +kernel
theorem dX9_isHeldBy_29 : decode cX9_isHeldBy 29 = .ok (.if_icmp .le 5, 3) := by decide +kernel
theorem dX9_isHeldBy_32 : decode cX9_isHeldBy 32 = .ok (.iconst 0, 1) := by decide +kernel
theorem dX9_isHeldBy_33 : decode cX9_isHeldBy 33 = .ok (.ireturn, 1) := by decide +kernel
theorem dX9_isHeldBy_34 : decode cX9_isHeldBy 34 = .ok (.iload 5, 2) := by decide +kernel
theorem dX9_isHeldBy_36 : decode cX9_isHeldBy 36 = .ok (.istore 4, 2) := by decide +kernel
theorem dX9_isHeldBy_38 : decode cX9_isHeldBy 38 = .ok (.iinc 5 1, 3) := by decide +kernel
theorem dX9_isHeldBy_41 : decode cX9_isHeldBy 41 = .ok (.goto (-35), 3) := by decide +kernel
theorem dX9_isHeldBy_44 : decode cX9_isHeldBy 44 = .ok (.iload_n 0, 1) := by decide +kernel
theorem dX9_isHeldBy_45 : decode cX9_isHeldBy 45 = .ok (.iload 4, 2) := by decide +kernel
theorem dX9_isHeldBy_47 : decode cX9_isHeldBy 47 = .ok (.isub, 1) := by decide +kernel
theorem dX9_isHeldBy_48 : decode cX9_isHeldBy 48 = .ok (.iload_n 3, 1) := by decide +kernel
theorem dX9_isHeldBy_49 : decode cX9_isHeldBy 49 = .ok (.if_icmp .gt 7, 3) := by decide +kernel
theorem dX9_isHeldBy_52 : decode cX9_isHeldBy 52 = .ok (.iconst 1, 1) := by decide +kernel
theorem dX9_isHeldBy_53 : decode cX9_isHeldBy 53 = .ok (.goto 4, 3) := by decide +kernel
theorem dX9_isHeldBy_56 : decode cX9_isHeldBy 56 = .ok (.iconst 0, 1) := by decide +kernel
theorem dX9_isHeldBy_57 : decode cX9_isHeldBy 57 = .ok (.ireturn, 1) := by decide +kernel
def fX9_isHeldBy_6 (N : Nat) (Z : mZ) : Nat → Int32 → Int32 → Int32 → Int32 → Int32 → Int32 → mM → Option (Int32 × mM)
  | 0, _, _, _, _, _, _, _ => none
  | fu + 1, v0, v1, v2, v3, v4, v5, M => if (12 : Int32) < v5 then if v3 < (v0 - v4) then some ((0 : Int32), M) else some ((1 : Int32), M) else if ((v1 >>> (v5 &&& 31)) &&& (1 : Int32)) = (1 : Int32) then if (v5 - v4) ≤ v2 then fX9_isHeldBy_6 N Z fu v0 v1 v2 v3 v5 (v5 + (1 : Int32)) M else some ((0 : Int32), M) else fX9_isHeldBy_6 N Z fu v0 v1 v2 v3 v4 (v5 + (1 : Int32)) M
set_option maxHeartbeats 4000000 in
set_option maxRecDepth 100000 in
theorem tX9_isHeldBy_6 {G : mG} {p : Program} {l : Launch} {e : Env} {s : State} {m : MethodId} {args : Array Value} {below : List Frame} {meth : Method} {c : Code} (C : Cx G p l s m args meth c RX9 cX9_isHeldBy 6 (some .boolean) []) (hnm : meth.name = yX9_isHeldBy.name) (N : Nat) (Z : mZ) : ∀ (fu : Nat) (v0 : Int32) (v1 : Int32) (v2 : Int32) (v3 : Int32) (v4 : Int32) (v5 : Int32) (M : mM) (r : Int32) (M' : mM), fX9_isHeldBy_6 N Z fu v0 v1 v2 v3 v4 v5 M = some (r, M') → JJ G p l e rmX9_isHeldBy s m args below meth c 6 (mEnd G below args s rmX9_isHeldBy (.inl (some (.int r))) Z M') 0 0 6 [(0, .int v0), (1, .int v1), (2, .int v2), (3, .int v3), (4, .int v4), (5, .int v5)] [] Z M := by
  intro fu
  induction fu with
  | zero =>
    intro v0 v1 v2 v3 v4 v5 M r M' h
    cases h
  | succ fu ih =>
    intro v0 v1 v2 v3 v4 v5 M r M' h
    rw [fX9_isHeldBy_6] at h
    refine j_iload C dX9_isHeldBy_6 5 rfl ?_
    refine j_bipush C dX9_isHeldBy_8 (v := (12 : Int32)) (by decide) ?_
    refine j_icmp_gt C dX9_isHeldBy_10 (tgt := 44) (by decide) (fun hc1 => ?_) (fun hc1 => ?_)
    · rw [if_pos hc1] at h
      refine j_iload_n C dX9_isHeldBy_44 rfl 0 rfl ?_
      refine j_iload C dX9_isHeldBy_45 4 rfl ?_
      refine j_isub C dX9_isHeldBy_47 ?_
      refine j_iload_n C dX9_isHeldBy_48 rfl 3 rfl ?_
      refine j_icmp_gt C dX9_isHeldBy_49 (tgt := 56) (by decide) (fun hc2 => ?_) (fun hc2 => ?_)
      · rw [if_pos hc2] at h
        refine j_iconst C dX9_isHeldBy_56 (v := (0 : Int32)) (by decide) ?_
        cases h
        exact j_zret C rfl (by decide) (by decide) (by decide) dX9_isHeldBy_57
      · rw [if_neg hc2] at h
        refine j_iconst C dX9_isHeldBy_52 (v := (1 : Int32)) (by decide) ?_
        refine j_goto C dX9_isHeldBy_53 (tgt := 57) (by decide) ?_
        cases h
        exact j_zret C rfl (by decide) (by decide) (by decide) dX9_isHeldBy_57
    · rw [if_neg hc1] at h
      refine j_iload_n C dX9_isHeldBy_13 rfl 1 rfl ?_
      refine j_iload C dX9_isHeldBy_14 5 rfl ?_
      refine j_ishr C dX9_isHeldBy_16 ?_
      refine j_iconst C dX9_isHeldBy_17 (v := (1 : Int32)) (by decide) ?_
      refine j_iand C dX9_isHeldBy_18 ?_
      refine j_iconst C dX9_isHeldBy_19 (v := (1 : Int32)) (by decide) ?_
      refine j_icmp_ne C dX9_isHeldBy_20 (tgt := 38) (by decide) (fun hc3 => ?_) (fun hc3 => ?_)
      · rw [if_neg hc3] at h
        refine j_iinc C dX9_isHeldBy_38 5 rfl (v := (v5 + (1 : Int32))) (by first | rfl | decide) (by decide) (L' := [(5, .int (v5 + (1 : Int32))), (0, .int v0), (1, .int v1), (2, .int v2), (3, .int v3), (4, .int v4)]) rfl ?_
        refine j_goto C dX9_isHeldBy_41 (tgt := 6) (by decide) ?_
        refine j_sub (L' := [(0, .int v0), (1, .int v1), (2, .int v2), (3, .int v3), (4, .int v4), (5, .int (v5 + (1 : Int32)))]) [1, 2, 3, 4, 5, 0] rfl ?_
        exact ih v0 v1 v2 v3 v4 (v5 + (1 : Int32)) M r M' h
      · rw [if_pos hc3] at h
        refine j_iload C dX9_isHeldBy_23 5 rfl ?_
        refine j_iload C dX9_isHeldBy_25 4 rfl ?_
        refine j_isub C dX9_isHeldBy_27 ?_
        refine j_iload_n C dX9_isHeldBy_28 rfl 2 rfl ?_
        refine j_icmp_le C dX9_isHeldBy_29 (tgt := 34) (by decide) (fun hc4 => ?_) (fun hc4 => ?_)
        · rw [if_pos hc4] at h
          refine j_iload C dX9_isHeldBy_34 5 rfl ?_
          refine j_istore C dX9_isHeldBy_36 (by decide) (L' := [(4, .int v5), (0, .int v0), (1, .int v1), (2, .int v2), (3, .int v3), (5, .int v5)]) rfl ?_
          refine j_iinc C dX9_isHeldBy_38 5 rfl (v := (v5 + (1 : Int32))) (by first | rfl | decide) (by decide) (L' := [(5, .int (v5 + (1 : Int32))), (4, .int v5), (0, .int v0), (1, .int v1), (2, .int v2), (3, .int v3)]) rfl ?_
          refine j_goto C dX9_isHeldBy_41 (tgt := 6) (by decide) ?_
          refine j_sub (L' := [(0, .int v0), (1, .int v1), (2, .int v2), (3, .int v3), (4, .int v5), (5, .int (v5 + (1 : Int32)))]) [2, 3, 4, 5, 1, 0] rfl ?_
          exact ih v0 v1 v2 v3 v5 (v5 + (1 : Int32)) M r M' h
        · rw [if_neg hc4] at h
          refine j_iconst C dX9_isHeldBy_32 (v := (0 : Int32)) (by decide) ?_
          cases h
          exact j_zret C rfl (by decide) (by decide) (by decide) dX9_isHeldBy_33
def fX9_isHeldBy (N : Nat) (Z : mZ) (a0 : Int32) (a1 : Int32) (a2 : Int32) (a3 : Int32) (M : mM) : Option (Int32 × mM) := fX9_isHeldBy_6 N Z N a0 a1 a2 a3 (0 : Int32) (1 : Int32) M
set_option maxHeartbeats 4000000 in
set_option maxRecDepth 100000 in
theorem ctX9_isHeldBy {G : mG} {l : Launch} (hl : l.stackTraces = false) (N : Nat) (Z : mZ) {a0 : Int32} {a1 : Int32} {a2 : Int32} {a3 : Int32} {M : mM} {r : Int32} {M' : mM} (h : fX9_isHeldBy N Z a0 a1 a2 a3 M = some (r, M')) : CT G l yX9_isHeldBy (.code yX9_isHeldBy cX9_isHeldBy 6 (some .boolean)) rmX9_isHeldBy [.int a0, .int a1, .int a2, .int a3] Z M (.inl (some (.int r))) Z M' := by
  unfold fX9_isHeldBy at h
  refine CT.of hl (by decide) (Nat.le_of_ble_eq_true rfl) ?_
  intro p e s m args below meth c C hnm
  refine j_sub (L' := [(0, .int a0), (1, .int a1), (2, .int a2), (3, .int a3)]) [0, 1, 2, 3] rfl ?_
  refine j_iconst C dX9_isHeldBy_0 (v := (0 : Int32)) (by decide) ?_
  refine j_istore C dX9_isHeldBy_1 (by decide) (L' := [(4, .int (0 : Int32)), (0, .int a0), (1, .int a1), (2, .int a2), (3, .int a3)]) rfl ?_
  refine j_iconst C dX9_isHeldBy_3 (v := (1 : Int32)) (by decide) ?_
  refine j_istore C dX9_isHeldBy_4 (by decide) (L' := [(5, .int (1 : Int32)), (4, .int (0 : Int32)), (0, .int a0), (1, .int a1), (2, .int a2), (3, .int a3)]) rfl ?_
  refine j_sub (L' := [(0, .int a0), (1, .int a1), (2, .int a2), (3, .int a3), (4, .int (0 : Int32)), (5, .int (1 : Int32))]) [2, 3, 4, 5, 1, 0] rfl ?_
  exact tX9_isHeldBy_6 C hnm N Z N a0 a1 a2 a3 (0 : Int32) (1 : Int32) M _ _ h
-- ScaffoldPlannerModel isHeld
theorem kcRX9_80 : okV RX9 80 yX9_postHigh (.code yX9_postHigh cX9_postHigh 2 (some .int)) = true := by decide +kernel
theorem oyX9_postHigh : okY yX9_postHigh 1 := ⟨by decide +kernel, by decide +kernel, by decide +kernel⟩
theorem kcRX9_83 : okS RX9 83 yX9_isHeldBy (.code yX9_isHeldBy cX9_isHeldBy 6 (some .boolean)) = true := by decide +kernel
theorem oyX9_isHeldBy : okY yX9_isHeldBy 4 := ⟨by decide +kernel, by decide +kernel, by decide +kernel⟩
abbrev rmX9_isHeld : Room := { frames := 2, cells := 0, slots := 0, locals := 42 }
theorem dX9_isHeld_0 : decode cX9_isHeld 0 = .ok (.aload_n 0, 1) := by decide +kernel
theorem dX9_isHeld_1 : decode cX9_isHeld 1 = .ok (.iload_n 1, 1) := by decide +kernel
theorem dX9_isHeld_2 : decode cX9_isHeld 2 = .ok (.invokevirtual 80, 3) := by decide +kernel
theorem dX9_isHeld_5 : decode cX9_isHeld 5 = .ok (.aload_n 0, 1) := by decide +kernel
theorem dX9_isHeld_6 : decode cX9_isHeld 6 = .ok (.getfield 7, 3) := by decide +kernel
theorem dX9_isHeld_9 : decode cX9_isHeld 9 = .ok (.bipush 111, 2) := by decide +kernel
theorem dX9_isHeld_11 : decode cX9_isHeld 11 = .ok (.iload_n 1, 1) := by decide +kernel
theorem dX9_isHeld_12 : decode cX9_isHeld 12 = .ok (.iadd, 1) := by decide +kernel
theorem dX9_isHeld_13 : decode cX9_isHeld 13 = .ok (.iaload, 1) := by decide +kernel
theorem dX9_isHeld_14 : decode cX9_isHeld 14 = .ok (.aload_n 0, 1) := by decide +kernel
theorem dX9_isHeld_15 : decode cX9_isHeld 15 = .ok (.getfield 7, 3) := by decide +kernel
theorem dX9_isHeld_18 : decode cX9_isHeld 18 = .ok (.iconst 1, 1) := by decide +kernel
theorem dX9_isHeld_19 : decode cX9_isHeld 19 = .ok (.iaload, 1) := by decide +kernel
theorem dX9_isHeld_20 : decode cX9_isHeld 20 = .ok (.aload_n 0, 1) := by decide +kernel
theorem dX9_isHeld_21 : decode cX9_isHeld 21 = .ok (.getfield 7, 3) := by decide +kernel
theorem dX9_isHeld_24 : decode cX9_isHeld 24 = .ok (.iconst 2, 1) := by decide +kernel
theorem dX9_isHeld_25 : decode cX9_isHeld 25 = .ok (.iaload, 1) := by decide +kernel
theorem dX9_isHeld_26 : decode cX9_isHeld 26 = .ok (.invokestatic 83, 3) := by decide +kernel
theorem dX9_isHeld_29 : decode cX9_isHeld 29 = .ok (.ireturn, 1) := by decide +kernel
def fX9_isHeld (N : Nat) (Z : mZ) (a0 : Nat) (a1 : Int32) (M : mM) : Option (Int32 × mM) := ck (okO Z a0 9) (bnd2 (fX9_postHigh N Z a0 a1 M) (fun r2 M2 => bnd1 (Z.2.2.2 a0 0) (fun c3 => ck (okI Z c3) (ck (inB ((111 : Int32) + a1) (Z.2.2.1 c3)) (ck (inB (1 : Int32) (Z.2.2.1 c3)) (ck (inB (2 : Int32) (Z.2.2.1 c3)) (bnd2 (fX9_isHeldBy N Z r2 (M2.1 c3 (((111 : Int32) + a1)).toNatClampNeg) (M2.1 c3 ((1 : Int32)).toNatClampNeg) (M2.1 c3 ((2 : Int32)).toNatClampNeg) M2) (fun r8 M8 => ck (isB r8) (some (r8, M8))))))))))
set_option maxHeartbeats 4000000 in
set_option maxRecDepth 100000 in
theorem ctX9_isHeld {G : mG} {l : Launch} (hl : l.stackTraces = false) (N : Nat) (Z : mZ) {a0 : Nat} {a1 : Int32} {M : mM} {r : Int32} {M' : mM} (h : fX9_isHeld N Z a0 a1 M = some (r, M')) : CT G l yX9_isHeld (.code yX9_isHeld cX9_isHeld 2 (some .boolean)) rmX9_isHeld [.ref a0, .int a1] Z M (.inl (some (.int r))) Z M' := by
  unfold fX9_isHeld at h
  refine CT.of hl (by decide) (Nat.le_of_ble_eq_true rfl) ?_
  intro p e s m args below meth c C hnm
  refine j_sub (L' := [(0, .ref a0), (1, .int a1)]) [0, 1] rfl ?_
  refine j_aload_n C dX9_isHeld_0 rfl 0 rfl ?_
  refine j_iload_n C dX9_isHeld_1 rfl 1 rfl ?_
  obtain ⟨ho1, h⟩ := ck_spec h
  obtain ⟨r2, M2, hq2, h⟩ := bnd2_spec h
  refine j_run1 (c_V C (As := [.int a1]) (rest := []) (ctX9_postHigh C.2.2.2.2.2.2.2.2.1 N Z hq2) kcRX9_80 oyX9_postHigh (ci := 9) (T := TX9) (N := 23) rfl (by decide) ho1 ⟨by decide, by decide⟩ ⟨by decide, by decide⟩ (Nat.le_of_ble_eq_true rfl) rfl dX9_isHeld_2) ?_
  refine j_aload_n C dX9_isHeld_5 rfl 0 rfl ?_
  obtain ⟨c3, hr3, h⟩ := bnd1_spec h
  refine j_getR C (cn := RX9) (T := TX9) (N := 23) (ci := 9) rfl iX9 ho1 0 (by decide) rfl fwRX9_7 dX9_isHeld_6 hr3 ?_
  refine j_bipush C dX9_isHeld_9 (v := (111 : Int32)) (by decide) ?_
  refine j_iload_n C dX9_isHeld_11 rfl 1 rfl ?_
  refine j_iadd C dX9_isHeld_12 ?_
  obtain ⟨ho4, h⟩ := ck_spec h
  obtain ⟨ho5, h⟩ := ck_spec h
  refine j_iald C ho4 ho5 dX9_isHeld_13 ?_
  refine j_aload_n C dX9_isHeld_14 rfl 0 rfl ?_
  refine j_getR C (cn := RX9) (T := TX9) (N := 23) (ci := 9) rfl iX9 ho1 0 (by decide) rfl fwRX9_7 dX9_isHeld_15 hr3 ?_
  refine j_iconst C dX9_isHeld_18 (v := (1 : Int32)) (by decide) ?_
  obtain ⟨ho6, h⟩ := ck_spec h
  refine j_iald C ho4 ho6 dX9_isHeld_19 ?_
  refine j_aload_n C dX9_isHeld_20 rfl 0 rfl ?_
  refine j_getR C (cn := RX9) (T := TX9) (N := 23) (ci := 9) rfl iX9 ho1 0 (by decide) rfl fwRX9_7 dX9_isHeld_21 hr3 ?_
  refine j_iconst C dX9_isHeld_24 (v := (2 : Int32)) (by decide) ?_
  obtain ⟨ho7, h⟩ := ck_spec h
  refine j_iald C ho4 ho7 dX9_isHeld_25 ?_
  obtain ⟨r8, M8, hq8, h⟩ := bnd2_spec h
  refine j_run1 (c_S C (As := [.int r2, .int (M2.1 c3 (((111 : Int32) + a1)).toNatClampNeg), .int (M2.1 c3 ((1 : Int32)).toNatClampNeg), .int (M2.1 c3 ((2 : Int32)).toNatClampNeg)]) (rest := []) (ctX9_isHeldBy C.2.2.2.2.2.2.2.2.1 N Z hq8) kcRX9_83 oyX9_isHeldBy ⟨by decide, by decide⟩ ⟨by decide, by decide⟩ (Nat.le_of_ble_eq_true rfl) rfl dX9_isHeld_26) ?_
  obtain ⟨ho9, h⟩ := ck_spec h
  cases h
  exact j_zret C rfl (isB_spec ho9) (by decide) (by decide) dX9_isHeld_29
-- ScaffoldPlannerModel isBraced
theorem kcRX9_87 : okV RX9 87 yX9_has (.code yX9_has cX9_has 4 (some .boolean)) = true := by decide +kernel
theorem oyX9_has : okY yX9_has 3 := ⟨by decide +kernel, by decide +kernel, by decide +kernel⟩
theorem kcRX9_90 : okV RX9 90 yX9_right (.code yX9_right cX9_right 2 (some .int)) = true := by decide +kernel
theorem oyX9_right : okY yX9_right 1 := ⟨by decide +kernel, by decide +kernel, by decide +kernel⟩
abbrev rmX9_isBraced : Room := { frames := 2, cells := 0, slots := 0, locals := 45 }
theorem dX9_isBraced_0 : decode cX9_isBraced 0 = .ok (.aload_n 0, 1) := by decide +kernel
theorem dX9_isBraced_1 : decode cX9_isBraced 1 = .ok (.bipush 91, 2) := by decide +kernel
theorem dX9_isBraced_3 : decode cX9_isBraced 3 = .ok (.iload_n 1, 1) := by decide +kernel
theorem dX9_isBraced_4 : decode cX9_isBraced 4 = .ok (.iload_n 2, 1) := by decide +kernel
theorem dX9_isBraced_5 : decode cX9_isBraced 5 = .ok (.invokevirtual 87, 3) := by decide +kernel
theorem dX9_isBraced_8 : decode cX9_isBraced 8 = .ok (.ifCond .ne 33, 3) := by decide +kernel
theorem dX9_isBraced_11 : decode cX9_isBraced 11 = .ok (.aload_n 0, 1) := by decide +kernel
theorem dX9_isBraced_12 : decode cX9_isBraced 12 = .ok (.bipush 91, 2) := by decide +kernel
theorem dX9_isBraced_14 : decode cX9_isBraced 14 = .ok (.aload_n 0, 1) := by decide +kernel
theorem dX9_isBraced_15 : decode cX9_isBraced 15 = .ok (.iload_n 1, 1) := by decide +kernel
theorem dX9_isBraced_16 : decode cX9_isBraced 16 = .ok (.invokevirtual 73, 3) := by decide +kernel
theorem dX9_isBraced_19 : decode cX9_isBraced 19 = .ok (.iload_n 2, 1) := by decide +kernel
theorem dX9_isBraced_20 : decode cX9_isBraced 20 = .ok (.invokevirtual 87, 3) := by decide +kernel
theorem dX9_isBraced_23 : decode cX9_isBraced 23 = .ok (.ifCond .ne 18, 3) := by decide +kernel
theorem dX9_isBraced_26 : decode cX9_isBraced 26 = .ok (.aload_n 0, 1) := by decide +kernel
theorem dX9_isBraced_27 : decode cX9_isBraced 27 = .ok (.bipush 91, 2) := by decide +kernel
theorem dX9_isBraced_29 : decode cX9_isBraced 29 = .ok (.aload_n 0, 1) := by decide +kernel
theorem dX9_isBraced_30 : decode cX9_isBraced 30 = .ok (.iload_n 1, 1) := by decide +kernel
theorem dX9_isBraced_31 : decode cX9_isBraced 31 = .ok (.invokevirtual 90, 3) := by decide +kernel
theorem dX9_isBraced_34 : decode cX9_isBraced 34 = .ok (.iload_n 2, 1) := by decide +kernel
theorem dX9_isBraced_35 : decode cX9_isBraced 35 = .ok (.invokevirtual 87, 3) := by decide +kernel
theorem dX9_isBraced_38 : decode cX9_isBraced 38 = .ok (.ifCond .eq 7, 3) := by decide +kernel
theorem dX9_isBraced_41 : decode cX9_isBraced 41 = .ok (.iconst 1, 1) := by decide +kernel
theorem dX9_isBraced_42 : decode cX9_isBraced 42 = .ok (.goto 4, 3) := by decide +kernel
theorem dX9_isBraced_45 : decode cX9_isBraced 45 = .ok (.iconst 0, 1) := by decide +kernel
theorem dX9_isBraced_46 : decode cX9_isBraced 46 = .ok (.ireturn, 1) := by decide +kernel
def fX9_isBraced (N : Nat) (Z : mZ) (a0 : Nat) (a1 : Int32) (a2 : Int32) (M : mM) : Option (Int32 × mM) := ck (okO Z a0 9) (bnd2 (fX9_has N Z a0 (91 : Int32) a1 a2 M) (fun r2 M2 => if r2 = 0 then bnd2 (fX9_left N Z a0 a1 M2) (fun r4 M4 => bnd2 (fX9_has N Z a0 (91 : Int32) r4 a2 M4) (fun r5 M5 => if r5 = 0 then bnd2 (fX9_right N Z a0 a1 M5) (fun r7 M7 => bnd2 (fX9_has N Z a0 (91 : Int32) r7 a2 M7) (fun r8 M8 => if r8 = 0 then some ((0 : Int32), M8) else some ((1 : Int32), M8))) else some ((1 : Int32), M5))) else some ((1 : Int32), M2)))
set_option maxHeartbeats 4000000 in
set_option maxRecDepth 100000 in
theorem ctX9_isBraced {G : mG} {l : Launch} (hl : l.stackTraces = false) (N : Nat) (Z : mZ) {a0 : Nat} {a1 : Int32} {a2 : Int32} {M : mM} {r : Int32} {M' : mM} (h : fX9_isBraced N Z a0 a1 a2 M = some (r, M')) : CT G l yX9_isBraced (.code yX9_isBraced cX9_isBraced 3 (some .boolean)) rmX9_isBraced [.ref a0, .int a1, .int a2] Z M (.inl (some (.int r))) Z M' := by
  unfold fX9_isBraced at h
  refine CT.of hl (by decide) (Nat.le_of_ble_eq_true rfl) ?_
  intro p e s m args below meth c C hnm
  refine j_sub (L' := [(0, .ref a0), (1, .int a1), (2, .int a2)]) [0, 1, 2] rfl ?_
  refine j_aload_n C dX9_isBraced_0 rfl 0 rfl ?_
  refine j_bipush C dX9_isBraced_1 (v := (91 : Int32)) (by decide) ?_
  refine j_iload_n C dX9_isBraced_3 rfl 1 rfl ?_
  refine j_iload_n C dX9_isBraced_4 rfl 2 rfl ?_
  obtain ⟨ho1, h⟩ := ck_spec h
  obtain ⟨r2, M2, hq2, h⟩ := bnd2_spec h
  refine j_run1 (c_V C (As := [.int (91 : Int32), .int a1, .int a2]) (rest := []) (ctX9_has C.2.2.2.2.2.2.2.2.1 N Z hq2) kcRX9_87 oyX9_has (ci := 9) (T := TX9) (N := 23) rfl (by decide) ho1 ⟨by decide, by decide⟩ ⟨by decide, by decide⟩ (Nat.le_of_ble_eq_true rfl) rfl dX9_isBraced_5) ?_
  refine j_if_ne C dX9_isBraced_8 (tgt := 41) (by decide) (fun hc3 => ?_) (fun hc3 => ?_)
  · rw [if_neg hc3] at h
    refine j_iconst C dX9_isBraced_41 (v := (1 : Int32)) (by decide) ?_
    refine j_goto C dX9_isBraced_42 (tgt := 46) (by decide) ?_
    cases h
    exact j_zret C rfl (by decide) (by decide) (by decide) dX9_isBraced_46
  · rw [if_pos hc3] at h
    refine j_aload_n C dX9_isBraced_11 rfl 0 rfl ?_
    refine j_bipush C dX9_isBraced_12 (v := (91 : Int32)) (by decide) ?_
    refine j_aload_n C dX9_isBraced_14 rfl 0 rfl ?_
    refine j_iload_n C dX9_isBraced_15 rfl 1 rfl ?_
    obtain ⟨r4, M4, hq4, h⟩ := bnd2_spec h
    refine j_run1 (c_V C (As := [.int a1]) (rest := [.int (91 : Int32), .ref a0]) (ctX9_left C.2.2.2.2.2.2.2.2.1 N Z hq4) kcRX9_73 oyX9_left (ci := 9) (T := TX9) (N := 23) rfl (by decide) ho1 ⟨by decide, by decide⟩ ⟨by decide, by decide⟩ (Nat.le_of_ble_eq_true rfl) rfl dX9_isBraced_16) ?_
    refine j_iload_n C dX9_isBraced_19 rfl 2 rfl ?_
    obtain ⟨r5, M5, hq5, h⟩ := bnd2_spec h
    refine j_run1 (c_V C (As := [.int (91 : Int32), .int r4, .int a2]) (rest := []) (ctX9_has C.2.2.2.2.2.2.2.2.1 N Z hq5) kcRX9_87 oyX9_has (ci := 9) (T := TX9) (N := 23) rfl (by decide) ho1 ⟨by decide, by decide⟩ ⟨by decide, by decide⟩ (Nat.le_of_ble_eq_true rfl) rfl dX9_isBraced_20) ?_
    refine j_if_ne C dX9_isBraced_23 (tgt := 41) (by decide) (fun hc6 => ?_) (fun hc6 => ?_)
    · rw [if_neg hc6] at h
      refine j_iconst C dX9_isBraced_41 (v := (1 : Int32)) (by decide) ?_
      refine j_goto C dX9_isBraced_42 (tgt := 46) (by decide) ?_
      cases h
      exact j_zret C rfl (by decide) (by decide) (by decide) dX9_isBraced_46
    · rw [if_pos hc6] at h
      refine j_aload_n C dX9_isBraced_26 rfl 0 rfl ?_
      refine j_bipush C dX9_isBraced_27 (v := (91 : Int32)) (by decide) ?_
      refine j_aload_n C dX9_isBraced_29 rfl 0 rfl ?_
      refine j_iload_n C dX9_isBraced_30 rfl 1 rfl ?_
      obtain ⟨r7, M7, hq7, h⟩ := bnd2_spec h
      refine j_run1 (c_V C (As := [.int a1]) (rest := [.int (91 : Int32), .ref a0]) (ctX9_right C.2.2.2.2.2.2.2.2.1 N Z hq7) kcRX9_90 oyX9_right (ci := 9) (T := TX9) (N := 23) rfl (by decide) ho1 ⟨by decide, by decide⟩ ⟨by decide, by decide⟩ (Nat.le_of_ble_eq_true rfl) rfl dX9_isBraced_31) ?_
      refine j_iload_n C dX9_isBraced_34 rfl 2 rfl ?_
      obtain ⟨r8, M8, hq8, h⟩ := bnd2_spec h
      refine j_run1 (c_V C (As := [.int (91 : Int32), .int r7, .int a2]) (rest := []) (ctX9_has C.2.2.2.2.2.2.2.2.1 N Z hq8) kcRX9_87 oyX9_has (ci := 9) (T := TX9) (N := 23) rfl (by decide) ho1 ⟨by decide, by decide⟩ ⟨by decide, by decide⟩ (Nat.le_of_ble_eq_true rfl) rfl dX9_isBraced_35) ?_
      refine j_if_eq C dX9_isBraced_38 (tgt := 45) (by decide) (fun hc9 => ?_) (fun hc9 => ?_)
      · rw [if_pos hc9] at h
        refine j_iconst C dX9_isBraced_45 (v := (0 : Int32)) (by decide) ?_
        cases h
        exact j_zret C rfl (by decide) (by decide) (by decide) dX9_isBraced_46
      · rw [if_neg hc9] at h
        refine j_iconst C dX9_isBraced_41 (v := (1 : Int32)) (by decide) ?_
        refine j_goto C dX9_isBraced_42 (tgt := 46) (by decide) ?_
        cases h
        exact j_zret C rfl (by decide) (by decide) (by decide) dX9_isBraced_46
-- ScaffoldPlannerModel classes
theorem kcRX9_93 : okV RX9 93 yX9_deckAt (.code yX9_deckAt cX9_deckAt 3 (some .int)) = true := by decide +kernel
theorem oyX9_deckAt : okY yX9_deckAt 2 := ⟨by decide +kernel, by decide +kernel, by decide +kernel⟩
abbrev rmX9_classes : Room := { frames := 2, cells := 0, slots := 0, locals := 44 }
theorem dX9_classes_0 : decode cX9_classes 0 = .ok (.iconst 0, 1) := by decide +kernel
theorem dX9_classes_1 : decode cX9_classes 1 = .ok (.istore_n 2, 1) := by decide +kernel
theorem dX9_classes_2 : decode cX9_classes 2 = .ok (.iconst 1, 1) := by decide +kernel
theorem dX9_classes_3 : decode cX9_classes 3 = .ok (.istore_n 3, 1) := by decide +kernel
theorem dX9_classes_4 : decode cX9_classes 4 = .ok (.iload_n 3, 1) := by decide +kernel
theorem dX9_classes_5 : decode cX9_classes 5 = .ok (.bipush 6, 2) := by decide +kernel
theorem dX9_classes_7 : decode cX9_classes 7 = .ok (.if_icmp .gt 18, 3) := by decide +kernel
theorem dX9_classes_10 : decode cX9_classes 10 = .ok (.iload_n 2, 1) := by decide +kernel
theorem dX9_classes_11 : decode cX9_classes 11 = .ok (.aload_n 0, 1) := by decide +kernel
theorem dX9_classes_12 : decode cX9_classes 12 = .ok (.iload_n 1, 1) := by decide +kernel
theorem dX9_classes_13 : decode cX9_classes 13 = .ok (.iload_n 3, 1) := by decide +kernel
theorem dX9_classes_14 : decode cX9_classes 14 = .ok (.invokevirtual 93, 3) := by decide +kernel
theorem dX9_classes_17 : decode cX9_classes 17 = .ok (.iadd, 1) := by decide +kernel
theorem dX9_classes_18 : decode cX9_classes 18 = .ok (.istore_n 2, 1) := by decide +kernel
theorem dX9_classes_19 : decode cX9_classes 19 = .ok (.iinc 3 1, 3) := by decide +kernel
theorem dX9_classes_22 : decode cX9_classes 22 = .ok (.goto (-18), 3) := by decide +kernel
theorem dX9_classes_25 : decode cX9_classes 25 = .ok (.iload_n 2, 1) := by decide +kernel
theorem dX9_classes_26 : decode cX9_classes 26 = .ok (.ireturn, 1) := by decide +kernel
def fX9_classes_4 (N : Nat) (Z : mZ) : Nat → Nat → Int32 → Int32 → Int32 → mM → Option (Int32 × mM)
  | 0, _, _, _, _, _ => none
  | fu + 1, v0, v1, v2, v3, M => if (6 : Int32) < v3 then some (v2, M) else ck (okO Z v0 9) (bnd2 (fX9_deckAt N Z v0 v1 v3 M) (fun r3 M3 => fX9_classes_4 N Z fu v0 v1 (v2 + r3) (v3 + (1 : Int32)) M3))
set_option maxHeartbeats 4000000 in
set_option maxRecDepth 100000 in
theorem tX9_classes_4 {G : mG} {p : Program} {l : Launch} {e : Env} {s : State} {m : MethodId} {args : Array Value} {below : List Frame} {meth : Method} {c : Code} (C : Cx G p l s m args meth c RX9 cX9_classes 4 (some .int) []) (hnm : meth.name = yX9_classes.name) (N : Nat) (Z : mZ) : ∀ (fu : Nat) (v0 : Nat) (v1 : Int32) (v2 : Int32) (v3 : Int32) (M : mM) (r : Int32) (M' : mM), fX9_classes_4 N Z fu v0 v1 v2 v3 M = some (r, M') → JJ G p l e rmX9_classes s m args below meth c 4 (mEnd G below args s rmX9_classes (.inl (some (.int r))) Z M') 0 0 4 [(0, .ref v0), (1, .int v1), (2, .int v2), (3, .int v3)] [] Z M := by
  intro fu
  induction fu with
  | zero =>
    intro v0 v1 v2 v3 M r M' h
    cases h
  | succ fu ih =>
    intro v0 v1 v2 v3 M r M' h
    rw [fX9_classes_4] at h
    refine j_iload_n C dX9_classes_4 rfl 3 rfl ?_
    refine j_bipush C dX9_classes_5 (v := (6 : Int32)) (by decide) ?_
    refine j_icmp_gt C dX9_classes_7 (tgt := 25) (by decide) (fun hc1 => ?_) (fun hc1 => ?_)
    · rw [if_pos hc1] at h
      refine j_iload_n C dX9_classes_25 rfl 2 rfl ?_
      cases h
      exact j_iret C rfl (by decide) (by decide) dX9_classes_26
    · rw [if_neg hc1] at h
      refine j_iload_n C dX9_classes_10 rfl 2 rfl ?_
      refine j_aload_n C dX9_classes_11 rfl 0 rfl ?_
      refine j_iload_n C dX9_classes_12 rfl 1 rfl ?_
      refine j_iload_n C dX9_classes_13 rfl 3 rfl ?_
      obtain ⟨ho2, h⟩ := ck_spec h
      obtain ⟨r3, M3, hq3, h⟩ := bnd2_spec h
      refine j_run1 (c_V C (As := [.int v1, .int v3]) (rest := [.int v2]) (ctX9_deckAt C.2.2.2.2.2.2.2.2.1 N Z hq3) kcRX9_93 oyX9_deckAt (ci := 9) (T := TX9) (N := 23) rfl (by decide) ho2 ⟨by decide, by decide⟩ ⟨by decide, by decide⟩ (Nat.le_of_ble_eq_true rfl) rfl dX9_classes_14) ?_
      refine j_iadd C dX9_classes_17 ?_
      refine j_istore_n C dX9_classes_18 rfl (by decide) (L' := [(2, .int (v2 + r3)), (0, .ref v0), (1, .int v1), (3, .int v3)]) rfl ?_
      refine j_iinc C dX9_classes_19 3 rfl (v := (v3 + (1 : Int32))) (by first | rfl | decide) (by decide) (L' := [(3, .int (v3 + (1 : Int32))), (2, .int (v2 + r3)), (0, .ref v0), (1, .int v1)]) rfl ?_
      refine j_goto C dX9_classes_22 (tgt := 4) (by decide) ?_
      refine j_sub (L' := [(0, .ref v0), (1, .int v1), (2, .int (v2 + r3)), (3, .int (v3 + (1 : Int32)))]) [2, 3, 1, 0] rfl ?_
      exact ih v0 v1 (v2 + r3) (v3 + (1 : Int32)) M3 r M' h
def fX9_classes (N : Nat) (Z : mZ) (a0 : Nat) (a1 : Int32) (M : mM) : Option (Int32 × mM) := fX9_classes_4 N Z N a0 a1 (0 : Int32) (1 : Int32) M
set_option maxHeartbeats 4000000 in
set_option maxRecDepth 100000 in
theorem ctX9_classes {G : mG} {l : Launch} (hl : l.stackTraces = false) (N : Nat) (Z : mZ) {a0 : Nat} {a1 : Int32} {M : mM} {r : Int32} {M' : mM} (h : fX9_classes N Z a0 a1 M = some (r, M')) : CT G l yX9_classes (.code yX9_classes cX9_classes 4 (some .int)) rmX9_classes [.ref a0, .int a1] Z M (.inl (some (.int r))) Z M' := by
  unfold fX9_classes at h
  refine CT.of hl (by decide) (Nat.le_of_ble_eq_true rfl) ?_
  intro p e s m args below meth c C hnm
  refine j_sub (L' := [(0, .ref a0), (1, .int a1)]) [0, 1] rfl ?_
  refine j_iconst C dX9_classes_0 (v := (0 : Int32)) (by decide) ?_
  refine j_istore_n C dX9_classes_1 rfl (by decide) (L' := [(2, .int (0 : Int32)), (0, .ref a0), (1, .int a1)]) rfl ?_
  refine j_iconst C dX9_classes_2 (v := (1 : Int32)) (by decide) ?_
  refine j_istore_n C dX9_classes_3 rfl (by decide) (L' := [(3, .int (1 : Int32)), (2, .int (0 : Int32)), (0, .ref a0), (1, .int a1)]) rfl ?_
  refine j_sub (L' := [(0, .ref a0), (1, .int a1), (2, .int (0 : Int32)), (3, .int (1 : Int32))]) [2, 3, 1, 0] rfl ?_
  exact tX9_classes_4 C hnm N Z N a0 a1 (0 : Int32) (1 : Int32) M _ _ h
-- ScaffoldPlannerModel loadOf
theorem kcRX9_96 : okV RX9 96 yX9_classes (.code yX9_classes cX9_classes 4 (some .int)) = true := by decide +kernel
theorem oyX9_classes : okY yX9_classes 1 := ⟨by decide +kernel, by decide +kernel, by decide +kernel⟩
abbrev rmX9_loadOf : Room := { frames := 3, cells := 0, slots := 0, locals := 67 }
theorem dX9_loadOf_0 : decode cX9_loadOf 0 = .ok (.bipush 20, 2) := by decide +kernel
theorem dX9_loadOf_2 : decode cX9_loadOf 2 = .ok (.aload_n 0, 1) := by decide +kernel
theorem dX9_loadOf_3 : decode cX9_loadOf 3 = .ok (.iload_n 1, 1) := by decide +kernel
theorem dX9_loadOf_4 : decode cX9_loadOf 4 = .ok (.invokevirtual 80, 3) := by decide +kernel
theorem dX9_loadOf_7 : decode cX9_loadOf 7 = .ok (.imul, 1) := by decide +kernel
theorem dX9_loadOf_8 : decode cX9_loadOf 8 = .ok (.bipush 50, 2) := by decide +kernel
theorem dX9_loadOf_10 : decode cX9_loadOf 10 = .ok (.aload_n 0, 1) := by decide +kernel
theorem dX9_loadOf_11 : decode cX9_loadOf 11 = .ok (.iload_n 1, 1) := by decide +kernel
theorem dX9_loadOf_12 : decode cX9_loadOf 12 = .ok (.invokevirtual 96, 3) := by decide +kernel
theorem dX9_loadOf_15 : decode cX9_loadOf 15 = .ok (.aload_n 0, 1) := by decide +kernel
theorem dX9_loadOf_16 : decode cX9_loadOf 16 = .ok (.aload_n 0, 1) := by decide +kernel
theorem dX9_loadOf_17 : decode cX9_loadOf 17 = .ok (.iload_n 1, 1) := by decide +kernel
theorem dX9_loadOf_18 : decode cX9_loadOf 18 = .ok (.invokevirtual 73, 3) := by decide +kernel
theorem dX9_loadOf_21 : decode cX9_loadOf 21 = .ok (.invokevirtual 96, 3) := by decide +kernel
theorem dX9_loadOf_24 : decode cX9_loadOf 24 = .ok (.iadd, 1) := by decide +kernel
theorem dX9_loadOf_25 : decode cX9_loadOf 25 = .ok (.imul, 1) := by decide +kernel
theorem dX9_loadOf_26 : decode cX9_loadOf 26 = .ok (.iadd, 1) := by decide +kernel
theorem dX9_loadOf_27 : decode cX9_loadOf 27 = .ok (.ireturn, 1) := by decide +kernel
def fX9_loadOf (N : Nat) (Z : mZ) (a0 : Nat) (a1 : Int32) (M : mM) : Option (Int32 × mM) := ck (okO Z a0 9) (bnd2 (fX9_postHigh N Z a0 a1 M) (fun r2 M2 => bnd2 (fX9_classes N Z a0 a1 M2) (fun r3 M3 => bnd2 (fX9_left N Z a0 a1 M3) (fun r4 M4 => bnd2 (fX9_classes N Z a0 r4 M4) (fun r5 M5 => some ((((20 : Int32) * r2) + ((50 : Int32) * (r3 + r5))), M5))))))
set_option maxHeartbeats 4000000 in
set_option maxRecDepth 100000 in
theorem ctX9_loadOf {G : mG} {l : Launch} (hl : l.stackTraces = false) (N : Nat) (Z : mZ) {a0 : Nat} {a1 : Int32} {M : mM} {r : Int32} {M' : mM} (h : fX9_loadOf N Z a0 a1 M = some (r, M')) : CT G l yX9_loadOf (.code yX9_loadOf cX9_loadOf 2 (some .int)) rmX9_loadOf [.ref a0, .int a1] Z M (.inl (some (.int r))) Z M' := by
  unfold fX9_loadOf at h
  refine CT.of hl (by decide) (Nat.le_of_ble_eq_true rfl) ?_
  intro p e s m args below meth c C hnm
  refine j_sub (L' := [(0, .ref a0), (1, .int a1)]) [0, 1] rfl ?_
  refine j_bipush C dX9_loadOf_0 (v := (20 : Int32)) (by decide) ?_
  refine j_aload_n C dX9_loadOf_2 rfl 0 rfl ?_
  refine j_iload_n C dX9_loadOf_3 rfl 1 rfl ?_
  obtain ⟨ho1, h⟩ := ck_spec h
  obtain ⟨r2, M2, hq2, h⟩ := bnd2_spec h
  refine j_run1 (c_V C (As := [.int a1]) (rest := [.int (20 : Int32)]) (ctX9_postHigh C.2.2.2.2.2.2.2.2.1 N Z hq2) kcRX9_80 oyX9_postHigh (ci := 9) (T := TX9) (N := 23) rfl (by decide) ho1 ⟨by decide, by decide⟩ ⟨by decide, by decide⟩ (Nat.le_of_ble_eq_true rfl) rfl dX9_loadOf_4) ?_
  refine j_imul C dX9_loadOf_7 ?_
  refine j_bipush C dX9_loadOf_8 (v := (50 : Int32)) (by decide) ?_
  refine j_aload_n C dX9_loadOf_10 rfl 0 rfl ?_
  refine j_iload_n C dX9_loadOf_11 rfl 1 rfl ?_
  obtain ⟨r3, M3, hq3, h⟩ := bnd2_spec h
  refine j_run1 (c_V C (As := [.int a1]) (rest := [.int (50 : Int32), .int ((20 : Int32) * r2)]) (ctX9_classes C.2.2.2.2.2.2.2.2.1 N Z hq3) kcRX9_96 oyX9_classes (ci := 9) (T := TX9) (N := 23) rfl (by decide) ho1 ⟨by decide, by decide⟩ ⟨by decide, by decide⟩ (Nat.le_of_ble_eq_true rfl) rfl dX9_loadOf_12) ?_
  refine j_aload_n C dX9_loadOf_15 rfl 0 rfl ?_
  refine j_aload_n C dX9_loadOf_16 rfl 0 rfl ?_
  refine j_iload_n C dX9_loadOf_17 rfl 1 rfl ?_
  obtain ⟨r4, M4, hq4, h⟩ := bnd2_spec h
  refine j_run1 (c_V C (As := [.int a1]) (rest := [.ref a0, .int r3, .int (50 : Int32), .int ((20 : Int32) * r2)]) (ctX9_left C.2.2.2.2.2.2.2.2.1 N Z hq4) kcRX9_73 oyX9_left (ci := 9) (T := TX9) (N := 23) rfl (by decide) ho1 ⟨by decide, by decide⟩ ⟨by decide, by decide⟩ (Nat.le_of_ble_eq_true rfl) rfl dX9_loadOf_18) ?_
  obtain ⟨r5, M5, hq5, h⟩ := bnd2_spec h
  refine j_run1 (c_V C (As := [.int r4]) (rest := [.int r3, .int (50 : Int32), .int ((20 : Int32) * r2)]) (ctX9_classes C.2.2.2.2.2.2.2.2.1 N Z hq5) kcRX9_96 oyX9_classes (ci := 9) (T := TX9) (N := 23) rfl (by decide) ho1 ⟨by decide, by decide⟩ ⟨by decide, by decide⟩ (Nat.le_of_ble_eq_true rfl) rfl dX9_loadOf_21) ?_
  refine j_iadd C dX9_loadOf_24 ?_
  refine j_imul C dX9_loadOf_25 ?_
  refine j_iadd C dX9_loadOf_26 ?_
  cases h
  exact j_iret C rfl (by decide) (by decide) dX9_loadOf_27
-- ScaffoldPlannerModel wrong
theorem kcRX9_110 : okV RX9 110 yX9_loadOf (.code yX9_loadOf cX9_loadOf 2 (some .int)) = true := by decide +kernel
theorem oyX9_loadOf : okY yX9_loadOf 1 := ⟨by decide +kernel, by decide +kernel, by decide +kernel⟩
theorem fwRX9_103 : Cond.fieldLink RX9 103 RX9 (TX9 10).2.1 (TX9 10).2.2.1 ∈ gw := by decide +kernel
theorem kcRX9_106 : okV RX9 106 yX9_isBraced (.code yX9_isBraced cX9_isBraced 3 (some .boolean)) = true := by decide +kernel
theorem oyX9_isBraced : okY yX9_isBraced 2 := ⟨by decide +kernel, by decide +kernel, by decide +kernel⟩
theorem kcRX9_99 : okV RX9 99 yX9_isHeld (.code yX9_isHeld cX9_isHeld 2 (some .boolean)) = true := by decide +kernel
theorem oyX9_isHeld : okY yX9_isHeld 1 := ⟨by decide +kernel, by decide +kernel, by decide +kernel⟩
abbrev rmX9_wrong : Room := { frames := 4, cells := 0, slots := 0, locals := 88 }
theorem dX9_wrong_0 : decode cX9_wrong 0 = .ok (.iconst 0, 1) := by decide +kernel
theorem dX9_wrong_1 : decode cX9_wrong 1 = .ok (.istore_n 1, 1) := by decide +kernel
theorem dX9_wrong_2 : decode cX9_wrong 2 = .ok (.iload_n 1, 1) := by decide +kernel
theorem dX9_wrong_3 : decode cX9_wrong 3 = .ok (.aload_n 0, 1) := by decide +kernel
theorem dX9_wrong_4 : decode cX9_wrong 4 = .ok (.getfield 7, 3) := by decide +kernel
theorem dX9_wrong_7 : decode cX9_wrong 7 = .ok (.iconst 0, 1) := by decide +kernel
theorem dX9_wrong_8 : decode cX9_wrong 8 = .ok (.iaload, 1) := by decide +kernel
theorem dX9_wrong_9 : decode cX9_wrong 9 = .ok (.if_icmp .ge 25, 3) := by decide +kernel
theorem dX9_wrong_12 : decode cX9_wrong 12 = .ok (.aload_n 0, 1) := by decide +kernel
theorem dX9_wrong_13 : decode cX9_wrong 13 = .ok (.iload_n 1, 1) := by decide +kernel
theorem dX9_wrong_14 : decode cX9_wrong 14 = .ok (.invokevirtual 99, 3) := by decide +kernel
theorem dX9_wrong_17 : decode cX9_wrong 17 = .ok (.ifCond .ne 11, 3) := by decide +kernel
theorem dX9_wrong_20 : decode cX9_wrong 20 = .ok (.aload_n 0, 1) := by decide +kernel
theorem dX9_wrong_21 : decode cX9_wrong 21 = .ok (.iload_n 1, 1) := by decide +kernel
theorem dX9_wrong_22 : decode cX9_wrong 22 = .ok (.putfield 103, 3) := by decide +kernel
theorem dX9_wrong_25 : decode cX9_wrong 25 = .ok (.bipush 6, 2) := by decide +kernel
theorem dX9_wrong_27 : decode cX9_wrong 27 = .ok (.ireturn, 1) := by decide +kernel
theorem dX9_wrong_28 : decode cX9_wrong 28 = .ok (.iinc 1 1, 3) := by decide +kernel
theorem dX9_wrong_31 : decode cX9_wrong 31 = .ok (.goto (-29), 3) := by decide +kernel
theorem dX9_wrong_34 : decode cX9_wrong 34 = .ok (.iconst 0, 1) := by decide +kernel
theorem dX9_wrong_35 : decode cX9_wrong 35 = .ok (.istore_n 1, 1) := by decide +kernel
theorem dX9_wrong_36 : decode cX9_wrong 36 = .ok (.iload_n 1, 1) := by decide +kernel
theorem dX9_wrong_37 : decode cX9_wrong 37 = .ok (.aload_n 0, 1) := by decide +kernel
theorem dX9_wrong_38 : decode cX9_wrong 38 = .ok (.getfield 7, 3) := by decide +kernel
theorem dX9_wrong_41 : decode cX9_wrong 41 = .ok (.iconst 0, 1) := by decide +kernel
theorem dX9_wrong_42 : decode cX9_wrong 42 = .ok (.iaload, 1) := by decide +kernel
theorem dX9_wrong_43 : decode cX9_wrong 43 = .ok (.if_icmp .ge 43, 3) := by decide +kernel
theorem dX9_wrong_46 : decode cX9_wrong 46 = .ok (.iconst 1, 1) := by decide +kernel
theorem dX9_wrong_47 : decode cX9_wrong 47 = .ok (.istore_n 2, 1) := by decide +kernel
theorem dX9_wrong_48 : decode cX9_wrong 48 = .ok (.iload_n 2, 1) := by decide +kernel
theorem dX9_wrong_49 : decode cX9_wrong 49 = .ok (.aload_n 0, 1) := by decide +kernel
theorem dX9_wrong_50 : decode cX9_wrong 50 = .ok (.iload_n 1, 1) := by decide +kernel
theorem dX9_wrong_51 : decode cX9_wrong 51 = .ok (.invokevirtual 69, 3) := by decide +kernel
theorem dX9_wrong_54 : decode cX9_wrong 54 = .ok (.if_icmp .ge 26, 3) := by decide +kernel
theorem dX9_wrong_57 : decode cX9_wrong 57 = .ok (.aload_n 0, 1) := by decide +kernel
theorem dX9_wrong_58 : decode cX9_wrong 58 = .ok (.iload_n 1, 1) := by decide +kernel
theorem dX9_wrong_59 : decode cX9_wrong 59 = .ok (.iload_n 2, 1) := by decide +kernel
theorem dX9_wrong_60 : decode cX9_wrong 60 = .ok (.invokevirtual 106, 3) := by decide +kernel
theorem dX9_wrong_63 : decode cX9_wrong 63 = .ok (.ifCond .ne 11, 3) := by decide +kernel
theorem dX9_wrong_66 : decode cX9_wrong 66 = .ok (.aload_n 0, 1) := by decide +kernel
theorem dX9_wrong_67 : decode cX9_wrong 67 = .ok (.iload_n 1, 1) := by decide +kernel
theorem dX9_wrong_68 : decode cX9_wrong 68 = .ok (.putfield 103, 3) := by decide +kernel
theorem dX9_wrong_71 : decode cX9_wrong 71 = .ok (.bipush 7, 2) := by decide +kernel
theorem dX9_wrong_73 : decode cX9_wrong 73 = .ok (.ireturn, 1) := by decide +kernel
theorem dX9_wrong_74 : decode cX9_wrong 74 = .ok (.iinc 2 1, 3) := by decide +kernel
theorem dX9_wrong_77 : decode cX9_wrong 77 = .ok (.goto (-29), 3) := by decide +kernel
theorem dX9_wrong_80 : decode cX9_wrong 80 = .ok (.iinc 1 1, 3) := by decide +kernel
theorem dX9_wrong_83 : decode cX9_wrong 83 = .ok (.goto (-47), 3) := by decide +kernel
theorem dX9_wrong_86 : decode cX9_wrong 86 = .ok (.iconst 0, 1) := by decide +kernel
theorem dX9_wrong_87 : decode cX9_wrong 87 = .ok (.istore_n 1, 1) := by decide +kernel
theorem dX9_wrong_88 : decode cX9_wrong 88 = .ok (.iload_n 1, 1) := by decide +kernel
theorem dX9_wrong_89 : decode cX9_wrong 89 = .ok (.aload_n 0, 1) := by decide +kernel
theorem dX9_wrong_90 : decode cX9_wrong 90 = .ok (.getfield 7, 3) := by decide +kernel
theorem dX9_wrong_93 : decode cX9_wrong 93 = .ok (.iconst 0, 1) := by decide +kernel
theorem dX9_wrong_94 : decode cX9_wrong 94 = .ok (.iaload, 1) := by decide +kernel
theorem dX9_wrong_95 : decode cX9_wrong 95 = .ok (.if_icmp .ge 31, 3) := by decide +kernel
theorem dX9_wrong_98 : decode cX9_wrong 98 = .ok (.aload_n 0, 1) := by decide +kernel
theorem dX9_wrong_99 : decode cX9_wrong 99 = .ok (.iload_n 1, 1) := by decide +kernel
theorem dX9_wrong_100 : decode cX9_wrong 100 = .ok (.invokevirtual 110, 3) := by decide +kernel
theorem dX9_wrong_103 : decode cX9_wrong 103 = .ok (.aload_n 0, 1) := by decide +kernel
theorem dX9_wrong_104 : decode cX9_wrong 104 = .ok (.getfield 7, 3) := by decide +kernel
theorem dX9_wrong_107 : decode cX9_wrong 107 = .ok (.iconst 3, 1) := by decide +kernel
theorem dX9_wrong_108 : decode cX9_wrong 108 = .ok (.iaload, 1) := by decide +kernel
theorem dX9_wrong_109 : decode cX9_wrong 109 = .ok (.if_icmp .le 11, 3) := by decide +kernel
theorem dX9_wrong_112 : decode cX9_wrong 112 = .ok (.aload_n 0, 1) := by decide +kernel
theorem dX9_wrong_113 : decode cX9_wrong 113 = .ok (.iload_n 1, 1) := by decide +kernel
theorem dX9_wrong_114 : decode cX9_wrong 114 = .ok (.putfield 103, 3) := by decide +kernel
theorem dX9_wrong_117 : decode cX9_wrong 117 = .ok (.bipush 8, 2) := by decide +kernel
theorem dX9_wrong_119 : decode cX9_wrong 119 = .ok (.ireturn, 1) := by decide +kernel
theorem dX9_wrong_120 : decode cX9_wrong 120 = .ok (.iinc 1 1, 3) := by decide +kernel
theorem dX9_wrong_123 : decode cX9_wrong 123 = .ok (.goto (-35), 3) := by decide +kernel
theorem dX9_wrong_126 : decode cX9_wrong 126 = .ok (.iconst 0, 1) := by decide +kernel
theorem dX9_wrong_127 : decode cX9_wrong 127 = .ok (.ireturn, 1) := by decide +kernel
def fX9_wrong_88 (N : Nat) (Z : mZ) : Nat → Nat → Int32 → mM → Option (Int32 × mM)
  | 0, _, _, _ => none
  | fu + 1, v0, v1, M => ck (okO Z v0 9) (bnd1 (Z.2.2.2 v0 0) (fun c12 => ck (okI Z c12) (ck (inB (0 : Int32) (Z.2.2.1 c12)) (if (M.1 c12 ((0 : Int32)).toNatClampNeg) ≤ v1 then some ((0 : Int32), M) else bnd2 (fX9_loadOf N Z v0 v1 M) (fun r16 M16 => ck (inB (3 : Int32) (Z.2.2.1 c12)) (if r16 ≤ (M16.1 c12 ((3 : Int32)).toNatClampNeg) then fX9_wrong_88 N Z fu v0 (v1 + (1 : Int32)) M16 else some ((8 : Int32), (sI M16 v0 10 v1))))))))
set_option maxHeartbeats 4000000 in
set_option maxRecDepth 100000 in
theorem tX9_wrong_88 {G : mG} {p : Program} {l : Launch} {e : Env} {s : State} {m : MethodId} {args : Array Value} {below : List Frame} {meth : Method} {c : Code} (C : Cx G p l s m args meth c RX9 cX9_wrong 3 (some .int) []) (hnm : meth.name = yX9_wrong.name) (N : Nat) (Z : mZ) : ∀ (fu : Nat) (v0 : Nat) (v1 : Int32) (M : mM) (r : Int32) (M' : mM), fX9_wrong_88 N Z fu v0 v1 M = some (r, M') → JJ G p l e rmX9_wrong s m args below meth c 3 (mEnd G below args s rmX9_wrong (.inl (some (.int r))) Z M') 0 0 88 [(0, .ref v0), (1, .int v1)] [] Z M := by
  intro fu
  induction fu with
  | zero =>
    intro v0 v1 M r M' h
    cases h
  | succ fu ih =>
    intro v0 v1 M r M' h
    rw [fX9_wrong_88] at h
    refine j_iload_n C dX9_wrong_88 rfl 1 rfl ?_
    refine j_aload_n C dX9_wrong_89 rfl 0 rfl ?_
    obtain ⟨ho11, h⟩ := ck_spec h
    obtain ⟨c12, hr12, h⟩ := bnd1_spec h
    refine j_getR C (cn := RX9) (T := TX9) (N := 23) (ci := 9) rfl iX9 ho11 0 (by decide) rfl fwRX9_7 dX9_wrong_90 hr12 ?_
    refine j_iconst C dX9_wrong_93 (v := (0 : Int32)) (by decide) ?_
    obtain ⟨ho13, h⟩ := ck_spec h
    obtain ⟨ho14, h⟩ := ck_spec h
    refine j_iald C ho13 ho14 dX9_wrong_94 ?_
    refine j_icmp_ge C dX9_wrong_95 (tgt := 126) (by decide) (fun hc15 => ?_) (fun hc15 => ?_)
    · rw [if_pos hc15] at h
      refine j_iconst C dX9_wrong_126 (v := (0 : Int32)) (by decide) ?_
      cases h
      exact j_iret C rfl (by decide) (by decide) dX9_wrong_127
    · rw [if_neg hc15] at h
      refine j_aload_n C dX9_wrong_98 rfl 0 rfl ?_
      refine j_iload_n C dX9_wrong_99 rfl 1 rfl ?_
      obtain ⟨r16, M16, hq16, h⟩ := bnd2_spec h
      refine j_run1 (c_V C (As := [.int v1]) (rest := []) (ctX9_loadOf C.2.2.2.2.2.2.2.2.1 N Z hq16) kcRX9_110 oyX9_loadOf (ci := 9) (T := TX9) (N := 23) rfl (by decide) ho11 ⟨by decide, by decide⟩ ⟨by decide, by decide⟩ (Nat.le_of_ble_eq_true rfl) rfl dX9_wrong_100) ?_
      refine j_aload_n C dX9_wrong_103 rfl 0 rfl ?_
      refine j_getR C (cn := RX9) (T := TX9) (N := 23) (ci := 9) rfl iX9 ho11 0 (by decide) rfl fwRX9_7 dX9_wrong_104 hr12 ?_
      refine j_iconst C dX9_wrong_107 (v := (3 : Int32)) (by decide) ?_
      obtain ⟨ho17, h⟩ := ck_spec h
      refine j_iald C ho13 ho17 dX9_wrong_108 ?_
      refine j_icmp_le C dX9_wrong_109 (tgt := 120) (by decide) (fun hc18 => ?_) (fun hc18 => ?_)
      · rw [if_pos hc18] at h
        refine j_iinc C dX9_wrong_120 1 rfl (v := (v1 + (1 : Int32))) (by first | rfl | decide) (by decide) (L' := [(1, .int (v1 + (1 : Int32))), (0, .ref v0)]) rfl ?_
        refine j_goto C dX9_wrong_123 (tgt := 88) (by decide) ?_
        refine j_sub (L' := [(0, .ref v0), (1, .int (v1 + (1 : Int32)))]) [1, 0] rfl ?_
        exact ih v0 (v1 + (1 : Int32)) M16 r M' h
      · rw [if_neg hc18] at h
        refine j_aload_n C dX9_wrong_112 rfl 0 rfl ?_
        refine j_iload_n C dX9_wrong_113 rfl 1 rfl ?_
        refine j_putI C tyX9 tyX9_ok nmX9 (cn := RX9) (T := TX9) (N := 23) (ci := 9) rfl iX9 ho11 10 (by decide) rfl fwRX9_103 ⟨rfl, rfl⟩ dX9_wrong_114 ?_
        refine j_bipush C dX9_wrong_117 (v := (8 : Int32)) (by decide) ?_
        cases h
        exact j_iret C rfl (by decide) (by decide) dX9_wrong_119
def fX9_wrong_48 (N : Nat) (Z : mZ) (K36 : Nat → Int32 → mM → Option (Int32 × mM)) : Nat → Nat → Int32 → Int32 → mM → Option (Int32 × mM)
  | 0, _, _, _, _ => none
  | fu + 1, v0, v1, v2, M => ck (okO Z v0 9) (bnd2 (fX9_high N Z v0 v1 M) (fun r20 M20 => if r20 ≤ v2 then K36 v0 (v1 + (1 : Int32)) M20 else bnd2 (fX9_isBraced N Z v0 v1 v2 M20) (fun r22 M22 => if r22 = 0 then some ((7 : Int32), (sI M22 v0 10 v1)) else fX9_wrong_48 N Z K36 fu v0 v1 (v2 + (1 : Int32)) M22)))
set_option maxHeartbeats 4000000 in
set_option maxRecDepth 100000 in
theorem tX9_wrong_48 {G : mG} {p : Program} {l : Launch} {e : Env} {s : State} {m : MethodId} {args : Array Value} {below : List Frame} {meth : Method} {c : Code} (C : Cx G p l s m args meth c RX9 cX9_wrong 3 (some .int) []) (hnm : meth.name = yX9_wrong.name) (N : Nat) (Z : mZ) (K36 : Nat → Int32 → mM → Option (Int32 × mM)) (hK36 : ∀ (v0 : Nat) (v1 : Int32) (M : mM) (r : Int32) (M' : mM), K36 v0 v1 M = some (r, M') → JJ G p l e rmX9_wrong s m args below meth c 3 (mEnd G below args s rmX9_wrong (.inl (some (.int r))) Z M') 0 0 36 [(0, .ref v0), (1, .int v1)] [] Z M) : ∀ (fu : Nat) (v0 : Nat) (v1 : Int32) (v2 : Int32) (M : mM) (r : Int32) (M' : mM), fX9_wrong_48 N Z K36 fu v0 v1 v2 M = some (r, M') → JJ G p l e rmX9_wrong s m args below meth c 3 (mEnd G below args s rmX9_wrong (.inl (some (.int r))) Z M') 0 0 48 [(0, .ref v0), (1, .int v1), (2, .int v2)] [] Z M := by
  intro fu
  induction fu with
  | zero =>
    intro v0 v1 v2 M r M' h
    cases h
  | succ fu ih =>
    intro v0 v1 v2 M r M' h
    rw [fX9_wrong_48] at h
    refine j_iload_n C dX9_wrong_48 rfl 2 rfl ?_
    refine j_aload_n C dX9_wrong_49 rfl 0 rfl ?_
    refine j_iload_n C dX9_wrong_50 rfl 1 rfl ?_
    obtain ⟨ho19, h⟩ := ck_spec h
    obtain ⟨r20, M20, hq20, h⟩ := bnd2_spec h
    refine j_run1 (c_V C (As := [.int v1]) (rest := [.int v2]) (ctX9_high C.2.2.2.2.2.2.2.2.1 N Z hq20) kcRX9_69 oyX9_high (ci := 9) (T := TX9) (N := 23) rfl (by decide) ho19 ⟨by decide, by decide⟩ ⟨by decide, by decide⟩ (Nat.le_of_ble_eq_true rfl) rfl dX9_wrong_51) ?_
    refine j_icmp_ge C dX9_wrong_54 (tgt := 80) (by decide) (fun hc21 => ?_) (fun hc21 => ?_)
    · rw [if_pos hc21] at h
      refine j_iinc C dX9_wrong_80 1 rfl (v := (v1 + (1 : Int32))) (by first | rfl | decide) (by decide) (L' := [(1, .int (v1 + (1 : Int32))), (0, .ref v0), (2, .int v2)]) rfl ?_
      refine j_goto C dX9_wrong_83 (tgt := 36) (by decide) ?_
      refine j_sub (L' := [(0, .ref v0), (1, .int (v1 + (1 : Int32)))]) [1, 0] rfl ?_
      exact hK36 v0 (v1 + (1 : Int32)) M20 r M' h
    · rw [if_neg hc21] at h
      refine j_aload_n C dX9_wrong_57 rfl 0 rfl ?_
      refine j_iload_n C dX9_wrong_58 rfl 1 rfl ?_
      refine j_iload_n C dX9_wrong_59 rfl 2 rfl ?_
      obtain ⟨r22, M22, hq22, h⟩ := bnd2_spec h
      refine j_run1 (c_V C (As := [.int v1, .int v2]) (rest := []) (ctX9_isBraced C.2.2.2.2.2.2.2.2.1 N Z hq22) kcRX9_106 oyX9_isBraced (ci := 9) (T := TX9) (N := 23) rfl (by decide) ho19 ⟨by decide, by decide⟩ ⟨by decide, by decide⟩ (Nat.le_of_ble_eq_true rfl) rfl dX9_wrong_60) ?_
      refine j_if_ne C dX9_wrong_63 (tgt := 74) (by decide) (fun hc23 => ?_) (fun hc23 => ?_)
      · rw [if_neg hc23] at h
        refine j_iinc C dX9_wrong_74 2 rfl (v := (v2 + (1 : Int32))) (by first | rfl | decide) (by decide) (L' := [(2, .int (v2 + (1 : Int32))), (0, .ref v0), (1, .int v1)]) rfl ?_
        refine j_goto C dX9_wrong_77 (tgt := 48) (by decide) ?_
        refine j_sub (L' := [(0, .ref v0), (1, .int v1), (2, .int (v2 + (1 : Int32)))]) [1, 2, 0] rfl ?_
        exact ih v0 v1 (v2 + (1 : Int32)) M22 r M' h
      · rw [if_pos hc23] at h
        refine j_aload_n C dX9_wrong_66 rfl 0 rfl ?_
        refine j_iload_n C dX9_wrong_67 rfl 1 rfl ?_
        refine j_putI C tyX9 tyX9_ok nmX9 (cn := RX9) (T := TX9) (N := 23) (ci := 9) rfl iX9 ho19 10 (by decide) rfl fwRX9_103 ⟨rfl, rfl⟩ dX9_wrong_68 ?_
        refine j_bipush C dX9_wrong_71 (v := (7 : Int32)) (by decide) ?_
        cases h
        exact j_iret C rfl (by decide) (by decide) dX9_wrong_73
def fX9_wrong_36 (N : Nat) (Z : mZ) : Nat → Nat → Int32 → mM → Option (Int32 × mM)
  | 0, _, _, _ => none
  | fu + 1, v0, v1, M => ck (okO Z v0 9) (bnd1 (Z.2.2.2 v0 0) (fun c7 => ck (okI Z c7) (ck (inB (0 : Int32) (Z.2.2.1 c7)) (if (M.1 c7 ((0 : Int32)).toNatClampNeg) ≤ v1 then fX9_wrong_88 N Z N v0 (0 : Int32) M else fX9_wrong_48 N Z (fun w0 w1 M9 => fX9_wrong_36 N Z fu w0 w1 M9) N v0 v1 (1 : Int32) M))))
set_option maxHeartbeats 4000000 in
set_option maxRecDepth 100000 in
theorem tX9_wrong_36 {G : mG} {p : Program} {l : Launch} {e : Env} {s : State} {m : MethodId} {args : Array Value} {below : List Frame} {meth : Method} {c : Code} (C : Cx G p l s m args meth c RX9 cX9_wrong 3 (some .int) []) (hnm : meth.name = yX9_wrong.name) (N : Nat) (Z : mZ) : ∀ (fu : Nat) (v0 : Nat) (v1 : Int32) (M : mM) (r : Int32) (M' : mM), fX9_wrong_36 N Z fu v0 v1 M = some (r, M') → JJ G p l e rmX9_wrong s m args below meth c 3 (mEnd G below args s rmX9_wrong (.inl (some (.int r))) Z M') 0 0 36 [(0, .ref v0), (1, .int v1)] [] Z M := by
  intro fu
  induction fu with
  | zero =>
    intro v0 v1 M r M' h
    cases h
  | succ fu ih =>
    intro v0 v1 M r M' h
    rw [fX9_wrong_36] at h
    refine j_iload_n C dX9_wrong_36 rfl 1 rfl ?_
    refine j_aload_n C dX9_wrong_37 rfl 0 rfl ?_
    obtain ⟨ho6, h⟩ := ck_spec h
    obtain ⟨c7, hr7, h⟩ := bnd1_spec h
    refine j_getR C (cn := RX9) (T := TX9) (N := 23) (ci := 9) rfl iX9 ho6 0 (by decide) rfl fwRX9_7 dX9_wrong_38 hr7 ?_
    refine j_iconst C dX9_wrong_41 (v := (0 : Int32)) (by decide) ?_
    obtain ⟨ho8, h⟩ := ck_spec h
    obtain ⟨ho9, h⟩ := ck_spec h
    refine j_iald C ho8 ho9 dX9_wrong_42 ?_
    refine j_icmp_ge C dX9_wrong_43 (tgt := 86) (by decide) (fun hc10 => ?_) (fun hc10 => ?_)
    · rw [if_pos hc10] at h
      refine j_iconst C dX9_wrong_86 (v := (0 : Int32)) (by decide) ?_
      refine j_istore_n C dX9_wrong_87 rfl (by decide) (L' := [(1, .int (0 : Int32)), (0, .ref v0)]) rfl ?_
      refine j_sub (L' := [(0, .ref v0), (1, .int (0 : Int32))]) [1, 0] rfl ?_
      exact tX9_wrong_88 C hnm N Z N v0 (0 : Int32) M _ _ h
    · rw [if_neg hc10] at h
      refine j_iconst C dX9_wrong_46 (v := (1 : Int32)) (by decide) ?_
      refine j_istore_n C dX9_wrong_47 rfl (by decide) (L' := [(2, .int (1 : Int32)), (0, .ref v0), (1, .int v1)]) rfl ?_
      refine j_sub (L' := [(0, .ref v0), (1, .int v1), (2, .int (1 : Int32))]) [1, 2, 0] rfl ?_
      exact tX9_wrong_48 C hnm N Z (fun w0 w1 M9 => fX9_wrong_36 N Z fu w0 w1 M9) (fun w0 w1 M9 r9 M9' h9 => ih w0 w1 M9 r9 M9' h9) N v0 v1 (1 : Int32) M _ _ h
def fX9_wrong_2 (N : Nat) (Z : mZ) : Nat → Nat → Int32 → mM → Option (Int32 × mM)
  | 0, _, _, _ => none
  | fu + 1, v0, v1, M => ck (okO Z v0 9) (bnd1 (Z.2.2.2 v0 0) (fun c2 => ck (okI Z c2) (ck (inB (0 : Int32) (Z.2.2.1 c2)) (if (M.1 c2 ((0 : Int32)).toNatClampNeg) ≤ v1 then fX9_wrong_36 N Z N v0 (0 : Int32) M else bnd2 (fX9_isHeld N Z v0 v1 M) (fun r24 M24 => if r24 = 0 then some ((6 : Int32), (sI M24 v0 10 v1)) else fX9_wrong_2 N Z fu v0 (v1 + (1 : Int32)) M24)))))
set_option maxHeartbeats 4000000 in
set_option maxRecDepth 100000 in
theorem tX9_wrong_2 {G : mG} {p : Program} {l : Launch} {e : Env} {s : State} {m : MethodId} {args : Array Value} {below : List Frame} {meth : Method} {c : Code} (C : Cx G p l s m args meth c RX9 cX9_wrong 3 (some .int) []) (hnm : meth.name = yX9_wrong.name) (N : Nat) (Z : mZ) : ∀ (fu : Nat) (v0 : Nat) (v1 : Int32) (M : mM) (r : Int32) (M' : mM), fX9_wrong_2 N Z fu v0 v1 M = some (r, M') → JJ G p l e rmX9_wrong s m args below meth c 3 (mEnd G below args s rmX9_wrong (.inl (some (.int r))) Z M') 0 0 2 [(0, .ref v0), (1, .int v1)] [] Z M := by
  intro fu
  induction fu with
  | zero =>
    intro v0 v1 M r M' h
    cases h
  | succ fu ih =>
    intro v0 v1 M r M' h
    rw [fX9_wrong_2] at h
    refine j_iload_n C dX9_wrong_2 rfl 1 rfl ?_
    refine j_aload_n C dX9_wrong_3 rfl 0 rfl ?_
    obtain ⟨ho1, h⟩ := ck_spec h
    obtain ⟨c2, hr2, h⟩ := bnd1_spec h
    refine j_getR C (cn := RX9) (T := TX9) (N := 23) (ci := 9) rfl iX9 ho1 0 (by decide) rfl fwRX9_7 dX9_wrong_4 hr2 ?_
    refine j_iconst C dX9_wrong_7 (v := (0 : Int32)) (by decide) ?_
    obtain ⟨ho3, h⟩ := ck_spec h
    obtain ⟨ho4, h⟩ := ck_spec h
    refine j_iald C ho3 ho4 dX9_wrong_8 ?_
    refine j_icmp_ge C dX9_wrong_9 (tgt := 34) (by decide) (fun hc5 => ?_) (fun hc5 => ?_)
    · rw [if_pos hc5] at h
      refine j_iconst C dX9_wrong_34 (v := (0 : Int32)) (by decide) ?_
      refine j_istore_n C dX9_wrong_35 rfl (by decide) (L' := [(1, .int (0 : Int32)), (0, .ref v0)]) rfl ?_
      refine j_sub (L' := [(0, .ref v0), (1, .int (0 : Int32))]) [1, 0] rfl ?_
      exact tX9_wrong_36 C hnm N Z N v0 (0 : Int32) M _ _ h
    · rw [if_neg hc5] at h
      refine j_aload_n C dX9_wrong_12 rfl 0 rfl ?_
      refine j_iload_n C dX9_wrong_13 rfl 1 rfl ?_
      obtain ⟨r24, M24, hq24, h⟩ := bnd2_spec h
      refine j_run1 (c_V C (As := [.int v1]) (rest := []) (ctX9_isHeld C.2.2.2.2.2.2.2.2.1 N Z hq24) kcRX9_99 oyX9_isHeld (ci := 9) (T := TX9) (N := 23) rfl (by decide) ho1 ⟨by decide, by decide⟩ ⟨by decide, by decide⟩ (Nat.le_of_ble_eq_true rfl) rfl dX9_wrong_14) ?_
      refine j_if_ne C dX9_wrong_17 (tgt := 28) (by decide) (fun hc25 => ?_) (fun hc25 => ?_)
      · rw [if_neg hc25] at h
        refine j_iinc C dX9_wrong_28 1 rfl (v := (v1 + (1 : Int32))) (by first | rfl | decide) (by decide) (L' := [(1, .int (v1 + (1 : Int32))), (0, .ref v0)]) rfl ?_
        refine j_goto C dX9_wrong_31 (tgt := 2) (by decide) ?_
        refine j_sub (L' := [(0, .ref v0), (1, .int (v1 + (1 : Int32)))]) [1, 0] rfl ?_
        exact ih v0 (v1 + (1 : Int32)) M24 r M' h
      · rw [if_pos hc25] at h
        refine j_aload_n C dX9_wrong_20 rfl 0 rfl ?_
        refine j_iload_n C dX9_wrong_21 rfl 1 rfl ?_
        refine j_putI C tyX9 tyX9_ok nmX9 (cn := RX9) (T := TX9) (N := 23) (ci := 9) rfl iX9 ho1 10 (by decide) rfl fwRX9_103 ⟨rfl, rfl⟩ dX9_wrong_22 ?_
        refine j_bipush C dX9_wrong_25 (v := (6 : Int32)) (by decide) ?_
        cases h
        exact j_iret C rfl (by decide) (by decide) dX9_wrong_27
def fX9_wrong (N : Nat) (Z : mZ) (a0 : Nat) (M : mM) : Option (Int32 × mM) := fX9_wrong_2 N Z N a0 (0 : Int32) M
set_option maxHeartbeats 4000000 in
set_option maxRecDepth 100000 in
theorem ctX9_wrong {G : mG} {l : Launch} (hl : l.stackTraces = false) (N : Nat) (Z : mZ) {a0 : Nat} {M : mM} {r : Int32} {M' : mM} (h : fX9_wrong N Z a0 M = some (r, M')) : CT G l yX9_wrong (.code yX9_wrong cX9_wrong 3 (some .int)) rmX9_wrong [.ref a0] Z M (.inl (some (.int r))) Z M' := by
  unfold fX9_wrong at h
  refine CT.of hl (by decide) (Nat.le_of_ble_eq_true rfl) ?_
  intro p e s m args below meth c C hnm
  refine j_sub (L' := [(0, .ref a0)]) [0] rfl ?_
  refine j_iconst C dX9_wrong_0 (v := (0 : Int32)) (by decide) ?_
  refine j_istore_n C dX9_wrong_1 rfl (by decide) (L' := [(1, .int (0 : Int32)), (0, .ref a0)]) rfl ?_
  refine j_sub (L' := [(0, .ref a0), (1, .int (0 : Int32))]) [1, 0] rfl ?_
  exact tX9_wrong_2 C hnm N Z N a0 (0 : Int32) M _ _ h
-- ScaffoldPlannerModel comes
theorem fwRX9_113 : Cond.fieldLink RX9 113 RX9 (TX9 13).2.1 (TX9 13).2.2.1 ∈ gw := by decide +kernel
abbrev rmX9_comes : Room := { frames := 2, cells := 0, slots := 0, locals := 44 }
theorem dX9_comes_0 : decode cX9_comes 0 = .ok (.aload_n 0, 1) := by decide +kernel
theorem dX9_comes_1 : decode cX9_comes 1 = .ok (.iload_n 1, 1) := by decide +kernel
theorem dX9_comes_2 : decode cX9_comes 2 = .ok (.iload_n 2, 1) := by decide +kernel
theorem dX9_comes_3 : decode cX9_comes 3 = .ok (.invokevirtual 93, 3) := by decide +kernel
theorem dX9_comes_6 : decode cX9_comes 6 = .ok (.ifCond .le 54, 3) := by decide +kernel
theorem dX9_comes_9 : decode cX9_comes 9 = .ok (.aload_n 0, 1) := by decide +kernel
theorem dX9_comes_10 : decode cX9_comes 10 = .ok (.getfield 28, 3) := by decide +kernel
theorem dX9_comes_13 : decode cX9_comes 13 = .ok (.bipush 7, 2) := by decide +kernel
theorem dX9_comes_15 : decode cX9_comes 15 = .ok (.iload_n 1, 1) := by decide +kernel
theorem dX9_comes_16 : decode cX9_comes 16 = .ok (.imul, 1) := by decide +kernel
theorem dX9_comes_17 : decode cX9_comes 17 = .ok (.iload_n 2, 1) := by decide +kernel
theorem dX9_comes_18 : decode cX9_comes 18 = .ok (.iadd, 1) := by decide +kernel
theorem dX9_comes_19 : decode cX9_comes 19 = .ok (.iaload, 1) := by decide +kernel
theorem dX9_comes_20 : decode cX9_comes 20 = .ok (.ifCond .ge 40, 3) := by decide +kernel
theorem dX9_comes_23 : decode cX9_comes 23 = .ok (.aload_n 0, 1) := by decide +kernel
theorem dX9_comes_24 : decode cX9_comes 24 = .ok (.getfield 28, 3) := by decide +kernel
theorem dX9_comes_27 : decode cX9_comes 27 = .ok (.bipush 7, 2) := by decide +kernel
theorem dX9_comes_29 : decode cX9_comes 29 = .ok (.iload_n 1, 1) := by decide +kernel
theorem dX9_comes_30 : decode cX9_comes 30 = .ok (.imul, 1) := by decide +kernel
theorem dX9_comes_31 : decode cX9_comes 31 = .ok (.iload_n 2, 1) := by decide +kernel
theorem dX9_comes_32 : decode cX9_comes 32 = .ok (.iadd, 1) := by decide +kernel
theorem dX9_comes_33 : decode cX9_comes 33 = .ok (.iload_n 3, 1) := by decide +kernel
theorem dX9_comes_34 : decode cX9_comes 34 = .ok (.iastore, 1) := by decide +kernel
theorem dX9_comes_35 : decode cX9_comes 35 = .ok (.aload_n 0, 1) := by decide +kernel
theorem dX9_comes_36 : decode cX9_comes 36 = .ok (.getfield 31, 3) := by decide +kernel
theorem dX9_comes_39 : decode cX9_comes 39 = .ok (.aload_n 0, 1) := by decide +kernel
theorem dX9_comes_40 : decode cX9_comes 40 = .ok (.getfield 113, 3) := by decide +kernel
theorem dX9_comes_43 : decode cX9_comes 43 = .ok (.bipush 7, 2) := by decide +kernel
theorem dX9_comes_45 : decode cX9_comes 45 = .ok (.iload_n 1, 1) := by decide +kernel
theorem dX9_comes_46 : decode cX9_comes 46 = .ok (.imul, 1) := by decide +kernel
theorem dX9_comes_47 : decode cX9_comes 47 = .ok (.iload_n 2, 1) := by decide +kernel
theorem dX9_comes_48 : decode cX9_comes 48 = .ok (.iadd, 1) := by decide +kernel
theorem dX9_comes_49 : decode cX9_comes 49 = .ok (.iastore, 1) := by decide +kernel
theorem dX9_comes_50 : decode cX9_comes 50 = .ok (.aload_n 0, 1) := by decide +kernel
theorem dX9_comes_51 : decode cX9_comes 51 = .ok (.dup, 1) := by decide +kernel
theorem dX9_comes_52 : decode cX9_comes 52 = .ok (.getfield 113, 3) := by decide +kernel
theorem dX9_comes_55 : decode cX9_comes 55 = .ok (.iconst 1, 1) := by decide +kernel
theorem dX9_comes_56 : decode cX9_comes 56 = .ok (.iadd, 1) := by decide +kernel
theorem dX9_comes_57 : decode cX9_comes 57 = .ok (.putfield 113, 3) := by decide +kernel
theorem dX9_comes_60 : decode cX9_comes 60 = .ok (.return_, 1) := by decide +kernel
def fX9_comes (N : Nat) (Z : mZ) (a0 : Nat) (a1 : Int32) (a2 : Int32) (a3 : Int32) (M : mM) : Option (Unit × mM) := ck (okO Z a0 9) (bnd2 (fX9_deckAt N Z a0 a1 a2 M) (fun r2 M2 => if r2 ≤ 0 then some ((), M2) else bnd1 (Z.2.2.2 a0 11) (fun c4 => ck (okI Z c4) (ck (inB (((7 : Int32) * a1) + a2) (Z.2.2.1 c4)) (if 0 ≤ (M2.1 c4 ((((7 : Int32) * a1) + a2)).toNatClampNeg) then some ((), M2) else ck (okO Z c4 20) (bnd1 (Z.2.2.2 a0 12) (fun c9 => ck (okO Z c9 20) (ck (inB ((sI M2 c4 ((((7 : Int32) * a1) + a2)).toNatClampNeg a3).1 a0 13) (Z.2.2.1 c9)) (some ((), (sI (sI (sI M2 c4 ((((7 : Int32) * a1) + a2)).toNatClampNeg a3) c9 (((sI M2 c4 ((((7 : Int32) * a1) + a2)).toNatClampNeg a3).1 a0 13)).toNatClampNeg (((7 : Int32) * a1) + a2)) a0 13 (((sI (sI M2 c4 ((((7 : Int32) * a1) + a2)).toNatClampNeg a3) c9 (((sI M2 c4 ((((7 : Int32) * a1) + a2)).toNatClampNeg a3).1 a0 13)).toNatClampNeg (((7 : Int32) * a1) + a2)).1 a0 13) + (1 : Int32)))))))))))))
set_option maxHeartbeats 4000000 in
set_option maxRecDepth 100000 in
theorem ctX9_comes {G : mG} {l : Launch} (hl : l.stackTraces = false) (N : Nat) (Z : mZ) {a0 : Nat} {a1 : Int32} {a2 : Int32} {a3 : Int32} {M : mM} {r : Unit} {M' : mM} (h : fX9_comes N Z a0 a1 a2 a3 M = some (r, M')) : CT G l yX9_comes (.code yX9_comes cX9_comes 4 none) rmX9_comes [.ref a0, .int a1, .int a2, .int a3] Z M (.inl none) Z M' := by
  unfold fX9_comes at h
  refine CT.of hl (by decide) (Nat.le_of_ble_eq_true rfl) ?_
  intro p e s m args below meth c C hnm
  refine j_sub (L' := [(0, .ref a0), (1, .int a1), (2, .int a2), (3, .int a3)]) [0, 1, 2, 3] rfl ?_
  refine j_aload_n C dX9_comes_0 rfl 0 rfl ?_
  refine j_iload_n C dX9_comes_1 rfl 1 rfl ?_
  refine j_iload_n C dX9_comes_2 rfl 2 rfl ?_
  obtain ⟨ho1, h⟩ := ck_spec h
  obtain ⟨r2, M2, hq2, h⟩ := bnd2_spec h
  refine j_run1 (c_V C (As := [.int a1, .int a2]) (rest := []) (ctX9_deckAt C.2.2.2.2.2.2.2.2.1 N Z hq2) kcRX9_93 oyX9_deckAt (ci := 9) (T := TX9) (N := 23) rfl (by decide) ho1 ⟨by decide, by decide⟩ ⟨by decide, by decide⟩ (Nat.le_of_ble_eq_true rfl) rfl dX9_comes_3) ?_
  refine j_if_le C dX9_comes_6 (tgt := 60) (by decide) (fun hc3 => ?_) (fun hc3 => ?_)
  · rw [if_pos hc3] at h
    cases h
    exact j_vret C rfl (by decide) (by decide) dX9_comes_60
  · rw [if_neg hc3] at h
    refine j_aload_n C dX9_comes_9 rfl 0 rfl ?_
    obtain ⟨c4, hr4, h⟩ := bnd1_spec h
    refine j_getR C (cn := RX9) (T := TX9) (N := 23) (ci := 9) rfl iX9 ho1 11 (by decide) rfl fwRX9_28 dX9_comes_10 hr4 ?_
    refine j_bipush C dX9_comes_13 (v := (7 : Int32)) (by decide) ?_
    refine j_iload_n C dX9_comes_15 rfl 1 rfl ?_
    refine j_imul C dX9_comes_16 ?_
    refine j_iload_n C dX9_comes_17 rfl 2 rfl ?_
    refine j_iadd C dX9_comes_18 ?_
    obtain ⟨ho5, h⟩ := ck_spec h
    obtain ⟨ho6, h⟩ := ck_spec h
    refine j_iald C ho5 ho6 dX9_comes_19 ?_
    refine j_if_ge C dX9_comes_20 (tgt := 60) (by decide) (fun hc7 => ?_) (fun hc7 => ?_)
    · rw [if_pos hc7] at h
      cases h
      exact j_vret C rfl (by decide) (by decide) dX9_comes_60
    · rw [if_neg hc7] at h
      refine j_aload_n C dX9_comes_23 rfl 0 rfl ?_
      refine j_getR C (cn := RX9) (T := TX9) (N := 23) (ci := 9) rfl iX9 ho1 11 (by decide) rfl fwRX9_28 dX9_comes_24 hr4 ?_
      refine j_bipush C dX9_comes_27 (v := (7 : Int32)) (by decide) ?_
      refine j_iload_n C dX9_comes_29 rfl 1 rfl ?_
      refine j_imul C dX9_comes_30 ?_
      refine j_iload_n C dX9_comes_31 rfl 2 rfl ?_
      refine j_iadd C dX9_comes_32 ?_
      refine j_iload_n C dX9_comes_33 rfl 3 rfl ?_
      obtain ⟨ho8, h⟩ := ck_spec h
      refine j_iast C ho8 ho6 dX9_comes_34 ?_
      refine j_aload_n C dX9_comes_35 rfl 0 rfl ?_
      obtain ⟨c9, hr9, h⟩ := bnd1_spec h
      refine j_getR C (cn := RX9) (T := TX9) (N := 23) (ci := 9) rfl iX9 ho1 12 (by decide) rfl fwRX9_31 dX9_comes_36 hr9 ?_
      refine j_aload_n C dX9_comes_39 rfl 0 rfl ?_
      refine j_getI C (cn := RX9) (T := TX9) (N := 23) (ci := 9) rfl iX9 ho1 13 (by decide) rfl fwRX9_113 dX9_comes_40 ?_
      refine j_bipush C dX9_comes_43 (v := (7 : Int32)) (by decide) ?_
      refine j_iload_n C dX9_comes_45 rfl 1 rfl ?_
      refine j_imul C dX9_comes_46 ?_
      refine j_iload_n C dX9_comes_47 rfl 2 rfl ?_
      refine j_iadd C dX9_comes_48 ?_
      obtain ⟨ho10, h⟩ := ck_spec h
      obtain ⟨ho11, h⟩ := ck_spec h
      refine j_iast C ho10 ho11 dX9_comes_49 ?_
      refine j_aload_n C dX9_comes_50 rfl 0 rfl ?_
      refine j_dup C dX9_comes_51 rfl ?_
      refine j_getI C (cn := RX9) (T := TX9) (N := 23) (ci := 9) rfl iX9 ho1 13 (by decide) rfl fwRX9_113 dX9_comes_52 ?_
      refine j_iconst C dX9_comes_55 (v := (1 : Int32)) (by decide) ?_
      refine j_iadd C dX9_comes_56 ?_
      refine j_putI C tyX9 tyX9_ok nmX9 (cn := RX9) (T := TX9) (N := 23) (ci := 9) rfl iX9 ho1 13 (by decide) rfl fwRX9_113 ⟨rfl, rfl⟩ dX9_comes_57 ?_
      cases h
      exact j_vret C rfl (by decide) (by decide) dX9_comes_60
-- ScaffoldPlannerModel walks
theorem kcRX9_116 : okV RX9 116 yX9_comes (.code yX9_comes cX9_comes 4 none) = true := by decide +kernel
theorem oyX9_comes : okY yX9_comes 3 := ⟨by decide +kernel, by decide +kernel, by decide +kernel⟩
abbrev rmX9_walks : Room := { frames := 3, cells := 0, slots := 0, locals := 67 }
theorem dX9_walks_0 : decode cX9_walks 0 = .ok (.aload_n 0, 1) := by decide +kernel
theorem dX9_walks_1 : decode cX9_walks 1 = .ok (.iconst 0, 1) := by decide +kernel
theorem dX9_walks_2 : decode cX9_walks 2 = .ok (.putfield 113, 3) := by decide +kernel
theorem dX9_walks_5 : decode cX9_walks 5 = .ok (.iconst 0, 1) := by decide +kernel
theorem dX9_walks_6 : decode cX9_walks 6 = .ok (.istore_n 1, 1) := by decide +kernel
theorem dX9_walks_7 : decode cX9_walks 7 = .ok (.iload_n 1, 1) := by decide +kernel
theorem dX9_walks_8 : decode cX9_walks 8 = .ok (.bipush 70, 2) := by decide +kernel
theorem dX9_walks_10 : decode cX9_walks 10 = .ok (.if_icmp .ge 16, 3) := by decide +kernel
theorem dX9_walks_13 : decode cX9_walks 13 = .ok (.aload_n 0, 1) := by decide +kernel
theorem dX9_walks_14 : decode cX9_walks 14 = .ok (.getfield 28, 3) := by decide +kernel
theorem dX9_walks_17 : decode cX9_walks 17 = .ok (.iload_n 1, 1) := by decide +kernel
theorem dX9_walks_18 : decode cX9_walks 18 = .ok (.iconst (-1), 1) := by decide +kernel
theorem dX9_walks_19 : decode cX9_walks 19 = .ok (.iastore, 1) := by decide +kernel
theorem dX9_walks_20 : decode cX9_walks 20 = .ok (.iinc 1 1, 3) := by decide +kernel
theorem dX9_walks_23 : decode cX9_walks 23 = .ok (.goto (-16), 3) := by decide +kernel
theorem dX9_walks_26 : decode cX9_walks 26 = .ok (.iconst 0, 1) := by decide +kernel
theorem dX9_walks_27 : decode cX9_walks 27 = .ok (.istore_n 1, 1) := by decide +kernel
theorem dX9_walks_28 : decode cX9_walks 28 = .ok (.iload_n 1, 1) := by decide +kernel
theorem dX9_walks_29 : decode cX9_walks 29 = .ok (.aload_n 0, 1) := by decide +kernel
theorem dX9_walks_30 : decode cX9_walks 30 = .ok (.getfield 7, 3) := by decide +kernel
theorem dX9_walks_33 : decode cX9_walks 33 = .ok (.iconst 0, 1) := by decide +kernel
theorem dX9_walks_34 : decode cX9_walks 34 = .ok (.iaload, 1) := by decide +kernel
theorem dX9_walks_35 : decode cX9_walks 35 = .ok (.if_icmp .ge 27, 3) := by decide +kernel
theorem dX9_walks_38 : decode cX9_walks 38 = .ok (.aload_n 0, 1) := by decide +kernel
theorem dX9_walks_39 : decode cX9_walks 39 = .ok (.bipush 101, 2) := by decide +kernel
theorem dX9_walks_41 : decode cX9_walks 41 = .ok (.iload_n 1, 1) := by decide +kernel
theorem dX9_walks_42 : decode cX9_walks 42 = .ok (.iconst 1, 1) := by decide +kernel
theorem dX9_walks_43 : decode cX9_walks 43 = .ok (.invokevirtual 87, 3) := by decide +kernel
theorem dX9_walks_46 : decode cX9_walks 46 = .ok (.ifCond .eq 10, 3) := by decide +kernel
theorem dX9_walks_49 : decode cX9_walks 49 = .ok (.aload_n 0, 1) := by decide +kernel
theorem dX9_walks_50 : decode cX9_walks 50 = .ok (.iload_n 1, 1) := by decide +kernel
theorem dX9_walks_51 : decode cX9_walks 51 = .ok (.iconst 1, 1) := by decide +kernel
theorem dX9_walks_52 : decode cX9_walks 52 = .ok (.iconst 1, 1) := by decide +kernel
theorem dX9_walks_53 : decode cX9_walks 53 = .ok (.invokevirtual 116, 3) := by decide +kernel
theorem dX9_walks_56 : decode cX9_walks 56 = .ok (.iinc 1 1, 3) := by decide +kernel
theorem dX9_walks_59 : decode cX9_walks 59 = .ok (.goto (-31), 3) := by decide +kernel
theorem dX9_walks_62 : decode cX9_walks 62 = .ok (.iconst 0, 1) := by decide +kernel
theorem dX9_walks_63 : decode cX9_walks 63 = .ok (.istore_n 1, 1) := by decide +kernel
theorem dX9_walks_64 : decode cX9_walks 64 = .ok (.iload_n 1, 1) := by decide +kernel
theorem dX9_walks_65 : decode cX9_walks 65 = .ok (.aload_n 0, 1) := by decide +kernel
theorem dX9_walks_66 : decode cX9_walks 66 = .ok (.getfield 113, 3) := by decide +kernel
theorem dX9_walks_69 : decode cX9_walks 69 = .ok (.if_icmp .ge 112, 3) := by decide +kernel
theorem dX9_walks_72 : decode cX9_walks 72 = .ok (.aload_n 0, 1) := by decide +kernel
theorem dX9_walks_73 : decode cX9_walks 73 = .ok (.getfield 31, 3) := by decide +kernel
theorem dX9_walks_76 : decode cX9_walks 76 = .ok (.iload_n 1, 1) := by decide +kernel
theorem dX9_walks_77 : decode cX9_walks 77 = .ok (.iaload, 1) := by decide +kernel
theorem dX9_walks_78 : decode cX9_walks 78 = .ok (.bipush 7, 2) := by decide +kernel
theorem dX9_walks_80 : decode cX9_walks 80 = .ok (.idiv, 1) := by decide +kernel
theorem dX9_walks_81 : decode cX9_walks 81 = .ok (.istore_n 2, 1) := by decide +kernel
theorem dX9_walks_82 : decode cX9_walks 82 = .ok (.aload_n 0, 1) := by decide +kernel
theorem dX9_walks_83 : decode cX9_walks 83 = .ok (.getfield 31, 3) := by decide +kernel
theorem dX9_walks_86 : decode cX9_walks 86 = .ok (.iload_n 1, 1) := by decide +kernel
theorem dX9_walks_87 : decode cX9_walks 87 = .ok (.iaload, 1) := by decide +kernel
theorem dX9_walks_88 : decode cX9_walks 88 = .ok (.bipush 7, 2) := by decide +kernel
theorem dX9_walks_90 : decode cX9_walks 90 = .ok (.irem, 1) := by decide +kernel
theorem dX9_walks_91 : decode cX9_walks 91 = .ok (.istore_n 3, 1) := by decide +kernel
theorem dX9_walks_92 : decode cX9_walks 92 = .ok (.aload_n 0, 1) := by decide +kernel
theorem dX9_walks_93 : decode cX9_walks 93 = .ok (.getfield 28, 3) := by decide +kernel
theorem dX9_walks_96 : decode cX9_walks 96 = .ok (.aload_n 0, 1) := by decide +kernel
theorem dX9_walks_97 : decode cX9_walks 97 = .ok (.getfield 31, 3) := by decide +kernel
theorem dX9_walks_100 : decode cX9_walks 100 = .ok (.iload_n 1, 1) := by decide +kernel
theorem dX9_walks_101 : decode cX9_walks 101 = .ok (.iaload, 1) := by decide +kernel
theorem dX9_walks_102 : decode cX9_walks 102 = .ok (.iaload, 1) := by decide +kernel
theorem dX9_walks_103 : decode cX9_walks 103 = .ok (.iconst 1, 1) := by decide +kernel
theorem dX9_walks_104 : decode cX9_walks 104 = .ok (.iadd, 1) := by decide +kernel
theorem dX9_walks_105 : decode cX9_walks 105 = .ok (.istore 4, 2) := by decide +kernel
theorem dX9_walks_107 : decode cX9_walks 107 = .ok (.aload_n 0, 1) := by decide +kernel
theorem dX9_walks_108 : decode cX9_walks 108 = .ok (.bipush 101, 2) := by decide +kernel
theorem dX9_walks_110 : decode cX9_walks 110 = .ok (.iload_n 2, 1) := by decide +kernel
theorem dX9_walks_111 : decode cX9_walks 111 = .ok (.iload_n 3, 1) := by decide +kernel
theorem dX9_walks_112 : decode cX9_walks 112 = .ok (.invokevirtual 87, 3) := by decide +kernel
theorem dX9_walks_115 : decode cX9_walks 115 = .ok (.ifCond .eq 13, 3) := by decide +kernel
theorem dX9_walks_118 : decode cX9_walks 118 = .ok (.aload_n 0, 1) := by decide +kernel
theorem dX9_walks_119 : decode cX9_walks 119 = .ok (.iload_n 2, 1) := by decide +kernel
theorem dX9_walks_120 : decode cX9_walks 120 = .ok (.iload_n 3, 1) := by decide +kernel
theorem dX9_walks_121 : decode cX9_walks 121 = .ok (.iconst 1, 1) := by decide +kernel
theorem dX9_walks_122 : decode cX9_walks 122 = .ok (.isub, 1) := by decide +kernel
theorem dX9_walks_123 : decode cX9_walks 123 = .ok (.iload 4, 2) := by decide +kernel
theorem dX9_walks_125 : decode cX9_walks 125 = .ok (.invokevirtual 116, 3) := by decide +kernel
theorem dX9_walks_128 : decode cX9_walks 128 = .ok (.aload_n 0, 1) := by decide +kernel
theorem dX9_walks_129 : decode cX9_walks 129 = .ok (.bipush 101, 2) := by decide +kernel
theorem dX9_walks_131 : decode cX9_walks 131 = .ok (.iload_n 2, 1) := by decide +kernel
theorem dX9_walks_132 : decode cX9_walks 132 = .ok (.iload_n 3, 1) := by decide +kernel
theorem dX9_walks_133 : decode cX9_walks 133 = .ok (.iconst 1, 1) := by decide +kernel
theorem dX9_walks_134 : decode cX9_walks 134 = .ok (.iadd, 1) := by decide +kernel
theorem dX9_walks_135 : decode cX9_walks 135 = .ok (.invokevirtual 87, 3) := by decide +kernel
theorem dX9_walks_138 : decode cX9_walks 138 = .ok (.ifCond .eq 13, 3) := by decide +kernel
theorem dX9_walks_141 : decode cX9_walks 141 = .ok (.aload_n 0, 1) := by decide +kernel
theorem dX9_walks_142 : decode cX9_walks 142 = .ok (.iload_n 2, 1) := by decide +kernel
theorem dX9_walks_143 : decode cX9_walks 143 = .ok (.iload_n 3, 1) := by decide +kernel
theorem dX9_walks_144 : decode cX9_walks 144 = .ok (.iconst 1, 1) := by decide +kernel
theorem dX9_walks_145 : decode cX9_walks 145 = .ok (.iadd, 1) := by decide +kernel
theorem dX9_walks_146 : decode cX9_walks 146 = .ok (.iload 4, 2) := by decide +kernel
theorem dX9_walks_148 : decode cX9_walks 148 = .ok (.invokevirtual 116, 3) := by decide +kernel
theorem dX9_walks_151 : decode cX9_walks 151 = .ok (.aload_n 0, 1) := by decide +kernel
theorem dX9_walks_152 : decode cX9_walks 152 = .ok (.aload_n 0, 1) := by decide +kernel
theorem dX9_walks_153 : decode cX9_walks 153 = .ok (.iload_n 2, 1) := by decide +kernel
theorem dX9_walks_154 : decode cX9_walks 154 = .ok (.invokevirtual 73, 3) := by decide +kernel
theorem dX9_walks_157 : decode cX9_walks 157 = .ok (.iload_n 3, 1) := by decide +kernel
theorem dX9_walks_158 : decode cX9_walks 158 = .ok (.iload 4, 2) := by decide +kernel
theorem dX9_walks_160 : decode cX9_walks 160 = .ok (.invokevirtual 116, 3) := by decide +kernel
theorem dX9_walks_163 : decode cX9_walks 163 = .ok (.aload_n 0, 1) := by decide +kernel
theorem dX9_walks_164 : decode cX9_walks 164 = .ok (.aload_n 0, 1) := by decide +kernel
theorem dX9_walks_165 : decode cX9_walks 165 = .ok (.iload_n 2, 1) := by decide +kernel
theorem dX9_walks_166 : decode cX9_walks 166 = .ok (.invokevirtual 90, 3) := by decide +kernel
theorem dX9_walks_169 : decode cX9_walks 169 = .ok (.iload_n 3, 1) := by decide +kernel
theorem dX9_walks_170 : decode cX9_walks 170 = .ok (.iload 4, 2) := by decide +kernel
theorem dX9_walks_172 : decode cX9_walks 172 = .ok (.invokevirtual 116, 3) := by decide +kernel
theorem dX9_walks_175 : decode cX9_walks 175 = .ok (.iinc 1 1, 3) := by decide +kernel
theorem dX9_walks_178 : decode cX9_walks 178 = .ok (.goto (-114), 3) := by decide +kernel
theorem dX9_walks_181 : decode cX9_walks 181 = .ok (.return_, 1) := by decide +kernel
def fX9_walks_151 (N : Nat) (Z : mZ) (K64 : Nat → Int32 → mM → Option (Unit × mM)) (v0 : Nat) (v1 : Int32) (v2 : Int32) (v3 : Int32) (v4 : Int32) (M : mM) : Option (Unit × mM) := ck (okO Z v0 9) (bnd2 (fX9_left N Z v0 v2 M) (fun r22 M22 => bnd2 (fX9_comes N Z v0 r22 v3 v4 M22) (fun _ M23 => bnd2 (fX9_right N Z v0 v2 M23) (fun r24 M24 => bnd2 (fX9_comes N Z v0 r24 v3 v4 M24) (fun _ M25 => K64 v0 (v1 + (1 : Int32)) M25)))))
set_option maxHeartbeats 4000000 in
set_option maxRecDepth 100000 in
theorem tX9_walks_151 {G : mG} {p : Program} {l : Launch} {e : Env} {s : State} {m : MethodId} {args : Array Value} {below : List Frame} {meth : Method} {c : Code} (C : Cx G p l s m args meth c RX9 cX9_walks 5 none []) (hnm : meth.name = yX9_walks.name) (N : Nat) (Z : mZ) (K64 : Nat → Int32 → mM → Option (Unit × mM)) (hK64 : ∀ (v0 : Nat) (v1 : Int32) (M : mM) (r : Unit) (M' : mM), K64 v0 v1 M = some (r, M') → JJ G p l e rmX9_walks s m args below meth c 5 (mEnd G below args s rmX9_walks (.inl none) Z M') 0 0 64 [(0, .ref v0), (1, .int v1)] [] Z M) : ∀ (v0 : Nat) (v1 : Int32) (v2 : Int32) (v3 : Int32) (v4 : Int32) (M : mM) (r : Unit) (M' : mM), fX9_walks_151 N Z K64 v0 v1 v2 v3 v4 M = some (r, M') → JJ G p l e rmX9_walks s m args below meth c 5 (mEnd G below args s rmX9_walks (.inl none) Z M') 0 0 151 [(0, .ref v0), (1, .int v1), (2, .int v2), (3, .int v3), (4, .int v4)] [] Z M := by
  intro v0 v1 v2 v3 v4 M r M' h
  unfold fX9_walks_151 at h
  refine j_aload_n C dX9_walks_151 rfl 0 rfl ?_
  refine j_aload_n C dX9_walks_152 rfl 0 rfl ?_
  refine j_iload_n C dX9_walks_153 rfl 2 rfl ?_
  obtain ⟨ho21, h⟩ := ck_spec h
  obtain ⟨r22, M22, hq22, h⟩ := bnd2_spec h
  refine j_run1 (c_V C (As := [.int v2]) (rest := [.ref v0]) (ctX9_left C.2.2.2.2.2.2.2.2.1 N Z hq22) kcRX9_73 oyX9_left (ci := 9) (T := TX9) (N := 23) rfl (by decide) ho21 ⟨by decide, by decide⟩ ⟨by decide, by decide⟩ (Nat.le_of_ble_eq_true rfl) rfl dX9_walks_154) ?_
  refine j_iload_n C dX9_walks_157 rfl 3 rfl ?_
  refine j_iload C dX9_walks_158 4 rfl ?_
  obtain ⟨_, M23, hq23, h⟩ := bnd2_spec h
  refine j_run0 (c_V C (As := [.int r22, .int v3, .int v4]) (rest := []) (ctX9_comes C.2.2.2.2.2.2.2.2.1 N Z hq23) kcRX9_116 oyX9_comes (ci := 9) (T := TX9) (N := 23) rfl (by decide) ho21 ⟨by decide, by decide⟩ ⟨by decide, by decide⟩ (Nat.le_of_ble_eq_true rfl) rfl dX9_walks_160) ?_
  refine j_aload_n C dX9_walks_163 rfl 0 rfl ?_
  refine j_aload_n C dX9_walks_164 rfl 0 rfl ?_
  refine j_iload_n C dX9_walks_165 rfl 2 rfl ?_
  obtain ⟨r24, M24, hq24, h⟩ := bnd2_spec h
  refine j_run1 (c_V C (As := [.int v2]) (rest := [.ref v0]) (ctX9_right C.2.2.2.2.2.2.2.2.1 N Z hq24) kcRX9_90 oyX9_right (ci := 9) (T := TX9) (N := 23) rfl (by decide) ho21 ⟨by decide, by decide⟩ ⟨by decide, by decide⟩ (Nat.le_of_ble_eq_true rfl) rfl dX9_walks_166) ?_
  refine j_iload_n C dX9_walks_169 rfl 3 rfl ?_
  refine j_iload C dX9_walks_170 4 rfl ?_
  obtain ⟨_, M25, hq25, h⟩ := bnd2_spec h
  refine j_run0 (c_V C (As := [.int r24, .int v3, .int v4]) (rest := []) (ctX9_comes C.2.2.2.2.2.2.2.2.1 N Z hq25) kcRX9_116 oyX9_comes (ci := 9) (T := TX9) (N := 23) rfl (by decide) ho21 ⟨by decide, by decide⟩ ⟨by decide, by decide⟩ (Nat.le_of_ble_eq_true rfl) rfl dX9_walks_172) ?_
  refine j_iinc C dX9_walks_175 1 rfl (v := (v1 + (1 : Int32))) (by first | rfl | decide) (by decide) (L' := [(1, .int (v1 + (1 : Int32))), (0, .ref v0), (2, .int v2), (3, .int v3), (4, .int v4)]) rfl ?_
  refine j_goto C dX9_walks_178 (tgt := 64) (by decide) ?_
  refine j_sub (L' := [(0, .ref v0), (1, .int (v1 + (1 : Int32)))]) [1, 0] rfl ?_
  exact hK64 v0 (v1 + (1 : Int32)) M25 r M' h
def fX9_walks_128 (N : Nat) (Z : mZ) (K64 : Nat → Int32 → mM → Option (Unit × mM)) (v0 : Nat) (v1 : Int32) (v2 : Int32) (v3 : Int32) (v4 : Int32) (M : mM) : Option (Unit × mM) := ck (okO Z v0 9) (bnd2 (fX9_has N Z v0 (101 : Int32) v2 (v3 + (1 : Int32)) M) (fun r19 M19 => if r19 = 0 then fX9_walks_151 N Z K64 v0 v1 v2 v3 v4 M19 else bnd2 (fX9_comes N Z v0 v2 (v3 + (1 : Int32)) v4 M19) (fun _ M26 => fX9_walks_151 N Z K64 v0 v1 v2 v3 v4 M26)))
set_option maxHeartbeats 4000000 in
set_option maxRecDepth 100000 in
theorem tX9_walks_128 {G : mG} {p : Program} {l : Launch} {e : Env} {s : State} {m : MethodId} {args : Array Value} {below : List Frame} {meth : Method} {c : Code} (C : Cx G p l s m args meth c RX9 cX9_walks 5 none []) (hnm : meth.name = yX9_walks.name) (N : Nat) (Z : mZ) (K64 : Nat → Int32 → mM → Option (Unit × mM)) (hK64 : ∀ (v0 : Nat) (v1 : Int32) (M : mM) (r : Unit) (M' : mM), K64 v0 v1 M = some (r, M') → JJ G p l e rmX9_walks s m args below meth c 5 (mEnd G below args s rmX9_walks (.inl none) Z M') 0 0 64 [(0, .ref v0), (1, .int v1)] [] Z M) : ∀ (v0 : Nat) (v1 : Int32) (v2 : Int32) (v3 : Int32) (v4 : Int32) (M : mM) (r : Unit) (M' : mM), fX9_walks_128 N Z K64 v0 v1 v2 v3 v4 M = some (r, M') → JJ G p l e rmX9_walks s m args below meth c 5 (mEnd G below args s rmX9_walks (.inl none) Z M') 0 0 128 [(0, .ref v0), (1, .int v1), (2, .int v2), (3, .int v3), (4, .int v4)] [] Z M := by
  intro v0 v1 v2 v3 v4 M r M' h
  unfold fX9_walks_128 at h
  refine j_aload_n C dX9_walks_128 rfl 0 rfl ?_
  refine j_bipush C dX9_walks_129 (v := (101 : Int32)) (by decide) ?_
  refine j_iload_n C dX9_walks_131 rfl 2 rfl ?_
  refine j_iload_n C dX9_walks_132 rfl 3 rfl ?_
  refine j_iconst C dX9_walks_133 (v := (1 : Int32)) (by decide) ?_
  refine j_iadd C dX9_walks_134 ?_
  obtain ⟨ho18, h⟩ := ck_spec h
  obtain ⟨r19, M19, hq19, h⟩ := bnd2_spec h
  refine j_run1 (c_V C (As := [.int (101 : Int32), .int v2, .int (v3 + (1 : Int32))]) (rest := []) (ctX9_has C.2.2.2.2.2.2.2.2.1 N Z hq19) kcRX9_87 oyX9_has (ci := 9) (T := TX9) (N := 23) rfl (by decide) ho18 ⟨by decide, by decide⟩ ⟨by decide, by decide⟩ (Nat.le_of_ble_eq_true rfl) rfl dX9_walks_135) ?_
  refine j_if_eq C dX9_walks_138 (tgt := 151) (by decide) (fun hc20 => ?_) (fun hc20 => ?_)
  · rw [if_pos hc20] at h
    refine j_sub (L' := [(0, .ref v0), (1, .int v1), (2, .int v2), (3, .int v3), (4, .int v4)]) [0, 1, 2, 3, 4] rfl ?_
    exact tX9_walks_151 C hnm N Z K64 hK64 v0 v1 v2 v3 v4 M19 _ _ h
  · rw [if_neg hc20] at h
    refine j_aload_n C dX9_walks_141 rfl 0 rfl ?_
    refine j_iload_n C dX9_walks_142 rfl 2 rfl ?_
    refine j_iload_n C dX9_walks_143 rfl 3 rfl ?_
    refine j_iconst C dX9_walks_144 (v := (1 : Int32)) (by decide) ?_
    refine j_iadd C dX9_walks_145 ?_
    refine j_iload C dX9_walks_146 4 rfl ?_
    obtain ⟨_, M26, hq26, h⟩ := bnd2_spec h
    refine j_run0 (c_V C (As := [.int v2, .int (v3 + (1 : Int32)), .int v4]) (rest := []) (ctX9_comes C.2.2.2.2.2.2.2.2.1 N Z hq26) kcRX9_116 oyX9_comes (ci := 9) (T := TX9) (N := 23) rfl (by decide) ho18 ⟨by decide, by decide⟩ ⟨by decide, by decide⟩ (Nat.le_of_ble_eq_true rfl) rfl dX9_walks_148) ?_
    refine j_sub (L' := [(0, .ref v0), (1, .int v1), (2, .int v2), (3, .int v3), (4, .int v4)]) [0, 1, 2, 3, 4] rfl ?_
    exact tX9_walks_151 C hnm N Z K64 hK64 v0 v1 v2 v3 v4 M26 _ _ h
def fX9_walks_64 (N : Nat) (Z : mZ) : Nat → Nat → Int32 → mM → Option (Unit × mM)
  | 0, _, _, _ => none
  | fu + 1, v0, v1, M => ck (okO Z v0 9) (if (M.1 v0 13) ≤ v1 then some ((), M) else bnd1 (Z.2.2.2 v0 12) (fun c10 => ck (okI Z c10) (ck (inB v1 (Z.2.2.1 c10)) (bnd1 (Z.2.2.2 v0 11) (fun c13 => ck (okI Z c13) (ck (inB (M.1 c10 (v1).toNatClampNeg) (Z.2.2.1 c13)) (bnd2 (fX9_has N Z v0 (101 : Int32) ((M.1 c10 (v1).toNatClampNeg) / (7 : Int32)) ((M.1 c10 (v1).toNatClampNeg) - (M.1 c10 (v1).toNatClampNeg) / (7 : Int32) * (7 : Int32)) M) (fun r16 M16 => if r16 = 0 then fX9_walks_128 N Z (fun w0 w1 M9 => fX9_walks_64 N Z fu w0 w1 M9) v0 v1 ((M.1 c10 (v1).toNatClampNeg) / (7 : Int32)) ((M.1 c10 (v1).toNatClampNeg) - (M.1 c10 (v1).toNatClampNeg) / (7 : Int32) * (7 : Int32)) ((M.1 c13 ((M.1 c10 (v1).toNatClampNeg)).toNatClampNeg) + (1 : Int32)) M16 else bnd2 (fX9_comes N Z v0 ((M.1 c10 (v1).toNatClampNeg) / (7 : Int32)) (((M.1 c10 (v1).toNatClampNeg) - (M.1 c10 (v1).toNatClampNeg) / (7 : Int32) * (7 : Int32)) - (1 : Int32)) ((M.1 c13 ((M.1 c10 (v1).toNatClampNeg)).toNatClampNeg) + (1 : Int32)) M16) (fun _ M27 => fX9_walks_128 N Z (fun w0 w1 M9 => fX9_walks_64 N Z fu w0 w1 M9) v0 v1 ((M.1 c10 (v1).toNatClampNeg) / (7 : Int32)) ((M.1 c10 (v1).toNatClampNeg) - (M.1 c10 (v1).toNatClampNeg) / (7 : Int32) * (7 : Int32)) ((M.1 c13 ((M.1 c10 (v1).toNatClampNeg)).toNatClampNeg) + (1 : Int32)) M27)))))))))
set_option maxHeartbeats 4000000 in
set_option maxRecDepth 100000 in
theorem tX9_walks_64 {G : mG} {p : Program} {l : Launch} {e : Env} {s : State} {m : MethodId} {args : Array Value} {below : List Frame} {meth : Method} {c : Code} (C : Cx G p l s m args meth c RX9 cX9_walks 5 none []) (hnm : meth.name = yX9_walks.name) (N : Nat) (Z : mZ) : ∀ (fu : Nat) (v0 : Nat) (v1 : Int32) (M : mM) (r : Unit) (M' : mM), fX9_walks_64 N Z fu v0 v1 M = some (r, M') → JJ G p l e rmX9_walks s m args below meth c 5 (mEnd G below args s rmX9_walks (.inl none) Z M') 0 0 64 [(0, .ref v0), (1, .int v1)] [] Z M := by
  intro fu
  induction fu with
  | zero =>
    intro v0 v1 M r M' h
    cases h
  | succ fu ih =>
    intro v0 v1 M r M' h
    rw [fX9_walks_64] at h
    refine j_iload_n C dX9_walks_64 rfl 1 rfl ?_
    refine j_aload_n C dX9_walks_65 rfl 0 rfl ?_
    obtain ⟨ho8, h⟩ := ck_spec h
    refine j_getI C (cn := RX9) (T := TX9) (N := 23) (ci := 9) rfl iX9 ho8 13 (by decide) rfl fwRX9_113 dX9_walks_66 ?_
    refine j_icmp_ge C dX9_walks_69 (tgt := 181) (by decide) (fun hc9 => ?_) (fun hc9 => ?_)
    · rw [if_pos hc9] at h
      cases h
      exact j_vret C rfl (by decide) (by decide) dX9_walks_181
    · rw [if_neg hc9] at h
      refine j_aload_n C dX9_walks_72 rfl 0 rfl ?_
      obtain ⟨c10, hr10, h⟩ := bnd1_spec h
      refine j_getR C (cn := RX9) (T := TX9) (N := 23) (ci := 9) rfl iX9 ho8 12 (by decide) rfl fwRX9_31 dX9_walks_73 hr10 ?_
      refine j_iload_n C dX9_walks_76 rfl 1 rfl ?_
      obtain ⟨ho11, h⟩ := ck_spec h
      obtain ⟨ho12, h⟩ := ck_spec h
      refine j_iald C ho11 ho12 dX9_walks_77 ?_
      refine j_bipush C dX9_walks_78 (v := (7 : Int32)) (by decide) ?_
      refine j_idiv C dX9_walks_80 (by decide) ?_
      refine j_istore_n C dX9_walks_81 rfl (by decide) (L' := [(2, .int ((M.1 c10 (v1).toNatClampNeg) / (7 : Int32))), (0, .ref v0), (1, .int v1)]) rfl ?_
      refine j_aload_n C dX9_walks_82 rfl 1 rfl ?_
      refine j_getR C (cn := RX9) (T := TX9) (N := 23) (ci := 9) rfl iX9 ho8 12 (by decide) rfl fwRX9_31 dX9_walks_83 hr10 ?_
      refine j_iload_n C dX9_walks_86 rfl 2 rfl ?_
      refine j_iald C ho11 ho12 dX9_walks_87 ?_
      refine j_bipush C dX9_walks_88 (v := (7 : Int32)) (by decide) ?_
      refine j_irem C dX9_walks_90 (by decide) ?_
      refine j_istore_n C dX9_walks_91 rfl (by decide) (L' := [(3, .int ((M.1 c10 (v1).toNatClampNeg) - (M.1 c10 (v1).toNatClampNeg) / (7 : Int32) * (7 : Int32))), (2, .int ((M.1 c10 (v1).toNatClampNeg) / (7 : Int32))), (0, .ref v0), (1, .int v1)]) rfl ?_
      refine j_aload_n C dX9_walks_92 rfl 2 rfl ?_
      obtain ⟨c13, hr13, h⟩ := bnd1_spec h
      refine j_getR C (cn := RX9) (T := TX9) (N := 23) (ci := 9) rfl iX9 ho8 11 (by decide) rfl fwRX9_28 dX9_walks_93 hr13 ?_
      refine j_aload_n C dX9_walks_96 rfl 2 rfl ?_
      refine j_getR C (cn := RX9) (T := TX9) (N := 23) (ci := 9) rfl iX9 ho8 12 (by decide) rfl fwRX9_31 dX9_walks_97 hr10 ?_
      refine j_iload_n C dX9_walks_100 rfl 3 rfl ?_
      refine j_iald C ho11 ho12 dX9_walks_101 ?_
      obtain ⟨ho14, h⟩ := ck_spec h
      obtain ⟨ho15, h⟩ := ck_spec h
      refine j_iald C ho14 ho15 dX9_walks_102 ?_
      refine j_iconst C dX9_walks_103 (v := (1 : Int32)) (by decide) ?_
      refine j_iadd C dX9_walks_104 ?_
      refine j_istore C dX9_walks_105 (by decide) (L' := [(4, .int ((M.1 c13 ((M.1 c10 (v1).toNatClampNeg)).toNatClampNeg) + (1 : Int32))), (3, .int ((M.1 c10 (v1).toNatClampNeg) - (M.1 c10 (v1).toNatClampNeg) / (7 : Int32) * (7 : Int32))), (2, .int ((M.1 c10 (v1).toNatClampNeg) / (7 : Int32))), (0, .ref v0), (1, .int v1)]) rfl ?_
      refine j_aload_n C dX9_walks_107 rfl 3 rfl ?_
      refine j_bipush C dX9_walks_108 (v := (101 : Int32)) (by decide) ?_
      refine j_iload_n C dX9_walks_110 rfl 2 rfl ?_
      refine j_iload_n C dX9_walks_111 rfl 1 rfl ?_
      obtain ⟨r16, M16, hq16, h⟩ := bnd2_spec h
      refine j_run1 (c_V C (As := [.int (101 : Int32), .int ((M.1 c10 (v1).toNatClampNeg) / (7 : Int32)), .int ((M.1 c10 (v1).toNatClampNeg) - (M.1 c10 (v1).toNatClampNeg) / (7 : Int32) * (7 : Int32))]) (rest := []) (ctX9_has C.2.2.2.2.2.2.2.2.1 N Z hq16) kcRX9_87 oyX9_has (ci := 9) (T := TX9) (N := 23) rfl (by decide) ho8 ⟨by decide, by decide⟩ ⟨by decide, by decide⟩ (Nat.le_of_ble_eq_true rfl) rfl dX9_walks_112) ?_
      refine j_if_eq C dX9_walks_115 (tgt := 128) (by decide) (fun hc17 => ?_) (fun hc17 => ?_)
      · rw [if_pos hc17] at h
        refine j_sub (L' := [(0, .ref v0), (1, .int v1), (2, .int ((M.1 c10 (v1).toNatClampNeg) / (7 : Int32))), (3, .int ((M.1 c10 (v1).toNatClampNeg) - (M.1 c10 (v1).toNatClampNeg) / (7 : Int32) * (7 : Int32))), (4, .int ((M.1 c13 ((M.1 c10 (v1).toNatClampNeg)).toNatClampNeg) + (1 : Int32)))]) [3, 4, 2, 1, 0] rfl ?_
        exact tX9_walks_128 C hnm N Z (fun w0 w1 M9 => fX9_walks_64 N Z fu w0 w1 M9) (fun w0 w1 M9 r9 M9' h9 => ih w0 w1 M9 r9 M9' h9) v0 v1 ((M.1 c10 (v1).toNatClampNeg) / (7 : Int32)) ((M.1 c10 (v1).toNatClampNeg) - (M.1 c10 (v1).toNatClampNeg) / (7 : Int32) * (7 : Int32)) ((M.1 c13 ((M.1 c10 (v1).toNatClampNeg)).toNatClampNeg) + (1 : Int32)) M16 _ _ h
      · rw [if_neg hc17] at h
        refine j_aload_n C dX9_walks_118 rfl 3 rfl ?_
        refine j_iload_n C dX9_walks_119 rfl 2 rfl ?_
        refine j_iload_n C dX9_walks_120 rfl 1 rfl ?_
        refine j_iconst C dX9_walks_121 (v := (1 : Int32)) (by decide) ?_
        refine j_isub C dX9_walks_122 ?_
        refine j_iload C dX9_walks_123 0 rfl ?_
        obtain ⟨_, M27, hq27, h⟩ := bnd2_spec h
        refine j_run0 (c_V C (As := [.int ((M.1 c10 (v1).toNatClampNeg) / (7 : Int32)), .int (((M.1 c10 (v1).toNatClampNeg) - (M.1 c10 (v1).toNatClampNeg) / (7 : Int32) * (7 : Int32)) - (1 : Int32)), .int ((M.1 c13 ((M.1 c10 (v1).toNatClampNeg)).toNatClampNeg) + (1 : Int32))]) (rest := []) (ctX9_comes C.2.2.2.2.2.2.2.2.1 N Z hq27) kcRX9_116 oyX9_comes (ci := 9) (T := TX9) (N := 23) rfl (by decide) ho8 ⟨by decide, by decide⟩ ⟨by decide, by decide⟩ (Nat.le_of_ble_eq_true rfl) rfl dX9_walks_125) ?_
        refine j_sub (L' := [(0, .ref v0), (1, .int v1), (2, .int ((M.1 c10 (v1).toNatClampNeg) / (7 : Int32))), (3, .int ((M.1 c10 (v1).toNatClampNeg) - (M.1 c10 (v1).toNatClampNeg) / (7 : Int32) * (7 : Int32))), (4, .int ((M.1 c13 ((M.1 c10 (v1).toNatClampNeg)).toNatClampNeg) + (1 : Int32)))]) [3, 4, 2, 1, 0] rfl ?_
        exact tX9_walks_128 C hnm N Z (fun w0 w1 M9 => fX9_walks_64 N Z fu w0 w1 M9) (fun w0 w1 M9 r9 M9' h9 => ih w0 w1 M9 r9 M9' h9) v0 v1 ((M.1 c10 (v1).toNatClampNeg) / (7 : Int32)) ((M.1 c10 (v1).toNatClampNeg) - (M.1 c10 (v1).toNatClampNeg) / (7 : Int32) * (7 : Int32)) ((M.1 c13 ((M.1 c10 (v1).toNatClampNeg)).toNatClampNeg) + (1 : Int32)) M27 _ _ h
def fX9_walks_28 (N : Nat) (Z : mZ) : Nat → Nat → Int32 → mM → Option (Unit × mM)
  | 0, _, _, _ => none
  | fu + 1, v0, v1, M => ck (okO Z v0 9) (bnd1 (Z.2.2.2 v0 0) (fun c4 => ck (okI Z c4) (ck (inB (0 : Int32) (Z.2.2.1 c4)) (if (M.1 c4 ((0 : Int32)).toNatClampNeg) ≤ v1 then fX9_walks_64 N Z N v0 (0 : Int32) M else bnd2 (fX9_has N Z v0 (101 : Int32) v1 (1 : Int32) M) (fun r28 M28 => if r28 = 0 then fX9_walks_28 N Z fu v0 (v1 + (1 : Int32)) M28 else bnd2 (fX9_comes N Z v0 v1 (1 : Int32) (1 : Int32) M28) (fun _ M30 => fX9_walks_28 N Z fu v0 (v1 + (1 : Int32)) M30))))))
set_option maxHeartbeats 4000000 in
set_option maxRecDepth 100000 in
theorem tX9_walks_28 {G : mG} {p : Program} {l : Launch} {e : Env} {s : State} {m : MethodId} {args : Array Value} {below : List Frame} {meth : Method} {c : Code} (C : Cx G p l s m args meth c RX9 cX9_walks 5 none []) (hnm : meth.name = yX9_walks.name) (N : Nat) (Z : mZ) : ∀ (fu : Nat) (v0 : Nat) (v1 : Int32) (M : mM) (r : Unit) (M' : mM), fX9_walks_28 N Z fu v0 v1 M = some (r, M') → JJ G p l e rmX9_walks s m args below meth c 5 (mEnd G below args s rmX9_walks (.inl none) Z M') 0 0 28 [(0, .ref v0), (1, .int v1)] [] Z M := by
  intro fu
  induction fu with
  | zero =>
    intro v0 v1 M r M' h
    cases h
  | succ fu ih =>
    intro v0 v1 M r M' h
    rw [fX9_walks_28] at h
    refine j_iload_n C dX9_walks_28 rfl 1 rfl ?_
    refine j_aload_n C dX9_walks_29 rfl 0 rfl ?_
    obtain ⟨ho3, h⟩ := ck_spec h
    obtain ⟨c4, hr4, h⟩ := bnd1_spec h
    refine j_getR C (cn := RX9) (T := TX9) (N := 23) (ci := 9) rfl iX9 ho3 0 (by decide) rfl fwRX9_7 dX9_walks_30 hr4 ?_
    refine j_iconst C dX9_walks_33 (v := (0 : Int32)) (by decide) ?_
    obtain ⟨ho5, h⟩ := ck_spec h
    obtain ⟨ho6, h⟩ := ck_spec h
    refine j_iald C ho5 ho6 dX9_walks_34 ?_
    refine j_icmp_ge C dX9_walks_35 (tgt := 62) (by decide) (fun hc7 => ?_) (fun hc7 => ?_)
    · rw [if_pos hc7] at h
      refine j_iconst C dX9_walks_62 (v := (0 : Int32)) (by decide) ?_
      refine j_istore_n C dX9_walks_63 rfl (by decide) (L' := [(1, .int (0 : Int32)), (0, .ref v0)]) rfl ?_
      refine j_sub (L' := [(0, .ref v0), (1, .int (0 : Int32))]) [1, 0] rfl ?_
      exact tX9_walks_64 C hnm N Z N v0 (0 : Int32) M _ _ h
    · rw [if_neg hc7] at h
      refine j_aload_n C dX9_walks_38 rfl 0 rfl ?_
      refine j_bipush C dX9_walks_39 (v := (101 : Int32)) (by decide) ?_
      refine j_iload_n C dX9_walks_41 rfl 1 rfl ?_
      refine j_iconst C dX9_walks_42 (v := (1 : Int32)) (by decide) ?_
      obtain ⟨r28, M28, hq28, h⟩ := bnd2_spec h
      refine j_run1 (c_V C (As := [.int (101 : Int32), .int v1, .int (1 : Int32)]) (rest := []) (ctX9_has C.2.2.2.2.2.2.2.2.1 N Z hq28) kcRX9_87 oyX9_has (ci := 9) (T := TX9) (N := 23) rfl (by decide) ho3 ⟨by decide, by decide⟩ ⟨by decide, by decide⟩ (Nat.le_of_ble_eq_true rfl) rfl dX9_walks_43) ?_
      refine j_if_eq C dX9_walks_46 (tgt := 56) (by decide) (fun hc29 => ?_) (fun hc29 => ?_)
      · rw [if_pos hc29] at h
        refine j_iinc C dX9_walks_56 1 rfl (v := (v1 + (1 : Int32))) (by first | rfl | decide) (by decide) (L' := [(1, .int (v1 + (1 : Int32))), (0, .ref v0)]) rfl ?_
        refine j_goto C dX9_walks_59 (tgt := 28) (by decide) ?_
        refine j_sub (L' := [(0, .ref v0), (1, .int (v1 + (1 : Int32)))]) [1, 0] rfl ?_
        exact ih v0 (v1 + (1 : Int32)) M28 r M' h
      · rw [if_neg hc29] at h
        refine j_aload_n C dX9_walks_49 rfl 0 rfl ?_
        refine j_iload_n C dX9_walks_50 rfl 1 rfl ?_
        refine j_iconst C dX9_walks_51 (v := (1 : Int32)) (by decide) ?_
        refine j_iconst C dX9_walks_52 (v := (1 : Int32)) (by decide) ?_
        obtain ⟨_, M30, hq30, h⟩ := bnd2_spec h
        refine j_run0 (c_V C (As := [.int v1, .int (1 : Int32), .int (1 : Int32)]) (rest := []) (ctX9_comes C.2.2.2.2.2.2.2.2.1 N Z hq30) kcRX9_116 oyX9_comes (ci := 9) (T := TX9) (N := 23) rfl (by decide) ho3 ⟨by decide, by decide⟩ ⟨by decide, by decide⟩ (Nat.le_of_ble_eq_true rfl) rfl dX9_walks_53) ?_
        refine j_iinc C dX9_walks_56 1 rfl (v := (v1 + (1 : Int32))) (by first | rfl | decide) (by decide) (L' := [(1, .int (v1 + (1 : Int32))), (0, .ref v0)]) rfl ?_
        refine j_goto C dX9_walks_59 (tgt := 28) (by decide) ?_
        refine j_sub (L' := [(0, .ref v0), (1, .int (v1 + (1 : Int32)))]) [1, 0] rfl ?_
        exact ih v0 (v1 + (1 : Int32)) M30 r M' h
def fX9_walks_7 (N : Nat) (Z : mZ) : Nat → Nat → Int32 → mM → Option (Unit × mM)
  | 0, _, _, _ => none
  | fu + 1, v0, v1, M => if (70 : Int32) ≤ v1 then fX9_walks_28 N Z N v0 (0 : Int32) M else ck (okO Z v0 9) (bnd1 (Z.2.2.2 v0 11) (fun c32 => ck (okO Z c32 20) (ck (inB v1 (Z.2.2.1 c32)) (fX9_walks_7 N Z fu v0 (v1 + (1 : Int32)) (sI M c32 (v1).toNatClampNeg (-1 : Int32))))))
set_option maxHeartbeats 4000000 in
set_option maxRecDepth 100000 in
theorem tX9_walks_7 {G : mG} {p : Program} {l : Launch} {e : Env} {s : State} {m : MethodId} {args : Array Value} {below : List Frame} {meth : Method} {c : Code} (C : Cx G p l s m args meth c RX9 cX9_walks 5 none []) (hnm : meth.name = yX9_walks.name) (N : Nat) (Z : mZ) : ∀ (fu : Nat) (v0 : Nat) (v1 : Int32) (M : mM) (r : Unit) (M' : mM), fX9_walks_7 N Z fu v0 v1 M = some (r, M') → JJ G p l e rmX9_walks s m args below meth c 5 (mEnd G below args s rmX9_walks (.inl none) Z M') 0 0 7 [(0, .ref v0), (1, .int v1)] [] Z M := by
  intro fu
  induction fu with
  | zero =>
    intro v0 v1 M r M' h
    cases h
  | succ fu ih =>
    intro v0 v1 M r M' h
    rw [fX9_walks_7] at h
    refine j_iload_n C dX9_walks_7 rfl 1 rfl ?_
    refine j_bipush C dX9_walks_8 (v := (70 : Int32)) (by decide) ?_
    refine j_icmp_ge C dX9_walks_10 (tgt := 26) (by decide) (fun hc2 => ?_) (fun hc2 => ?_)
    · rw [if_pos hc2] at h
      refine j_iconst C dX9_walks_26 (v := (0 : Int32)) (by decide) ?_
      refine j_istore_n C dX9_walks_27 rfl (by decide) (L' := [(1, .int (0 : Int32)), (0, .ref v0)]) rfl ?_
      refine j_sub (L' := [(0, .ref v0), (1, .int (0 : Int32))]) [1, 0] rfl ?_
      exact tX9_walks_28 C hnm N Z N v0 (0 : Int32) M _ _ h
    · rw [if_neg hc2] at h
      refine j_aload_n C dX9_walks_13 rfl 0 rfl ?_
      obtain ⟨ho31, h⟩ := ck_spec h
      obtain ⟨c32, hr32, h⟩ := bnd1_spec h
      refine j_getR C (cn := RX9) (T := TX9) (N := 23) (ci := 9) rfl iX9 ho31 11 (by decide) rfl fwRX9_28 dX9_walks_14 hr32 ?_
      refine j_iload_n C dX9_walks_17 rfl 1 rfl ?_
      refine j_iconst C dX9_walks_18 (v := (-1 : Int32)) (by decide) ?_
      obtain ⟨ho33, h⟩ := ck_spec h
      obtain ⟨ho34, h⟩ := ck_spec h
      refine j_iast C ho33 ho34 dX9_walks_19 ?_
      refine j_iinc C dX9_walks_20 1 rfl (v := (v1 + (1 : Int32))) (by first | rfl | decide) (by decide) (L' := [(1, .int (v1 + (1 : Int32))), (0, .ref v0)]) rfl ?_
      refine j_goto C dX9_walks_23 (tgt := 7) (by decide) ?_
      refine j_sub (L' := [(0, .ref v0), (1, .int (v1 + (1 : Int32)))]) [1, 0] rfl ?_
      exact ih v0 (v1 + (1 : Int32)) (sI M c32 (v1).toNatClampNeg (-1 : Int32)) r M' h
def fX9_walks (N : Nat) (Z : mZ) (a0 : Nat) (M : mM) : Option (Unit × mM) := ck (okO Z a0 9) (fX9_walks_7 N Z N a0 (0 : Int32) (sI M a0 13 (0 : Int32)))
set_option maxHeartbeats 4000000 in
set_option maxRecDepth 100000 in
theorem ctX9_walks {G : mG} {l : Launch} (hl : l.stackTraces = false) (N : Nat) (Z : mZ) {a0 : Nat} {M : mM} {r : Unit} {M' : mM} (h : fX9_walks N Z a0 M = some (r, M')) : CT G l yX9_walks (.code yX9_walks cX9_walks 5 none) rmX9_walks [.ref a0] Z M (.inl none) Z M' := by
  unfold fX9_walks at h
  refine CT.of hl (by decide) (Nat.le_of_ble_eq_true rfl) ?_
  intro p e s m args below meth c C hnm
  refine j_sub (L' := [(0, .ref a0)]) [0] rfl ?_
  refine j_aload_n C dX9_walks_0 rfl 0 rfl ?_
  refine j_iconst C dX9_walks_1 (v := (0 : Int32)) (by decide) ?_
  obtain ⟨ho1, h⟩ := ck_spec h
  refine j_putI C tyX9 tyX9_ok nmX9 (cn := RX9) (T := TX9) (N := 23) (ci := 9) rfl iX9 ho1 13 (by decide) rfl fwRX9_113 ⟨rfl, rfl⟩ dX9_walks_2 ?_
  refine j_iconst C dX9_walks_5 (v := (0 : Int32)) (by decide) ?_
  refine j_istore_n C dX9_walks_6 rfl (by decide) (L' := [(1, .int (0 : Int32)), (0, .ref a0)]) rfl ?_
  refine j_sub (L' := [(0, .ref a0), (1, .int (0 : Int32))]) [1, 0] rfl ?_
  exact tX9_walks_7 C hnm N Z N a0 (0 : Int32) (sI M a0 13 (0 : Int32)) _ _ h
-- ScaffoldPlannerModel isReached
abbrev rmX9_isReached : Room := { frames := 1, cells := 0, slots := 0, locals := 22 }
theorem dX9_isReached_0 : decode cX9_isReached 0 = .ok (.iload_n 2, 1) := by decide +kernel
theorem dX9_isReached_1 : decode cX9_isReached 1 = .ok (.iconst 1, 1) := by decide +kernel
theorem dX9_isReached_2 : decode cX9_isReached 2 = .ok (.bipush 6, 2) := by decide +kernel
theorem dX9_isReached_4 : decode cX9_isReached 4 = .ok (.invokestatic 54, 3) := by decide +kernel
theorem dX9_isReached_7 : decode cX9_isReached 7 = .ok (.ifCond .eq 21, 3) := by decide +kernel
theorem dX9_isReached_10 : decode cX9_isReached 10 = .ok (.aload_n 0, 1) := by decide +kernel
theorem dX9_isReached_11 : decode cX9_isReached 11 = .ok (.getfield 28, 3) := by decide +kernel
theorem dX9_isReached_14 : decode cX9_isReached 14 = .ok (.bipush 7, 2) := by decide +kernel
theorem dX9_isReached_16 : decode cX9_isReached 16 = .ok (.iload_n 1, 1) := by decide +kernel
theorem dX9_isReached_17 : decode cX9_isReached 17 = .ok (.imul, 1) := by decide +kernel
theorem dX9_isReached_18 : decode cX9_isReached 18 = .ok (.iload_n 2, 1) := by decide +kernel
theorem dX9_isReached_19 : decode cX9_isReached 19 = .ok (.iadd, 1) := by decide +kernel
theorem dX9_isReached_20 : decode cX9_isReached 20 = .ok (.iaload, 1) := by decide +kernel
theorem dX9_isReached_21 : decode cX9_isReached 21 = .ok (.ifCond .lt 7, 3) := by decide +kernel
theorem dX9_isReached_24 : decode cX9_isReached 24 = .ok (.iconst 1, 1) := by decide +kernel
theorem dX9_isReached_25 : decode cX9_isReached 25 = .ok (.goto 4, 3) := by decide +kernel
theorem dX9_isReached_28 : decode cX9_isReached 28 = .ok (.iconst 0, 1) := by decide +kernel
theorem dX9_isReached_29 : decode cX9_isReached 29 = .ok (.ireturn, 1) := by decide +kernel
def fX9_isReached (N : Nat) (Z : mZ) (a0 : Nat) (a1 : Int32) (a2 : Int32) (M : mM) : Option (Int32 × mM) := bnd2 (fX9_in N Z a2 (1 : Int32) (6 : Int32) M) (fun r1 M1 => if r1 = 0 then some ((0 : Int32), M1) else ck (okO Z a0 9) (bnd1 (Z.2.2.2 a0 11) (fun c4 => ck (okI Z c4) (ck (inB (((7 : Int32) * a1) + a2) (Z.2.2.1 c4)) (if (M1.1 c4 ((((7 : Int32) * a1) + a2)).toNatClampNeg) < 0 then some ((0 : Int32), M1) else some ((1 : Int32), M1))))))
set_option maxHeartbeats 4000000 in
set_option maxRecDepth 100000 in
theorem ctX9_isReached {G : mG} {l : Launch} (hl : l.stackTraces = false) (N : Nat) (Z : mZ) {a0 : Nat} {a1 : Int32} {a2 : Int32} {M : mM} {r : Int32} {M' : mM} (h : fX9_isReached N Z a0 a1 a2 M = some (r, M')) : CT G l yX9_isReached (.code yX9_isReached cX9_isReached 3 (some .boolean)) rmX9_isReached [.ref a0, .int a1, .int a2] Z M (.inl (some (.int r))) Z M' := by
  unfold fX9_isReached at h
  refine CT.of hl (by decide) (Nat.le_of_ble_eq_true rfl) ?_
  intro p e s m args below meth c C hnm
  refine j_sub (L' := [(0, .ref a0), (1, .int a1), (2, .int a2)]) [0, 1, 2] rfl ?_
  refine j_iload_n C dX9_isReached_0 rfl 2 rfl ?_
  refine j_iconst C dX9_isReached_1 (v := (1 : Int32)) (by decide) ?_
  refine j_bipush C dX9_isReached_2 (v := (6 : Int32)) (by decide) ?_
  obtain ⟨r1, M1, hq1, h⟩ := bnd2_spec h
  refine j_run1 (c_S C (As := [.int a2, .int (1 : Int32), .int (6 : Int32)]) (rest := []) (ctX9_in C.2.2.2.2.2.2.2.2.1 N Z hq1) kcRX9_54 oyX9_in ⟨by decide, by decide⟩ ⟨by decide, by decide⟩ (Nat.le_of_ble_eq_true rfl) rfl dX9_isReached_4) ?_
  refine j_if_eq C dX9_isReached_7 (tgt := 28) (by decide) (fun hc2 => ?_) (fun hc2 => ?_)
  · rw [if_pos hc2] at h
    refine j_iconst C dX9_isReached_28 (v := (0 : Int32)) (by decide) ?_
    cases h
    exact j_zret C rfl (by decide) (by decide) (by decide) dX9_isReached_29
  · rw [if_neg hc2] at h
    refine j_aload_n C dX9_isReached_10 rfl 0 rfl ?_
    obtain ⟨ho3, h⟩ := ck_spec h
    obtain ⟨c4, hr4, h⟩ := bnd1_spec h
    refine j_getR C (cn := RX9) (T := TX9) (N := 23) (ci := 9) rfl iX9 ho3 11 (by decide) rfl fwRX9_28 dX9_isReached_11 hr4 ?_
    refine j_bipush C dX9_isReached_14 (v := (7 : Int32)) (by decide) ?_
    refine j_iload_n C dX9_isReached_16 rfl 1 rfl ?_
    refine j_imul C dX9_isReached_17 ?_
    refine j_iload_n C dX9_isReached_18 rfl 2 rfl ?_
    refine j_iadd C dX9_isReached_19 ?_
    obtain ⟨ho5, h⟩ := ck_spec h
    obtain ⟨ho6, h⟩ := ck_spec h
    refine j_iald C ho5 ho6 dX9_isReached_20 ?_
    refine j_if_lt C dX9_isReached_21 (tgt := 28) (by decide) (fun hc7 => ?_) (fun hc7 => ?_)
    · rw [if_pos hc7] at h
      refine j_iconst C dX9_isReached_28 (v := (0 : Int32)) (by decide) ?_
      cases h
      exact j_zret C rfl (by decide) (by decide) (by decide) dX9_isReached_29
    · rw [if_neg hc7] at h
      refine j_iconst C dX9_isReached_24 (v := (1 : Int32)) (by decide) ?_
      refine j_goto C dX9_isReached_25 (tgt := 29) (by decide) ?_
      cases h
      exact j_zret C rfl (by decide) (by decide) (by decide) dX9_isReached_29
-- ScaffoldPlannerModel posts
abbrev rmX9_posts : Room := { frames := 2, cells := 0, slots := 0, locals := 42 }
theorem dX9_posts_0 : decode cX9_posts 0 = .ok (.iconst 0, 1) := by decide +kernel
theorem dX9_posts_1 : decode cX9_posts 1 = .ok (.istore_n 1, 1) := by decide +kernel
theorem dX9_posts_2 : decode cX9_posts 2 = .ok (.iconst 0, 1) := by decide +kernel
theorem dX9_posts_3 : decode cX9_posts 3 = .ok (.istore_n 2, 1) := by decide +kernel
theorem dX9_posts_4 : decode cX9_posts 4 = .ok (.iload_n 2, 1) := by decide +kernel
theorem dX9_posts_5 : decode cX9_posts 5 = .ok (.aload_n 0, 1) := by decide +kernel
theorem dX9_posts_6 : decode cX9_posts 6 = .ok (.getfield 7, 3) := by decide +kernel
theorem dX9_posts_9 : decode cX9_posts 9 = .ok (.iconst 0, 1) := by decide +kernel
theorem dX9_posts_10 : decode cX9_posts 10 = .ok (.iaload, 1) := by decide +kernel
theorem dX9_posts_11 : decode cX9_posts 11 = .ok (.if_icmp .ge 17, 3) := by decide +kernel
theorem dX9_posts_14 : decode cX9_posts 14 = .ok (.iload_n 1, 1) := by decide +kernel
theorem dX9_posts_15 : decode cX9_posts 15 = .ok (.aload_n 0, 1) := by decide +kernel
theorem dX9_posts_16 : decode cX9_posts 16 = .ok (.iload_n 2, 1) := by decide +kernel
theorem dX9_posts_17 : decode cX9_posts 17 = .ok (.invokevirtual 80, 3) := by decide +kernel
theorem dX9_posts_20 : decode cX9_posts 20 = .ok (.iadd, 1) := by decide +kernel
theorem dX9_posts_21 : decode cX9_posts 21 = .ok (.istore_n 1, 1) := by decide +kernel
theorem dX9_posts_22 : decode cX9_posts 22 = .ok (.iinc 2 1, 3) := by decide +kernel
theorem dX9_posts_25 : decode cX9_posts 25 = .ok (.goto (-21), 3) := by decide +kernel
theorem dX9_posts_28 : decode cX9_posts 28 = .ok (.iload_n 1, 1) := by decide +kernel
theorem dX9_posts_29 : decode cX9_posts 29 = .ok (.ireturn, 1) := by decide +kernel
def fX9_posts_4 (N : Nat) (Z : mZ) : Nat → Nat → Int32 → Int32 → mM → Option (Int32 × mM)
  | 0, _, _, _, _ => none
  | fu + 1, v0, v1, v2, M => ck (okO Z v0 9) (bnd1 (Z.2.2.2 v0 0) (fun c2 => ck (okI Z c2) (ck (inB (0 : Int32) (Z.2.2.1 c2)) (if (M.1 c2 ((0 : Int32)).toNatClampNeg) ≤ v2 then some (v1, M) else bnd2 (fX9_postHigh N Z v0 v2 M) (fun r6 M6 => fX9_posts_4 N Z fu v0 (v1 + r6) (v2 + (1 : Int32)) M6)))))
set_option maxHeartbeats 4000000 in
set_option maxRecDepth 100000 in
theorem tX9_posts_4 {G : mG} {p : Program} {l : Launch} {e : Env} {s : State} {m : MethodId} {args : Array Value} {below : List Frame} {meth : Method} {c : Code} (C : Cx G p l s m args meth c RX9 cX9_posts 3 (some .int) []) (hnm : meth.name = yX9_posts.name) (N : Nat) (Z : mZ) : ∀ (fu : Nat) (v0 : Nat) (v1 : Int32) (v2 : Int32) (M : mM) (r : Int32) (M' : mM), fX9_posts_4 N Z fu v0 v1 v2 M = some (r, M') → JJ G p l e rmX9_posts s m args below meth c 3 (mEnd G below args s rmX9_posts (.inl (some (.int r))) Z M') 0 0 4 [(0, .ref v0), (1, .int v1), (2, .int v2)] [] Z M := by
  intro fu
  induction fu with
  | zero =>
    intro v0 v1 v2 M r M' h
    cases h
  | succ fu ih =>
    intro v0 v1 v2 M r M' h
    rw [fX9_posts_4] at h
    refine j_iload_n C dX9_posts_4 rfl 2 rfl ?_
    refine j_aload_n C dX9_posts_5 rfl 0 rfl ?_
    obtain ⟨ho1, h⟩ := ck_spec h
    obtain ⟨c2, hr2, h⟩ := bnd1_spec h
    refine j_getR C (cn := RX9) (T := TX9) (N := 23) (ci := 9) rfl iX9 ho1 0 (by decide) rfl fwRX9_7 dX9_posts_6 hr2 ?_
    refine j_iconst C dX9_posts_9 (v := (0 : Int32)) (by decide) ?_
    obtain ⟨ho3, h⟩ := ck_spec h
    obtain ⟨ho4, h⟩ := ck_spec h
    refine j_iald C ho3 ho4 dX9_posts_10 ?_
    refine j_icmp_ge C dX9_posts_11 (tgt := 28) (by decide) (fun hc5 => ?_) (fun hc5 => ?_)
    · rw [if_pos hc5] at h
      refine j_iload_n C dX9_posts_28 rfl 1 rfl ?_
      cases h
      exact j_iret C rfl (by decide) (by decide) dX9_posts_29
    · rw [if_neg hc5] at h
      refine j_iload_n C dX9_posts_14 rfl 1 rfl ?_
      refine j_aload_n C dX9_posts_15 rfl 0 rfl ?_
      refine j_iload_n C dX9_posts_16 rfl 2 rfl ?_
      obtain ⟨r6, M6, hq6, h⟩ := bnd2_spec h
      refine j_run1 (c_V C (As := [.int v2]) (rest := [.int v1]) (ctX9_postHigh C.2.2.2.2.2.2.2.2.1 N Z hq6) kcRX9_80 oyX9_postHigh (ci := 9) (T := TX9) (N := 23) rfl (by decide) ho1 ⟨by decide, by decide⟩ ⟨by decide, by decide⟩ (Nat.le_of_ble_eq_true rfl) rfl dX9_posts_17) ?_
      refine j_iadd C dX9_posts_20 ?_
      refine j_istore_n C dX9_posts_21 rfl (by decide) (L' := [(1, .int (v1 + r6)), (0, .ref v0), (2, .int v2)]) rfl ?_
      refine j_iinc C dX9_posts_22 2 rfl (v := (v2 + (1 : Int32))) (by first | rfl | decide) (by decide) (L' := [(2, .int (v2 + (1 : Int32))), (1, .int (v1 + r6)), (0, .ref v0)]) rfl ?_
      refine j_goto C dX9_posts_25 (tgt := 4) (by decide) ?_
      refine j_sub (L' := [(0, .ref v0), (1, .int (v1 + r6)), (2, .int (v2 + (1 : Int32)))]) [2, 1, 0] rfl ?_
      exact ih v0 (v1 + r6) (v2 + (1 : Int32)) M6 r M' h
def fX9_posts (N : Nat) (Z : mZ) (a0 : Nat) (M : mM) : Option (Int32 × mM) := fX9_posts_4 N Z N a0 (0 : Int32) (0 : Int32) M
set_option maxHeartbeats 4000000 in
set_option maxRecDepth 100000 in
theorem ctX9_posts {G : mG} {l : Launch} (hl : l.stackTraces = false) (N : Nat) (Z : mZ) {a0 : Nat} {M : mM} {r : Int32} {M' : mM} (h : fX9_posts N Z a0 M = some (r, M')) : CT G l yX9_posts (.code yX9_posts cX9_posts 3 (some .int)) rmX9_posts [.ref a0] Z M (.inl (some (.int r))) Z M' := by
  unfold fX9_posts at h
  refine CT.of hl (by decide) (Nat.le_of_ble_eq_true rfl) ?_
  intro p e s m args below meth c C hnm
  refine j_sub (L' := [(0, .ref a0)]) [0] rfl ?_
  refine j_iconst C dX9_posts_0 (v := (0 : Int32)) (by decide) ?_
  refine j_istore_n C dX9_posts_1 rfl (by decide) (L' := [(1, .int (0 : Int32)), (0, .ref a0)]) rfl ?_
  refine j_iconst C dX9_posts_2 (v := (0 : Int32)) (by decide) ?_
  refine j_istore_n C dX9_posts_3 rfl (by decide) (L' := [(2, .int (0 : Int32)), (1, .int (0 : Int32)), (0, .ref a0)]) rfl ?_
  refine j_sub (L' := [(0, .ref a0), (1, .int (0 : Int32)), (2, .int (0 : Int32))]) [2, 1, 0] rfl ?_
  exact tX9_posts_4 C hnm N Z N a0 (0 : Int32) (0 : Int32) M _ _ h
-- ScaffoldPlannerModel rowOf
abbrev rmX9_rowOf : Room := { frames := 0, cells := 0, slots := 0, locals := 0 }
theorem dX9_rowOf_0 : decode cX9_rowOf 0 = .ok (.iload_n 0, 1) := by decide +kernel
theorem dX9_rowOf_1 : decode cX9_rowOf 1 = .ok (.iconst 3, 1) := by decide +kernel
theorem dX9_rowOf_2 : decode cX9_rowOf 2 = .ok (.if_icmp .ne 8, 3) := by decide +kernel
theorem dX9_rowOf_5 : decode cX9_rowOf 5 = .ok (.bipush 91, 2) := by decide +kernel
theorem dX9_rowOf_7 : decode cX9_rowOf 7 = .ok (.goto 15, 3) := by decide +kernel
theorem dX9_rowOf_10 : decode cX9_rowOf 10 = .ok (.iload_n 0, 1) := by decide +kernel
theorem dX9_rowOf_11 : decode cX9_rowOf 11 = .ok (.iconst 4, 1) := by decide +kernel
theorem dX9_rowOf_12 : decode cX9_rowOf 12 = .ok (.if_icmp .ne 8, 3) := by decide +kernel
theorem dX9_rowOf_15 : decode cX9_rowOf 15 = .ok (.bipush 111, 2) := by decide +kernel
theorem dX9_rowOf_17 : decode cX9_rowOf 17 = .ok (.goto 5, 3) := by decide +kernel
theorem dX9_rowOf_20 : decode cX9_rowOf 20 = .ok (.bipush 101, 2) := by decide +kernel
theorem dX9_rowOf_22 : decode cX9_rowOf 22 = .ok (.ireturn, 1) := by decide +kernel
def fX9_rowOf (N : Nat) (Z : mZ) (a0 : Int32) (M : mM) : Option (Int32 × mM) := if a0 = (3 : Int32) then some ((91 : Int32), M) else if a0 = (4 : Int32) then some ((111 : Int32), M) else some ((101 : Int32), M)
set_option maxHeartbeats 4000000 in
set_option maxRecDepth 100000 in
theorem ctX9_rowOf {G : mG} {l : Launch} (hl : l.stackTraces = false) (N : Nat) (Z : mZ) {a0 : Int32} {M : mM} {r : Int32} {M' : mM} (h : fX9_rowOf N Z a0 M = some (r, M')) : CT G l yX9_rowOf (.code yX9_rowOf cX9_rowOf 1 (some .int)) rmX9_rowOf [.int a0] Z M (.inl (some (.int r))) Z M' := by
  unfold fX9_rowOf at h
  refine CT.of hl (by decide) (Nat.le_of_ble_eq_true rfl) ?_
  intro p e s m args below meth c C hnm
  refine j_sub (L' := [(0, .int a0)]) [0] rfl ?_
  refine j_iload_n C dX9_rowOf_0 rfl 0 rfl ?_
  refine j_iconst C dX9_rowOf_1 (v := (3 : Int32)) (by decide) ?_
  refine j_icmp_ne C dX9_rowOf_2 (tgt := 10) (by decide) (fun hc1 => ?_) (fun hc1 => ?_)
  · rw [if_neg hc1] at h
    refine j_iload_n C dX9_rowOf_10 rfl 0 rfl ?_
    refine j_iconst C dX9_rowOf_11 (v := (4 : Int32)) (by decide) ?_
    refine j_icmp_ne C dX9_rowOf_12 (tgt := 20) (by decide) (fun hc2 => ?_) (fun hc2 => ?_)
    · rw [if_neg hc2] at h
      refine j_bipush C dX9_rowOf_20 (v := (101 : Int32)) (by decide) ?_
      cases h
      exact j_iret C rfl (by decide) (by decide) dX9_rowOf_22
    · rw [if_pos hc2] at h
      refine j_bipush C dX9_rowOf_15 (v := (111 : Int32)) (by decide) ?_
      refine j_goto C dX9_rowOf_17 (tgt := 22) (by decide) ?_
      cases h
      exact j_iret C rfl (by decide) (by decide) dX9_rowOf_22
  · rw [if_pos hc1] at h
    refine j_bipush C dX9_rowOf_5 (v := (91 : Int32)) (by decide) ?_
    refine j_goto C dX9_rowOf_7 (tgt := 22) (by decide) ?_
    cases h
    exact j_iret C rfl (by decide) (by decide) dX9_rowOf_22
-- ScaffoldPlannerModel does
theorem kcRX9_120 : okV RX9 120 yX9_posts (.code yX9_posts cX9_posts 3 (some .int)) = true := by decide +kernel
theorem oyX9_posts : okY yX9_posts 0 := ⟨by decide +kernel, by decide +kernel, by decide +kernel⟩
theorem kcRX9_124 : okS RX9 124 yX9_rowOf (.code yX9_rowOf cX9_rowOf 1 (some .int)) = true := by decide +kernel
theorem oyX9_rowOf : okY yX9_rowOf 1 := ⟨by decide +kernel, by decide +kernel, by decide +kernel⟩
abbrev rmX9_does : Room := { frames := 3, cells := 0, slots := 0, locals := 64 }
theorem dX9_does_0 : decode cX9_does 0 = .ok (.iload 4, 2) := by decide +kernel
theorem dX9_does_2 : decode cX9_does 2 = .ok (.ifCond .eq 7, 3) := by decide +kernel
theorem dX9_does_5 : decode cX9_does 5 = .ok (.iconst 1, 1) := by decide +kernel
theorem dX9_does_6 : decode cX9_does 6 = .ok (.goto 4, 3) := by decide +kernel
theorem dX9_does_9 : decode cX9_does 9 = .ok (.iconst (-1), 1) := by decide +kernel
theorem dX9_does_10 : decode cX9_does 10 = .ok (.istore 6, 2) := by decide +kernel
theorem dX9_does_12 : decode cX9_does 12 = .ok (.aload_n 0, 1) := by decide +kernel
theorem dX9_does_13 : decode cX9_does 13 = .ok (.getfield 7, 3) := by decide +kernel
theorem dX9_does_16 : decode cX9_does 16 = .ok (.iconst 4, 1) := by decide +kernel
theorem dX9_does_17 : decode cX9_does 17 = .ok (.dup2, 1) := by decide +kernel
theorem dX9_does_18 : decode cX9_does 18 = .ok (.iaload, 1) := by decide +kernel
theorem dX9_does_19 : decode cX9_does 19 = .ok (.iconst 1, 1) := by decide +kernel
theorem dX9_does_20 : decode cX9_does 20 = .ok (.iadd, 1) := by decide +kernel
theorem dX9_does_21 : decode cX9_does 21 = .ok (.iastore, 1) := by decide +kernel
theorem dX9_does_22 : decode cX9_does 22 = .ok (.iload_n 1, 1) := by decide +kernel
theorem dX9_does_23 : decode cX9_does 23 = .ok (.ifCond .ne 54, 3) := by decide +kernel
theorem dX9_does_26 : decode cX9_does 26 = .ok (.aload_n 0, 1) := by decide +kernel
theorem dX9_does_27 : decode cX9_does 27 = .ok (.invokevirtual 120, 3) := by decide +kernel
theorem dX9_does_30 : decode cX9_does 30 = .ok (.istore 7, 2) := by decide +kernel
theorem dX9_does_32 : decode cX9_does 32 = .ok (.aload_n 0, 1) := by decide +kernel
theorem dX9_does_33 : decode cX9_does 33 = .ok (.getfield 7, 3) := by decide +kernel
theorem dX9_does_36 : decode cX9_does 36 = .ok (.bipush 11, 2) := by decide +kernel
theorem dX9_does_38 : decode cX9_does 38 = .ok (.iload_n 2, 1) := by decide +kernel
theorem dX9_does_39 : decode cX9_does 39 = .ok (.iadd, 1) := by decide +kernel
theorem dX9_does_40 : decode cX9_does 40 = .ok (.dup2, 1) := by decide +kernel
theorem dX9_does_41 : decode cX9_does 41 = .ok (.iaload, 1) := by decide +kernel
theorem dX9_does_42 : decode cX9_does 42 = .ok (.iload 6, 2) := by decide +kernel
theorem dX9_does_44 : decode cX9_does 44 = .ok (.isub, 1) := by decide +kernel
theorem dX9_does_45 : decode cX9_does 45 = .ok (.iastore, 1) := by decide +kernel
theorem dX9_does_46 : decode cX9_does 46 = .ok (.aload_n 0, 1) := by decide +kernel
theorem dX9_does_47 : decode cX9_does 47 = .ok (.getfield 7, 3) := by decide +kernel
theorem dX9_does_50 : decode cX9_does 50 = .ok (.iconst 5, 1) := by decide +kernel
theorem dX9_does_51 : decode cX9_does 51 = .ok (.dup2, 1) := by decide +kernel
theorem dX9_does_52 : decode cX9_does 52 = .ok (.iaload, 1) := by decide +kernel
theorem dX9_does_53 : decode cX9_does 53 = .ok (.iload 7, 2) := by decide +kernel
theorem dX9_does_55 : decode cX9_does 55 = .ok (.aload_n 0, 1) := by decide +kernel
theorem dX9_does_56 : decode cX9_does 56 = .ok (.invokevirtual 120, 3) := by decide +kernel
theorem dX9_does_59 : decode cX9_does 59 = .ok (.isub, 1) := by decide +kernel
theorem dX9_does_60 : decode cX9_does 60 = .ok (.iadd, 1) := by decide +kernel
theorem dX9_does_61 : decode cX9_does 61 = .ok (.iastore, 1) := by decide +kernel
theorem dX9_does_62 : decode cX9_does 62 = .ok (.aload_n 0, 1) := by decide +kernel
theorem dX9_does_63 : decode cX9_does 63 = .ok (.getfield 7, 3) := by decide +kernel
theorem dX9_does_66 : decode cX9_does 66 = .ok (.bipush 6, 2) := by decide +kernel
theorem dX9_does_68 : decode cX9_does 68 = .ok (.dup2, 1) := by decide +kernel
theorem dX9_does_69 : decode cX9_does 69 = .ok (.iaload, 1) := by decide +kernel
theorem dX9_does_70 : decode cX9_does 70 = .ok (.iconst 2, 1) := by decide +kernel
theorem dX9_does_71 : decode cX9_does 71 = .ok (.iload 6, 2) := by decide +kernel
theorem dX9_does_73 : decode cX9_does 73 = .ok (.imul, 1) := by decide +kernel
theorem dX9_does_74 : decode cX9_does 74 = .ok (.iadd, 1) := by decide +kernel
theorem dX9_does_75 : decode cX9_does 75 = .ok (.iastore, 1) := by decide +kernel
theorem dX9_does_76 : decode cX9_does 76 = .ok (.return_, 1) := by decide +kernel
theorem dX9_does_77 : decode cX9_does 77 = .ok (.aload_n 0, 1) := by decide +kernel
theorem dX9_does_78 : decode cX9_does 78 = .ok (.getfield 7, 3) := by decide +kernel
theorem dX9_does_81 : decode cX9_does 81 = .ok (.iconst 5, 1) := by decide +kernel
theorem dX9_does_82 : decode cX9_does 82 = .ok (.iload_n 1, 1) := by decide +kernel
theorem dX9_does_83 : decode cX9_does 83 = .ok (.iadd, 1) := by decide +kernel
theorem dX9_does_84 : decode cX9_does 84 = .ok (.dup2, 1) := by decide +kernel
theorem dX9_does_85 : decode cX9_does 85 = .ok (.iaload, 1) := by decide +kernel
theorem dX9_does_86 : decode cX9_does 86 = .ok (.iload 6, 2) := by decide +kernel
theorem dX9_does_88 : decode cX9_does 88 = .ok (.iadd, 1) := by decide +kernel
theorem dX9_does_89 : decode cX9_does 89 = .ok (.iastore, 1) := by decide +kernel
theorem dX9_does_90 : decode cX9_does 90 = .ok (.iload_n 1, 1) := by decide +kernel
theorem dX9_does_91 : decode cX9_does 91 = .ok (.iconst 2, 1) := by decide +kernel
theorem dX9_does_92 : decode cX9_does 92 = .ok (.if_icmp .ne 31, 3) := by decide +kernel
theorem dX9_does_95 : decode cX9_does 95 = .ok (.aload_n 0, 1) := by decide +kernel
theorem dX9_does_96 : decode cX9_does 96 = .ok (.getfield 7, 3) := by decide +kernel
theorem dX9_does_99 : decode cX9_does 99 = .ok (.bipush 21, 2) := by decide +kernel
theorem dX9_does_101 : decode cX9_does 101 = .ok (.bipush 7, 2) := by decide +kernel
theorem dX9_does_103 : decode cX9_does 103 = .ok (.iload_n 2, 1) := by decide +kernel
theorem dX9_does_104 : decode cX9_does 104 = .ok (.imul, 1) := by decide +kernel
theorem dX9_does_105 : decode cX9_does 105 = .ok (.iadd, 1) := by decide +kernel
theorem dX9_does_106 : decode cX9_does 106 = .ok (.iload_n 3, 1) := by decide +kernel
theorem dX9_does_107 : decode cX9_does 107 = .ok (.iadd, 1) := by decide +kernel
theorem dX9_does_108 : decode cX9_does 108 = .ok (.iload 4, 2) := by decide +kernel
theorem dX9_does_110 : decode cX9_does 110 = .ok (.ifCond .eq 7, 3) := by decide +kernel
theorem dX9_does_113 : decode cX9_does 113 = .ok (.iconst 0, 1) := by decide +kernel
theorem dX9_does_114 : decode cX9_does 114 = .ok (.goto 5, 3) := by decide +kernel
theorem dX9_does_117 : decode cX9_does 117 = .ok (.iload 5, 2) := by decide +kernel
theorem dX9_does_119 : decode cX9_does 119 = .ok (.iastore, 1) := by decide +kernel
theorem dX9_does_120 : decode cX9_does 120 = .ok (.goto 20, 3) := by decide +kernel
theorem dX9_does_123 : decode cX9_does 123 = .ok (.aload_n 0, 1) := by decide +kernel
theorem dX9_does_124 : decode cX9_does 124 = .ok (.getfield 7, 3) := by decide +kernel
theorem dX9_does_127 : decode cX9_does 127 = .ok (.iload_n 1, 1) := by decide +kernel
theorem dX9_does_128 : decode cX9_does 128 = .ok (.invokestatic 124, 3) := by decide +kernel
theorem dX9_does_131 : decode cX9_does 131 = .ok (.iload_n 2, 1) := by decide +kernel
theorem dX9_does_132 : decode cX9_does 132 = .ok (.iadd, 1) := by decide +kernel
theorem dX9_does_133 : decode cX9_does 133 = .ok (.dup2, 1) := by decide +kernel
theorem dX9_does_134 : decode cX9_does 134 = .ok (.iaload, 1) := by decide +kernel
theorem dX9_does_135 : decode cX9_does 135 = .ok (.iconst 1, 1) := by decide +kernel
theorem dX9_does_136 : decode cX9_does 136 = .ok (.iload_n 3, 1) := by decide +kernel
theorem dX9_does_137 : decode cX9_does 137 = .ok (.ishl, 1) := by decide +kernel
theorem dX9_does_138 : decode cX9_does 138 = .ok (.ixor, 1) := by decide +kernel
theorem dX9_does_139 : decode cX9_does 139 = .ok (.iastore, 1) := by decide +kernel
theorem dX9_does_140 : decode cX9_does 140 = .ok (.return_, 1) := by decide +kernel
def fX9_does_10 (N : Nat) (Z : mZ) (v0 : Nat) (v1 : Int32) (v2 : Int32) (v3 : Int32) (v4 : Int32) (v5 : Int32) (x0 : Int32) (M : mM) : Option (Unit × mM) := ck (okO Z v0 9) (bnd1 (Z.2.2.2 v0 0) (fun c3 => ck (okI Z c3) (ck (inB (4 : Int32) (Z.2.2.1 c3)) (ck (okO Z c3 20) (if v1 = 0 then bnd2 (fX9_posts N Z v0 (sI M c3 ((4 : Int32)).toNatClampNeg ((M.1 c3 ((4 : Int32)).toNatClampNeg) + (1 : Int32)))) (fun r8 M8 => ck (inB ((11 : Int32) + v2) (Z.2.2.1 c3)) (ck (inB (5 : Int32) (Z.2.2.1 c3)) (bnd2 (fX9_posts N Z v0 (sI M8 c3 (((11 : Int32) + v2)).toNatClampNeg ((M8.1 c3 (((11 : Int32) + v2)).toNatClampNeg) - x0))) (fun r11 M11 => ck (inB (6 : Int32) (Z.2.2.1 c3)) (some ((), (sI (sI M11 c3 ((5 : Int32)).toNatClampNeg (((sI M8 c3 (((11 : Int32) + v2)).toNatClampNeg ((M8.1 c3 (((11 : Int32) + v2)).toNatClampNeg) - x0)).1 c3 ((5 : Int32)).toNatClampNeg) + (r8 - r11))) c3 ((6 : Int32)).toNatClampNeg (((sI M11 c3 ((5 : Int32)).toNatClampNeg (((sI M8 c3 (((11 : Int32) + v2)).toNatClampNeg ((M8.1 c3 (((11 : Int32) + v2)).toNatClampNeg) - x0)).1 c3 ((5 : Int32)).toNatClampNeg) + (r8 - r11))).1 c3 ((6 : Int32)).toNatClampNeg) + ((2 : Int32) * x0))))))))) else ck (inB ((5 : Int32) + v1) (Z.2.2.1 c3)) (if v1 = (2 : Int32) then if v4 = 0 then ck (inB (((21 : Int32) + ((7 : Int32) * v2)) + v3) (Z.2.2.1 c3)) (some ((), (sI (sI (sI M c3 ((4 : Int32)).toNatClampNeg ((M.1 c3 ((4 : Int32)).toNatClampNeg) + (1 : Int32))) c3 (((5 : Int32) + v1)).toNatClampNeg (((sI M c3 ((4 : Int32)).toNatClampNeg ((M.1 c3 ((4 : Int32)).toNatClampNeg) + (1 : Int32))).1 c3 (((5 : Int32) + v1)).toNatClampNeg) + x0)) c3 ((((21 : Int32) + ((7 : Int32) * v2)) + v3)).toNatClampNeg v5))) else ck (inB (((21 : Int32) + ((7 : Int32) * v2)) + v3) (Z.2.2.1 c3)) (some ((), (sI (sI (sI M c3 ((4 : Int32)).toNatClampNeg ((M.1 c3 ((4 : Int32)).toNatClampNeg) + (1 : Int32))) c3 (((5 : Int32) + v1)).toNatClampNeg (((sI M c3 ((4 : Int32)).toNatClampNeg ((M.1 c3 ((4 : Int32)).toNatClampNeg) + (1 : Int32))).1 c3 (((5 : Int32) + v1)).toNatClampNeg) + x0)) c3 ((((21 : Int32) + ((7 : Int32) * v2)) + v3)).toNatClampNeg (0 : Int32)))) else bnd2 (fX9_rowOf N Z v1 (sI (sI M c3 ((4 : Int32)).toNatClampNeg ((M.1 c3 ((4 : Int32)).toNatClampNeg) + (1 : Int32))) c3 (((5 : Int32) + v1)).toNatClampNeg (((sI M c3 ((4 : Int32)).toNatClampNeg ((M.1 c3 ((4 : Int32)).toNatClampNeg) + (1 : Int32))).1 c3 (((5 : Int32) + v1)).toNatClampNeg) + x0))) (fun r18 M18 => ck (inB (r18 + v2) (Z.2.2.1 c3)) (some ((), (sI M18 c3 ((r18 + v2)).toNatClampNeg ((M18.1 c3 ((r18 + v2)).toNatClampNeg) ^^^ ((1 : Int32) <<< (v3 &&& 31)))))))))))))
set_option maxHeartbeats 4000000 in
set_option maxRecDepth 100000 in
theorem tX9_does_10 {G : mG} {p : Program} {l : Launch} {e : Env} {s : State} {m : MethodId} {args : Array Value} {below : List Frame} {meth : Method} {c : Code} (C : Cx G p l s m args meth c RX9 cX9_does 8 none []) (hnm : meth.name = yX9_does.name) (N : Nat) (Z : mZ) : ∀ (v0 : Nat) (v1 : Int32) (v2 : Int32) (v3 : Int32) (v4 : Int32) (v5 : Int32) (x0 : Int32) (M : mM) (r : Unit) (M' : mM), fX9_does_10 N Z v0 v1 v2 v3 v4 v5 x0 M = some (r, M') → JJ G p l e rmX9_does s m args below meth c 8 (mEnd G below args s rmX9_does (.inl none) Z M') 0 0 10 [(0, .ref v0), (1, .int v1), (2, .int v2), (3, .int v3), (4, .int v4), (5, .int v5)] [.int x0] Z M := by
  intro v0 v1 v2 v3 v4 v5 x0 M r M' h
  unfold fX9_does_10 at h
  refine j_istore C dX9_does_10 (by decide) (L' := [(6, .int x0), (0, .ref v0), (1, .int v1), (2, .int v2), (3, .int v3), (4, .int v4), (5, .int v5)]) rfl ?_
  refine j_aload_n C dX9_does_12 rfl 1 rfl ?_
  obtain ⟨ho2, h⟩ := ck_spec h
  obtain ⟨c3, hr3, h⟩ := bnd1_spec h
  refine j_getR C (cn := RX9) (T := TX9) (N := 23) (ci := 9) rfl iX9 ho2 0 (by decide) rfl fwRX9_7 dX9_does_13 hr3 ?_
  refine j_iconst C dX9_does_16 (v := (4 : Int32)) (by decide) ?_
  refine j_dup2 C dX9_does_17 rfl rfl ?_
  obtain ⟨ho4, h⟩ := ck_spec h
  obtain ⟨ho5, h⟩ := ck_spec h
  refine j_iald C ho4 ho5 dX9_does_18 ?_
  refine j_iconst C dX9_does_19 (v := (1 : Int32)) (by decide) ?_
  refine j_iadd C dX9_does_20 ?_
  obtain ⟨ho6, h⟩ := ck_spec h
  refine j_iast C ho6 ho5 dX9_does_21 ?_
  refine j_iload_n C dX9_does_22 rfl 2 rfl ?_
  refine j_if_ne C dX9_does_23 (tgt := 77) (by decide) (fun hc7 => ?_) (fun hc7 => ?_)
  · rw [if_neg hc7] at h
    refine j_aload_n C dX9_does_77 rfl 1 rfl ?_
    refine j_getR C (cn := RX9) (T := TX9) (N := 23) (ci := 9) rfl iX9 ho2 0 (by decide) rfl fwRX9_7 dX9_does_78 hr3 ?_
    refine j_iconst C dX9_does_81 (v := (5 : Int32)) (by decide) ?_
    refine j_iload_n C dX9_does_82 rfl 2 rfl ?_
    refine j_iadd C dX9_does_83 ?_
    refine j_dup2 C dX9_does_84 rfl rfl ?_
    obtain ⟨ho13, h⟩ := ck_spec h
    refine j_iald C ho4 ho13 dX9_does_85 ?_
    refine j_iload C dX9_does_86 0 rfl ?_
    refine j_iadd C dX9_does_88 ?_
    refine j_iast C ho6 ho13 dX9_does_89 ?_
    refine j_iload_n C dX9_does_90 rfl 2 rfl ?_
    refine j_iconst C dX9_does_91 (v := (2 : Int32)) (by decide) ?_
    refine j_icmp_ne C dX9_does_92 (tgt := 123) (by decide) (fun hc14 => ?_) (fun hc14 => ?_)
    · rw [if_neg hc14] at h
      refine j_aload_n C dX9_does_123 rfl 1 rfl ?_
      refine j_getR C (cn := RX9) (T := TX9) (N := 23) (ci := 9) rfl iX9 ho2 0 (by decide) rfl fwRX9_7 dX9_does_124 hr3 ?_
      refine j_iload_n C dX9_does_127 rfl 2 rfl ?_
      obtain ⟨r18, M18, hq18, h⟩ := bnd2_spec h
      refine j_run1 (c_S C (As := [.int v1]) (rest := [.ref c3]) (ctX9_rowOf C.2.2.2.2.2.2.2.2.1 N Z hq18) kcRX9_124 oyX9_rowOf ⟨by decide, by decide⟩ ⟨by decide, by decide⟩ (Nat.le_of_ble_eq_true rfl) rfl dX9_does_128) ?_
      refine j_iload_n C dX9_does_131 rfl 3 rfl ?_
      refine j_iadd C dX9_does_132 ?_
      refine j_dup2 C dX9_does_133 rfl rfl ?_
      obtain ⟨ho19, h⟩ := ck_spec h
      refine j_iald C ho4 ho19 dX9_does_134 ?_
      refine j_iconst C dX9_does_135 (v := (1 : Int32)) (by decide) ?_
      refine j_iload_n C dX9_does_136 rfl 4 rfl ?_
      refine j_ishl C dX9_does_137 ?_
      refine j_ixor C dX9_does_138 ?_
      refine j_iast C ho6 ho19 dX9_does_139 ?_
      cases h
      exact j_vret C rfl (by decide) (by decide) dX9_does_140
    · rw [if_pos hc14] at h
      refine j_aload_n C dX9_does_95 rfl 1 rfl ?_
      refine j_getR C (cn := RX9) (T := TX9) (N := 23) (ci := 9) rfl iX9 ho2 0 (by decide) rfl fwRX9_7 dX9_does_96 hr3 ?_
      refine j_bipush C dX9_does_99 (v := (21 : Int32)) (by decide) ?_
      refine j_bipush C dX9_does_101 (v := (7 : Int32)) (by decide) ?_
      refine j_iload_n C dX9_does_103 rfl 3 rfl ?_
      refine j_imul C dX9_does_104 ?_
      refine j_iadd C dX9_does_105 ?_
      refine j_iload_n C dX9_does_106 rfl 4 rfl ?_
      refine j_iadd C dX9_does_107 ?_
      refine j_iload C dX9_does_108 5 rfl ?_
      refine j_if_eq C dX9_does_110 (tgt := 117) (by decide) (fun hc15 => ?_) (fun hc15 => ?_)
      · rw [if_pos hc15] at h
        refine j_iload C dX9_does_117 6 rfl ?_
        obtain ⟨ho16, h⟩ := ck_spec h
        refine j_iast C ho6 ho16 dX9_does_119 ?_
        refine j_goto C dX9_does_120 (tgt := 140) (by decide) ?_
        cases h
        exact j_vret C rfl (by decide) (by decide) dX9_does_140
      · rw [if_neg hc15] at h
        refine j_iconst C dX9_does_113 (v := (0 : Int32)) (by decide) ?_
        refine j_goto C dX9_does_114 (tgt := 119) (by decide) ?_
        obtain ⟨ho17, h⟩ := ck_spec h
        refine j_iast C ho6 ho17 dX9_does_119 ?_
        refine j_goto C dX9_does_120 (tgt := 140) (by decide) ?_
        cases h
        exact j_vret C rfl (by decide) (by decide) dX9_does_140
  · rw [if_pos hc7] at h
    refine j_aload_n C dX9_does_26 rfl 1 rfl ?_
    obtain ⟨r8, M8, hq8, h⟩ := bnd2_spec h
    refine j_run1 (c_V C (As := []) (rest := []) (ctX9_posts C.2.2.2.2.2.2.2.2.1 N Z hq8) kcRX9_120 oyX9_posts (ci := 9) (T := TX9) (N := 23) rfl (by decide) ho2 ⟨by decide, by decide⟩ ⟨by decide, by decide⟩ (Nat.le_of_ble_eq_true rfl) rfl dX9_does_27) ?_
    refine j_istore C dX9_does_30 (by decide) (L' := [(7, .int r8), (6, .int x0), (0, .ref v0), (1, .int v1), (2, .int v2), (3, .int v3), (4, .int v4), (5, .int v5)]) rfl ?_
    refine j_aload_n C dX9_does_32 rfl 2 rfl ?_
    refine j_getR C (cn := RX9) (T := TX9) (N := 23) (ci := 9) rfl iX9 ho2 0 (by decide) rfl fwRX9_7 dX9_does_33 hr3 ?_
    refine j_bipush C dX9_does_36 (v := (11 : Int32)) (by decide) ?_
    refine j_iload_n C dX9_does_38 rfl 4 rfl ?_
    refine j_iadd C dX9_does_39 ?_
    refine j_dup2 C dX9_does_40 rfl rfl ?_
    obtain ⟨ho9, h⟩ := ck_spec h
    refine j_iald C ho4 ho9 dX9_does_41 ?_
    refine j_iload C dX9_does_42 1 rfl ?_
    refine j_isub C dX9_does_44 ?_
    refine j_iast C ho6 ho9 dX9_does_45 ?_
    refine j_aload_n C dX9_does_46 rfl 2 rfl ?_
    refine j_getR C (cn := RX9) (T := TX9) (N := 23) (ci := 9) rfl iX9 ho2 0 (by decide) rfl fwRX9_7 dX9_does_47 hr3 ?_
    refine j_iconst C dX9_does_50 (v := (5 : Int32)) (by decide) ?_
    refine j_dup2 C dX9_does_51 rfl rfl ?_
    obtain ⟨ho10, h⟩ := ck_spec h
    refine j_iald C ho4 ho10 dX9_does_52 ?_
    refine j_iload C dX9_does_53 0 rfl ?_
    refine j_aload_n C dX9_does_55 rfl 2 rfl ?_
    obtain ⟨r11, M11, hq11, h⟩ := bnd2_spec h
    refine j_run1 (c_V C (As := []) (rest := [.int r8, .int ((sI M8 c3 (((11 : Int32) + v2)).toNatClampNeg ((M8.1 c3 (((11 : Int32) + v2)).toNatClampNeg) - x0)).1 c3 ((5 : Int32)).toNatClampNeg), .int (5 : Int32), .ref c3]) (ctX9_posts C.2.2.2.2.2.2.2.2.1 N Z hq11) kcRX9_120 oyX9_posts (ci := 9) (T := TX9) (N := 23) rfl (by decide) ho2 ⟨by decide, by decide⟩ ⟨by decide, by decide⟩ (Nat.le_of_ble_eq_true rfl) rfl dX9_does_56) ?_
    refine j_isub C dX9_does_59 ?_
    refine j_iadd C dX9_does_60 ?_
    refine j_iast C ho6 ho10 dX9_does_61 ?_
    refine j_aload_n C dX9_does_62 rfl 2 rfl ?_
    refine j_getR C (cn := RX9) (T := TX9) (N := 23) (ci := 9) rfl iX9 ho2 0 (by decide) rfl fwRX9_7 dX9_does_63 hr3 ?_
    refine j_bipush C dX9_does_66 (v := (6 : Int32)) (by decide) ?_
    refine j_dup2 C dX9_does_68 rfl rfl ?_
    obtain ⟨ho12, h⟩ := ck_spec h
    refine j_iald C ho4 ho12 dX9_does_69 ?_
    refine j_iconst C dX9_does_70 (v := (2 : Int32)) (by decide) ?_
    refine j_iload C dX9_does_71 1 rfl ?_
    refine j_imul C dX9_does_73 ?_
    refine j_iadd C dX9_does_74 ?_
    refine j_iast C ho6 ho12 dX9_does_75 ?_
    cases h
    exact j_vret C rfl (by decide) (by decide) dX9_does_76
def fX9_does (N : Nat) (Z : mZ) (a0 : Nat) (a1 : Int32) (a2 : Int32) (a3 : Int32) (a4 : Int32) (a5 : Int32) (M : mM) : Option (Unit × mM) := if a4 = 0 then fX9_does_10 N Z a0 a1 a2 a3 a4 a5 (-1 : Int32) M else fX9_does_10 N Z a0 a1 a2 a3 a4 a5 (1 : Int32) M
set_option maxHeartbeats 4000000 in
set_option maxRecDepth 100000 in
theorem ctX9_does {G : mG} {l : Launch} (hl : l.stackTraces = false) (N : Nat) (Z : mZ) {a0 : Nat} {a1 : Int32} {a2 : Int32} {a3 : Int32} {a4 : Int32} {a5 : Int32} {M : mM} {r : Unit} {M' : mM} (h : fX9_does N Z a0 a1 a2 a3 a4 a5 M = some (r, M')) : CT G l yX9_does (.code yX9_does cX9_does 8 none) rmX9_does [.ref a0, .int a1, .int a2, .int a3, .int a4, .int a5] Z M (.inl none) Z M' := by
  unfold fX9_does at h
  refine CT.of hl (by decide) (Nat.le_of_ble_eq_true rfl) ?_
  intro p e s m args below meth c C hnm
  refine j_sub (L' := [(0, .ref a0), (1, .int a1), (2, .int a2), (3, .int a3), (4, .int a4), (5, .int a5)]) [0, 1, 2, 3, 4, 5] rfl ?_
  refine j_iload C dX9_does_0 4 rfl ?_
  refine j_if_eq C dX9_does_2 (tgt := 9) (by decide) (fun hc1 => ?_) (fun hc1 => ?_)
  · rw [if_pos hc1] at h
    refine j_iconst C dX9_does_9 (v := (-1 : Int32)) (by decide) ?_
    refine j_sub (L' := [(0, .ref a0), (1, .int a1), (2, .int a2), (3, .int a3), (4, .int a4), (5, .int a5)]) [0, 1, 2, 3, 4, 5] rfl ?_
    exact tX9_does_10 C hnm N Z a0 a1 a2 a3 a4 a5 (-1 : Int32) M _ _ h
  · rw [if_neg hc1] at h
    refine j_iconst C dX9_does_5 (v := (1 : Int32)) (by decide) ?_
    refine j_goto C dX9_does_6 (tgt := 10) (by decide) ?_
    refine j_sub (L' := [(0, .ref a0), (1, .int a1), (2, .int a2), (3, .int a3), (4, .int a4), (5, .int a5)]) [0, 1, 2, 3, 4, 5] rfl ?_
    exact tX9_does_10 C hnm N Z a0 a1 a2 a3 a4 a5 (1 : Int32) M _ _ h
-- ScaffoldPlannerModel isThere
abbrev rmX9_isThere : Room := { frames := 2, cells := 0, slots := 0, locals := 45 }
theorem dX9_isThere_0 : decode cX9_isThere 0 = .ok (.iload_n 1, 1) := by decide +kernel
theorem dX9_isThere_1 : decode cX9_isThere 1 = .ok (.iconst 2, 1) := by decide +kernel
theorem dX9_isThere_2 : decode cX9_isThere 2 = .ok (.if_icmp .ne 20, 3) := by decide +kernel
theorem dX9_isThere_5 : decode cX9_isThere 5 = .ok (.aload_n 0, 1) := by decide +kernel
theorem dX9_isThere_6 : decode cX9_isThere 6 = .ok (.iload_n 2, 1) := by decide +kernel
theorem dX9_isThere_7 : decode cX9_isThere 7 = .ok (.iload_n 3, 1) := by decide +kernel
theorem dX9_isThere_8 : decode cX9_isThere 8 = .ok (.invokevirtual 93, 3) := by decide +kernel
theorem dX9_isThere_11 : decode cX9_isThere 11 = .ok (.ifCond .le 7, 3) := by decide +kernel
theorem dX9_isThere_14 : decode cX9_isThere 14 = .ok (.iconst 1, 1) := by decide +kernel
theorem dX9_isThere_15 : decode cX9_isThere 15 = .ok (.goto 17, 3) := by decide +kernel
theorem dX9_isThere_18 : decode cX9_isThere 18 = .ok (.iconst 0, 1) := by decide +kernel
theorem dX9_isThere_19 : decode cX9_isThere 19 = .ok (.goto 13, 3) := by decide +kernel
theorem dX9_isThere_22 : decode cX9_isThere 22 = .ok (.aload_n 0, 1) := by decide +kernel
theorem dX9_isThere_23 : decode cX9_isThere 23 = .ok (.iload_n 1, 1) := by decide +kernel
theorem dX9_isThere_24 : decode cX9_isThere 24 = .ok (.invokestatic 124, 3) := by decide +kernel
theorem dX9_isThere_27 : decode cX9_isThere 27 = .ok (.iload_n 2, 1) := by decide +kernel
theorem dX9_isThere_28 : decode cX9_isThere 28 = .ok (.iload_n 3, 1) := by decide +kernel
theorem dX9_isThere_29 : decode cX9_isThere 29 = .ok (.invokevirtual 87, 3) := by decide +kernel
theorem dX9_isThere_32 : decode cX9_isThere 32 = .ok (.ireturn, 1) := by decide +kernel
def fX9_isThere (N : Nat) (Z : mZ) (a0 : Nat) (a1 : Int32) (a2 : Int32) (a3 : Int32) (M : mM) : Option (Int32 × mM) := if a1 = (2 : Int32) then ck (okO Z a0 9) (bnd2 (fX9_deckAt N Z a0 a2 a3 M) (fun r3 M3 => if r3 ≤ 0 then some ((0 : Int32), M3) else some ((1 : Int32), M3))) else bnd2 (fX9_rowOf N Z a1 M) (fun r5 M5 => ck (okO Z a0 9) (bnd2 (fX9_has N Z a0 r5 a2 a3 M5) (fun r7 M7 => ck (isB r7) (some (r7, M7)))))
set_option maxHeartbeats 4000000 in
set_option maxRecDepth 100000 in
theorem ctX9_isThere {G : mG} {l : Launch} (hl : l.stackTraces = false) (N : Nat) (Z : mZ) {a0 : Nat} {a1 : Int32} {a2 : Int32} {a3 : Int32} {M : mM} {r : Int32} {M' : mM} (h : fX9_isThere N Z a0 a1 a2 a3 M = some (r, M')) : CT G l yX9_isThere (.code yX9_isThere cX9_isThere 4 (some .boolean)) rmX9_isThere [.ref a0, .int a1, .int a2, .int a3] Z M (.inl (some (.int r))) Z M' := by
  unfold fX9_isThere at h
  refine CT.of hl (by decide) (Nat.le_of_ble_eq_true rfl) ?_
  intro p e s m args below meth c C hnm
  refine j_sub (L' := [(0, .ref a0), (1, .int a1), (2, .int a2), (3, .int a3)]) [0, 1, 2, 3] rfl ?_
  refine j_iload_n C dX9_isThere_0 rfl 1 rfl ?_
  refine j_iconst C dX9_isThere_1 (v := (2 : Int32)) (by decide) ?_
  refine j_icmp_ne C dX9_isThere_2 (tgt := 22) (by decide) (fun hc1 => ?_) (fun hc1 => ?_)
  · rw [if_neg hc1] at h
    refine j_aload_n C dX9_isThere_22 rfl 0 rfl ?_
    refine j_iload_n C dX9_isThere_23 rfl 1 rfl ?_
    obtain ⟨r5, M5, hq5, h⟩ := bnd2_spec h
    refine j_run1 (c_S C (As := [.int a1]) (rest := [.ref a0]) (ctX9_rowOf C.2.2.2.2.2.2.2.2.1 N Z hq5) kcRX9_124 oyX9_rowOf ⟨by decide, by decide⟩ ⟨by decide, by decide⟩ (Nat.le_of_ble_eq_true rfl) rfl dX9_isThere_24) ?_
    refine j_iload_n C dX9_isThere_27 rfl 2 rfl ?_
    refine j_iload_n C dX9_isThere_28 rfl 3 rfl ?_
    obtain ⟨ho6, h⟩ := ck_spec h
    obtain ⟨r7, M7, hq7, h⟩ := bnd2_spec h
    refine j_run1 (c_V C (As := [.int r5, .int a2, .int a3]) (rest := []) (ctX9_has C.2.2.2.2.2.2.2.2.1 N Z hq7) kcRX9_87 oyX9_has (ci := 9) (T := TX9) (N := 23) rfl (by decide) ho6 ⟨by decide, by decide⟩ ⟨by decide, by decide⟩ (Nat.le_of_ble_eq_true rfl) rfl dX9_isThere_29) ?_
    obtain ⟨ho8, h⟩ := ck_spec h
    cases h
    exact j_zret C rfl (isB_spec ho8) (by decide) (by decide) dX9_isThere_32
  · rw [if_pos hc1] at h
    refine j_aload_n C dX9_isThere_5 rfl 0 rfl ?_
    refine j_iload_n C dX9_isThere_6 rfl 2 rfl ?_
    refine j_iload_n C dX9_isThere_7 rfl 3 rfl ?_
    obtain ⟨ho2, h⟩ := ck_spec h
    obtain ⟨r3, M3, hq3, h⟩ := bnd2_spec h
    refine j_run1 (c_V C (As := [.int a2, .int a3]) (rest := []) (ctX9_deckAt C.2.2.2.2.2.2.2.2.1 N Z hq3) kcRX9_93 oyX9_deckAt (ci := 9) (T := TX9) (N := 23) rfl (by decide) ho2 ⟨by decide, by decide⟩ ⟨by decide, by decide⟩ (Nat.le_of_ble_eq_true rfl) rfl dX9_isThere_8) ?_
    refine j_if_le C dX9_isThere_11 (tgt := 18) (by decide) (fun hc4 => ?_) (fun hc4 => ?_)
    · rw [if_pos hc4] at h
      refine j_iconst C dX9_isThere_18 (v := (0 : Int32)) (by decide) ?_
      refine j_goto C dX9_isThere_19 (tgt := 32) (by decide) ?_
      cases h
      exact j_zret C rfl (by decide) (by decide) (by decide) dX9_isThere_32
    · rw [if_neg hc4] at h
      refine j_iconst C dX9_isThere_14 (v := (1 : Int32)) (by decide) ?_
      refine j_goto C dX9_isThere_15 (tgt := 32) (by decide) ?_
      cases h
      exact j_zret C rfl (by decide) (by decide) (by decide) dX9_isThere_32
-- ScaffoldPlannerModel refuses
theorem fwRX9_127 : Cond.fieldLink RX9 127 RX9 (TX9 14).2.1 (TX9 14).2.2.1 ∈ gw := by decide +kernel
abbrev rmX9_refuses : Room := { frames := 0, cells := 0, slots := 0, locals := 0 }
theorem dX9_refuses_0 : decode cX9_refuses 0 = .ok (.aload_n 0, 1) := by decide +kernel
theorem dX9_refuses_1 : decode cX9_refuses 1 = .ok (.iload_n 2, 1) := by decide +kernel
theorem dX9_refuses_2 : decode cX9_refuses 2 = .ok (.putfield 127, 3) := by decide +kernel
theorem dX9_refuses_5 : decode cX9_refuses 5 = .ok (.iload_n 1, 1) := by decide +kernel
theorem dX9_refuses_6 : decode cX9_refuses 6 = .ok (.ireturn, 1) := by decide +kernel
def fX9_refuses (N : Nat) (Z : mZ) (a0 : Nat) (a1 : Int32) (a2 : Int32) (M : mM) : Option (Int32 × mM) := ck (okO Z a0 9) (some (a1, (sI M a0 14 a2)))
set_option maxHeartbeats 4000000 in
set_option maxRecDepth 100000 in
theorem ctX9_refuses {G : mG} {l : Launch} (hl : l.stackTraces = false) (N : Nat) (Z : mZ) {a0 : Nat} {a1 : Int32} {a2 : Int32} {M : mM} {r : Int32} {M' : mM} (h : fX9_refuses N Z a0 a1 a2 M = some (r, M')) : CT G l yX9_refuses (.code yX9_refuses cX9_refuses 3 (some .int)) rmX9_refuses [.ref a0, .int a1, .int a2] Z M (.inl (some (.int r))) Z M' := by
  unfold fX9_refuses at h
  refine CT.of hl (by decide) (Nat.le_of_ble_eq_true rfl) ?_
  intro p e s m args below meth c C hnm
  refine j_sub (L' := [(0, .ref a0), (1, .int a1), (2, .int a2)]) [0, 1, 2] rfl ?_
  refine j_aload_n C dX9_refuses_0 rfl 0 rfl ?_
  refine j_iload_n C dX9_refuses_1 rfl 2 rfl ?_
  obtain ⟨ho1, h⟩ := ck_spec h
  refine j_putI C tyX9 tyX9_ok nmX9 (cn := RX9) (T := TX9) (N := 23) (ci := 9) rfl iX9 ho1 14 (by decide) rfl fwRX9_127 ⟨rfl, rfl⟩ dX9_refuses_2 ?_
  refine j_iload_n C dX9_refuses_5 rfl 1 rfl ?_
  cases h
  exact j_iret C rfl (by decide) (by decide) dX9_refuses_6
