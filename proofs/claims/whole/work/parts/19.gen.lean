-- ScaffoldPlannerModel highest
abbrev rmX9_highest : Room := { frames := 2, cells := 0, slots := 0, locals := 45 }
theorem dX9_highest_0 : decode cX9_highest 0 = .ok (.iconst 0, 1) := by decide +kernel
theorem dX9_highest_1 : decode cX9_highest 1 = .ok (.istore_n 2, 1) := by decide +kernel
theorem dX9_highest_2 : decode cX9_highest 2 = .ok (.iconst 1, 1) := by decide +kernel
theorem dX9_highest_3 : decode cX9_highest 3 = .ok (.istore_n 3, 1) := by decide +kernel
theorem dX9_highest_4 : decode cX9_highest 4 = .ok (.iload_n 3, 1) := by decide +kernel
theorem dX9_highest_5 : decode cX9_highest 5 = .ok (.bipush 6, 2) := by decide +kernel
theorem dX9_highest_7 : decode cX9_highest 7 = .ok (.if_icmp .gt 26, 3) := by decide +kernel
theorem dX9_highest_10 : decode cX9_highest 10 = .ok (.aload_n 0, 1) := by decide +kernel
theorem dX9_highest_11 : decode cX9_highest 11 = .ok (.bipush 111, 2) := by decide +kernel
theorem dX9_highest_13 : decode cX9_highest 13 = .ok (.iload_n 1, 1) := by decide +kernel
theorem dX9_highest_14 : decode cX9_highest 14 = .ok (.iload_n 3, 1) := by decide +kernel
theorem dX9_highest_15 : decode cX9_highest 15 = .ok (.invokevirtual 87, 3) := by decide +kernel
theorem dX9_highest_18 : decode cX9_highest 18 = .ok (.ifCond .eq 7, 3) := by decide +kernel
theorem dX9_highest_21 : decode cX9_highest 21 = .ok (.iload_n 3, 1) := by decide +kernel
theorem dX9_highest_22 : decode cX9_highest 22 = .ok (.goto 4, 3) := by decide +kernel
theorem dX9_highest_25 : decode cX9_highest 25 = .ok (.iload_n 2, 1) := by decide +kernel
theorem dX9_highest_26 : decode cX9_highest 26 = .ok (.istore_n 2, 1) := by decide +kernel
theorem dX9_highest_27 : decode cX9_highest 27 = .ok (.iinc 3 1, 3) := by decide +kernel
theorem dX9_highest_30 : decode cX9_highest 30 = .ok (.goto (-26), 3) := by decide +kernel
theorem dX9_highest_33 : decode cX9_highest 33 = .ok (.iload_n 2, 1) := by decide +kernel
theorem dX9_highest_34 : decode cX9_highest 34 = .ok (.ireturn, 1) := by decide +kernel
def fX9_highest_4 (N : Nat) (Z : mZ) : Nat → Nat → Int32 → Int32 → Int32 → mM → Option (Int32 × mM)
  | 0, _, _, _, _, _ => none
  | fu + 1, v0, v1, v2, v3, M => if (6 : Int32) < v3 then some (v2, M) else ck (okO Z v0 9) (bnd2 (fX9_has N Z v0 (111 : Int32) v1 v3 M) (fun r3 M3 => if r3 = 0 then fX9_highest_4 N Z fu v0 v1 v2 (v3 + (1 : Int32)) M3 else fX9_highest_4 N Z fu v0 v1 v3 (v3 + (1 : Int32)) M3))
set_option maxHeartbeats 4000000 in
set_option maxRecDepth 100000 in
theorem tX9_highest_4 {G : mG} {p : Program} {l : Launch} {e : Env} {s : State} {m : MethodId} {args : Array Value} {below : List Frame} {meth : Method} {c : Code} (C : Cx G p l s m args meth c RX9 cX9_highest 4 (some .int) []) (hnm : meth.name = yX9_highest.name) (N : Nat) (Z : mZ) : ∀ (fu : Nat) (v0 : Nat) (v1 : Int32) (v2 : Int32) (v3 : Int32) (M : mM) (r : Int32) (M' : mM), fX9_highest_4 N Z fu v0 v1 v2 v3 M = some (r, M') → JJ G p l e rmX9_highest s m args below meth c 4 (mEnd G below args s rmX9_highest (.inl (some (.int r))) Z M') 0 0 4 [(0, .ref v0), (1, .int v1), (2, .int v2), (3, .int v3)] [] Z M := by
  intro fu
  induction fu with
  | zero =>
    intro v0 v1 v2 v3 M r M' h
    cases h
  | succ fu ih =>
    intro v0 v1 v2 v3 M r M' h
    rw [fX9_highest_4] at h
    refine j_iload_n C dX9_highest_4 rfl 3 rfl ?_
    refine j_bipush C dX9_highest_5 (v := (6 : Int32)) (by decide) ?_
    refine j_icmp_gt C dX9_highest_7 (tgt := 33) (by decide) (fun hc1 => ?_) (fun hc1 => ?_)
    · rw [if_pos hc1] at h
      refine j_iload_n C dX9_highest_33 rfl 2 rfl ?_
      cases h
      exact j_iret C rfl (by decide) (by decide) dX9_highest_34
    · rw [if_neg hc1] at h
      refine j_aload_n C dX9_highest_10 rfl 0 rfl ?_
      refine j_bipush C dX9_highest_11 (v := (111 : Int32)) (by decide) ?_
      refine j_iload_n C dX9_highest_13 rfl 1 rfl ?_
      refine j_iload_n C dX9_highest_14 rfl 3 rfl ?_
      obtain ⟨ho2, h⟩ := ck_spec h
      obtain ⟨r3, M3, hq3, h⟩ := bnd2_spec h
      refine j_run1 (c_V C (As := [.int (111 : Int32), .int v1, .int v3]) (rest := []) (ctX9_has C.2.2.2.2.2.2.2.2.1 N Z hq3) kcRX9_87 oyX9_has (ci := 9) (T := TX9) (N := 23) rfl (by decide) ho2 ⟨by decide, by decide⟩ ⟨by decide, by decide⟩ (Nat.le_of_ble_eq_true rfl) rfl dX9_highest_15) ?_
      refine j_if_eq C dX9_highest_18 (tgt := 25) (by decide) (fun hc4 => ?_) (fun hc4 => ?_)
      · rw [if_pos hc4] at h
        refine j_iload_n C dX9_highest_25 rfl 2 rfl ?_
        refine j_istore_n C dX9_highest_26 rfl (by decide) (L' := [(2, .int v2), (0, .ref v0), (1, .int v1), (3, .int v3)]) rfl ?_
        refine j_iinc C dX9_highest_27 3 rfl (v := (v3 + (1 : Int32))) (by first | rfl | decide) (by decide) (L' := [(3, .int (v3 + (1 : Int32))), (2, .int v2), (0, .ref v0), (1, .int v1)]) rfl ?_
        refine j_goto C dX9_highest_30 (tgt := 4) (by decide) ?_
        refine j_sub (L' := [(0, .ref v0), (1, .int v1), (2, .int v2), (3, .int (v3 + (1 : Int32)))]) [2, 3, 1, 0] rfl ?_
        exact ih v0 v1 v2 (v3 + (1 : Int32)) M3 r M' h
      · rw [if_neg hc4] at h
        refine j_iload_n C dX9_highest_21 rfl 3 rfl ?_
        refine j_goto C dX9_highest_22 (tgt := 26) (by decide) ?_
        refine j_istore_n C dX9_highest_26 rfl (by decide) (L' := [(2, .int v3), (0, .ref v0), (1, .int v1), (3, .int v3)]) rfl ?_
        refine j_iinc C dX9_highest_27 3 rfl (v := (v3 + (1 : Int32))) (by first | rfl | decide) (by decide) (L' := [(3, .int (v3 + (1 : Int32))), (2, .int v3), (0, .ref v0), (1, .int v1)]) rfl ?_
        refine j_goto C dX9_highest_30 (tgt := 4) (by decide) ?_
        refine j_sub (L' := [(0, .ref v0), (1, .int v1), (2, .int v3), (3, .int (v3 + (1 : Int32)))]) [2, 3, 1, 0] rfl ?_
        exact ih v0 v1 v3 (v3 + (1 : Int32)) M3 r M' h
def fX9_highest (N : Nat) (Z : mZ) (a0 : Nat) (a1 : Int32) (M : mM) : Option (Int32 × mM) := fX9_highest_4 N Z N a0 a1 (0 : Int32) (1 : Int32) M
set_option maxHeartbeats 4000000 in
set_option maxRecDepth 100000 in
theorem ctX9_highest {G : mG} {l : Launch} (hl : l.stackTraces = false) (N : Nat) (Z : mZ) {a0 : Nat} {a1 : Int32} {M : mM} {r : Int32} {M' : mM} (h : fX9_highest N Z a0 a1 M = some (r, M')) : CT G l yX9_highest (.code yX9_highest cX9_highest 4 (some .int)) rmX9_highest [.ref a0, .int a1] Z M (.inl (some (.int r))) Z M' := by
  unfold fX9_highest at h
  refine CT.of hl (by decide) (Nat.le_of_ble_eq_true rfl) ?_
  intro p e s m args below meth c C hnm
  refine j_sub (L' := [(0, .ref a0), (1, .int a1)]) [0, 1] rfl ?_
  refine j_iconst C dX9_highest_0 (v := (0 : Int32)) (by decide) ?_
  refine j_istore_n C dX9_highest_1 rfl (by decide) (L' := [(2, .int (0 : Int32)), (0, .ref a0), (1, .int a1)]) rfl ?_
  refine j_iconst C dX9_highest_2 (v := (1 : Int32)) (by decide) ?_
  refine j_istore_n C dX9_highest_3 rfl (by decide) (L' := [(3, .int (1 : Int32)), (2, .int (0 : Int32)), (0, .ref a0), (1, .int a1)]) rfl ?_
  refine j_sub (L' := [(0, .ref a0), (1, .int a1), (2, .int (0 : Int32)), (3, .int (1 : Int32))]) [2, 3, 1, 0] rfl ?_
  exact tX9_highest_4 C hnm N Z N a0 a1 (0 : Int32) (1 : Int32) M _ _ h
-- ScaffoldPlannerModel hinders
theorem kcRX9_130 : okV RX9 130 yX9_highest (.code yX9_highest cX9_highest 4 (some .int)) = true := by decide +kernel
theorem oyX9_highest : okY yX9_highest 1 := ⟨by decide +kernel, by decide +kernel, by decide +kernel⟩
abbrev rmX9_hinders : Room := { frames := 3, cells := 0, slots := 0, locals := 68 }
theorem dX9_hinders_0 : decode cX9_hinders 0 = .ok (.aload_n 0, 1) := by decide +kernel
theorem dX9_hinders_1 : decode cX9_hinders 1 = .ok (.iload_n 1, 1) := by decide +kernel
theorem dX9_hinders_2 : decode cX9_hinders 2 = .ok (.invokevirtual 69, 3) := by decide +kernel
theorem dX9_hinders_5 : decode cX9_hinders 5 = .ok (.istore_n 2, 1) := by decide +kernel
theorem dX9_hinders_6 : decode cX9_hinders 6 = .ok (.aload_n 0, 1) := by decide +kernel
theorem dX9_hinders_7 : decode cX9_hinders 7 = .ok (.iload_n 1, 1) := by decide +kernel
theorem dX9_hinders_8 : decode cX9_hinders 8 = .ok (.iload_n 2, 1) := by decide +kernel
theorem dX9_hinders_9 : decode cX9_hinders 9 = .ok (.invokevirtual 93, 3) := by decide +kernel
theorem dX9_hinders_12 : decode cX9_hinders 12 = .ok (.ifCond .le 5, 3) := by decide +kernel
theorem dX9_hinders_15 : decode cX9_hinders 15 = .ok (.iconst 2, 1) := by decide +kernel
theorem dX9_hinders_16 : decode cX9_hinders 16 = .ok (.ireturn, 1) := by decide +kernel
theorem dX9_hinders_17 : decode cX9_hinders 17 = .ok (.aload_n 0, 1) := by decide +kernel
theorem dX9_hinders_18 : decode cX9_hinders 18 = .ok (.bipush 91, 2) := by decide +kernel
theorem dX9_hinders_20 : decode cX9_hinders 20 = .ok (.iload_n 1, 1) := by decide +kernel
theorem dX9_hinders_21 : decode cX9_hinders 21 = .ok (.iload_n 2, 1) := by decide +kernel
theorem dX9_hinders_22 : decode cX9_hinders 22 = .ok (.invokevirtual 87, 3) := by decide +kernel
theorem dX9_hinders_25 : decode cX9_hinders 25 = .ok (.ifCond .eq 5, 3) := by decide +kernel
theorem dX9_hinders_28 : decode cX9_hinders 28 = .ok (.iconst 3, 1) := by decide +kernel
theorem dX9_hinders_29 : decode cX9_hinders 29 = .ok (.ireturn, 1) := by decide +kernel
theorem dX9_hinders_30 : decode cX9_hinders 30 = .ok (.aload_n 0, 1) := by decide +kernel
theorem dX9_hinders_31 : decode cX9_hinders 31 = .ok (.iload_n 1, 1) := by decide +kernel
theorem dX9_hinders_32 : decode cX9_hinders 32 = .ok (.invokevirtual 130, 3) := by decide +kernel
theorem dX9_hinders_35 : decode cX9_hinders 35 = .ok (.iload_n 2, 1) := by decide +kernel
theorem dX9_hinders_36 : decode cX9_hinders 36 = .ok (.iconst 1, 1) := by decide +kernel
theorem dX9_hinders_37 : decode cX9_hinders 37 = .ok (.isub, 1) := by decide +kernel
theorem dX9_hinders_38 : decode cX9_hinders 38 = .ok (.aload_n 0, 1) := by decide +kernel
theorem dX9_hinders_39 : decode cX9_hinders 39 = .ok (.aload_n 0, 1) := by decide +kernel
theorem dX9_hinders_40 : decode cX9_hinders 40 = .ok (.iload_n 1, 1) := by decide +kernel
theorem dX9_hinders_41 : decode cX9_hinders 41 = .ok (.invokevirtual 73, 3) := by decide +kernel
theorem dX9_hinders_44 : decode cX9_hinders 44 = .ok (.invokevirtual 69, 3) := by decide +kernel
theorem dX9_hinders_47 : decode cX9_hinders 47 = .ok (.invokestatic 76, 3) := by decide +kernel
theorem dX9_hinders_50 : decode cX9_hinders 50 = .ok (.if_icmp .gt 30, 3) := by decide +kernel
theorem dX9_hinders_53 : decode cX9_hinders 53 = .ok (.aload_n 0, 1) := by decide +kernel
theorem dX9_hinders_54 : decode cX9_hinders 54 = .ok (.aload_n 0, 1) := by decide +kernel
theorem dX9_hinders_55 : decode cX9_hinders 55 = .ok (.iload_n 1, 1) := by decide +kernel
theorem dX9_hinders_56 : decode cX9_hinders 56 = .ok (.invokevirtual 90, 3) := by decide +kernel
theorem dX9_hinders_59 : decode cX9_hinders 59 = .ok (.invokevirtual 130, 3) := by decide +kernel
theorem dX9_hinders_62 : decode cX9_hinders 62 = .ok (.iload_n 2, 1) := by decide +kernel
theorem dX9_hinders_63 : decode cX9_hinders 63 = .ok (.iconst 1, 1) := by decide +kernel
theorem dX9_hinders_64 : decode cX9_hinders 64 = .ok (.isub, 1) := by decide +kernel
theorem dX9_hinders_65 : decode cX9_hinders 65 = .ok (.aload_n 0, 1) := by decide +kernel
theorem dX9_hinders_66 : decode cX9_hinders 66 = .ok (.aload_n 0, 1) := by decide +kernel
theorem dX9_hinders_67 : decode cX9_hinders 67 = .ok (.iload_n 1, 1) := by decide +kernel
theorem dX9_hinders_68 : decode cX9_hinders 68 = .ok (.invokevirtual 90, 3) := by decide +kernel
theorem dX9_hinders_71 : decode cX9_hinders 71 = .ok (.invokevirtual 69, 3) := by decide +kernel
theorem dX9_hinders_74 : decode cX9_hinders 74 = .ok (.invokestatic 76, 3) := by decide +kernel
theorem dX9_hinders_77 : decode cX9_hinders 77 = .ok (.if_icmp .le 5, 3) := by decide +kernel
theorem dX9_hinders_80 : decode cX9_hinders 80 = .ok (.iconst 4, 1) := by decide +kernel
theorem dX9_hinders_81 : decode cX9_hinders 81 = .ok (.ireturn, 1) := by decide +kernel
theorem dX9_hinders_82 : decode cX9_hinders 82 = .ok (.aload_n 0, 1) := by decide +kernel
theorem dX9_hinders_83 : decode cX9_hinders 83 = .ok (.bipush 101, 2) := by decide +kernel
theorem dX9_hinders_85 : decode cX9_hinders 85 = .ok (.iload_n 1, 1) := by decide +kernel
theorem dX9_hinders_86 : decode cX9_hinders 86 = .ok (.iload_n 2, 1) := by decide +kernel
theorem dX9_hinders_87 : decode cX9_hinders 87 = .ok (.invokevirtual 87, 3) := by decide +kernel
theorem dX9_hinders_90 : decode cX9_hinders 90 = .ok (.ifCond .eq 7, 3) := by decide +kernel
theorem dX9_hinders_93 : decode cX9_hinders 93 = .ok (.iconst 5, 1) := by decide +kernel
theorem dX9_hinders_94 : decode cX9_hinders 94 = .ok (.goto 4, 3) := by decide +kernel
theorem dX9_hinders_97 : decode cX9_hinders 97 = .ok (.iconst 0, 1) := by decide +kernel
theorem dX9_hinders_98 : decode cX9_hinders 98 = .ok (.ireturn, 1) := by decide +kernel
def fX9_hinders (N : Nat) (Z : mZ) (a0 : Nat) (a1 : Int32) (M : mM) : Option (Int32 × mM) := ck (okO Z a0 9) (bnd2 (fX9_high N Z a0 a1 M) (fun r2 M2 => bnd2 (fX9_deckAt N Z a0 a1 r2 M2) (fun r3 M3 => if r3 ≤ 0 then bnd2 (fX9_has N Z a0 (91 : Int32) a1 r2 M3) (fun r5 M5 => if r5 = 0 then bnd2 (fX9_highest N Z a0 a1 M5) (fun r7 M7 => bnd2 (fX9_left N Z a0 a1 M7) (fun r8 M8 => bnd2 (fX9_high N Z a0 r8 M8) (fun r9 M9 => bnd2 (fX9_greater N Z (r2 - (1 : Int32)) r9 M9) (fun r10 M10 => if r10 < r7 then some ((4 : Int32), M10) else bnd2 (fX9_right N Z a0 a1 M10) (fun r12 M12 => bnd2 (fX9_highest N Z a0 r12 M12) (fun r13 M13 => bnd2 (fX9_right N Z a0 a1 M13) (fun r14 M14 => bnd2 (fX9_high N Z a0 r14 M14) (fun r15 M15 => bnd2 (fX9_greater N Z (r2 - (1 : Int32)) r15 M15) (fun r16 M16 => if r13 ≤ r16 then bnd2 (fX9_has N Z a0 (101 : Int32) a1 r2 M16) (fun r18 M18 => if r18 = 0 then some ((0 : Int32), M18) else some ((5 : Int32), M18)) else some ((4 : Int32), M16)))))))))) else some ((3 : Int32), M5)) else some ((2 : Int32), M3))))
set_option maxHeartbeats 4000000 in
set_option maxRecDepth 100000 in
theorem ctX9_hinders {G : mG} {l : Launch} (hl : l.stackTraces = false) (N : Nat) (Z : mZ) {a0 : Nat} {a1 : Int32} {M : mM} {r : Int32} {M' : mM} (h : fX9_hinders N Z a0 a1 M = some (r, M')) : CT G l yX9_hinders (.code yX9_hinders cX9_hinders 3 (some .int)) rmX9_hinders [.ref a0, .int a1] Z M (.inl (some (.int r))) Z M' := by
  unfold fX9_hinders at h
  refine CT.of hl (by decide) (Nat.le_of_ble_eq_true rfl) ?_
  intro p e s m args below meth c C hnm
  refine j_sub (L' := [(0, .ref a0), (1, .int a1)]) [0, 1] rfl ?_
  refine j_aload_n C dX9_hinders_0 rfl 0 rfl ?_
  refine j_iload_n C dX9_hinders_1 rfl 1 rfl ?_
  obtain ⟨ho1, h⟩ := ck_spec h
  obtain ⟨r2, M2, hq2, h⟩ := bnd2_spec h
  refine j_run1 (c_V C (As := [.int a1]) (rest := []) (ctX9_high C.2.2.2.2.2.2.2.2.1 N Z hq2) kcRX9_69 oyX9_high (ci := 9) (T := TX9) (N := 23) rfl (by decide) ho1 ⟨by decide, by decide⟩ ⟨by decide, by decide⟩ (Nat.le_of_ble_eq_true rfl) rfl dX9_hinders_2) ?_
  refine j_istore_n C dX9_hinders_5 rfl (by decide) (L' := [(2, .int r2), (0, .ref a0), (1, .int a1)]) rfl ?_
  refine j_aload_n C dX9_hinders_6 rfl 1 rfl ?_
  refine j_iload_n C dX9_hinders_7 rfl 2 rfl ?_
  refine j_iload_n C dX9_hinders_8 rfl 0 rfl ?_
  obtain ⟨r3, M3, hq3, h⟩ := bnd2_spec h
  refine j_run1 (c_V C (As := [.int a1, .int r2]) (rest := []) (ctX9_deckAt C.2.2.2.2.2.2.2.2.1 N Z hq3) kcRX9_93 oyX9_deckAt (ci := 9) (T := TX9) (N := 23) rfl (by decide) ho1 ⟨by decide, by decide⟩ ⟨by decide, by decide⟩ (Nat.le_of_ble_eq_true rfl) rfl dX9_hinders_9) ?_
  refine j_if_le C dX9_hinders_12 (tgt := 17) (by decide) (fun hc4 => ?_) (fun hc4 => ?_)
  · rw [if_pos hc4] at h
    refine j_aload_n C dX9_hinders_17 rfl 1 rfl ?_
    refine j_bipush C dX9_hinders_18 (v := (91 : Int32)) (by decide) ?_
    refine j_iload_n C dX9_hinders_20 rfl 2 rfl ?_
    refine j_iload_n C dX9_hinders_21 rfl 0 rfl ?_
    obtain ⟨r5, M5, hq5, h⟩ := bnd2_spec h
    refine j_run1 (c_V C (As := [.int (91 : Int32), .int a1, .int r2]) (rest := []) (ctX9_has C.2.2.2.2.2.2.2.2.1 N Z hq5) kcRX9_87 oyX9_has (ci := 9) (T := TX9) (N := 23) rfl (by decide) ho1 ⟨by decide, by decide⟩ ⟨by decide, by decide⟩ (Nat.le_of_ble_eq_true rfl) rfl dX9_hinders_22) ?_
    refine j_if_eq C dX9_hinders_25 (tgt := 30) (by decide) (fun hc6 => ?_) (fun hc6 => ?_)
    · rw [if_pos hc6] at h
      refine j_aload_n C dX9_hinders_30 rfl 1 rfl ?_
      refine j_iload_n C dX9_hinders_31 rfl 2 rfl ?_
      obtain ⟨r7, M7, hq7, h⟩ := bnd2_spec h
      refine j_run1 (c_V C (As := [.int a1]) (rest := []) (ctX9_highest C.2.2.2.2.2.2.2.2.1 N Z hq7) kcRX9_130 oyX9_highest (ci := 9) (T := TX9) (N := 23) rfl (by decide) ho1 ⟨by decide, by decide⟩ ⟨by decide, by decide⟩ (Nat.le_of_ble_eq_true rfl) rfl dX9_hinders_32) ?_
      refine j_iload_n C dX9_hinders_35 rfl 0 rfl ?_
      refine j_iconst C dX9_hinders_36 (v := (1 : Int32)) (by decide) ?_
      refine j_isub C dX9_hinders_37 ?_
      refine j_aload_n C dX9_hinders_38 rfl 1 rfl ?_
      refine j_aload_n C dX9_hinders_39 rfl 1 rfl ?_
      refine j_iload_n C dX9_hinders_40 rfl 2 rfl ?_
      obtain ⟨r8, M8, hq8, h⟩ := bnd2_spec h
      refine j_run1 (c_V C (As := [.int a1]) (rest := [.ref a0, .int (r2 - (1 : Int32)), .int r7]) (ctX9_left C.2.2.2.2.2.2.2.2.1 N Z hq8) kcRX9_73 oyX9_left (ci := 9) (T := TX9) (N := 23) rfl (by decide) ho1 ⟨by decide, by decide⟩ ⟨by decide, by decide⟩ (Nat.le_of_ble_eq_true rfl) rfl dX9_hinders_41) ?_
      obtain ⟨r9, M9, hq9, h⟩ := bnd2_spec h
      refine j_run1 (c_V C (As := [.int r8]) (rest := [.int (r2 - (1 : Int32)), .int r7]) (ctX9_high C.2.2.2.2.2.2.2.2.1 N Z hq9) kcRX9_69 oyX9_high (ci := 9) (T := TX9) (N := 23) rfl (by decide) ho1 ⟨by decide, by decide⟩ ⟨by decide, by decide⟩ (Nat.le_of_ble_eq_true rfl) rfl dX9_hinders_44) ?_
      obtain ⟨r10, M10, hq10, h⟩ := bnd2_spec h
      refine j_run1 (c_S C (As := [.int (r2 - (1 : Int32)), .int r9]) (rest := [.int r7]) (ctX9_greater C.2.2.2.2.2.2.2.2.1 N Z hq10) kcRX9_76 oyX9_greater ⟨by decide, by decide⟩ ⟨by decide, by decide⟩ (Nat.le_of_ble_eq_true rfl) rfl dX9_hinders_47) ?_
      refine j_icmp_gt C dX9_hinders_50 (tgt := 80) (by decide) (fun hc11 => ?_) (fun hc11 => ?_)
      · rw [if_pos hc11] at h
        refine j_iconst C dX9_hinders_80 (v := (4 : Int32)) (by decide) ?_
        cases h
        exact j_iret C rfl (by decide) (by decide) dX9_hinders_81
      · rw [if_neg hc11] at h
        refine j_aload_n C dX9_hinders_53 rfl 1 rfl ?_
        refine j_aload_n C dX9_hinders_54 rfl 1 rfl ?_
        refine j_iload_n C dX9_hinders_55 rfl 2 rfl ?_
        obtain ⟨r12, M12, hq12, h⟩ := bnd2_spec h
        refine j_run1 (c_V C (As := [.int a1]) (rest := [.ref a0]) (ctX9_right C.2.2.2.2.2.2.2.2.1 N Z hq12) kcRX9_90 oyX9_right (ci := 9) (T := TX9) (N := 23) rfl (by decide) ho1 ⟨by decide, by decide⟩ ⟨by decide, by decide⟩ (Nat.le_of_ble_eq_true rfl) rfl dX9_hinders_56) ?_
        obtain ⟨r13, M13, hq13, h⟩ := bnd2_spec h
        refine j_run1 (c_V C (As := [.int r12]) (rest := []) (ctX9_highest C.2.2.2.2.2.2.2.2.1 N Z hq13) kcRX9_130 oyX9_highest (ci := 9) (T := TX9) (N := 23) rfl (by decide) ho1 ⟨by decide, by decide⟩ ⟨by decide, by decide⟩ (Nat.le_of_ble_eq_true rfl) rfl dX9_hinders_59) ?_
        refine j_iload_n C dX9_hinders_62 rfl 0 rfl ?_
        refine j_iconst C dX9_hinders_63 (v := (1 : Int32)) (by decide) ?_
        refine j_isub C dX9_hinders_64 ?_
        refine j_aload_n C dX9_hinders_65 rfl 1 rfl ?_
        refine j_aload_n C dX9_hinders_66 rfl 1 rfl ?_
        refine j_iload_n C dX9_hinders_67 rfl 2 rfl ?_
        obtain ⟨r14, M14, hq14, h⟩ := bnd2_spec h
        refine j_run1 (c_V C (As := [.int a1]) (rest := [.ref a0, .int (r2 - (1 : Int32)), .int r13]) (ctX9_right C.2.2.2.2.2.2.2.2.1 N Z hq14) kcRX9_90 oyX9_right (ci := 9) (T := TX9) (N := 23) rfl (by decide) ho1 ⟨by decide, by decide⟩ ⟨by decide, by decide⟩ (Nat.le_of_ble_eq_true rfl) rfl dX9_hinders_68) ?_
        obtain ⟨r15, M15, hq15, h⟩ := bnd2_spec h
        refine j_run1 (c_V C (As := [.int r14]) (rest := [.int (r2 - (1 : Int32)), .int r13]) (ctX9_high C.2.2.2.2.2.2.2.2.1 N Z hq15) kcRX9_69 oyX9_high (ci := 9) (T := TX9) (N := 23) rfl (by decide) ho1 ⟨by decide, by decide⟩ ⟨by decide, by decide⟩ (Nat.le_of_ble_eq_true rfl) rfl dX9_hinders_71) ?_
        obtain ⟨r16, M16, hq16, h⟩ := bnd2_spec h
        refine j_run1 (c_S C (As := [.int (r2 - (1 : Int32)), .int r15]) (rest := [.int r13]) (ctX9_greater C.2.2.2.2.2.2.2.2.1 N Z hq16) kcRX9_76 oyX9_greater ⟨by decide, by decide⟩ ⟨by decide, by decide⟩ (Nat.le_of_ble_eq_true rfl) rfl dX9_hinders_74) ?_
        refine j_icmp_le C dX9_hinders_77 (tgt := 82) (by decide) (fun hc17 => ?_) (fun hc17 => ?_)
        · rw [if_pos hc17] at h
          refine j_aload_n C dX9_hinders_82 rfl 1 rfl ?_
          refine j_bipush C dX9_hinders_83 (v := (101 : Int32)) (by decide) ?_
          refine j_iload_n C dX9_hinders_85 rfl 2 rfl ?_
          refine j_iload_n C dX9_hinders_86 rfl 0 rfl ?_
          obtain ⟨r18, M18, hq18, h⟩ := bnd2_spec h
          refine j_run1 (c_V C (As := [.int (101 : Int32), .int a1, .int r2]) (rest := []) (ctX9_has C.2.2.2.2.2.2.2.2.1 N Z hq18) kcRX9_87 oyX9_has (ci := 9) (T := TX9) (N := 23) rfl (by decide) ho1 ⟨by decide, by decide⟩ ⟨by decide, by decide⟩ (Nat.le_of_ble_eq_true rfl) rfl dX9_hinders_87) ?_
          refine j_if_eq C dX9_hinders_90 (tgt := 97) (by decide) (fun hc19 => ?_) (fun hc19 => ?_)
          · rw [if_pos hc19] at h
            refine j_iconst C dX9_hinders_97 (v := (0 : Int32)) (by decide) ?_
            cases h
            exact j_iret C rfl (by decide) (by decide) dX9_hinders_98
          · rw [if_neg hc19] at h
            refine j_iconst C dX9_hinders_93 (v := (5 : Int32)) (by decide) ?_
            refine j_goto C dX9_hinders_94 (tgt := 98) (by decide) ?_
            cases h
            exact j_iret C rfl (by decide) (by decide) dX9_hinders_98
        · rw [if_neg hc17] at h
          refine j_iconst C dX9_hinders_80 (v := (4 : Int32)) (by decide) ?_
          cases h
          exact j_iret C rfl (by decide) (by decide) dX9_hinders_81
    · rw [if_neg hc6] at h
      refine j_iconst C dX9_hinders_28 (v := (3 : Int32)) (by decide) ?_
      cases h
      exact j_iret C rfl (by decide) (by decide) dX9_hinders_29
  · rw [if_neg hc4] at h
    refine j_iconst C dX9_hinders_15 (v := (2 : Int32)) (by decide) ?_
    cases h
    exact j_iret C rfl (by decide) (by decide) dX9_hinders_16
-- ScaffoldPlannerModel byThings
theorem kcRX9_133 : okV RX9 133 yX9_refuses (.code yX9_refuses cX9_refuses 3 (some .int)) = true := by decide +kernel
theorem oyX9_refuses : okY yX9_refuses 2 := ⟨by decide +kernel, by decide +kernel, by decide +kernel⟩
theorem kcRX9_136 : okV RX9 136 yX9_hinders (.code yX9_hinders cX9_hinders 3 (some .int)) = true := by decide +kernel
theorem oyX9_hinders : okY yX9_hinders 1 := ⟨by decide +kernel, by decide +kernel, by decide +kernel⟩
abbrev rmX9_byThings : Room := { frames := 4, cells := 0, slots := 0, locals := 90 }
theorem dX9_byThings_0 : decode cX9_byThings 0 = .ok (.iload_n 1, 1) := by decide +kernel
theorem dX9_byThings_1 : decode cX9_byThings 1 = .ok (.iconst 5, 1) := by decide +kernel
theorem dX9_byThings_2 : decode cX9_byThings 2 = .ok (.if_icmp .ne 53, 3) := by decide +kernel
theorem dX9_byThings_5 : decode cX9_byThings 5 = .ok (.iload 4, 2) := by decide +kernel
theorem dX9_byThings_7 : decode cX9_byThings 7 = .ok (.ifCond .ne 48, 3) := by decide +kernel
theorem dX9_byThings_10 : decode cX9_byThings 10 = .ok (.iload_n 3, 1) := by decide +kernel
theorem dX9_byThings_11 : decode cX9_byThings 11 = .ok (.iconst 1, 1) := by decide +kernel
theorem dX9_byThings_12 : decode cX9_byThings 12 = .ok (.if_icmp .le 23, 3) := by decide +kernel
theorem dX9_byThings_15 : decode cX9_byThings 15 = .ok (.aload_n 0, 1) := by decide +kernel
theorem dX9_byThings_16 : decode cX9_byThings 16 = .ok (.iload_n 2, 1) := by decide +kernel
theorem dX9_byThings_17 : decode cX9_byThings 17 = .ok (.iload_n 3, 1) := by decide +kernel
theorem dX9_byThings_18 : decode cX9_byThings 18 = .ok (.iconst 1, 1) := by decide +kernel
theorem dX9_byThings_19 : decode cX9_byThings 19 = .ok (.isub, 1) := by decide +kernel
theorem dX9_byThings_20 : decode cX9_byThings 20 = .ok (.invokevirtual 93, 3) := by decide +kernel
theorem dX9_byThings_23 : decode cX9_byThings 23 = .ok (.ifCond .ne 12, 3) := by decide +kernel
theorem dX9_byThings_26 : decode cX9_byThings 26 = .ok (.aload_n 0, 1) := by decide +kernel
theorem dX9_byThings_27 : decode cX9_byThings 27 = .ok (.iconst 3, 1) := by decide +kernel
theorem dX9_byThings_28 : decode cX9_byThings 28 = .ok (.iload_n 3, 1) := by decide +kernel
theorem dX9_byThings_29 : decode cX9_byThings 29 = .ok (.iconst 1, 1) := by decide +kernel
theorem dX9_byThings_30 : decode cX9_byThings 30 = .ok (.isub, 1) := by decide +kernel
theorem dX9_byThings_31 : decode cX9_byThings 31 = .ok (.invokevirtual 133, 3) := by decide +kernel
theorem dX9_byThings_34 : decode cX9_byThings 34 = .ok (.ireturn, 1) := by decide +kernel
theorem dX9_byThings_35 : decode cX9_byThings 35 = .ok (.aload_n 0, 1) := by decide +kernel
theorem dX9_byThings_36 : decode cX9_byThings 36 = .ok (.iload_n 2, 1) := by decide +kernel
theorem dX9_byThings_37 : decode cX9_byThings 37 = .ok (.iload_n 3, 1) := by decide +kernel
theorem dX9_byThings_38 : decode cX9_byThings 38 = .ok (.invokevirtual 93, 3) := by decide +kernel
theorem dX9_byThings_41 : decode cX9_byThings 41 = .ok (.ifCond .ne 12, 3) := by decide +kernel
theorem dX9_byThings_44 : decode cX9_byThings 44 = .ok (.aload_n 0, 1) := by decide +kernel
theorem dX9_byThings_45 : decode cX9_byThings 45 = .ok (.iconst 3, 1) := by decide +kernel
theorem dX9_byThings_46 : decode cX9_byThings 46 = .ok (.iload_n 3, 1) := by decide +kernel
theorem dX9_byThings_47 : decode cX9_byThings 47 = .ok (.invokevirtual 133, 3) := by decide +kernel
theorem dX9_byThings_50 : decode cX9_byThings 50 = .ok (.goto 4, 3) := by decide +kernel
theorem dX9_byThings_53 : decode cX9_byThings 53 = .ok (.iconst 0, 1) := by decide +kernel
theorem dX9_byThings_54 : decode cX9_byThings 54 = .ok (.ireturn, 1) := by decide +kernel
theorem dX9_byThings_55 : decode cX9_byThings 55 = .ok (.iload_n 1, 1) := by decide +kernel
theorem dX9_byThings_56 : decode cX9_byThings 56 = .ok (.iconst 2, 1) := by decide +kernel
theorem dX9_byThings_57 : decode cX9_byThings 57 = .ok (.if_icmp .ne 54, 3) := by decide +kernel
theorem dX9_byThings_60 : decode cX9_byThings 60 = .ok (.iload 4, 2) := by decide +kernel
theorem dX9_byThings_62 : decode cX9_byThings 62 = .ok (.ifCond .eq 49, 3) := by decide +kernel
theorem dX9_byThings_65 : decode cX9_byThings 65 = .ok (.aload_n 0, 1) := by decide +kernel
theorem dX9_byThings_66 : decode cX9_byThings 66 = .ok (.bipush 101, 2) := by decide +kernel
theorem dX9_byThings_68 : decode cX9_byThings 68 = .ok (.iload_n 2, 1) := by decide +kernel
theorem dX9_byThings_69 : decode cX9_byThings 69 = .ok (.iload_n 3, 1) := by decide +kernel
theorem dX9_byThings_70 : decode cX9_byThings 70 = .ok (.invokevirtual 87, 3) := by decide +kernel
theorem dX9_byThings_73 : decode cX9_byThings 73 = .ok (.ifCond .eq 12, 3) := by decide +kernel
theorem dX9_byThings_76 : decode cX9_byThings 76 = .ok (.aload_n 0, 1) := by decide +kernel
theorem dX9_byThings_77 : decode cX9_byThings 77 = .ok (.iconst 3, 1) := by decide +kernel
theorem dX9_byThings_78 : decode cX9_byThings 78 = .ok (.iload_n 3, 1) := by decide +kernel
theorem dX9_byThings_79 : decode cX9_byThings 79 = .ok (.invokevirtual 133, 3) := by decide +kernel
theorem dX9_byThings_82 : decode cX9_byThings 82 = .ok (.goto 28, 3) := by decide +kernel
theorem dX9_byThings_85 : decode cX9_byThings 85 = .ok (.aload_n 0, 1) := by decide +kernel
theorem dX9_byThings_86 : decode cX9_byThings 86 = .ok (.bipush 101, 2) := by decide +kernel
theorem dX9_byThings_88 : decode cX9_byThings 88 = .ok (.iload_n 2, 1) := by decide +kernel
theorem dX9_byThings_89 : decode cX9_byThings 89 = .ok (.iload_n 3, 1) := by decide +kernel
theorem dX9_byThings_90 : decode cX9_byThings 90 = .ok (.iconst 1, 1) := by decide +kernel
theorem dX9_byThings_91 : decode cX9_byThings 91 = .ok (.iadd, 1) := by decide +kernel
theorem dX9_byThings_92 : decode cX9_byThings 92 = .ok (.invokevirtual 87, 3) := by decide +kernel
theorem dX9_byThings_95 : decode cX9_byThings 95 = .ok (.ifCond .eq 14, 3) := by decide +kernel
theorem dX9_byThings_98 : decode cX9_byThings 98 = .ok (.aload_n 0, 1) := by decide +kernel
theorem dX9_byThings_99 : decode cX9_byThings 99 = .ok (.iconst 3, 1) := by decide +kernel
theorem dX9_byThings_100 : decode cX9_byThings 100 = .ok (.iload_n 3, 1) := by decide +kernel
theorem dX9_byThings_101 : decode cX9_byThings 101 = .ok (.iconst 1, 1) := by decide +kernel
theorem dX9_byThings_102 : decode cX9_byThings 102 = .ok (.iadd, 1) := by decide +kernel
theorem dX9_byThings_103 : decode cX9_byThings 103 = .ok (.invokevirtual 133, 3) := by decide +kernel
theorem dX9_byThings_106 : decode cX9_byThings 106 = .ok (.goto 4, 3) := by decide +kernel
theorem dX9_byThings_109 : decode cX9_byThings 109 = .ok (.iconst 0, 1) := by decide +kernel
theorem dX9_byThings_110 : decode cX9_byThings 110 = .ok (.ireturn, 1) := by decide +kernel
theorem dX9_byThings_111 : decode cX9_byThings 111 = .ok (.iload_n 1, 1) := by decide +kernel
theorem dX9_byThings_112 : decode cX9_byThings 112 = .ok (.ifCond .ne 29, 3) := by decide +kernel
theorem dX9_byThings_115 : decode cX9_byThings 115 = .ok (.iload 4, 2) := by decide +kernel
theorem dX9_byThings_117 : decode cX9_byThings 117 = .ok (.ifCond .eq 24, 3) := by decide +kernel
theorem dX9_byThings_120 : decode cX9_byThings 120 = .ok (.aload_n 0, 1) := by decide +kernel
theorem dX9_byThings_121 : decode cX9_byThings 121 = .ok (.iload_n 2, 1) := by decide +kernel
theorem dX9_byThings_122 : decode cX9_byThings 122 = .ok (.invokevirtual 136, 3) := by decide +kernel
theorem dX9_byThings_125 : decode cX9_byThings 125 = .ok (.ifCond .le 16, 3) := by decide +kernel
theorem dX9_byThings_128 : decode cX9_byThings 128 = .ok (.aload_n 0, 1) := by decide +kernel
theorem dX9_byThings_129 : decode cX9_byThings 129 = .ok (.iconst 3, 1) := by decide +kernel
theorem dX9_byThings_130 : decode cX9_byThings 130 = .ok (.aload_n 0, 1) := by decide +kernel
theorem dX9_byThings_131 : decode cX9_byThings 131 = .ok (.iload_n 2, 1) := by decide +kernel
theorem dX9_byThings_132 : decode cX9_byThings 132 = .ok (.invokevirtual 136, 3) := by decide +kernel
theorem dX9_byThings_135 : decode cX9_byThings 135 = .ok (.invokevirtual 133, 3) := by decide +kernel
theorem dX9_byThings_138 : decode cX9_byThings 138 = .ok (.goto 4, 3) := by decide +kernel
theorem dX9_byThings_141 : decode cX9_byThings 141 = .ok (.iconst 0, 1) := by decide +kernel
theorem dX9_byThings_142 : decode cX9_byThings 142 = .ok (.ireturn, 1) := by decide +kernel
def fX9_byThings_111 (N : Nat) (Z : mZ) (v0 : Nat) (v1 : Int32) (v2 : Int32) (v4 : Int32) (M : mM) : Option (Int32 × mM) := if v1 = 0 then if v4 = 0 then some ((0 : Int32), M) else ck (okO Z v0 9) (bnd2 (fX9_hinders N Z v0 v2 M) (fun r20 M20 => if r20 ≤ 0 then some ((0 : Int32), M20) else bnd2 (fX9_hinders N Z v0 v2 M20) (fun r22 M22 => bnd2 (fX9_refuses N Z v0 (3 : Int32) r22 M22) (fun r23 M23 => some (r23, M23))))) else some ((0 : Int32), M)
set_option maxHeartbeats 4000000 in
set_option maxRecDepth 100000 in
theorem tX9_byThings_111 {G : mG} {p : Program} {l : Launch} {e : Env} {s : State} {m : MethodId} {args : Array Value} {below : List Frame} {meth : Method} {c : Code} (C : Cx G p l s m args meth c RX9 cX9_byThings 5 (some .int) []) (hnm : meth.name = yX9_byThings.name) (N : Nat) (Z : mZ) : ∀ (v0 : Nat) (v1 : Int32) (v2 : Int32) (v4 : Int32) (M : mM) (r : Int32) (M' : mM), fX9_byThings_111 N Z v0 v1 v2 v4 M = some (r, M') → JJ G p l e rmX9_byThings s m args below meth c 5 (mEnd G below args s rmX9_byThings (.inl (some (.int r))) Z M') 0 0 111 [(0, .ref v0), (1, .int v1), (2, .int v2), (4, .int v4)] [] Z M := by
  intro v0 v1 v2 v4 M r M' h
  unfold fX9_byThings_111 at h
  refine j_iload_n C dX9_byThings_111 rfl 1 rfl ?_
  refine j_if_ne C dX9_byThings_112 (tgt := 141) (by decide) (fun hc17 => ?_) (fun hc17 => ?_)
  · rw [if_neg hc17] at h
    refine j_iconst C dX9_byThings_141 (v := (0 : Int32)) (by decide) ?_
    cases h
    exact j_iret C rfl (by decide) (by decide) dX9_byThings_142
  · rw [if_pos hc17] at h
    refine j_iload C dX9_byThings_115 3 rfl ?_
    refine j_if_eq C dX9_byThings_117 (tgt := 141) (by decide) (fun hc18 => ?_) (fun hc18 => ?_)
    · rw [if_pos hc18] at h
      refine j_iconst C dX9_byThings_141 (v := (0 : Int32)) (by decide) ?_
      cases h
      exact j_iret C rfl (by decide) (by decide) dX9_byThings_142
    · rw [if_neg hc18] at h
      refine j_aload_n C dX9_byThings_120 rfl 0 rfl ?_
      refine j_iload_n C dX9_byThings_121 rfl 2 rfl ?_
      obtain ⟨ho19, h⟩ := ck_spec h
      obtain ⟨r20, M20, hq20, h⟩ := bnd2_spec h
      refine j_run1 (c_V C (As := [.int v2]) (rest := []) (ctX9_hinders C.2.2.2.2.2.2.2.2.1 N Z hq20) kcRX9_136 oyX9_hinders (ci := 9) (T := TX9) (N := 23) rfl (by decide) ho19 ⟨by decide, by decide⟩ ⟨by decide, by decide⟩ (Nat.le_of_ble_eq_true rfl) rfl dX9_byThings_122) ?_
      refine j_if_le C dX9_byThings_125 (tgt := 141) (by decide) (fun hc21 => ?_) (fun hc21 => ?_)
      · rw [if_pos hc21] at h
        refine j_iconst C dX9_byThings_141 (v := (0 : Int32)) (by decide) ?_
        cases h
        exact j_iret C rfl (by decide) (by decide) dX9_byThings_142
      · rw [if_neg hc21] at h
        refine j_aload_n C dX9_byThings_128 rfl 0 rfl ?_
        refine j_iconst C dX9_byThings_129 (v := (3 : Int32)) (by decide) ?_
        refine j_aload_n C dX9_byThings_130 rfl 0 rfl ?_
        refine j_iload_n C dX9_byThings_131 rfl 2 rfl ?_
        obtain ⟨r22, M22, hq22, h⟩ := bnd2_spec h
        refine j_run1 (c_V C (As := [.int v2]) (rest := [.int (3 : Int32), .ref v0]) (ctX9_hinders C.2.2.2.2.2.2.2.2.1 N Z hq22) kcRX9_136 oyX9_hinders (ci := 9) (T := TX9) (N := 23) rfl (by decide) ho19 ⟨by decide, by decide⟩ ⟨by decide, by decide⟩ (Nat.le_of_ble_eq_true rfl) rfl dX9_byThings_132) ?_
        obtain ⟨r23, M23, hq23, h⟩ := bnd2_spec h
        refine j_run1 (c_V C (As := [.int (3 : Int32), .int r22]) (rest := []) (ctX9_refuses C.2.2.2.2.2.2.2.2.1 N Z hq23) kcRX9_133 oyX9_refuses (ci := 9) (T := TX9) (N := 23) rfl (by decide) ho19 ⟨by decide, by decide⟩ ⟨by decide, by decide⟩ (Nat.le_of_ble_eq_true rfl) rfl dX9_byThings_135) ?_
        refine j_goto C dX9_byThings_138 (tgt := 142) (by decide) ?_
        cases h
        exact j_iret C rfl (by decide) (by decide) dX9_byThings_142
def fX9_byThings_55 (N : Nat) (Z : mZ) (v0 : Nat) (v1 : Int32) (v2 : Int32) (v3 : Int32) (v4 : Int32) (M : mM) : Option (Int32 × mM) := if v1 = (2 : Int32) then if v4 = 0 then fX9_byThings_111 N Z v0 v1 v2 v4 M else ck (okO Z v0 9) (bnd2 (fX9_has N Z v0 (101 : Int32) v2 v3 M) (fun r25 M25 => if r25 = 0 then bnd2 (fX9_has N Z v0 (101 : Int32) v2 (v3 + (1 : Int32)) M25) (fun r27 M27 => if r27 = 0 then some ((0 : Int32), M27) else bnd2 (fX9_refuses N Z v0 (3 : Int32) (v3 + (1 : Int32)) M27) (fun r29 M29 => some (r29, M29))) else bnd2 (fX9_refuses N Z v0 (3 : Int32) v3 M25) (fun r30 M30 => some (r30, M30)))) else fX9_byThings_111 N Z v0 v1 v2 v4 M
set_option maxHeartbeats 4000000 in
set_option maxRecDepth 100000 in
theorem tX9_byThings_55 {G : mG} {p : Program} {l : Launch} {e : Env} {s : State} {m : MethodId} {args : Array Value} {below : List Frame} {meth : Method} {c : Code} (C : Cx G p l s m args meth c RX9 cX9_byThings 5 (some .int) []) (hnm : meth.name = yX9_byThings.name) (N : Nat) (Z : mZ) : ∀ (v0 : Nat) (v1 : Int32) (v2 : Int32) (v3 : Int32) (v4 : Int32) (M : mM) (r : Int32) (M' : mM), fX9_byThings_55 N Z v0 v1 v2 v3 v4 M = some (r, M') → JJ G p l e rmX9_byThings s m args below meth c 5 (mEnd G below args s rmX9_byThings (.inl (some (.int r))) Z M') 0 0 55 [(0, .ref v0), (1, .int v1), (2, .int v2), (3, .int v3), (4, .int v4)] [] Z M := by
  intro v0 v1 v2 v3 v4 M r M' h
  unfold fX9_byThings_55 at h
  refine j_iload_n C dX9_byThings_55 rfl 1 rfl ?_
  refine j_iconst C dX9_byThings_56 (v := (2 : Int32)) (by decide) ?_
  refine j_icmp_ne C dX9_byThings_57 (tgt := 111) (by decide) (fun hc15 => ?_) (fun hc15 => ?_)
  · rw [if_neg hc15] at h
    refine j_sub (L' := [(0, .ref v0), (1, .int v1), (2, .int v2), (4, .int v4)]) [0, 1, 2, 4] rfl ?_
    exact tX9_byThings_111 C hnm N Z v0 v1 v2 v4 M _ _ h
  · rw [if_pos hc15] at h
    refine j_iload C dX9_byThings_60 4 rfl ?_
    refine j_if_eq C dX9_byThings_62 (tgt := 111) (by decide) (fun hc16 => ?_) (fun hc16 => ?_)
    · rw [if_pos hc16] at h
      refine j_sub (L' := [(0, .ref v0), (1, .int v1), (2, .int v2), (4, .int v4)]) [0, 1, 2, 4] rfl ?_
      exact tX9_byThings_111 C hnm N Z v0 v1 v2 v4 M _ _ h
    · rw [if_neg hc16] at h
      refine j_aload_n C dX9_byThings_65 rfl 0 rfl ?_
      refine j_bipush C dX9_byThings_66 (v := (101 : Int32)) (by decide) ?_
      refine j_iload_n C dX9_byThings_68 rfl 2 rfl ?_
      refine j_iload_n C dX9_byThings_69 rfl 3 rfl ?_
      obtain ⟨ho24, h⟩ := ck_spec h
      obtain ⟨r25, M25, hq25, h⟩ := bnd2_spec h
      refine j_run1 (c_V C (As := [.int (101 : Int32), .int v2, .int v3]) (rest := []) (ctX9_has C.2.2.2.2.2.2.2.2.1 N Z hq25) kcRX9_87 oyX9_has (ci := 9) (T := TX9) (N := 23) rfl (by decide) ho24 ⟨by decide, by decide⟩ ⟨by decide, by decide⟩ (Nat.le_of_ble_eq_true rfl) rfl dX9_byThings_70) ?_
      refine j_if_eq C dX9_byThings_73 (tgt := 85) (by decide) (fun hc26 => ?_) (fun hc26 => ?_)
      · rw [if_pos hc26] at h
        refine j_aload_n C dX9_byThings_85 rfl 0 rfl ?_
        refine j_bipush C dX9_byThings_86 (v := (101 : Int32)) (by decide) ?_
        refine j_iload_n C dX9_byThings_88 rfl 2 rfl ?_
        refine j_iload_n C dX9_byThings_89 rfl 3 rfl ?_
        refine j_iconst C dX9_byThings_90 (v := (1 : Int32)) (by decide) ?_
        refine j_iadd C dX9_byThings_91 ?_
        obtain ⟨r27, M27, hq27, h⟩ := bnd2_spec h
        refine j_run1 (c_V C (As := [.int (101 : Int32), .int v2, .int (v3 + (1 : Int32))]) (rest := []) (ctX9_has C.2.2.2.2.2.2.2.2.1 N Z hq27) kcRX9_87 oyX9_has (ci := 9) (T := TX9) (N := 23) rfl (by decide) ho24 ⟨by decide, by decide⟩ ⟨by decide, by decide⟩ (Nat.le_of_ble_eq_true rfl) rfl dX9_byThings_92) ?_
        refine j_if_eq C dX9_byThings_95 (tgt := 109) (by decide) (fun hc28 => ?_) (fun hc28 => ?_)
        · rw [if_pos hc28] at h
          refine j_iconst C dX9_byThings_109 (v := (0 : Int32)) (by decide) ?_
          cases h
          exact j_iret C rfl (by decide) (by decide) dX9_byThings_110
        · rw [if_neg hc28] at h
          refine j_aload_n C dX9_byThings_98 rfl 0 rfl ?_
          refine j_iconst C dX9_byThings_99 (v := (3 : Int32)) (by decide) ?_
          refine j_iload_n C dX9_byThings_100 rfl 3 rfl ?_
          refine j_iconst C dX9_byThings_101 (v := (1 : Int32)) (by decide) ?_
          refine j_iadd C dX9_byThings_102 ?_
          obtain ⟨r29, M29, hq29, h⟩ := bnd2_spec h
          refine j_run1 (c_V C (As := [.int (3 : Int32), .int (v3 + (1 : Int32))]) (rest := []) (ctX9_refuses C.2.2.2.2.2.2.2.2.1 N Z hq29) kcRX9_133 oyX9_refuses (ci := 9) (T := TX9) (N := 23) rfl (by decide) ho24 ⟨by decide, by decide⟩ ⟨by decide, by decide⟩ (Nat.le_of_ble_eq_true rfl) rfl dX9_byThings_103) ?_
          refine j_goto C dX9_byThings_106 (tgt := 110) (by decide) ?_
          cases h
          exact j_iret C rfl (by decide) (by decide) dX9_byThings_110
      · rw [if_neg hc26] at h
        refine j_aload_n C dX9_byThings_76 rfl 0 rfl ?_
        refine j_iconst C dX9_byThings_77 (v := (3 : Int32)) (by decide) ?_
        refine j_iload_n C dX9_byThings_78 rfl 3 rfl ?_
        obtain ⟨r30, M30, hq30, h⟩ := bnd2_spec h
        refine j_run1 (c_V C (As := [.int (3 : Int32), .int v3]) (rest := []) (ctX9_refuses C.2.2.2.2.2.2.2.2.1 N Z hq30) kcRX9_133 oyX9_refuses (ci := 9) (T := TX9) (N := 23) rfl (by decide) ho24 ⟨by decide, by decide⟩ ⟨by decide, by decide⟩ (Nat.le_of_ble_eq_true rfl) rfl dX9_byThings_79) ?_
        refine j_goto C dX9_byThings_82 (tgt := 110) (by decide) ?_
        cases h
        exact j_iret C rfl (by decide) (by decide) dX9_byThings_110
def fX9_byThings (N : Nat) (Z : mZ) (a0 : Nat) (a1 : Int32) (a2 : Int32) (a3 : Int32) (a4 : Int32) (M : mM) : Option (Int32 × mM) := if a1 = (5 : Int32) then if a4 = 0 then if a3 ≤ (1 : Int32) then ck (okO Z a0 9) (bnd2 (fX9_deckAt N Z a0 a2 a3 M) (fun r5 M5 => if r5 = 0 then bnd2 (fX9_refuses N Z a0 (3 : Int32) a3 M5) (fun r7 M7 => some (r7, M7)) else some ((0 : Int32), M5))) else ck (okO Z a0 9) (bnd2 (fX9_deckAt N Z a0 a2 (a3 - (1 : Int32)) M) (fun r9 M9 => if r9 = 0 then bnd2 (fX9_refuses N Z a0 (3 : Int32) (a3 - (1 : Int32)) M9) (fun r11 M11 => some (r11, M11)) else bnd2 (fX9_deckAt N Z a0 a2 a3 M9) (fun r12 M12 => if r12 = 0 then bnd2 (fX9_refuses N Z a0 (3 : Int32) a3 M12) (fun r14 M14 => some (r14, M14)) else some ((0 : Int32), M12)))) else fX9_byThings_55 N Z a0 a1 a2 a3 a4 M else fX9_byThings_55 N Z a0 a1 a2 a3 a4 M
set_option maxHeartbeats 4000000 in
set_option maxRecDepth 100000 in
theorem ctX9_byThings {G : mG} {l : Launch} (hl : l.stackTraces = false) (N : Nat) (Z : mZ) {a0 : Nat} {a1 : Int32} {a2 : Int32} {a3 : Int32} {a4 : Int32} {M : mM} {r : Int32} {M' : mM} (h : fX9_byThings N Z a0 a1 a2 a3 a4 M = some (r, M')) : CT G l yX9_byThings (.code yX9_byThings cX9_byThings 5 (some .int)) rmX9_byThings [.ref a0, .int a1, .int a2, .int a3, .int a4] Z M (.inl (some (.int r))) Z M' := by
  unfold fX9_byThings at h
  refine CT.of hl (by decide) (Nat.le_of_ble_eq_true rfl) ?_
  intro p e s m args below meth c C hnm
  refine j_sub (L' := [(0, .ref a0), (1, .int a1), (2, .int a2), (3, .int a3), (4, .int a4)]) [0, 1, 2, 3, 4] rfl ?_
  refine j_iload_n C dX9_byThings_0 rfl 1 rfl ?_
  refine j_iconst C dX9_byThings_1 (v := (5 : Int32)) (by decide) ?_
  refine j_icmp_ne C dX9_byThings_2 (tgt := 55) (by decide) (fun hc1 => ?_) (fun hc1 => ?_)
  · rw [if_neg hc1] at h
    refine j_sub (L' := [(0, .ref a0), (1, .int a1), (2, .int a2), (3, .int a3), (4, .int a4)]) [0, 1, 2, 3, 4] rfl ?_
    exact tX9_byThings_55 C hnm N Z a0 a1 a2 a3 a4 M _ _ h
  · rw [if_pos hc1] at h
    refine j_iload C dX9_byThings_5 4 rfl ?_
    refine j_if_ne C dX9_byThings_7 (tgt := 55) (by decide) (fun hc2 => ?_) (fun hc2 => ?_)
    · rw [if_neg hc2] at h
      refine j_sub (L' := [(0, .ref a0), (1, .int a1), (2, .int a2), (3, .int a3), (4, .int a4)]) [0, 1, 2, 3, 4] rfl ?_
      exact tX9_byThings_55 C hnm N Z a0 a1 a2 a3 a4 M _ _ h
    · rw [if_pos hc2] at h
      refine j_iload_n C dX9_byThings_10 rfl 3 rfl ?_
      refine j_iconst C dX9_byThings_11 (v := (1 : Int32)) (by decide) ?_
      refine j_icmp_le C dX9_byThings_12 (tgt := 35) (by decide) (fun hc3 => ?_) (fun hc3 => ?_)
      · rw [if_pos hc3] at h
        refine j_aload_n C dX9_byThings_35 rfl 0 rfl ?_
        refine j_iload_n C dX9_byThings_36 rfl 2 rfl ?_
        refine j_iload_n C dX9_byThings_37 rfl 3 rfl ?_
        obtain ⟨ho4, h⟩ := ck_spec h
        obtain ⟨r5, M5, hq5, h⟩ := bnd2_spec h
        refine j_run1 (c_V C (As := [.int a2, .int a3]) (rest := []) (ctX9_deckAt C.2.2.2.2.2.2.2.2.1 N Z hq5) kcRX9_93 oyX9_deckAt (ci := 9) (T := TX9) (N := 23) rfl (by decide) ho4 ⟨by decide, by decide⟩ ⟨by decide, by decide⟩ (Nat.le_of_ble_eq_true rfl) rfl dX9_byThings_38) ?_
        refine j_if_ne C dX9_byThings_41 (tgt := 53) (by decide) (fun hc6 => ?_) (fun hc6 => ?_)
        · rw [if_neg hc6] at h
          refine j_iconst C dX9_byThings_53 (v := (0 : Int32)) (by decide) ?_
          cases h
          exact j_iret C rfl (by decide) (by decide) dX9_byThings_54
        · rw [if_pos hc6] at h
          refine j_aload_n C dX9_byThings_44 rfl 0 rfl ?_
          refine j_iconst C dX9_byThings_45 (v := (3 : Int32)) (by decide) ?_
          refine j_iload_n C dX9_byThings_46 rfl 3 rfl ?_
          obtain ⟨r7, M7, hq7, h⟩ := bnd2_spec h
          refine j_run1 (c_V C (As := [.int (3 : Int32), .int a3]) (rest := []) (ctX9_refuses C.2.2.2.2.2.2.2.2.1 N Z hq7) kcRX9_133 oyX9_refuses (ci := 9) (T := TX9) (N := 23) rfl (by decide) ho4 ⟨by decide, by decide⟩ ⟨by decide, by decide⟩ (Nat.le_of_ble_eq_true rfl) rfl dX9_byThings_47) ?_
          refine j_goto C dX9_byThings_50 (tgt := 54) (by decide) ?_
          cases h
          exact j_iret C rfl (by decide) (by decide) dX9_byThings_54
      · rw [if_neg hc3] at h
        refine j_aload_n C dX9_byThings_15 rfl 0 rfl ?_
        refine j_iload_n C dX9_byThings_16 rfl 2 rfl ?_
        refine j_iload_n C dX9_byThings_17 rfl 3 rfl ?_
        refine j_iconst C dX9_byThings_18 (v := (1 : Int32)) (by decide) ?_
        refine j_isub C dX9_byThings_19 ?_
        obtain ⟨ho8, h⟩ := ck_spec h
        obtain ⟨r9, M9, hq9, h⟩ := bnd2_spec h
        refine j_run1 (c_V C (As := [.int a2, .int (a3 - (1 : Int32))]) (rest := []) (ctX9_deckAt C.2.2.2.2.2.2.2.2.1 N Z hq9) kcRX9_93 oyX9_deckAt (ci := 9) (T := TX9) (N := 23) rfl (by decide) ho8 ⟨by decide, by decide⟩ ⟨by decide, by decide⟩ (Nat.le_of_ble_eq_true rfl) rfl dX9_byThings_20) ?_
        refine j_if_ne C dX9_byThings_23 (tgt := 35) (by decide) (fun hc10 => ?_) (fun hc10 => ?_)
        · rw [if_neg hc10] at h
          refine j_aload_n C dX9_byThings_35 rfl 0 rfl ?_
          refine j_iload_n C dX9_byThings_36 rfl 2 rfl ?_
          refine j_iload_n C dX9_byThings_37 rfl 3 rfl ?_
          obtain ⟨r12, M12, hq12, h⟩ := bnd2_spec h
          refine j_run1 (c_V C (As := [.int a2, .int a3]) (rest := []) (ctX9_deckAt C.2.2.2.2.2.2.2.2.1 N Z hq12) kcRX9_93 oyX9_deckAt (ci := 9) (T := TX9) (N := 23) rfl (by decide) ho8 ⟨by decide, by decide⟩ ⟨by decide, by decide⟩ (Nat.le_of_ble_eq_true rfl) rfl dX9_byThings_38) ?_
          refine j_if_ne C dX9_byThings_41 (tgt := 53) (by decide) (fun hc13 => ?_) (fun hc13 => ?_)
          · rw [if_neg hc13] at h
            refine j_iconst C dX9_byThings_53 (v := (0 : Int32)) (by decide) ?_
            cases h
            exact j_iret C rfl (by decide) (by decide) dX9_byThings_54
          · rw [if_pos hc13] at h
            refine j_aload_n C dX9_byThings_44 rfl 0 rfl ?_
            refine j_iconst C dX9_byThings_45 (v := (3 : Int32)) (by decide) ?_
            refine j_iload_n C dX9_byThings_46 rfl 3 rfl ?_
            obtain ⟨r14, M14, hq14, h⟩ := bnd2_spec h
            refine j_run1 (c_V C (As := [.int (3 : Int32), .int a3]) (rest := []) (ctX9_refuses C.2.2.2.2.2.2.2.2.1 N Z hq14) kcRX9_133 oyX9_refuses (ci := 9) (T := TX9) (N := 23) rfl (by decide) ho8 ⟨by decide, by decide⟩ ⟨by decide, by decide⟩ (Nat.le_of_ble_eq_true rfl) rfl dX9_byThings_47) ?_
            refine j_goto C dX9_byThings_50 (tgt := 54) (by decide) ?_
            cases h
            exact j_iret C rfl (by decide) (by decide) dX9_byThings_54
        · rw [if_pos hc10] at h
          refine j_aload_n C dX9_byThings_26 rfl 0 rfl ?_
          refine j_iconst C dX9_byThings_27 (v := (3 : Int32)) (by decide) ?_
          refine j_iload_n C dX9_byThings_28 rfl 3 rfl ?_
          refine j_iconst C dX9_byThings_29 (v := (1 : Int32)) (by decide) ?_
          refine j_isub C dX9_byThings_30 ?_
          obtain ⟨r11, M11, hq11, h⟩ := bnd2_spec h
          refine j_run1 (c_V C (As := [.int (3 : Int32), .int (a3 - (1 : Int32))]) (rest := []) (ctX9_refuses C.2.2.2.2.2.2.2.2.1 N Z hq11) kcRX9_133 oyX9_refuses (ci := 9) (T := TX9) (N := 23) rfl (by decide) ho8 ⟨by decide, by decide⟩ ⟨by decide, by decide⟩ (Nat.le_of_ble_eq_true rfl) rfl dX9_byThings_31) ?_
          cases h
          exact j_iret C rfl (by decide) (by decide) dX9_byThings_34
-- ScaffoldPlannerModel hasStand
theorem kcRX9_139 : okV RX9 139 yX9_walks (.code yX9_walks cX9_walks 5 none) = true := by decide +kernel
theorem oyX9_walks : okY yX9_walks 0 := ⟨by decide +kernel, by decide +kernel, by decide +kernel⟩
theorem kcRX9_142 : okV RX9 142 yX9_isReached (.code yX9_isReached cX9_isReached 3 (some .boolean)) = true := by decide +kernel
theorem oyX9_isReached : okY yX9_isReached 2 := ⟨by decide +kernel, by decide +kernel, by decide +kernel⟩
abbrev rmX9_hasStand : Room := { frames := 4, cells := 0, slots := 0, locals := 91 }
theorem dX9_hasStand_0 : decode cX9_hasStand 0 = .ok (.iload_n 3, 1) := by decide +kernel
theorem dX9_hasStand_1 : decode cX9_hasStand 1 = .ok (.iconst 1, 1) := by decide +kernel
theorem dX9_hasStand_2 : decode cX9_hasStand 2 = .ok (.if_icmp .ne 5, 3) := by decide +kernel
theorem dX9_hasStand_5 : decode cX9_hasStand 5 = .ok (.iconst 1, 1) := by decide +kernel
theorem dX9_hasStand_6 : decode cX9_hasStand 6 = .ok (.ireturn, 1) := by decide +kernel
theorem dX9_hasStand_7 : decode cX9_hasStand 7 = .ok (.aload_n 0, 1) := by decide +kernel
theorem dX9_hasStand_8 : decode cX9_hasStand 8 = .ok (.invokevirtual 139, 3) := by decide +kernel
theorem dX9_hasStand_11 : decode cX9_hasStand 11 = .ok (.aload_n 0, 1) := by decide +kernel
theorem dX9_hasStand_12 : decode cX9_hasStand 12 = .ok (.iload_n 2, 1) := by decide +kernel
theorem dX9_hasStand_13 : decode cX9_hasStand 13 = .ok (.iload_n 3, 1) := by decide +kernel
theorem dX9_hasStand_14 : decode cX9_hasStand 14 = .ok (.iconst 1, 1) := by decide +kernel
theorem dX9_hasStand_15 : decode cX9_hasStand 15 = .ok (.isub, 1) := by decide +kernel
theorem dX9_hasStand_16 : decode cX9_hasStand 16 = .ok (.invokevirtual 142, 3) := by decide +kernel
theorem dX9_hasStand_19 : decode cX9_hasStand 19 = .ok (.ifCond .ne 23, 3) := by decide +kernel
theorem dX9_hasStand_22 : decode cX9_hasStand 22 = .ok (.iload_n 1, 1) := by decide +kernel
theorem dX9_hasStand_23 : decode cX9_hasStand 23 = .ok (.iconst 4, 1) := by decide +kernel
theorem dX9_hasStand_24 : decode cX9_hasStand 24 = .ok (.if_icmp .ne 22, 3) := by decide +kernel
theorem dX9_hasStand_27 : decode cX9_hasStand 27 = .ok (.aload_n 0, 1) := by decide +kernel
theorem dX9_hasStand_28 : decode cX9_hasStand 28 = .ok (.aload_n 0, 1) := by decide +kernel
theorem dX9_hasStand_29 : decode cX9_hasStand 29 = .ok (.iload_n 2, 1) := by decide +kernel
theorem dX9_hasStand_30 : decode cX9_hasStand 30 = .ok (.invokevirtual 73, 3) := by decide +kernel
theorem dX9_hasStand_33 : decode cX9_hasStand 33 = .ok (.iload_n 3, 1) := by decide +kernel
theorem dX9_hasStand_34 : decode cX9_hasStand 34 = .ok (.iconst 1, 1) := by decide +kernel
theorem dX9_hasStand_35 : decode cX9_hasStand 35 = .ok (.isub, 1) := by decide +kernel
theorem dX9_hasStand_36 : decode cX9_hasStand 36 = .ok (.invokevirtual 142, 3) := by decide +kernel
theorem dX9_hasStand_39 : decode cX9_hasStand 39 = .ok (.ifCond .eq 7, 3) := by decide +kernel
theorem dX9_hasStand_42 : decode cX9_hasStand 42 = .ok (.iconst 1, 1) := by decide +kernel
theorem dX9_hasStand_43 : decode cX9_hasStand 43 = .ok (.goto 4, 3) := by decide +kernel
theorem dX9_hasStand_46 : decode cX9_hasStand 46 = .ok (.iconst 0, 1) := by decide +kernel
theorem dX9_hasStand_47 : decode cX9_hasStand 47 = .ok (.ireturn, 1) := by decide +kernel
def fX9_hasStand (N : Nat) (Z : mZ) (a0 : Nat) (a1 : Int32) (a2 : Int32) (a3 : Int32) (M : mM) : Option (Int32 × mM) := if a3 = (1 : Int32) then some ((1 : Int32), M) else ck (okO Z a0 9) (bnd2 (fX9_walks N Z a0 M) (fun _ M3 => bnd2 (fX9_isReached N Z a0 a2 (a3 - (1 : Int32)) M3) (fun r4 M4 => if r4 = 0 then if a1 = (4 : Int32) then bnd2 (fX9_left N Z a0 a2 M4) (fun r7 M7 => bnd2 (fX9_isReached N Z a0 r7 (a3 - (1 : Int32)) M7) (fun r8 M8 => if r8 = 0 then some ((0 : Int32), M8) else some ((1 : Int32), M8))) else some ((0 : Int32), M4) else some ((1 : Int32), M4))))
set_option maxHeartbeats 4000000 in
set_option maxRecDepth 100000 in
theorem ctX9_hasStand {G : mG} {l : Launch} (hl : l.stackTraces = false) (N : Nat) (Z : mZ) {a0 : Nat} {a1 : Int32} {a2 : Int32} {a3 : Int32} {M : mM} {r : Int32} {M' : mM} (h : fX9_hasStand N Z a0 a1 a2 a3 M = some (r, M')) : CT G l yX9_hasStand (.code yX9_hasStand cX9_hasStand 4 (some .boolean)) rmX9_hasStand [.ref a0, .int a1, .int a2, .int a3] Z M (.inl (some (.int r))) Z M' := by
  unfold fX9_hasStand at h
  refine CT.of hl (by decide) (Nat.le_of_ble_eq_true rfl) ?_
  intro p e s m args below meth c C hnm
  refine j_sub (L' := [(0, .ref a0), (1, .int a1), (2, .int a2), (3, .int a3)]) [0, 1, 2, 3] rfl ?_
  refine j_iload_n C dX9_hasStand_0 rfl 3 rfl ?_
  refine j_iconst C dX9_hasStand_1 (v := (1 : Int32)) (by decide) ?_
  refine j_icmp_ne C dX9_hasStand_2 (tgt := 7) (by decide) (fun hc1 => ?_) (fun hc1 => ?_)
  · rw [if_neg hc1] at h
    refine j_aload_n C dX9_hasStand_7 rfl 0 rfl ?_
    obtain ⟨ho2, h⟩ := ck_spec h
    obtain ⟨_, M3, hq3, h⟩ := bnd2_spec h
    refine j_run0 (c_V C (As := []) (rest := []) (ctX9_walks C.2.2.2.2.2.2.2.2.1 N Z hq3) kcRX9_139 oyX9_walks (ci := 9) (T := TX9) (N := 23) rfl (by decide) ho2 ⟨by decide, by decide⟩ ⟨by decide, by decide⟩ (Nat.le_of_ble_eq_true rfl) rfl dX9_hasStand_8) ?_
    refine j_aload_n C dX9_hasStand_11 rfl 0 rfl ?_
    refine j_iload_n C dX9_hasStand_12 rfl 2 rfl ?_
    refine j_iload_n C dX9_hasStand_13 rfl 3 rfl ?_
    refine j_iconst C dX9_hasStand_14 (v := (1 : Int32)) (by decide) ?_
    refine j_isub C dX9_hasStand_15 ?_
    obtain ⟨r4, M4, hq4, h⟩ := bnd2_spec h
    refine j_run1 (c_V C (As := [.int a2, .int (a3 - (1 : Int32))]) (rest := []) (ctX9_isReached C.2.2.2.2.2.2.2.2.1 N Z hq4) kcRX9_142 oyX9_isReached (ci := 9) (T := TX9) (N := 23) rfl (by decide) ho2 ⟨by decide, by decide⟩ ⟨by decide, by decide⟩ (Nat.le_of_ble_eq_true rfl) rfl dX9_hasStand_16) ?_
    refine j_if_ne C dX9_hasStand_19 (tgt := 42) (by decide) (fun hc5 => ?_) (fun hc5 => ?_)
    · rw [if_neg hc5] at h
      refine j_iconst C dX9_hasStand_42 (v := (1 : Int32)) (by decide) ?_
      refine j_goto C dX9_hasStand_43 (tgt := 47) (by decide) ?_
      cases h
      exact j_zret C rfl (by decide) (by decide) (by decide) dX9_hasStand_47
    · rw [if_pos hc5] at h
      refine j_iload_n C dX9_hasStand_22 rfl 1 rfl ?_
      refine j_iconst C dX9_hasStand_23 (v := (4 : Int32)) (by decide) ?_
      refine j_icmp_ne C dX9_hasStand_24 (tgt := 46) (by decide) (fun hc6 => ?_) (fun hc6 => ?_)
      · rw [if_neg hc6] at h
        refine j_iconst C dX9_hasStand_46 (v := (0 : Int32)) (by decide) ?_
        cases h
        exact j_zret C rfl (by decide) (by decide) (by decide) dX9_hasStand_47
      · rw [if_pos hc6] at h
        refine j_aload_n C dX9_hasStand_27 rfl 0 rfl ?_
        refine j_aload_n C dX9_hasStand_28 rfl 0 rfl ?_
        refine j_iload_n C dX9_hasStand_29 rfl 2 rfl ?_
        obtain ⟨r7, M7, hq7, h⟩ := bnd2_spec h
        refine j_run1 (c_V C (As := [.int a2]) (rest := [.ref a0]) (ctX9_left C.2.2.2.2.2.2.2.2.1 N Z hq7) kcRX9_73 oyX9_left (ci := 9) (T := TX9) (N := 23) rfl (by decide) ho2 ⟨by decide, by decide⟩ ⟨by decide, by decide⟩ (Nat.le_of_ble_eq_true rfl) rfl dX9_hasStand_30) ?_
        refine j_iload_n C dX9_hasStand_33 rfl 3 rfl ?_
        refine j_iconst C dX9_hasStand_34 (v := (1 : Int32)) (by decide) ?_
        refine j_isub C dX9_hasStand_35 ?_
        obtain ⟨r8, M8, hq8, h⟩ := bnd2_spec h
        refine j_run1 (c_V C (As := [.int r7, .int (a3 - (1 : Int32))]) (rest := []) (ctX9_isReached C.2.2.2.2.2.2.2.2.1 N Z hq8) kcRX9_142 oyX9_isReached (ci := 9) (T := TX9) (N := 23) rfl (by decide) ho2 ⟨by decide, by decide⟩ ⟨by decide, by decide⟩ (Nat.le_of_ble_eq_true rfl) rfl dX9_hasStand_36) ?_
        refine j_if_eq C dX9_hasStand_39 (tgt := 46) (by decide) (fun hc9 => ?_) (fun hc9 => ?_)
        · rw [if_pos hc9] at h
          refine j_iconst C dX9_hasStand_46 (v := (0 : Int32)) (by decide) ?_
          cases h
          exact j_zret C rfl (by decide) (by decide) (by decide) dX9_hasStand_47
        · rw [if_neg hc9] at h
          refine j_iconst C dX9_hasStand_42 (v := (1 : Int32)) (by decide) ?_
          refine j_goto C dX9_hasStand_43 (tgt := 47) (by decide) ?_
          cases h
          exact j_zret C rfl (by decide) (by decide) (by decide) dX9_hasStand_47
  · rw [if_pos hc1] at h
    refine j_iconst C dX9_hasStand_5 (v := (1 : Int32)) (by decide) ?_
    cases h
    exact j_zret C rfl (by decide) (by decide) (by decide) dX9_hasStand_6
-- ScaffoldPlannerModel byYard
abbrev rmX9_byYard : Room := { frames := 2, cells := 0, slots := 0, locals := 42 }
theorem dX9_byYard_0 : decode cX9_byYard 0 = .ok (.iload_n 1, 1) := by decide +kernel
theorem dX9_byYard_1 : decode cX9_byYard 1 = .ok (.ifCond .le 25, 3) := by decide +kernel
theorem dX9_byYard_4 : decode cX9_byYard 4 = .ok (.aload_n 0, 1) := by decide +kernel
theorem dX9_byYard_5 : decode cX9_byYard 5 = .ok (.getfield 7, 3) := by decide +kernel
theorem dX9_byYard_8 : decode cX9_byYard 8 = .ok (.iconst 5, 1) := by decide +kernel
theorem dX9_byYard_9 : decode cX9_byYard 9 = .ok (.iload_n 1, 1) := by decide +kernel
theorem dX9_byYard_10 : decode cX9_byYard 10 = .ok (.iadd, 1) := by decide +kernel
theorem dX9_byYard_11 : decode cX9_byYard 11 = .ok (.iaload, 1) := by decide +kernel
theorem dX9_byYard_12 : decode cX9_byYard 12 = .ok (.ifCond .ne 12, 3) := by decide +kernel
theorem dX9_byYard_15 : decode cX9_byYard 15 = .ok (.aload_n 0, 1) := by decide +kernel
theorem dX9_byYard_16 : decode cX9_byYard 16 = .ok (.iconst 5, 1) := by decide +kernel
theorem dX9_byYard_17 : decode cX9_byYard 17 = .ok (.iload_n 1, 1) := by decide +kernel
theorem dX9_byYard_18 : decode cX9_byYard 18 = .ok (.invokevirtual 133, 3) := by decide +kernel
theorem dX9_byYard_21 : decode cX9_byYard 21 = .ok (.goto 4, 3) := by decide +kernel
theorem dX9_byYard_24 : decode cX9_byYard 24 = .ok (.iconst 0, 1) := by decide +kernel
theorem dX9_byYard_25 : decode cX9_byYard 25 = .ok (.ireturn, 1) := by decide +kernel
theorem dX9_byYard_26 : decode cX9_byYard 26 = .ok (.aload_n 0, 1) := by decide +kernel
theorem dX9_byYard_27 : decode cX9_byYard 27 = .ok (.iload_n 2, 1) := by decide +kernel
theorem dX9_byYard_28 : decode cX9_byYard 28 = .ok (.invokevirtual 69, 3) := by decide +kernel
theorem dX9_byYard_31 : decode cX9_byYard 31 = .ok (.iconst 1, 1) := by decide +kernel
theorem dX9_byYard_32 : decode cX9_byYard 32 = .ok (.iadd, 1) := by decide +kernel
theorem dX9_byYard_33 : decode cX9_byYard 33 = .ok (.istore_n 3, 1) := by decide +kernel
theorem dX9_byYard_34 : decode cX9_byYard 34 = .ok (.iload_n 3, 1) := by decide +kernel
theorem dX9_byYard_35 : decode cX9_byYard 35 = .ok (.aload_n 0, 1) := by decide +kernel
theorem dX9_byYard_36 : decode cX9_byYard 36 = .ok (.iload_n 2, 1) := by decide +kernel
theorem dX9_byYard_37 : decode cX9_byYard 37 = .ok (.invokevirtual 80, 3) := by decide +kernel
theorem dX9_byYard_40 : decode cX9_byYard 40 = .ok (.if_icmp .le 7, 3) := by decide +kernel
theorem dX9_byYard_43 : decode cX9_byYard 43 = .ok (.iconst 1, 1) := by decide +kernel
theorem dX9_byYard_44 : decode cX9_byYard 44 = .ok (.goto 4, 3) := by decide +kernel
theorem dX9_byYard_47 : decode cX9_byYard 47 = .ok (.iconst 0, 1) := by decide +kernel
theorem dX9_byYard_48 : decode cX9_byYard 48 = .ok (.iload_n 3, 1) := by decide +kernel
theorem dX9_byYard_49 : decode cX9_byYard 49 = .ok (.aload_n 0, 1) := by decide +kernel
theorem dX9_byYard_50 : decode cX9_byYard 50 = .ok (.aload_n 0, 1) := by decide +kernel
theorem dX9_byYard_51 : decode cX9_byYard 51 = .ok (.iload_n 2, 1) := by decide +kernel
theorem dX9_byYard_52 : decode cX9_byYard 52 = .ok (.invokevirtual 90, 3) := by decide +kernel
theorem dX9_byYard_55 : decode cX9_byYard 55 = .ok (.invokevirtual 80, 3) := by decide +kernel
theorem dX9_byYard_58 : decode cX9_byYard 58 = .ok (.if_icmp .le 7, 3) := by decide +kernel
theorem dX9_byYard_61 : decode cX9_byYard 61 = .ok (.iconst 1, 1) := by decide +kernel
theorem dX9_byYard_62 : decode cX9_byYard 62 = .ok (.goto 4, 3) := by decide +kernel
theorem dX9_byYard_65 : decode cX9_byYard 65 = .ok (.iconst 0, 1) := by decide +kernel
theorem dX9_byYard_66 : decode cX9_byYard 66 = .ok (.iadd, 1) := by decide +kernel
theorem dX9_byYard_67 : decode cX9_byYard 67 = .ok (.istore 4, 2) := by decide +kernel
theorem dX9_byYard_69 : decode cX9_byYard 69 = .ok (.aload_n 0, 1) := by decide +kernel
theorem dX9_byYard_70 : decode cX9_byYard 70 = .ok (.getfield 7, 3) := by decide +kernel
theorem dX9_byYard_73 : decode cX9_byYard 73 = .ok (.iconst 5, 1) := by decide +kernel
theorem dX9_byYard_74 : decode cX9_byYard 74 = .ok (.iaload, 1) := by decide +kernel
theorem dX9_byYard_75 : decode cX9_byYard 75 = .ok (.iload 4, 2) := by decide +kernel
theorem dX9_byYard_77 : decode cX9_byYard 77 = .ok (.if_icmp .ge 12, 3) := by decide +kernel
theorem dX9_byYard_80 : decode cX9_byYard 80 = .ok (.aload_n 0, 1) := by decide +kernel
theorem dX9_byYard_81 : decode cX9_byYard 81 = .ok (.iconst 5, 1) := by decide +kernel
theorem dX9_byYard_82 : decode cX9_byYard 82 = .ok (.iconst 0, 1) := by decide +kernel
theorem dX9_byYard_83 : decode cX9_byYard 83 = .ok (.invokevirtual 133, 3) := by decide +kernel
theorem dX9_byYard_86 : decode cX9_byYard 86 = .ok (.goto 24, 3) := by decide +kernel
theorem dX9_byYard_89 : decode cX9_byYard 89 = .ok (.aload_n 0, 1) := by decide +kernel
theorem dX9_byYard_90 : decode cX9_byYard 90 = .ok (.getfield 7, 3) := by decide +kernel
theorem dX9_byYard_93 : decode cX9_byYard 93 = .ok (.bipush 6, 2) := by decide +kernel
theorem dX9_byYard_95 : decode cX9_byYard 95 = .ok (.iaload, 1) := by decide +kernel
theorem dX9_byYard_96 : decode cX9_byYard 96 = .ok (.iconst 2, 1) := by decide +kernel
theorem dX9_byYard_97 : decode cX9_byYard 97 = .ok (.if_icmp .ge 12, 3) := by decide +kernel
theorem dX9_byYard_100 : decode cX9_byYard 100 = .ok (.aload_n 0, 1) := by decide +kernel
theorem dX9_byYard_101 : decode cX9_byYard 101 = .ok (.iconst 5, 1) := by decide +kernel
theorem dX9_byYard_102 : decode cX9_byYard 102 = .ok (.iconst 1, 1) := by decide +kernel
theorem dX9_byYard_103 : decode cX9_byYard 103 = .ok (.invokevirtual 133, 3) := by decide +kernel
theorem dX9_byYard_106 : decode cX9_byYard 106 = .ok (.goto 4, 3) := by decide +kernel
theorem dX9_byYard_109 : decode cX9_byYard 109 = .ok (.iconst 0, 1) := by decide +kernel
theorem dX9_byYard_110 : decode cX9_byYard 110 = .ok (.ireturn, 1) := by decide +kernel
def fX9_byYard_66 (N : Nat) (Z : mZ) (v0 : Nat) (x0 : Int32) (x1 : Int32) (M : mM) : Option (Int32 × mM) := ck (okO Z v0 9) (bnd1 (Z.2.2.2 v0 0) (fun c10 => ck (okI Z c10) (ck (inB (5 : Int32) (Z.2.2.1 c10)) (if (x1 + x0) ≤ (M.1 c10 ((5 : Int32)).toNatClampNeg) then ck (inB (6 : Int32) (Z.2.2.1 c10)) (if (2 : Int32) ≤ (M.1 c10 ((6 : Int32)).toNatClampNeg) then some ((0 : Int32), M) else bnd2 (fX9_refuses N Z v0 (5 : Int32) (1 : Int32) M) (fun r16 M16 => some (r16, M16))) else bnd2 (fX9_refuses N Z v0 (5 : Int32) (0 : Int32) M) (fun r17 M17 => some (r17, M17))))))
set_option maxHeartbeats 4000000 in
set_option maxRecDepth 100000 in
theorem tX9_byYard_66 {G : mG} {p : Program} {l : Launch} {e : Env} {s : State} {m : MethodId} {args : Array Value} {below : List Frame} {meth : Method} {c : Code} (C : Cx G p l s m args meth c RX9 cX9_byYard 5 (some .int) []) (hnm : meth.name = yX9_byYard.name) (N : Nat) (Z : mZ) : ∀ (v0 : Nat) (x0 : Int32) (x1 : Int32) (M : mM) (r : Int32) (M' : mM), fX9_byYard_66 N Z v0 x0 x1 M = some (r, M') → JJ G p l e rmX9_byYard s m args below meth c 5 (mEnd G below args s rmX9_byYard (.inl (some (.int r))) Z M') 0 0 66 [(0, .ref v0)] [.int x0, .int x1] Z M := by
  intro v0 x0 x1 M r M' h
  unfold fX9_byYard_66 at h
  refine j_iadd C dX9_byYard_66 ?_
  refine j_istore C dX9_byYard_67 (by decide) (L' := [(4, .int (x1 + x0)), (0, .ref v0)]) rfl ?_
  refine j_aload_n C dX9_byYard_69 rfl 1 rfl ?_
  obtain ⟨ho9, h⟩ := ck_spec h
  obtain ⟨c10, hr10, h⟩ := bnd1_spec h
  refine j_getR C (cn := RX9) (T := TX9) (N := 23) (ci := 9) rfl iX9 ho9 0 (by decide) rfl fwRX9_7 dX9_byYard_70 hr10 ?_
  refine j_iconst C dX9_byYard_73 (v := (5 : Int32)) (by decide) ?_
  obtain ⟨ho11, h⟩ := ck_spec h
  obtain ⟨ho12, h⟩ := ck_spec h
  refine j_iald C ho11 ho12 dX9_byYard_74 ?_
  refine j_iload C dX9_byYard_75 0 rfl ?_
  refine j_icmp_ge C dX9_byYard_77 (tgt := 89) (by decide) (fun hc13 => ?_) (fun hc13 => ?_)
  · rw [if_pos hc13] at h
    refine j_aload_n C dX9_byYard_89 rfl 1 rfl ?_
    refine j_getR C (cn := RX9) (T := TX9) (N := 23) (ci := 9) rfl iX9 ho9 0 (by decide) rfl fwRX9_7 dX9_byYard_90 hr10 ?_
    refine j_bipush C dX9_byYard_93 (v := (6 : Int32)) (by decide) ?_
    obtain ⟨ho14, h⟩ := ck_spec h
    refine j_iald C ho11 ho14 dX9_byYard_95 ?_
    refine j_iconst C dX9_byYard_96 (v := (2 : Int32)) (by decide) ?_
    refine j_icmp_ge C dX9_byYard_97 (tgt := 109) (by decide) (fun hc15 => ?_) (fun hc15 => ?_)
    · rw [if_pos hc15] at h
      refine j_iconst C dX9_byYard_109 (v := (0 : Int32)) (by decide) ?_
      cases h
      exact j_iret C rfl (by decide) (by decide) dX9_byYard_110
    · rw [if_neg hc15] at h
      refine j_aload_n C dX9_byYard_100 rfl 1 rfl ?_
      refine j_iconst C dX9_byYard_101 (v := (5 : Int32)) (by decide) ?_
      refine j_iconst C dX9_byYard_102 (v := (1 : Int32)) (by decide) ?_
      obtain ⟨r16, M16, hq16, h⟩ := bnd2_spec h
      refine j_run1 (c_V C (As := [.int (5 : Int32), .int (1 : Int32)]) (rest := []) (ctX9_refuses C.2.2.2.2.2.2.2.2.1 N Z hq16) kcRX9_133 oyX9_refuses (ci := 9) (T := TX9) (N := 23) rfl (by decide) ho9 ⟨by decide, by decide⟩ ⟨by decide, by decide⟩ (Nat.le_of_ble_eq_true rfl) rfl dX9_byYard_103) ?_
      refine j_goto C dX9_byYard_106 (tgt := 110) (by decide) ?_
      cases h
      exact j_iret C rfl (by decide) (by decide) dX9_byYard_110
  · rw [if_neg hc13] at h
    refine j_aload_n C dX9_byYard_80 rfl 1 rfl ?_
    refine j_iconst C dX9_byYard_81 (v := (5 : Int32)) (by decide) ?_
    refine j_iconst C dX9_byYard_82 (v := (0 : Int32)) (by decide) ?_
    obtain ⟨r17, M17, hq17, h⟩ := bnd2_spec h
    refine j_run1 (c_V C (As := [.int (5 : Int32), .int (0 : Int32)]) (rest := []) (ctX9_refuses C.2.2.2.2.2.2.2.2.1 N Z hq17) kcRX9_133 oyX9_refuses (ci := 9) (T := TX9) (N := 23) rfl (by decide) ho9 ⟨by decide, by decide⟩ ⟨by decide, by decide⟩ (Nat.le_of_ble_eq_true rfl) rfl dX9_byYard_83) ?_
    refine j_goto C dX9_byYard_86 (tgt := 110) (by decide) ?_
    cases h
    exact j_iret C rfl (by decide) (by decide) dX9_byYard_110
def fX9_byYard (N : Nat) (Z : mZ) (a0 : Nat) (a1 : Int32) (a2 : Int32) (M : mM) : Option (Int32 × mM) := if a1 ≤ 0 then ck (okO Z a0 9) (bnd2 (fX9_high N Z a0 a2 M) (fun r3 M3 => bnd2 (fX9_postHigh N Z a0 a2 M3) (fun r4 M4 => if (r3 + (1 : Int32)) ≤ r4 then bnd2 (fX9_right N Z a0 a2 M4) (fun r6 M6 => bnd2 (fX9_postHigh N Z a0 r6 M6) (fun r7 M7 => if (r3 + (1 : Int32)) ≤ r7 then fX9_byYard_66 N Z a0 (0 : Int32) (0 : Int32) M7 else fX9_byYard_66 N Z a0 (1 : Int32) (0 : Int32) M7)) else bnd2 (fX9_right N Z a0 a2 M4) (fun r18 M18 => bnd2 (fX9_postHigh N Z a0 r18 M18) (fun r19 M19 => if (r3 + (1 : Int32)) ≤ r19 then fX9_byYard_66 N Z a0 (0 : Int32) (1 : Int32) M19 else fX9_byYard_66 N Z a0 (1 : Int32) (1 : Int32) M19))))) else ck (okO Z a0 9) (bnd1 (Z.2.2.2 a0 0) (fun c22 => ck (okI Z c22) (ck (inB ((5 : Int32) + a1) (Z.2.2.1 c22)) (if (M.1 c22 (((5 : Int32) + a1)).toNatClampNeg) = 0 then bnd2 (fX9_refuses N Z a0 (5 : Int32) a1 M) (fun r26 M26 => some (r26, M26)) else some ((0 : Int32), M)))))
set_option maxHeartbeats 4000000 in
set_option maxRecDepth 100000 in
theorem ctX9_byYard {G : mG} {l : Launch} (hl : l.stackTraces = false) (N : Nat) (Z : mZ) {a0 : Nat} {a1 : Int32} {a2 : Int32} {M : mM} {r : Int32} {M' : mM} (h : fX9_byYard N Z a0 a1 a2 M = some (r, M')) : CT G l yX9_byYard (.code yX9_byYard cX9_byYard 5 (some .int)) rmX9_byYard [.ref a0, .int a1, .int a2] Z M (.inl (some (.int r))) Z M' := by
  unfold fX9_byYard at h
  refine CT.of hl (by decide) (Nat.le_of_ble_eq_true rfl) ?_
  intro p e s m args below meth c C hnm
  refine j_sub (L' := [(0, .ref a0), (1, .int a1), (2, .int a2)]) [0, 1, 2] rfl ?_
  refine j_iload_n C dX9_byYard_0 rfl 1 rfl ?_
  refine j_if_le C dX9_byYard_1 (tgt := 26) (by decide) (fun hc1 => ?_) (fun hc1 => ?_)
  · rw [if_pos hc1] at h
    refine j_aload_n C dX9_byYard_26 rfl 0 rfl ?_
    refine j_iload_n C dX9_byYard_27 rfl 2 rfl ?_
    obtain ⟨ho2, h⟩ := ck_spec h
    obtain ⟨r3, M3, hq3, h⟩ := bnd2_spec h
    refine j_run1 (c_V C (As := [.int a2]) (rest := []) (ctX9_high C.2.2.2.2.2.2.2.2.1 N Z hq3) kcRX9_69 oyX9_high (ci := 9) (T := TX9) (N := 23) rfl (by decide) ho2 ⟨by decide, by decide⟩ ⟨by decide, by decide⟩ (Nat.le_of_ble_eq_true rfl) rfl dX9_byYard_28) ?_
    refine j_iconst C dX9_byYard_31 (v := (1 : Int32)) (by decide) ?_
    refine j_iadd C dX9_byYard_32 ?_
    refine j_istore_n C dX9_byYard_33 rfl (by decide) (L' := [(3, .int (r3 + (1 : Int32))), (0, .ref a0), (1, .int a1), (2, .int a2)]) rfl ?_
    refine j_iload_n C dX9_byYard_34 rfl 0 rfl ?_
    refine j_aload_n C dX9_byYard_35 rfl 1 rfl ?_
    refine j_iload_n C dX9_byYard_36 rfl 3 rfl ?_
    obtain ⟨r4, M4, hq4, h⟩ := bnd2_spec h
    refine j_run1 (c_V C (As := [.int a2]) (rest := [.int (r3 + (1 : Int32))]) (ctX9_postHigh C.2.2.2.2.2.2.2.2.1 N Z hq4) kcRX9_80 oyX9_postHigh (ci := 9) (T := TX9) (N := 23) rfl (by decide) ho2 ⟨by decide, by decide⟩ ⟨by decide, by decide⟩ (Nat.le_of_ble_eq_true rfl) rfl dX9_byYard_37) ?_
    refine j_icmp_le C dX9_byYard_40 (tgt := 47) (by decide) (fun hc5 => ?_) (fun hc5 => ?_)
    · rw [if_pos hc5] at h
      refine j_iconst C dX9_byYard_47 (v := (0 : Int32)) (by decide) ?_
      refine j_iload_n C dX9_byYard_48 rfl 0 rfl ?_
      refine j_aload_n C dX9_byYard_49 rfl 1 rfl ?_
      refine j_aload_n C dX9_byYard_50 rfl 1 rfl ?_
      refine j_iload_n C dX9_byYard_51 rfl 3 rfl ?_
      obtain ⟨r6, M6, hq6, h⟩ := bnd2_spec h
      refine j_run1 (c_V C (As := [.int a2]) (rest := [.ref a0, .int (r3 + (1 : Int32)), .int (0 : Int32)]) (ctX9_right C.2.2.2.2.2.2.2.2.1 N Z hq6) kcRX9_90 oyX9_right (ci := 9) (T := TX9) (N := 23) rfl (by decide) ho2 ⟨by decide, by decide⟩ ⟨by decide, by decide⟩ (Nat.le_of_ble_eq_true rfl) rfl dX9_byYard_52) ?_
      obtain ⟨r7, M7, hq7, h⟩ := bnd2_spec h
      refine j_run1 (c_V C (As := [.int r6]) (rest := [.int (r3 + (1 : Int32)), .int (0 : Int32)]) (ctX9_postHigh C.2.2.2.2.2.2.2.2.1 N Z hq7) kcRX9_80 oyX9_postHigh (ci := 9) (T := TX9) (N := 23) rfl (by decide) ho2 ⟨by decide, by decide⟩ ⟨by decide, by decide⟩ (Nat.le_of_ble_eq_true rfl) rfl dX9_byYard_55) ?_
      refine j_icmp_le C dX9_byYard_58 (tgt := 65) (by decide) (fun hc8 => ?_) (fun hc8 => ?_)
      · rw [if_pos hc8] at h
        refine j_iconst C dX9_byYard_65 (v := (0 : Int32)) (by decide) ?_
        refine j_sub (L' := [(0, .ref a0)]) [1] rfl ?_
        exact tX9_byYard_66 C hnm N Z a0 (0 : Int32) (0 : Int32) M7 _ _ h
      · rw [if_neg hc8] at h
        refine j_iconst C dX9_byYard_61 (v := (1 : Int32)) (by decide) ?_
        refine j_goto C dX9_byYard_62 (tgt := 66) (by decide) ?_
        refine j_sub (L' := [(0, .ref a0)]) [1] rfl ?_
        exact tX9_byYard_66 C hnm N Z a0 (1 : Int32) (0 : Int32) M7 _ _ h
    · rw [if_neg hc5] at h
      refine j_iconst C dX9_byYard_43 (v := (1 : Int32)) (by decide) ?_
      refine j_goto C dX9_byYard_44 (tgt := 48) (by decide) ?_
      refine j_iload_n C dX9_byYard_48 rfl 0 rfl ?_
      refine j_aload_n C dX9_byYard_49 rfl 1 rfl ?_
      refine j_aload_n C dX9_byYard_50 rfl 1 rfl ?_
      refine j_iload_n C dX9_byYard_51 rfl 3 rfl ?_
      obtain ⟨r18, M18, hq18, h⟩ := bnd2_spec h
      refine j_run1 (c_V C (As := [.int a2]) (rest := [.ref a0, .int (r3 + (1 : Int32)), .int (1 : Int32)]) (ctX9_right C.2.2.2.2.2.2.2.2.1 N Z hq18) kcRX9_90 oyX9_right (ci := 9) (T := TX9) (N := 23) rfl (by decide) ho2 ⟨by decide, by decide⟩ ⟨by decide, by decide⟩ (Nat.le_of_ble_eq_true rfl) rfl dX9_byYard_52) ?_
      obtain ⟨r19, M19, hq19, h⟩ := bnd2_spec h
      refine j_run1 (c_V C (As := [.int r18]) (rest := [.int (r3 + (1 : Int32)), .int (1 : Int32)]) (ctX9_postHigh C.2.2.2.2.2.2.2.2.1 N Z hq19) kcRX9_80 oyX9_postHigh (ci := 9) (T := TX9) (N := 23) rfl (by decide) ho2 ⟨by decide, by decide⟩ ⟨by decide, by decide⟩ (Nat.le_of_ble_eq_true rfl) rfl dX9_byYard_55) ?_
      refine j_icmp_le C dX9_byYard_58 (tgt := 65) (by decide) (fun hc20 => ?_) (fun hc20 => ?_)
      · rw [if_pos hc20] at h
        refine j_iconst C dX9_byYard_65 (v := (0 : Int32)) (by decide) ?_
        refine j_sub (L' := [(0, .ref a0)]) [1] rfl ?_
        exact tX9_byYard_66 C hnm N Z a0 (0 : Int32) (1 : Int32) M19 _ _ h
      · rw [if_neg hc20] at h
        refine j_iconst C dX9_byYard_61 (v := (1 : Int32)) (by decide) ?_
        refine j_goto C dX9_byYard_62 (tgt := 66) (by decide) ?_
        refine j_sub (L' := [(0, .ref a0)]) [1] rfl ?_
        exact tX9_byYard_66 C hnm N Z a0 (1 : Int32) (1 : Int32) M19 _ _ h
  · rw [if_neg hc1] at h
    refine j_aload_n C dX9_byYard_4 rfl 0 rfl ?_
    obtain ⟨ho21, h⟩ := ck_spec h
    obtain ⟨c22, hr22, h⟩ := bnd1_spec h
    refine j_getR C (cn := RX9) (T := TX9) (N := 23) (ci := 9) rfl iX9 ho21 0 (by decide) rfl fwRX9_7 dX9_byYard_5 hr22 ?_
    refine j_iconst C dX9_byYard_8 (v := (5 : Int32)) (by decide) ?_
    refine j_iload_n C dX9_byYard_9 rfl 1 rfl ?_
    refine j_iadd C dX9_byYard_10 ?_
    obtain ⟨ho23, h⟩ := ck_spec h
    obtain ⟨ho24, h⟩ := ck_spec h
    refine j_iald C ho23 ho24 dX9_byYard_11 ?_
    refine j_if_ne C dX9_byYard_12 (tgt := 24) (by decide) (fun hc25 => ?_) (fun hc25 => ?_)
    · rw [if_neg hc25] at h
      refine j_iconst C dX9_byYard_24 (v := (0 : Int32)) (by decide) ?_
      cases h
      exact j_iret C rfl (by decide) (by decide) dX9_byYard_25
    · rw [if_pos hc25] at h
      refine j_aload_n C dX9_byYard_15 rfl 0 rfl ?_
      refine j_iconst C dX9_byYard_16 (v := (5 : Int32)) (by decide) ?_
      refine j_iload_n C dX9_byYard_17 rfl 1 rfl ?_
      obtain ⟨r26, M26, hq26, h⟩ := bnd2_spec h
      refine j_run1 (c_V C (As := [.int (5 : Int32), .int a1]) (rest := []) (ctX9_refuses C.2.2.2.2.2.2.2.2.1 N Z hq26) kcRX9_133 oyX9_refuses (ci := 9) (T := TX9) (N := 23) rfl (by decide) ho21 ⟨by decide, by decide⟩ ⟨by decide, by decide⟩ (Nat.le_of_ble_eq_true rfl) rfl dX9_byYard_18) ?_
      refine j_goto C dX9_byYard_21 (tgt := 25) (by decide) ?_
      cases h
      exact j_iret C rfl (by decide) (by decide) dX9_byYard_25
-- ScaffoldPlannerModel against
theorem kcRX9_148 : okV RX9 148 yX9_byThings (.code yX9_byThings cX9_byThings 5 (some .int)) = true := by decide +kernel
theorem oyX9_byThings : okY yX9_byThings 4 := ⟨by decide +kernel, by decide +kernel, by decide +kernel⟩
theorem kcRX9_152 : okV RX9 152 yX9_hasStand (.code yX9_hasStand cX9_hasStand 4 (some .boolean)) = true := by decide +kernel
theorem oyX9_hasStand : okY yX9_hasStand 3 := ⟨by decide +kernel, by decide +kernel, by decide +kernel⟩
theorem kcRX9_155 : okV RX9 155 yX9_byYard (.code yX9_byYard cX9_byYard 5 (some .int)) = true := by decide +kernel
theorem oyX9_byYard : okY yX9_byYard 2 := ⟨by decide +kernel, by decide +kernel, by decide +kernel⟩
theorem kcRX9_158 : okV RX9 158 yX9_does (.code yX9_does cX9_does 8 none) = true := by decide +kernel
theorem oyX9_does : okY yX9_does 5 := ⟨by decide +kernel, by decide +kernel, by decide +kernel⟩
theorem kcRX9_162 : okV RX9 162 yX9_wrong (.code yX9_wrong cX9_wrong 3 (some .int)) = true := by decide +kernel
theorem oyX9_wrong : okY yX9_wrong 0 := ⟨by decide +kernel, by decide +kernel, by decide +kernel⟩
theorem kcRX9_145 : okV RX9 145 yX9_isThere (.code yX9_isThere cX9_isThere 4 (some .boolean)) = true := by decide +kernel
theorem oyX9_isThere : okY yX9_isThere 3 := ⟨by decide +kernel, by decide +kernel, by decide +kernel⟩
abbrev rmX9_against : Room := { frames := 5, cells := 0, slots := 0, locals := 114 }
theorem dX9_against_0 : decode cX9_against 0 = .ok (.iload_n 1, 1) := by decide +kernel
theorem dX9_against_1 : decode cX9_against 1 = .ok (.iconst 4, 1) := by decide +kernel
theorem dX9_against_2 : decode cX9_against 2 = .ok (.if_icmp .ne 11, 3) := by decide +kernel
theorem dX9_against_5 : decode cX9_against 5 = .ok (.aload_n 0, 1) := by decide +kernel
theorem dX9_against_6 : decode cX9_against 6 = .ok (.iload_n 2, 1) := by decide +kernel
theorem dX9_against_7 : decode cX9_against 7 = .ok (.invokevirtual 80, 3) := by decide +kernel
theorem dX9_against_10 : decode cX9_against 10 = .ok (.goto 8, 3) := by decide +kernel
theorem dX9_against_13 : decode cX9_against 13 = .ok (.aload_n 0, 1) := by decide +kernel
theorem dX9_against_14 : decode cX9_against 14 = .ok (.iload_n 2, 1) := by decide +kernel
theorem dX9_against_15 : decode cX9_against 15 = .ok (.invokevirtual 69, 3) := by decide +kernel
theorem dX9_against_18 : decode cX9_against 18 = .ok (.istore 6, 2) := by decide +kernel
theorem dX9_against_20 : decode cX9_against 20 = .ok (.iload_n 1, 1) := by decide +kernel
theorem dX9_against_21 : decode cX9_against 21 = .ok (.ifCond .le 7, 3) := by decide +kernel
theorem dX9_against_24 : decode cX9_against 24 = .ok (.iload_n 3, 1) := by decide +kernel
theorem dX9_against_25 : decode cX9_against 25 = .ok (.goto 17, 3) := by decide +kernel
theorem dX9_against_28 : decode cX9_against 28 = .ok (.iload 4, 2) := by decide +kernel
theorem dX9_against_30 : decode cX9_against 30 = .ok (.ifCond .eq 8, 3) := by decide +kernel
theorem dX9_against_33 : decode cX9_against 33 = .ok (.iload 6, 2) := by decide +kernel
theorem dX9_against_35 : decode cX9_against 35 = .ok (.goto 7, 3) := by decide +kernel
theorem dX9_against_38 : decode cX9_against 38 = .ok (.iload 6, 2) := by decide +kernel
theorem dX9_against_40 : decode cX9_against 40 = .ok (.iconst 1, 1) := by decide +kernel
theorem dX9_against_41 : decode cX9_against 41 = .ok (.iadd, 1) := by decide +kernel
theorem dX9_against_42 : decode cX9_against 42 = .ok (.istore 7, 2) := by decide +kernel
theorem dX9_against_44 : decode cX9_against 44 = .ok (.iload_n 1, 1) := by decide +kernel
theorem dX9_against_45 : decode cX9_against 45 = .ok (.ifCond .le 17, 3) := by decide +kernel
theorem dX9_against_48 : decode cX9_against 48 = .ok (.iload 7, 2) := by decide +kernel
theorem dX9_against_50 : decode cX9_against 50 = .ok (.iconst 1, 1) := by decide +kernel
theorem dX9_against_51 : decode cX9_against 51 = .ok (.iload 6, 2) := by decide +kernel
theorem dX9_against_53 : decode cX9_against 53 = .ok (.invokestatic 54, 3) := by decide +kernel
theorem dX9_against_56 : decode cX9_against 56 = .ok (.ifCond .ne 34, 3) := by decide +kernel
theorem dX9_against_59 : decode cX9_against 59 = .ok (.goto 23, 3) := by decide +kernel
theorem dX9_against_62 : decode cX9_against 62 = .ok (.iload 4, 2) := by decide +kernel
theorem dX9_against_64 : decode cX9_against 64 = .ok (.ifCond .eq 11, 3) := by decide +kernel
theorem dX9_against_67 : decode cX9_against 67 = .ok (.iload 6, 2) := by decide +kernel
theorem dX9_against_69 : decode cX9_against 69 = .ok (.ifCond .ne 21, 3) := by decide +kernel
theorem dX9_against_72 : decode cX9_against 72 = .ok (.goto 10, 3) := by decide +kernel
theorem dX9_against_75 : decode cX9_against 75 = .ok (.iload 6, 2) := by decide +kernel
theorem dX9_against_77 : decode cX9_against 77 = .ok (.bipush 6, 2) := by decide +kernel
theorem dX9_against_79 : decode cX9_against 79 = .ok (.if_icmp .ne 11, 3) := by decide +kernel
theorem dX9_against_82 : decode cX9_against 82 = .ok (.aload_n 0, 1) := by decide +kernel
theorem dX9_against_83 : decode cX9_against 83 = .ok (.iconst 1, 1) := by decide +kernel
theorem dX9_against_84 : decode cX9_against 84 = .ok (.iload 6, 2) := by decide +kernel
theorem dX9_against_86 : decode cX9_against 86 = .ok (.invokevirtual 133, 3) := by decide +kernel
theorem dX9_against_89 : decode cX9_against 89 = .ok (.ireturn, 1) := by decide +kernel
theorem dX9_against_90 : decode cX9_against 90 = .ok (.iload_n 1, 1) := by decide +kernel
theorem dX9_against_91 : decode cX9_against 91 = .ok (.ifCond .le 24, 3) := by decide +kernel
theorem dX9_against_94 : decode cX9_against 94 = .ok (.aload_n 0, 1) := by decide +kernel
theorem dX9_against_95 : decode cX9_against 95 = .ok (.iload_n 1, 1) := by decide +kernel
theorem dX9_against_96 : decode cX9_against 96 = .ok (.iload_n 2, 1) := by decide +kernel
theorem dX9_against_97 : decode cX9_against 97 = .ok (.iload 7, 2) := by decide +kernel
theorem dX9_against_99 : decode cX9_against 99 = .ok (.invokevirtual 145, 3) := by decide +kernel
theorem dX9_against_102 : decode cX9_against 102 = .ok (.iload 4, 2) := by decide +kernel
theorem dX9_against_104 : decode cX9_against 104 = .ok (.if_icmp .eq 11, 3) := by decide +kernel
theorem dX9_against_107 : decode cX9_against 107 = .ok (.aload_n 0, 1) := by decide +kernel
theorem dX9_against_108 : decode cX9_against 108 = .ok (.iconst 2, 1) := by decide +kernel
theorem dX9_against_109 : decode cX9_against 109 = .ok (.iload 7, 2) := by decide +kernel
theorem dX9_against_111 : decode cX9_against 111 = .ok (.invokevirtual 133, 3) := by decide +kernel
theorem dX9_against_114 : decode cX9_against 114 = .ok (.ireturn, 1) := by decide +kernel
theorem dX9_against_115 : decode cX9_against 115 = .ok (.aload_n 0, 1) := by decide +kernel
theorem dX9_against_116 : decode cX9_against 116 = .ok (.iload_n 1, 1) := by decide +kernel
theorem dX9_against_117 : decode cX9_against 117 = .ok (.iload_n 2, 1) := by decide +kernel
theorem dX9_against_118 : decode cX9_against 118 = .ok (.iload 7, 2) := by decide +kernel
theorem dX9_against_120 : decode cX9_against 120 = .ok (.iload 4, 2) := by decide +kernel
theorem dX9_against_122 : decode cX9_against 122 = .ok (.invokevirtual 148, 3) := by decide +kernel
theorem dX9_against_125 : decode cX9_against 125 = .ok (.istore 8, 2) := by decide +kernel
theorem dX9_against_127 : decode cX9_against 127 = .ok (.iload 8, 2) := by decide +kernel
theorem dX9_against_129 : decode cX9_against 129 = .ok (.ifCond .le 6, 3) := by decide +kernel
theorem dX9_against_132 : decode cX9_against 132 = .ok (.iload 8, 2) := by decide +kernel
theorem dX9_against_134 : decode cX9_against 134 = .ok (.ireturn, 1) := by decide +kernel
theorem dX9_against_135 : decode cX9_against 135 = .ok (.aload_n 0, 1) := by decide +kernel
theorem dX9_against_136 : decode cX9_against 136 = .ok (.iload_n 1, 1) := by decide +kernel
theorem dX9_against_137 : decode cX9_against 137 = .ok (.iload_n 2, 1) := by decide +kernel
theorem dX9_against_138 : decode cX9_against 138 = .ok (.iload 7, 2) := by decide +kernel
theorem dX9_against_140 : decode cX9_against 140 = .ok (.invokevirtual 152, 3) := by decide +kernel
theorem dX9_against_143 : decode cX9_against 143 = .ok (.ifCond .ne 11, 3) := by decide +kernel
theorem dX9_against_146 : decode cX9_against 146 = .ok (.aload_n 0, 1) := by decide +kernel
theorem dX9_against_147 : decode cX9_against 147 = .ok (.iconst 4, 1) := by decide +kernel
theorem dX9_against_148 : decode cX9_against 148 = .ok (.iload 7, 2) := by decide +kernel
theorem dX9_against_150 : decode cX9_against 150 = .ok (.invokevirtual 133, 3) := by decide +kernel
theorem dX9_against_153 : decode cX9_against 153 = .ok (.ireturn, 1) := by decide +kernel
theorem dX9_against_154 : decode cX9_against 154 = .ok (.iload 4, 2) := by decide +kernel
theorem dX9_against_156 : decode cX9_against 156 = .ok (.ifCond .eq 7, 3) := by decide +kernel
theorem dX9_against_159 : decode cX9_against 159 = .ok (.iconst 0, 1) := by decide +kernel
theorem dX9_against_160 : decode cX9_against 160 = .ok (.goto 9, 3) := by decide +kernel
theorem dX9_against_163 : decode cX9_against 163 = .ok (.aload_n 0, 1) := by decide +kernel
theorem dX9_against_164 : decode cX9_against 164 = .ok (.iload_n 1, 1) := by decide +kernel
theorem dX9_against_165 : decode cX9_against 165 = .ok (.iload_n 2, 1) := by decide +kernel
theorem dX9_against_166 : decode cX9_against 166 = .ok (.invokevirtual 155, 3) := by decide +kernel
theorem dX9_against_169 : decode cX9_against 169 = .ok (.istore 8, 2) := by decide +kernel
theorem dX9_against_171 : decode cX9_against 171 = .ok (.iload 8, 2) := by decide +kernel
theorem dX9_against_173 : decode cX9_against 173 = .ok (.ifCond .le 6, 3) := by decide +kernel
theorem dX9_against_176 : decode cX9_against 176 = .ok (.iload 8, 2) := by decide +kernel
theorem dX9_against_178 : decode cX9_against 178 = .ok (.ireturn, 1) := by decide +kernel
theorem dX9_against_179 : decode cX9_against 179 = .ok (.aload_n 0, 1) := by decide +kernel
theorem dX9_against_180 : decode cX9_against 180 = .ok (.getfield 7, 3) := by decide +kernel
theorem dX9_against_183 : decode cX9_against 183 = .ok (.aload_n 0, 1) := by decide +kernel
theorem dX9_against_184 : decode cX9_against 184 = .ok (.getfield 16, 3) := by decide +kernel
theorem dX9_against_187 : decode cX9_against 187 = .ok (.invokestatic 65, 3) := by decide +kernel
theorem dX9_against_190 : decode cX9_against 190 = .ok (.aload_n 0, 1) := by decide +kernel
theorem dX9_against_191 : decode cX9_against 191 = .ok (.iload_n 1, 1) := by decide +kernel
theorem dX9_against_192 : decode cX9_against 192 = .ok (.iload_n 2, 1) := by decide +kernel
theorem dX9_against_193 : decode cX9_against 193 = .ok (.iload 7, 2) := by decide +kernel
theorem dX9_against_195 : decode cX9_against 195 = .ok (.iload 4, 2) := by decide +kernel
theorem dX9_against_197 : decode cX9_against 197 = .ok (.iload 5, 2) := by decide +kernel
theorem dX9_against_199 : decode cX9_against 199 = .ok (.invokevirtual 158, 3) := by decide +kernel
theorem dX9_against_202 : decode cX9_against 202 = .ok (.aload_n 0, 1) := by decide +kernel
theorem dX9_against_203 : decode cX9_against 203 = .ok (.invokevirtual 162, 3) := by decide +kernel
theorem dX9_against_206 : decode cX9_against 206 = .ok (.istore 8, 2) := by decide +kernel
theorem dX9_against_208 : decode cX9_against 208 = .ok (.aload_n 0, 1) := by decide +kernel
theorem dX9_against_209 : decode cX9_against 209 = .ok (.getfield 16, 3) := by decide +kernel
theorem dX9_against_212 : decode cX9_against 212 = .ok (.aload_n 0, 1) := by decide +kernel
theorem dX9_against_213 : decode cX9_against 213 = .ok (.getfield 7, 3) := by decide +kernel
theorem dX9_against_216 : decode cX9_against 216 = .ok (.invokestatic 65, 3) := by decide +kernel
theorem dX9_against_219 : decode cX9_against 219 = .ok (.iload 8, 2) := by decide +kernel
theorem dX9_against_221 : decode cX9_against 221 = .ok (.ifCond .ne 7, 3) := by decide +kernel
theorem dX9_against_224 : decode cX9_against 224 = .ok (.iconst 0, 1) := by decide +kernel
theorem dX9_against_225 : decode cX9_against 225 = .ok (.goto 13, 3) := by decide +kernel
theorem dX9_against_228 : decode cX9_against 228 = .ok (.aload_n 0, 1) := by decide +kernel
theorem dX9_against_229 : decode cX9_against 229 = .ok (.iload 8, 2) := by decide +kernel
theorem dX9_against_231 : decode cX9_against 231 = .ok (.aload_n 0, 1) := by decide +kernel
theorem dX9_against_232 : decode cX9_against 232 = .ok (.getfield 103, 3) := by decide +kernel
theorem dX9_against_235 : decode cX9_against 235 = .ok (.invokevirtual 133, 3) := by decide +kernel
theorem dX9_against_238 : decode cX9_against 238 = .ok (.ireturn, 1) := by decide +kernel
def fX9_against_169 (N : Nat) (Z : mZ) (v0 : Nat) (v1 : Int32) (v2 : Int32) (v4 : Int32) (v5 : Int32) (v7 : Int32) (x0 : Int32) (M : mM) : Option (Int32 × mM) := if x0 ≤ 0 then ck (okO Z v0 9) (bnd1 (Z.2.2.2 v0 0) (fun c22 => bnd1 (Z.2.2.2 v0 2) (fun c23 => bnd2 (fX9_copies N Z c22 c23 M) (fun _ M24 => bnd2 (fX9_does N Z v0 v1 v2 v7 v4 v5 M24) (fun _ M25 => bnd2 (fX9_wrong N Z v0 M25) (fun r26 M26 => bnd2 (fX9_copies N Z c23 c22 M26) (fun _ M27 => if r26 = 0 then some ((0 : Int32), M27) else bnd2 (fX9_refuses N Z v0 r26 (M27.1 v0 10) M27) (fun r29 M29 => some (r29, M29))))))))) else some (x0, M)
set_option maxHeartbeats 4000000 in
set_option maxRecDepth 100000 in
theorem tX9_against_169 {G : mG} {p : Program} {l : Launch} {e : Env} {s : State} {m : MethodId} {args : Array Value} {below : List Frame} {meth : Method} {c : Code} (C : Cx G p l s m args meth c RX9 cX9_against 9 (some .int) []) (hnm : meth.name = yX9_against.name) (N : Nat) (Z : mZ) : ∀ (v0 : Nat) (v1 : Int32) (v2 : Int32) (v4 : Int32) (v5 : Int32) (v7 : Int32) (x0 : Int32) (M : mM) (r : Int32) (M' : mM), fX9_against_169 N Z v0 v1 v2 v4 v5 v7 x0 M = some (r, M') → JJ G p l e rmX9_against s m args below meth c 9 (mEnd G below args s rmX9_against (.inl (some (.int r))) Z M') 0 0 169 [(0, .ref v0), (1, .int v1), (2, .int v2), (4, .int v4), (5, .int v5), (7, .int v7)] [.int x0] Z M := by
  intro v0 v1 v2 v4 v5 v7 x0 M r M' h
  unfold fX9_against_169 at h
  refine j_istore C dX9_against_169 (by decide) (L' := [(8, .int x0), (0, .ref v0), (1, .int v1), (2, .int v2), (4, .int v4), (5, .int v5), (7, .int v7)]) rfl ?_
  refine j_iload C dX9_against_171 0 rfl ?_
  refine j_if_le C dX9_against_173 (tgt := 179) (by decide) (fun hc20 => ?_) (fun hc20 => ?_)
  · rw [if_pos hc20] at h
    refine j_aload_n C dX9_against_179 rfl 1 rfl ?_
    obtain ⟨ho21, h⟩ := ck_spec h
    obtain ⟨c22, hr22, h⟩ := bnd1_spec h
    refine j_getR C (cn := RX9) (T := TX9) (N := 23) (ci := 9) rfl iX9 ho21 0 (by decide) rfl fwRX9_7 dX9_against_180 hr22 ?_
    refine j_aload_n C dX9_against_183 rfl 1 rfl ?_
    obtain ⟨c23, hr23, h⟩ := bnd1_spec h
    refine j_getR C (cn := RX9) (T := TX9) (N := 23) (ci := 9) rfl iX9 ho21 2 (by decide) rfl fwRX9_16 dX9_against_184 hr23 ?_
    obtain ⟨_, M24, hq24, h⟩ := bnd2_spec h
    refine j_run0 (c_S C (As := [.ref c22, .ref c23]) (rest := []) (ctX9_copies C.2.2.2.2.2.2.2.2.1 N Z hq24) kcRX9_65 oyX9_copies ⟨by decide, by decide⟩ ⟨by decide, by decide⟩ (Nat.le_of_ble_eq_true rfl) rfl dX9_against_187) ?_
    refine j_aload_n C dX9_against_190 rfl 1 rfl ?_
    refine j_iload_n C dX9_against_191 rfl 2 rfl ?_
    refine j_iload_n C dX9_against_192 rfl 3 rfl ?_
    refine j_iload C dX9_against_193 6 rfl ?_
    refine j_iload C dX9_against_195 4 rfl ?_
    refine j_iload C dX9_against_197 5 rfl ?_
    obtain ⟨_, M25, hq25, h⟩ := bnd2_spec h
    refine j_run0 (c_V C (As := [.int v1, .int v2, .int v7, .int v4, .int v5]) (rest := []) (ctX9_does C.2.2.2.2.2.2.2.2.1 N Z hq25) kcRX9_158 oyX9_does (ci := 9) (T := TX9) (N := 23) rfl (by decide) ho21 ⟨by decide, by decide⟩ ⟨by decide, by decide⟩ (Nat.le_of_ble_eq_true rfl) rfl dX9_against_199) ?_
    refine j_aload_n C dX9_against_202 rfl 1 rfl ?_
    obtain ⟨r26, M26, hq26, h⟩ := bnd2_spec h
    refine j_run1 (c_V C (As := []) (rest := []) (ctX9_wrong C.2.2.2.2.2.2.2.2.1 N Z hq26) kcRX9_162 oyX9_wrong (ci := 9) (T := TX9) (N := 23) rfl (by decide) ho21 ⟨by decide, by decide⟩ ⟨by decide, by decide⟩ (Nat.le_of_ble_eq_true rfl) rfl dX9_against_203) ?_
    refine j_istore C dX9_against_206 (by decide) (L' := [(8, .int r26), (0, .ref v0), (1, .int v1), (2, .int v2), (4, .int v4), (5, .int v5), (7, .int v7)]) rfl ?_
    refine j_aload_n C dX9_against_208 rfl 1 rfl ?_
    refine j_getR C (cn := RX9) (T := TX9) (N := 23) (ci := 9) rfl iX9 ho21 2 (by decide) rfl fwRX9_16 dX9_against_209 hr23 ?_
    refine j_aload_n C dX9_against_212 rfl 1 rfl ?_
    refine j_getR C (cn := RX9) (T := TX9) (N := 23) (ci := 9) rfl iX9 ho21 0 (by decide) rfl fwRX9_7 dX9_against_213 hr22 ?_
    obtain ⟨_, M27, hq27, h⟩ := bnd2_spec h
    refine j_run0 (c_S C (As := [.ref c23, .ref c22]) (rest := []) (ctX9_copies C.2.2.2.2.2.2.2.2.1 N Z hq27) kcRX9_65 oyX9_copies ⟨by decide, by decide⟩ ⟨by decide, by decide⟩ (Nat.le_of_ble_eq_true rfl) rfl dX9_against_216) ?_
    refine j_iload C dX9_against_219 0 rfl ?_
    refine j_if_ne C dX9_against_221 (tgt := 228) (by decide) (fun hc28 => ?_) (fun hc28 => ?_)
    · rw [if_neg hc28] at h
      refine j_aload_n C dX9_against_228 rfl 1 rfl ?_
      refine j_iload C dX9_against_229 0 rfl ?_
      refine j_aload_n C dX9_against_231 rfl 1 rfl ?_
      refine j_getI C (cn := RX9) (T := TX9) (N := 23) (ci := 9) rfl iX9 ho21 10 (by decide) rfl fwRX9_103 dX9_against_232 ?_
      obtain ⟨r29, M29, hq29, h⟩ := bnd2_spec h
      refine j_run1 (c_V C (As := [.int r26, .int (M27.1 v0 10)]) (rest := []) (ctX9_refuses C.2.2.2.2.2.2.2.2.1 N Z hq29) kcRX9_133 oyX9_refuses (ci := 9) (T := TX9) (N := 23) rfl (by decide) ho21 ⟨by decide, by decide⟩ ⟨by decide, by decide⟩ (Nat.le_of_ble_eq_true rfl) rfl dX9_against_235) ?_
      cases h
      exact j_iret C rfl (by decide) (by decide) dX9_against_238
    · rw [if_pos hc28] at h
      refine j_iconst C dX9_against_224 (v := (0 : Int32)) (by decide) ?_
      refine j_goto C dX9_against_225 (tgt := 238) (by decide) ?_
      cases h
      exact j_iret C rfl (by decide) (by decide) dX9_against_238
  · rw [if_neg hc20] at h
    refine j_iload C dX9_against_176 0 rfl ?_
    cases h
    exact j_iret C rfl (by decide) (by decide) dX9_against_178
def fX9_against_115 (N : Nat) (Z : mZ) (v0 : Nat) (v1 : Int32) (v2 : Int32) (v4 : Int32) (v5 : Int32) (v7 : Int32) (M : mM) : Option (Int32 × mM) := ck (okO Z v0 9) (bnd2 (fX9_byThings N Z v0 v1 v2 v7 v4 M) (fun r13 M13 => if r13 ≤ 0 then bnd2 (fX9_hasStand N Z v0 v1 v2 v7 M13) (fun r15 M15 => if r15 = 0 then bnd2 (fX9_refuses N Z v0 (4 : Int32) v7 M15) (fun r17 M17 => some (r17, M17)) else if v4 = 0 then bnd2 (fX9_byYard N Z v0 v1 v2 M15) (fun r19 M19 => fX9_against_169 N Z v0 v1 v2 v4 v5 v7 r19 M19) else fX9_against_169 N Z v0 v1 v2 v4 v5 v7 (0 : Int32) M15) else some (r13, M13)))
set_option maxHeartbeats 4000000 in
set_option maxRecDepth 100000 in
theorem tX9_against_115 {G : mG} {p : Program} {l : Launch} {e : Env} {s : State} {m : MethodId} {args : Array Value} {below : List Frame} {meth : Method} {c : Code} (C : Cx G p l s m args meth c RX9 cX9_against 9 (some .int) []) (hnm : meth.name = yX9_against.name) (N : Nat) (Z : mZ) : ∀ (v0 : Nat) (v1 : Int32) (v2 : Int32) (v4 : Int32) (v5 : Int32) (v7 : Int32) (M : mM) (r : Int32) (M' : mM), fX9_against_115 N Z v0 v1 v2 v4 v5 v7 M = some (r, M') → JJ G p l e rmX9_against s m args below meth c 9 (mEnd G below args s rmX9_against (.inl (some (.int r))) Z M') 0 0 115 [(0, .ref v0), (1, .int v1), (2, .int v2), (4, .int v4), (5, .int v5), (7, .int v7)] [] Z M := by
  intro v0 v1 v2 v4 v5 v7 M r M' h
  unfold fX9_against_115 at h
  refine j_aload_n C dX9_against_115 rfl 0 rfl ?_
  refine j_iload_n C dX9_against_116 rfl 1 rfl ?_
  refine j_iload_n C dX9_against_117 rfl 2 rfl ?_
  refine j_iload C dX9_against_118 5 rfl ?_
  refine j_iload C dX9_against_120 3 rfl ?_
  obtain ⟨ho12, h⟩ := ck_spec h
  obtain ⟨r13, M13, hq13, h⟩ := bnd2_spec h
  refine j_run1 (c_V C (As := [.int v1, .int v2, .int v7, .int v4]) (rest := []) (ctX9_byThings C.2.2.2.2.2.2.2.2.1 N Z hq13) kcRX9_148 oyX9_byThings (ci := 9) (T := TX9) (N := 23) rfl (by decide) ho12 ⟨by decide, by decide⟩ ⟨by decide, by decide⟩ (Nat.le_of_ble_eq_true rfl) rfl dX9_against_122) ?_
  refine j_istore C dX9_against_125 (by decide) (L' := [(8, .int r13), (0, .ref v0), (1, .int v1), (2, .int v2), (4, .int v4), (5, .int v5), (7, .int v7)]) rfl ?_
  refine j_iload C dX9_against_127 0 rfl ?_
  refine j_if_le C dX9_against_129 (tgt := 135) (by decide) (fun hc14 => ?_) (fun hc14 => ?_)
  · rw [if_pos hc14] at h
    refine j_aload_n C dX9_against_135 rfl 1 rfl ?_
    refine j_iload_n C dX9_against_136 rfl 2 rfl ?_
    refine j_iload_n C dX9_against_137 rfl 3 rfl ?_
    refine j_iload C dX9_against_138 6 rfl ?_
    obtain ⟨r15, M15, hq15, h⟩ := bnd2_spec h
    refine j_run1 (c_V C (As := [.int v1, .int v2, .int v7]) (rest := []) (ctX9_hasStand C.2.2.2.2.2.2.2.2.1 N Z hq15) kcRX9_152 oyX9_hasStand (ci := 9) (T := TX9) (N := 23) rfl (by decide) ho12 ⟨by decide, by decide⟩ ⟨by decide, by decide⟩ (Nat.le_of_ble_eq_true rfl) rfl dX9_against_140) ?_
    refine j_if_ne C dX9_against_143 (tgt := 154) (by decide) (fun hc16 => ?_) (fun hc16 => ?_)
    · rw [if_neg hc16] at h
      refine j_iload C dX9_against_154 4 rfl ?_
      refine j_if_eq C dX9_against_156 (tgt := 163) (by decide) (fun hc18 => ?_) (fun hc18 => ?_)
      · rw [if_pos hc18] at h
        refine j_aload_n C dX9_against_163 rfl 1 rfl ?_
        refine j_iload_n C dX9_against_164 rfl 2 rfl ?_
        refine j_iload_n C dX9_against_165 rfl 3 rfl ?_
        obtain ⟨r19, M19, hq19, h⟩ := bnd2_spec h
        refine j_run1 (c_V C (As := [.int v1, .int v2]) (rest := []) (ctX9_byYard C.2.2.2.2.2.2.2.2.1 N Z hq19) kcRX9_155 oyX9_byYard (ci := 9) (T := TX9) (N := 23) rfl (by decide) ho12 ⟨by decide, by decide⟩ ⟨by decide, by decide⟩ (Nat.le_of_ble_eq_true rfl) rfl dX9_against_166) ?_
        refine j_sub (L' := [(0, .ref v0), (1, .int v1), (2, .int v2), (4, .int v4), (5, .int v5), (7, .int v7)]) [1, 2, 3, 4, 5, 6] rfl ?_
        exact tX9_against_169 C hnm N Z v0 v1 v2 v4 v5 v7 r19 M19 _ _ h
      · rw [if_neg hc18] at h
        refine j_iconst C dX9_against_159 (v := (0 : Int32)) (by decide) ?_
        refine j_goto C dX9_against_160 (tgt := 169) (by decide) ?_
        refine j_sub (L' := [(0, .ref v0), (1, .int v1), (2, .int v2), (4, .int v4), (5, .int v5), (7, .int v7)]) [1, 2, 3, 4, 5, 6] rfl ?_
        exact tX9_against_169 C hnm N Z v0 v1 v2 v4 v5 v7 (0 : Int32) M15 _ _ h
    · rw [if_pos hc16] at h
      refine j_aload_n C dX9_against_146 rfl 1 rfl ?_
      refine j_iconst C dX9_against_147 (v := (4 : Int32)) (by decide) ?_
      refine j_iload C dX9_against_148 6 rfl ?_
      obtain ⟨r17, M17, hq17, h⟩ := bnd2_spec h
      refine j_run1 (c_V C (As := [.int (4 : Int32), .int v7]) (rest := []) (ctX9_refuses C.2.2.2.2.2.2.2.2.1 N Z hq17) kcRX9_133 oyX9_refuses (ci := 9) (T := TX9) (N := 23) rfl (by decide) ho12 ⟨by decide, by decide⟩ ⟨by decide, by decide⟩ (Nat.le_of_ble_eq_true rfl) rfl dX9_against_150) ?_
      cases h
      exact j_iret C rfl (by decide) (by decide) dX9_against_153
  · rw [if_neg hc14] at h
    refine j_iload C dX9_against_132 0 rfl ?_
    cases h
    exact j_iret C rfl (by decide) (by decide) dX9_against_134
def fX9_against_90 (N : Nat) (Z : mZ) (v0 : Nat) (v1 : Int32) (v2 : Int32) (v4 : Int32) (v5 : Int32) (v7 : Int32) (M : mM) : Option (Int32 × mM) := if v1 ≤ 0 then fX9_against_115 N Z v0 v1 v2 v4 v5 v7 M else ck (okO Z v0 9) (bnd2 (fX9_isThere N Z v0 v1 v2 v7 M) (fun r31 M31 => if r31 = v4 then fX9_against_115 N Z v0 v1 v2 v4 v5 v7 M31 else bnd2 (fX9_refuses N Z v0 (2 : Int32) v7 M31) (fun r33 M33 => some (r33, M33))))
set_option maxHeartbeats 4000000 in
set_option maxRecDepth 100000 in
theorem tX9_against_90 {G : mG} {p : Program} {l : Launch} {e : Env} {s : State} {m : MethodId} {args : Array Value} {below : List Frame} {meth : Method} {c : Code} (C : Cx G p l s m args meth c RX9 cX9_against 9 (some .int) []) (hnm : meth.name = yX9_against.name) (N : Nat) (Z : mZ) : ∀ (v0 : Nat) (v1 : Int32) (v2 : Int32) (v4 : Int32) (v5 : Int32) (v7 : Int32) (M : mM) (r : Int32) (M' : mM), fX9_against_90 N Z v0 v1 v2 v4 v5 v7 M = some (r, M') → JJ G p l e rmX9_against s m args below meth c 9 (mEnd G below args s rmX9_against (.inl (some (.int r))) Z M') 0 0 90 [(0, .ref v0), (1, .int v1), (2, .int v2), (4, .int v4), (5, .int v5), (7, .int v7)] [] Z M := by
  intro v0 v1 v2 v4 v5 v7 M r M' h
  unfold fX9_against_90 at h
  refine j_iload_n C dX9_against_90 rfl 1 rfl ?_
  refine j_if_le C dX9_against_91 (tgt := 115) (by decide) (fun hc11 => ?_) (fun hc11 => ?_)
  · rw [if_pos hc11] at h
    refine j_sub (L' := [(0, .ref v0), (1, .int v1), (2, .int v2), (4, .int v4), (5, .int v5), (7, .int v7)]) [0, 1, 2, 3, 4, 5] rfl ?_
    exact tX9_against_115 C hnm N Z v0 v1 v2 v4 v5 v7 M _ _ h
  · rw [if_neg hc11] at h
    refine j_aload_n C dX9_against_94 rfl 0 rfl ?_
    refine j_iload_n C dX9_against_95 rfl 1 rfl ?_
    refine j_iload_n C dX9_against_96 rfl 2 rfl ?_
    refine j_iload C dX9_against_97 5 rfl ?_
    obtain ⟨ho30, h⟩ := ck_spec h
    obtain ⟨r31, M31, hq31, h⟩ := bnd2_spec h
    refine j_run1 (c_V C (As := [.int v1, .int v2, .int v7]) (rest := []) (ctX9_isThere C.2.2.2.2.2.2.2.2.1 N Z hq31) kcRX9_145 oyX9_isThere (ci := 9) (T := TX9) (N := 23) rfl (by decide) ho30 ⟨by decide, by decide⟩ ⟨by decide, by decide⟩ (Nat.le_of_ble_eq_true rfl) rfl dX9_against_99) ?_
    refine j_iload C dX9_against_102 3 rfl ?_
    refine j_icmp_eq C dX9_against_104 (tgt := 115) (by decide) (fun hc32 => ?_) (fun hc32 => ?_)
    · rw [if_pos hc32] at h
      refine j_sub (L' := [(0, .ref v0), (1, .int v1), (2, .int v2), (4, .int v4), (5, .int v5), (7, .int v7)]) [0, 1, 2, 3, 4, 5] rfl ?_
      exact tX9_against_115 C hnm N Z v0 v1 v2 v4 v5 v7 M31 _ _ h
    · rw [if_neg hc32] at h
      refine j_aload_n C dX9_against_107 rfl 0 rfl ?_
      refine j_iconst C dX9_against_108 (v := (2 : Int32)) (by decide) ?_
      refine j_iload C dX9_against_109 5 rfl ?_
      obtain ⟨r33, M33, hq33, h⟩ := bnd2_spec h
      refine j_run1 (c_V C (As := [.int (2 : Int32), .int v7]) (rest := []) (ctX9_refuses C.2.2.2.2.2.2.2.2.1 N Z hq33) kcRX9_133 oyX9_refuses (ci := 9) (T := TX9) (N := 23) rfl (by decide) ho30 ⟨by decide, by decide⟩ ⟨by decide, by decide⟩ (Nat.le_of_ble_eq_true rfl) rfl dX9_against_111) ?_
      cases h
      exact j_iret C rfl (by decide) (by decide) dX9_against_114
def fX9_against_42 (N : Nat) (Z : mZ) (v0 : Nat) (v1 : Int32) (v2 : Int32) (v4 : Int32) (v5 : Int32) (v6 : Int32) (x0 : Int32) (M : mM) : Option (Int32 × mM) := if v1 ≤ 0 then if v4 = 0 then if v6 = (6 : Int32) then ck (okO Z v0 9) (bnd2 (fX9_refuses N Z v0 (1 : Int32) v6 M) (fun r10 M10 => some (r10, M10))) else fX9_against_90 N Z v0 v1 v2 v4 v5 x0 M else if v6 = 0 then ck (okO Z v0 9) (bnd2 (fX9_refuses N Z v0 (1 : Int32) v6 M) (fun r36 M36 => some (r36, M36))) else fX9_against_90 N Z v0 v1 v2 v4 v5 x0 M else bnd2 (fX9_in N Z x0 (1 : Int32) v6 M) (fun r37 M37 => if r37 = 0 then ck (okO Z v0 9) (bnd2 (fX9_refuses N Z v0 (1 : Int32) v6 M37) (fun r40 M40 => some (r40, M40))) else fX9_against_90 N Z v0 v1 v2 v4 v5 x0 M37)
set_option maxHeartbeats 4000000 in
set_option maxRecDepth 100000 in
theorem tX9_against_42 {G : mG} {p : Program} {l : Launch} {e : Env} {s : State} {m : MethodId} {args : Array Value} {below : List Frame} {meth : Method} {c : Code} (C : Cx G p l s m args meth c RX9 cX9_against 9 (some .int) []) (hnm : meth.name = yX9_against.name) (N : Nat) (Z : mZ) : ∀ (v0 : Nat) (v1 : Int32) (v2 : Int32) (v4 : Int32) (v5 : Int32) (v6 : Int32) (x0 : Int32) (M : mM) (r : Int32) (M' : mM), fX9_against_42 N Z v0 v1 v2 v4 v5 v6 x0 M = some (r, M') → JJ G p l e rmX9_against s m args below meth c 9 (mEnd G below args s rmX9_against (.inl (some (.int r))) Z M') 0 0 42 [(0, .ref v0), (1, .int v1), (2, .int v2), (4, .int v4), (5, .int v5), (6, .int v6)] [.int x0] Z M := by
  intro v0 v1 v2 v4 v5 v6 x0 M r M' h
  unfold fX9_against_42 at h
  refine j_istore C dX9_against_42 (by decide) (L' := [(7, .int x0), (0, .ref v0), (1, .int v1), (2, .int v2), (4, .int v4), (5, .int v5), (6, .int v6)]) rfl ?_
  refine j_iload_n C dX9_against_44 rfl 2 rfl ?_
  refine j_if_le C dX9_against_45 (tgt := 62) (by decide) (fun hc6 => ?_) (fun hc6 => ?_)
  · rw [if_pos hc6] at h
    refine j_iload C dX9_against_62 4 rfl ?_
    refine j_if_eq C dX9_against_64 (tgt := 75) (by decide) (fun hc7 => ?_) (fun hc7 => ?_)
    · rw [if_pos hc7] at h
      refine j_iload C dX9_against_75 6 rfl ?_
      refine j_bipush C dX9_against_77 (v := (6 : Int32)) (by decide) ?_
      refine j_icmp_ne C dX9_against_79 (tgt := 90) (by decide) (fun hc8 => ?_) (fun hc8 => ?_)
      · rw [if_neg hc8] at h
        refine j_sub (L' := [(0, .ref v0), (1, .int v1), (2, .int v2), (4, .int v4), (5, .int v5), (7, .int x0)]) [1, 2, 3, 4, 5, 0] rfl ?_
        exact tX9_against_90 C hnm N Z v0 v1 v2 v4 v5 x0 M _ _ h
      · rw [if_pos hc8] at h
        refine j_aload_n C dX9_against_82 rfl 1 rfl ?_
        refine j_iconst C dX9_against_83 (v := (1 : Int32)) (by decide) ?_
        refine j_iload C dX9_against_84 6 rfl ?_
        obtain ⟨ho9, h⟩ := ck_spec h
        obtain ⟨r10, M10, hq10, h⟩ := bnd2_spec h
        refine j_run1 (c_V C (As := [.int (1 : Int32), .int v6]) (rest := []) (ctX9_refuses C.2.2.2.2.2.2.2.2.1 N Z hq10) kcRX9_133 oyX9_refuses (ci := 9) (T := TX9) (N := 23) rfl (by decide) ho9 ⟨by decide, by decide⟩ ⟨by decide, by decide⟩ (Nat.le_of_ble_eq_true rfl) rfl dX9_against_86) ?_
        cases h
        exact j_iret C rfl (by decide) (by decide) dX9_against_89
    · rw [if_neg hc7] at h
      refine j_iload C dX9_against_67 6 rfl ?_
      refine j_if_ne C dX9_against_69 (tgt := 90) (by decide) (fun hc34 => ?_) (fun hc34 => ?_)
      · rw [if_neg hc34] at h
        refine j_sub (L' := [(0, .ref v0), (1, .int v1), (2, .int v2), (4, .int v4), (5, .int v5), (7, .int x0)]) [1, 2, 3, 4, 5, 0] rfl ?_
        exact tX9_against_90 C hnm N Z v0 v1 v2 v4 v5 x0 M _ _ h
      · rw [if_pos hc34] at h
        refine j_goto C dX9_against_72 (tgt := 82) (by decide) ?_
        refine j_aload_n C dX9_against_82 rfl 1 rfl ?_
        refine j_iconst C dX9_against_83 (v := (1 : Int32)) (by decide) ?_
        refine j_iload C dX9_against_84 6 rfl ?_
        obtain ⟨ho35, h⟩ := ck_spec h
        obtain ⟨r36, M36, hq36, h⟩ := bnd2_spec h
        refine j_run1 (c_V C (As := [.int (1 : Int32), .int v6]) (rest := []) (ctX9_refuses C.2.2.2.2.2.2.2.2.1 N Z hq36) kcRX9_133 oyX9_refuses (ci := 9) (T := TX9) (N := 23) rfl (by decide) ho35 ⟨by decide, by decide⟩ ⟨by decide, by decide⟩ (Nat.le_of_ble_eq_true rfl) rfl dX9_against_86) ?_
        cases h
        exact j_iret C rfl (by decide) (by decide) dX9_against_89
  · rw [if_neg hc6] at h
    refine j_iload C dX9_against_48 0 rfl ?_
    refine j_iconst C dX9_against_50 (v := (1 : Int32)) (by decide) ?_
    refine j_iload C dX9_against_51 6 rfl ?_
    obtain ⟨r37, M37, hq37, h⟩ := bnd2_spec h
    refine j_run1 (c_S C (As := [.int x0, .int (1 : Int32), .int v6]) (rest := []) (ctX9_in C.2.2.2.2.2.2.2.2.1 N Z hq37) kcRX9_54 oyX9_in ⟨by decide, by decide⟩ ⟨by decide, by decide⟩ (Nat.le_of_ble_eq_true rfl) rfl dX9_against_53) ?_
    refine j_if_ne C dX9_against_56 (tgt := 90) (by decide) (fun hc38 => ?_) (fun hc38 => ?_)
    · rw [if_neg hc38] at h
      refine j_sub (L' := [(0, .ref v0), (1, .int v1), (2, .int v2), (4, .int v4), (5, .int v5), (7, .int x0)]) [1, 2, 3, 4, 5, 0] rfl ?_
      exact tX9_against_90 C hnm N Z v0 v1 v2 v4 v5 x0 M37 _ _ h
    · rw [if_pos hc38] at h
      refine j_goto C dX9_against_59 (tgt := 82) (by decide) ?_
      refine j_aload_n C dX9_against_82 rfl 1 rfl ?_
      refine j_iconst C dX9_against_83 (v := (1 : Int32)) (by decide) ?_
      refine j_iload C dX9_against_84 6 rfl ?_
      obtain ⟨ho39, h⟩ := ck_spec h
      obtain ⟨r40, M40, hq40, h⟩ := bnd2_spec h
      refine j_run1 (c_V C (As := [.int (1 : Int32), .int v6]) (rest := []) (ctX9_refuses C.2.2.2.2.2.2.2.2.1 N Z hq40) kcRX9_133 oyX9_refuses (ci := 9) (T := TX9) (N := 23) rfl (by decide) ho39 ⟨by decide, by decide⟩ ⟨by decide, by decide⟩ (Nat.le_of_ble_eq_true rfl) rfl dX9_against_86) ?_
      cases h
      exact j_iret C rfl (by decide) (by decide) dX9_against_89
def fX9_against (N : Nat) (Z : mZ) (a0 : Nat) (a1 : Int32) (a2 : Int32) (a3 : Int32) (a4 : Int32) (a5 : Int32) (M : mM) : Option (Int32 × mM) := if a1 = (4 : Int32) then ck (okO Z a0 9) (bnd2 (fX9_postHigh N Z a0 a2 M) (fun r3 M3 => if a1 ≤ 0 then if a4 = 0 then fX9_against_42 N Z a0 a1 a2 a4 a5 r3 (r3 + (1 : Int32)) M3 else fX9_against_42 N Z a0 a1 a2 a4 a5 r3 r3 M3 else fX9_against_42 N Z a0 a1 a2 a4 a5 r3 a3 M3)) else ck (okO Z a0 9) (bnd2 (fX9_high N Z a0 a2 M) (fun r42 M42 => if a1 ≤ 0 then if a4 = 0 then fX9_against_42 N Z a0 a1 a2 a4 a5 r42 (r42 + (1 : Int32)) M42 else fX9_against_42 N Z a0 a1 a2 a4 a5 r42 r42 M42 else fX9_against_42 N Z a0 a1 a2 a4 a5 r42 a3 M42))
set_option maxHeartbeats 4000000 in
set_option maxRecDepth 100000 in
theorem ctX9_against {G : mG} {l : Launch} (hl : l.stackTraces = false) (N : Nat) (Z : mZ) {a0 : Nat} {a1 : Int32} {a2 : Int32} {a3 : Int32} {a4 : Int32} {a5 : Int32} {M : mM} {r : Int32} {M' : mM} (h : fX9_against N Z a0 a1 a2 a3 a4 a5 M = some (r, M')) : CT G l yX9_against (.code yX9_against cX9_against 9 (some .int)) rmX9_against [.ref a0, .int a1, .int a2, .int a3, .int a4, .int a5] Z M (.inl (some (.int r))) Z M' := by
  unfold fX9_against at h
  refine CT.of hl (by decide) (Nat.le_of_ble_eq_true rfl) ?_
  intro p e s m args below meth c C hnm
  refine j_sub (L' := [(0, .ref a0), (1, .int a1), (2, .int a2), (3, .int a3), (4, .int a4), (5, .int a5)]) [0, 1, 2, 3, 4, 5] rfl ?_
  refine j_iload_n C dX9_against_0 rfl 1 rfl ?_
  refine j_iconst C dX9_against_1 (v := (4 : Int32)) (by decide) ?_
  refine j_icmp_ne C dX9_against_2 (tgt := 13) (by decide) (fun hc1 => ?_) (fun hc1 => ?_)
  · rw [if_neg hc1] at h
    refine j_aload_n C dX9_against_13 rfl 0 rfl ?_
    refine j_iload_n C dX9_against_14 rfl 2 rfl ?_
    obtain ⟨ho41, h⟩ := ck_spec h
    obtain ⟨r42, M42, hq42, h⟩ := bnd2_spec h
    refine j_run1 (c_V C (As := [.int a2]) (rest := []) (ctX9_high C.2.2.2.2.2.2.2.2.1 N Z hq42) kcRX9_69 oyX9_high (ci := 9) (T := TX9) (N := 23) rfl (by decide) ho41 ⟨by decide, by decide⟩ ⟨by decide, by decide⟩ (Nat.le_of_ble_eq_true rfl) rfl dX9_against_15) ?_
    refine j_istore C dX9_against_18 (by decide) (L' := [(6, .int r42), (0, .ref a0), (1, .int a1), (2, .int a2), (3, .int a3), (4, .int a4), (5, .int a5)]) rfl ?_
    refine j_iload_n C dX9_against_20 rfl 2 rfl ?_
    refine j_if_le C dX9_against_21 (tgt := 28) (by decide) (fun hc43 => ?_) (fun hc43 => ?_)
    · rw [if_pos hc43] at h
      refine j_iload C dX9_against_28 5 rfl ?_
      refine j_if_eq C dX9_against_30 (tgt := 38) (by decide) (fun hc44 => ?_) (fun hc44 => ?_)
      · rw [if_pos hc44] at h
        refine j_iload C dX9_against_38 0 rfl ?_
        refine j_iconst C dX9_against_40 (v := (1 : Int32)) (by decide) ?_
        refine j_iadd C dX9_against_41 ?_
        refine j_sub (L' := [(0, .ref a0), (1, .int a1), (2, .int a2), (4, .int a4), (5, .int a5), (6, .int r42)]) [1, 2, 3, 5, 6, 0] rfl ?_
        exact tX9_against_42 C hnm N Z a0 a1 a2 a4 a5 r42 (r42 + (1 : Int32)) M42 _ _ h
      · rw [if_neg hc44] at h
        refine j_iload C dX9_against_33 0 rfl ?_
        refine j_goto C dX9_against_35 (tgt := 42) (by decide) ?_
        refine j_sub (L' := [(0, .ref a0), (1, .int a1), (2, .int a2), (4, .int a4), (5, .int a5), (6, .int r42)]) [1, 2, 3, 5, 6, 0] rfl ?_
        exact tX9_against_42 C hnm N Z a0 a1 a2 a4 a5 r42 r42 M42 _ _ h
    · rw [if_neg hc43] at h
      refine j_iload_n C dX9_against_24 rfl 4 rfl ?_
      refine j_goto C dX9_against_25 (tgt := 42) (by decide) ?_
      refine j_sub (L' := [(0, .ref a0), (1, .int a1), (2, .int a2), (4, .int a4), (5, .int a5), (6, .int r42)]) [1, 2, 3, 5, 6, 0] rfl ?_
      exact tX9_against_42 C hnm N Z a0 a1 a2 a4 a5 r42 a3 M42 _ _ h
  · rw [if_pos hc1] at h
    refine j_aload_n C dX9_against_5 rfl 0 rfl ?_
    refine j_iload_n C dX9_against_6 rfl 2 rfl ?_
    obtain ⟨ho2, h⟩ := ck_spec h
    obtain ⟨r3, M3, hq3, h⟩ := bnd2_spec h
    refine j_run1 (c_V C (As := [.int a2]) (rest := []) (ctX9_postHigh C.2.2.2.2.2.2.2.2.1 N Z hq3) kcRX9_80 oyX9_postHigh (ci := 9) (T := TX9) (N := 23) rfl (by decide) ho2 ⟨by decide, by decide⟩ ⟨by decide, by decide⟩ (Nat.le_of_ble_eq_true rfl) rfl dX9_against_7) ?_
    refine j_goto C dX9_against_10 (tgt := 18) (by decide) ?_
    refine j_istore C dX9_against_18 (by decide) (L' := [(6, .int r3), (0, .ref a0), (1, .int a1), (2, .int a2), (3, .int a3), (4, .int a4), (5, .int a5)]) rfl ?_
    refine j_iload_n C dX9_against_20 rfl 2 rfl ?_
    refine j_if_le C dX9_against_21 (tgt := 28) (by decide) (fun hc4 => ?_) (fun hc4 => ?_)
    · rw [if_pos hc4] at h
      refine j_iload C dX9_against_28 5 rfl ?_
      refine j_if_eq C dX9_against_30 (tgt := 38) (by decide) (fun hc5 => ?_) (fun hc5 => ?_)
      · rw [if_pos hc5] at h
        refine j_iload C dX9_against_38 0 rfl ?_
        refine j_iconst C dX9_against_40 (v := (1 : Int32)) (by decide) ?_
        refine j_iadd C dX9_against_41 ?_
        refine j_sub (L' := [(0, .ref a0), (1, .int a1), (2, .int a2), (4, .int a4), (5, .int a5), (6, .int r3)]) [1, 2, 3, 5, 6, 0] rfl ?_
        exact tX9_against_42 C hnm N Z a0 a1 a2 a4 a5 r3 (r3 + (1 : Int32)) M3 _ _ h
      · rw [if_neg hc5] at h
        refine j_iload C dX9_against_33 0 rfl ?_
        refine j_goto C dX9_against_35 (tgt := 42) (by decide) ?_
        refine j_sub (L' := [(0, .ref a0), (1, .int a1), (2, .int a2), (4, .int a4), (5, .int a5), (6, .int r3)]) [1, 2, 3, 5, 6, 0] rfl ?_
        exact tX9_against_42 C hnm N Z a0 a1 a2 a4 a5 r3 r3 M3 _ _ h
    · rw [if_neg hc4] at h
      refine j_iload_n C dX9_against_24 rfl 4 rfl ?_
      refine j_goto C dX9_against_25 (tgt := 42) (by decide) ?_
      refine j_sub (L' := [(0, .ref a0), (1, .int a1), (2, .int a2), (4, .int a4), (5, .int a5), (6, .int r3)]) [1, 2, 3, 5, 6, 0] rfl ?_
      exact tX9_against_42 C hnm N Z a0 a1 a2 a4 a5 r3 a3 M3 _ _ h
-- ScaffoldPlannerModel reports
theorem fwRX9_165 : Cond.fieldLink RX9 165 RX9 (TX9 8).2.1 (TX9 8).2.2.1 ∈ gw := by decide +kernel
abbrev rmX9_reports : Room := { frames := 0, cells := 0, slots := 0, locals := 0 }
theorem dX9_reports_0 : decode cX9_reports 0 = .ok (.aload_n 0, 1) := by decide +kernel
theorem dX9_reports_1 : decode cX9_reports 1 = .ok (.getfield 25, 3) := by decide +kernel
theorem dX9_reports_4 : decode cX9_reports 4 = .ok (.iconst 2, 1) := by decide +kernel
theorem dX9_reports_5 : decode cX9_reports 5 = .ok (.iload_n 1, 1) := by decide +kernel
theorem dX9_reports_6 : decode cX9_reports 6 = .ok (.imul, 1) := by decide +kernel
theorem dX9_reports_7 : decode cX9_reports 7 = .ok (.iload_n 2, 1) := by decide +kernel
theorem dX9_reports_8 : decode cX9_reports 8 = .ok (.iastore, 1) := by decide +kernel
theorem dX9_reports_9 : decode cX9_reports 9 = .ok (.aload_n 0, 1) := by decide +kernel
theorem dX9_reports_10 : decode cX9_reports 10 = .ok (.getfield 25, 3) := by decide +kernel
theorem dX9_reports_13 : decode cX9_reports 13 = .ok (.iconst 2, 1) := by decide +kernel
theorem dX9_reports_14 : decode cX9_reports 14 = .ok (.iload_n 1, 1) := by decide +kernel
theorem dX9_reports_15 : decode cX9_reports 15 = .ok (.imul, 1) := by decide +kernel
theorem dX9_reports_16 : decode cX9_reports 16 = .ok (.iconst 1, 1) := by decide +kernel
theorem dX9_reports_17 : decode cX9_reports 17 = .ok (.iadd, 1) := by decide +kernel
theorem dX9_reports_18 : decode cX9_reports 18 = .ok (.iload_n 3, 1) := by decide +kernel
theorem dX9_reports_19 : decode cX9_reports 19 = .ok (.iastore, 1) := by decide +kernel
theorem dX9_reports_20 : decode cX9_reports 20 = .ok (.aload_n 0, 1) := by decide +kernel
theorem dX9_reports_21 : decode cX9_reports 21 = .ok (.iload_n 1, 1) := by decide +kernel
theorem dX9_reports_22 : decode cX9_reports 22 = .ok (.iconst 1, 1) := by decide +kernel
theorem dX9_reports_23 : decode cX9_reports 23 = .ok (.iadd, 1) := by decide +kernel
theorem dX9_reports_24 : decode cX9_reports 24 = .ok (.putfield 165, 3) := by decide +kernel
theorem dX9_reports_27 : decode cX9_reports 27 = .ok (.return_, 1) := by decide +kernel
def fX9_reports (N : Nat) (Z : mZ) (a0 : Nat) (a1 : Int32) (a2 : Int32) (a3 : Int32) (M : mM) : Option (Unit × mM) := ck (okO Z a0 9) (bnd1 (Z.2.2.2 a0 7) (fun c2 => ck (okO Z c2 20) (ck (inB ((2 : Int32) * a1) (Z.2.2.1 c2)) (ck (inB (((2 : Int32) * a1) + (1 : Int32)) (Z.2.2.1 c2)) (some ((), (sI (sI (sI M c2 (((2 : Int32) * a1)).toNatClampNeg a2) c2 ((((2 : Int32) * a1) + (1 : Int32))).toNatClampNeg a3) a0 8 (a1 + (1 : Int32)))))))))
set_option maxHeartbeats 4000000 in
set_option maxRecDepth 100000 in
theorem ctX9_reports {G : mG} {l : Launch} (hl : l.stackTraces = false) (N : Nat) (Z : mZ) {a0 : Nat} {a1 : Int32} {a2 : Int32} {a3 : Int32} {M : mM} {r : Unit} {M' : mM} (h : fX9_reports N Z a0 a1 a2 a3 M = some (r, M')) : CT G l yX9_reports (.code yX9_reports cX9_reports 4 none) rmX9_reports [.ref a0, .int a1, .int a2, .int a3] Z M (.inl none) Z M' := by
  unfold fX9_reports at h
  refine CT.of hl (by decide) (Nat.le_of_ble_eq_true rfl) ?_
  intro p e s m args below meth c C hnm
  refine j_sub (L' := [(0, .ref a0), (1, .int a1), (2, .int a2), (3, .int a3)]) [0, 1, 2, 3] rfl ?_
  refine j_aload_n C dX9_reports_0 rfl 0 rfl ?_
  obtain ⟨ho1, h⟩ := ck_spec h
  obtain ⟨c2, hr2, h⟩ := bnd1_spec h
  refine j_getR C (cn := RX9) (T := TX9) (N := 23) (ci := 9) rfl iX9 ho1 7 (by decide) rfl fwRX9_25 dX9_reports_1 hr2 ?_
  refine j_iconst C dX9_reports_4 (v := (2 : Int32)) (by decide) ?_
  refine j_iload_n C dX9_reports_5 rfl 1 rfl ?_
  refine j_imul C dX9_reports_6 ?_
  refine j_iload_n C dX9_reports_7 rfl 2 rfl ?_
  obtain ⟨ho3, h⟩ := ck_spec h
  obtain ⟨ho4, h⟩ := ck_spec h
  refine j_iast C ho3 ho4 dX9_reports_8 ?_
  refine j_aload_n C dX9_reports_9 rfl 0 rfl ?_
  refine j_getR C (cn := RX9) (T := TX9) (N := 23) (ci := 9) rfl iX9 ho1 7 (by decide) rfl fwRX9_25 dX9_reports_10 hr2 ?_
  refine j_iconst C dX9_reports_13 (v := (2 : Int32)) (by decide) ?_
  refine j_iload_n C dX9_reports_14 rfl 1 rfl ?_
  refine j_imul C dX9_reports_15 ?_
  refine j_iconst C dX9_reports_16 (v := (1 : Int32)) (by decide) ?_
  refine j_iadd C dX9_reports_17 ?_
  refine j_iload_n C dX9_reports_18 rfl 3 rfl ?_
  obtain ⟨ho5, h⟩ := ck_spec h
  refine j_iast C ho3 ho5 dX9_reports_19 ?_
  refine j_aload_n C dX9_reports_20 rfl 0 rfl ?_
  refine j_iload_n C dX9_reports_21 rfl 1 rfl ?_
  refine j_iconst C dX9_reports_22 (v := (1 : Int32)) (by decide) ?_
  refine j_iadd C dX9_reports_23 ?_
  refine j_putI C tyX9 tyX9_ok nmX9 (cn := RX9) (T := TX9) (N := 23) (ci := 9) rfl iX9 ho1 8 (by decide) rfl fwRX9_165 ⟨rfl, rfl⟩ dX9_reports_24 ?_
  cases h
  exact j_vret C rfl (by decide) (by decide) dX9_reports_27
-- ScaffoldPlannerModel works
theorem kcRX9_168 : okV RX9 168 yX9_against (.code yX9_against cX9_against 9 (some .int)) = true := by decide +kernel
theorem oyX9_against : okY yX9_against 5 := ⟨by decide +kernel, by decide +kernel, by decide +kernel⟩
theorem kcRX9_174 : okV RX9 174 yX9_changes (.code yX9_changes cX9_changes 3 none) = true := by decide +kernel
theorem oyX9_changes : okY yX9_changes 1 := ⟨by decide +kernel, by decide +kernel, by decide +kernel⟩
theorem kcRX9_172 : okV RX9 172 yX9_reports (.code yX9_reports cX9_reports 4 none) = true := by decide +kernel
theorem oyX9_reports : okY yX9_reports 3 := ⟨by decide +kernel, by decide +kernel, by decide +kernel⟩
abbrev rmX9_works : Room := { frames := 6, cells := 0, slots := 0, locals := 142 }
theorem dX9_works_0 : decode cX9_works 0 = .ok (.aload_n 0, 1) := by decide +kernel
theorem dX9_works_1 : decode cX9_works 1 = .ok (.iload_n 1, 1) := by decide +kernel
theorem dX9_works_2 : decode cX9_works 2 = .ok (.iload_n 2, 1) := by decide +kernel
theorem dX9_works_3 : decode cX9_works 3 = .ok (.iload_n 3, 1) := by decide +kernel
theorem dX9_works_4 : decode cX9_works 4 = .ok (.iload 4, 2) := by decide +kernel
theorem dX9_works_6 : decode cX9_works 6 = .ok (.iload 5, 2) := by decide +kernel
theorem dX9_works_8 : decode cX9_works 8 = .ok (.invokevirtual 168, 3) := by decide +kernel
theorem dX9_works_11 : decode cX9_works 11 = .ok (.istore 6, 2) := by decide +kernel
theorem dX9_works_13 : decode cX9_works 13 = .ok (.aload_n 0, 1) := by decide +kernel
theorem dX9_works_14 : decode cX9_works 14 = .ok (.iconst 0, 1) := by decide +kernel
theorem dX9_works_15 : decode cX9_works 15 = .ok (.putfield 50, 3) := by decide +kernel
theorem dX9_works_18 : decode cX9_works 18 = .ok (.iload 6, 2) := by decide +kernel
theorem dX9_works_20 : decode cX9_works 20 = .ok (.ifCond .le 23, 3) := by decide +kernel
theorem dX9_works_23 : decode cX9_works 23 = .ok (.aload_n 0, 1) := by decide +kernel
theorem dX9_works_24 : decode cX9_works 24 = .ok (.iconst 0, 1) := by decide +kernel
theorem dX9_works_25 : decode cX9_works 25 = .ok (.iload_n 1, 1) := by decide +kernel
theorem dX9_works_26 : decode cX9_works 26 = .ok (.iload_n 2, 1) := by decide +kernel
theorem dX9_works_27 : decode cX9_works 27 = .ok (.invokevirtual 172, 3) := by decide +kernel
theorem dX9_works_30 : decode cX9_works 30 = .ok (.aload_n 0, 1) := by decide +kernel
theorem dX9_works_31 : decode cX9_works 31 = .ok (.iconst 1, 1) := by decide +kernel
theorem dX9_works_32 : decode cX9_works 32 = .ok (.iload 6, 2) := by decide +kernel
theorem dX9_works_34 : decode cX9_works 34 = .ok (.aload_n 0, 1) := by decide +kernel
theorem dX9_works_35 : decode cX9_works 35 = .ok (.getfield 127, 3) := by decide +kernel
theorem dX9_works_38 : decode cX9_works 38 = .ok (.invokevirtual 172, 3) := by decide +kernel
theorem dX9_works_41 : decode cX9_works 41 = .ok (.iconst 0, 1) := by decide +kernel
theorem dX9_works_42 : decode cX9_works 42 = .ok (.ireturn, 1) := by decide +kernel
theorem dX9_works_43 : decode cX9_works 43 = .ok (.aload_n 0, 1) := by decide +kernel
theorem dX9_works_44 : decode cX9_works 44 = .ok (.aload_n 0, 1) := by decide +kernel
theorem dX9_works_45 : decode cX9_works 45 = .ok (.getfield 7, 3) := by decide +kernel
theorem dX9_works_48 : decode cX9_works 48 = .ok (.invokevirtual 174, 3) := by decide +kernel
theorem dX9_works_51 : decode cX9_works 51 = .ok (.aload_n 0, 1) := by decide +kernel
theorem dX9_works_52 : decode cX9_works 52 = .ok (.iload_n 1, 1) := by decide +kernel
theorem dX9_works_53 : decode cX9_works 53 = .ok (.iload_n 2, 1) := by decide +kernel
theorem dX9_works_54 : decode cX9_works 54 = .ok (.iload_n 3, 1) := by decide +kernel
theorem dX9_works_55 : decode cX9_works 55 = .ok (.iload 4, 2) := by decide +kernel
theorem dX9_works_57 : decode cX9_works 57 = .ok (.iload 5, 2) := by decide +kernel
theorem dX9_works_59 : decode cX9_works 59 = .ok (.invokevirtual 158, 3) := by decide +kernel
theorem dX9_works_62 : decode cX9_works 62 = .ok (.iconst 1, 1) := by decide +kernel
theorem dX9_works_63 : decode cX9_works 63 = .ok (.ireturn, 1) := by decide +kernel
def fX9_works (N : Nat) (Z : mZ) (a0 : Nat) (a1 : Int32) (a2 : Int32) (a3 : Int32) (a4 : Int32) (a5 : Int32) (M : mM) : Option (Int32 × mM) := ck (okO Z a0 9) (bnd2 (fX9_against N Z a0 a1 a2 a3 a4 a5 M) (fun r2 M2 => if r2 ≤ 0 then bnd1 (Z.2.2.2 a0 0) (fun c4 => bnd2 (fX9_changes N Z a0 c4 (sI M2 a0 9 (0 : Int32))) (fun _ M5 => bnd2 (fX9_does N Z a0 a1 a2 a3 a4 a5 M5) (fun _ M6 => some ((1 : Int32), M6)))) else bnd2 (fX9_reports N Z a0 (0 : Int32) a1 a2 (sI M2 a0 9 (0 : Int32))) (fun _ M7 => bnd2 (fX9_reports N Z a0 (1 : Int32) r2 (M7.1 a0 14) M7) (fun _ M8 => some ((0 : Int32), M8)))))
set_option maxHeartbeats 4000000 in
set_option maxRecDepth 100000 in
theorem ctX9_works {G : mG} {l : Launch} (hl : l.stackTraces = false) (N : Nat) (Z : mZ) {a0 : Nat} {a1 : Int32} {a2 : Int32} {a3 : Int32} {a4 : Int32} {a5 : Int32} {M : mM} {r : Int32} {M' : mM} (h : fX9_works N Z a0 a1 a2 a3 a4 a5 M = some (r, M')) : CT G l yX9_works (.code yX9_works cX9_works 7 (some .boolean)) rmX9_works [.ref a0, .int a1, .int a2, .int a3, .int a4, .int a5] Z M (.inl (some (.int r))) Z M' := by
  unfold fX9_works at h
  refine CT.of hl (by decide) (Nat.le_of_ble_eq_true rfl) ?_
  intro p e s m args below meth c C hnm
  refine j_sub (L' := [(0, .ref a0), (1, .int a1), (2, .int a2), (3, .int a3), (4, .int a4), (5, .int a5)]) [0, 1, 2, 3, 4, 5] rfl ?_
  refine j_aload_n C dX9_works_0 rfl 0 rfl ?_
  refine j_iload_n C dX9_works_1 rfl 1 rfl ?_
  refine j_iload_n C dX9_works_2 rfl 2 rfl ?_
  refine j_iload_n C dX9_works_3 rfl 3 rfl ?_
  refine j_iload C dX9_works_4 4 rfl ?_
  refine j_iload C dX9_works_6 5 rfl ?_
  obtain ⟨ho1, h⟩ := ck_spec h
  obtain ⟨r2, M2, hq2, h⟩ := bnd2_spec h
  refine j_run1 (c_V C (As := [.int a1, .int a2, .int a3, .int a4, .int a5]) (rest := []) (ctX9_against C.2.2.2.2.2.2.2.2.1 N Z hq2) kcRX9_168 oyX9_against (ci := 9) (T := TX9) (N := 23) rfl (by decide) ho1 ⟨by decide, by decide⟩ ⟨by decide, by decide⟩ (Nat.le_of_ble_eq_true rfl) rfl dX9_works_8) ?_
  refine j_istore C dX9_works_11 (by decide) (L' := [(6, .int r2), (0, .ref a0), (1, .int a1), (2, .int a2), (3, .int a3), (4, .int a4), (5, .int a5)]) rfl ?_
  refine j_aload_n C dX9_works_13 rfl 1 rfl ?_
  refine j_iconst C dX9_works_14 (v := (0 : Int32)) (by decide) ?_
  refine j_putI C tyX9 tyX9_ok nmX9 (cn := RX9) (T := TX9) (N := 23) (ci := 9) rfl iX9 ho1 9 (by decide) rfl fwRX9_50 ⟨rfl, rfl⟩ dX9_works_15 ?_
  refine j_iload C dX9_works_18 0 rfl ?_
  refine j_if_le C dX9_works_20 (tgt := 43) (by decide) (fun hc3 => ?_) (fun hc3 => ?_)
  · rw [if_pos hc3] at h
    refine j_aload_n C dX9_works_43 rfl 1 rfl ?_
    refine j_aload_n C dX9_works_44 rfl 1 rfl ?_
    obtain ⟨c4, hr4, h⟩ := bnd1_spec h
    refine j_getR C (cn := RX9) (T := TX9) (N := 23) (ci := 9) rfl iX9 ho1 0 (by decide) rfl fwRX9_7 dX9_works_45 hr4 ?_
    obtain ⟨_, M5, hq5, h⟩ := bnd2_spec h
    refine j_run0 (c_V C (As := [.ref c4]) (rest := []) (ctX9_changes C.2.2.2.2.2.2.2.2.1 N Z hq5) kcRX9_174 oyX9_changes (ci := 9) (T := TX9) (N := 23) rfl (by decide) ho1 ⟨by decide, by decide⟩ ⟨by decide, by decide⟩ (Nat.le_of_ble_eq_true rfl) rfl dX9_works_48) ?_
    refine j_aload_n C dX9_works_51 rfl 1 rfl ?_
    refine j_iload_n C dX9_works_52 rfl 2 rfl ?_
    refine j_iload_n C dX9_works_53 rfl 3 rfl ?_
    refine j_iload_n C dX9_works_54 rfl 4 rfl ?_
    refine j_iload C dX9_works_55 5 rfl ?_
    refine j_iload C dX9_works_57 6 rfl ?_
    obtain ⟨_, M6, hq6, h⟩ := bnd2_spec h
    refine j_run0 (c_V C (As := [.int a1, .int a2, .int a3, .int a4, .int a5]) (rest := []) (ctX9_does C.2.2.2.2.2.2.2.2.1 N Z hq6) kcRX9_158 oyX9_does (ci := 9) (T := TX9) (N := 23) rfl (by decide) ho1 ⟨by decide, by decide⟩ ⟨by decide, by decide⟩ (Nat.le_of_ble_eq_true rfl) rfl dX9_works_59) ?_
    refine j_iconst C dX9_works_62 (v := (1 : Int32)) (by decide) ?_
    cases h
    exact j_zret C rfl (by decide) (by decide) (by decide) dX9_works_63
  · rw [if_neg hc3] at h
    refine j_aload_n C dX9_works_23 rfl 1 rfl ?_
    refine j_iconst C dX9_works_24 (v := (0 : Int32)) (by decide) ?_
    refine j_iload_n C dX9_works_25 rfl 2 rfl ?_
    refine j_iload_n C dX9_works_26 rfl 3 rfl ?_
    obtain ⟨_, M7, hq7, h⟩ := bnd2_spec h
    refine j_run0 (c_V C (As := [.int (0 : Int32), .int a1, .int a2]) (rest := []) (ctX9_reports C.2.2.2.2.2.2.2.2.1 N Z hq7) kcRX9_172 oyX9_reports (ci := 9) (T := TX9) (N := 23) rfl (by decide) ho1 ⟨by decide, by decide⟩ ⟨by decide, by decide⟩ (Nat.le_of_ble_eq_true rfl) rfl dX9_works_27) ?_
    refine j_aload_n C dX9_works_30 rfl 1 rfl ?_
    refine j_iconst C dX9_works_31 (v := (1 : Int32)) (by decide) ?_
    refine j_iload C dX9_works_32 0 rfl ?_
    refine j_aload_n C dX9_works_34 rfl 1 rfl ?_
    refine j_getI C (cn := RX9) (T := TX9) (N := 23) (ci := 9) rfl iX9 ho1 14 (by decide) rfl fwRX9_127 dX9_works_35 ?_
    obtain ⟨_, M8, hq8, h⟩ := bnd2_spec h
    refine j_run0 (c_V C (As := [.int (1 : Int32), .int r2, .int (M7.1 a0 14)]) (rest := []) (ctX9_reports C.2.2.2.2.2.2.2.2.1 N Z hq8) kcRX9_172 oyX9_reports (ci := 9) (T := TX9) (N := 23) rfl (by decide) ho1 ⟨by decide, by decide⟩ ⟨by decide, by decide⟩ (Nat.le_of_ble_eq_true rfl) rfl dX9_works_38) ?_
    refine j_iconst C dX9_works_41 (v := (0 : Int32)) (by decide) ?_
    cases h
    exact j_zret C rfl (by decide) (by decide) (by decide) dX9_works_42
-- ScaffoldPlannerModel start
abbrev rmX9_start : Room := { frames := 2, cells := 0, slots := 0, locals := 44 }
theorem dX9_start_0 : decode cX9_start 0 = .ok (.aload_n 0, 1) := by decide +kernel
theorem dX9_start_1 : decode cX9_start 1 = .ok (.iload_n 1, 1) := by decide +kernel
theorem dX9_start_2 : decode cX9_start 2 = .ok (.iconst 4, 1) := by decide +kernel
theorem dX9_start_3 : decode cX9_start 3 = .ok (.bipush 10, 2) := by decide +kernel
theorem dX9_start_5 : decode cX9_start 5 = .ok (.invokestatic 54, 3) := by decide +kernel
theorem dX9_start_8 : decode cX9_start 8 = .ok (.ifCond .eq 7, 3) := by decide +kernel
theorem dX9_start_11 : decode cX9_start 11 = .ok (.iconst 0, 1) := by decide +kernel
theorem dX9_start_12 : decode cX9_start 12 = .ok (.goto 4, 3) := by decide +kernel
theorem dX9_start_15 : decode cX9_start 15 = .ok (.iconst 1, 1) := by decide +kernel
theorem dX9_start_16 : decode cX9_start 16 = .ok (.putfield 50, 3) := by decide +kernel
theorem dX9_start_19 : decode cX9_start 19 = .ok (.aload_n 0, 1) := by decide +kernel
theorem dX9_start_20 : decode cX9_start 20 = .ok (.getfield 50, 3) := by decide +kernel
theorem dX9_start_23 : decode cX9_start 23 = .ok (.ifCond .le 5, 3) := by decide +kernel
theorem dX9_start_26 : decode cX9_start 26 = .ok (.iconst 0, 1) := by decide +kernel
theorem dX9_start_27 : decode cX9_start 27 = .ok (.ireturn, 1) := by decide +kernel
theorem dX9_start_28 : decode cX9_start 28 = .ok (.aload_n 0, 1) := by decide +kernel
theorem dX9_start_29 : decode cX9_start 29 = .ok (.getfield 7, 3) := by decide +kernel
theorem dX9_start_32 : decode cX9_start 32 = .ok (.iconst 0, 1) := by decide +kernel
theorem dX9_start_33 : decode cX9_start 33 = .ok (.iaload, 1) := by decide +kernel
theorem dX9_start_34 : decode cX9_start 34 = .ok (.istore_n 2, 1) := by decide +kernel
theorem dX9_start_35 : decode cX9_start 35 = .ok (.aload_n 0, 1) := by decide +kernel
theorem dX9_start_36 : decode cX9_start 36 = .ok (.iload_n 1, 1) := by decide +kernel
theorem dX9_start_37 : decode cX9_start 37 = .ok (.invokevirtual 46, 3) := by decide +kernel
theorem dX9_start_40 : decode cX9_start 40 = .ok (.iload_n 2, 1) := by decide +kernel
theorem dX9_start_41 : decode cX9_start 41 = .ok (.ireturn, 1) := by decide +kernel
def fX9_start_16 (N : Nat) (Z : mZ) (v0 : Nat) (v1 : Int32) (x0 : Int32) (x1 : Nat) (M : mM) : Option (Int32 × mM) := ck (okO Z x1 9) (ck (okO Z v0 9) (if ((sI M x1 9 x0).1 v0 9) ≤ 0 then bnd1 (Z.2.2.2 v0 0) (fun c6 => ck (okI Z c6) (ck (inB (0 : Int32) (Z.2.2.1 c6)) (bnd2 (fX9_begins N Z v0 v1 (sI M x1 9 x0)) (fun _ M9 => some (((sI M x1 9 x0).1 c6 ((0 : Int32)).toNatClampNeg), M9))))) else some ((0 : Int32), (sI M x1 9 x0))))
set_option maxHeartbeats 4000000 in
set_option maxRecDepth 100000 in
theorem tX9_start_16 {G : mG} {p : Program} {l : Launch} {e : Env} {s : State} {m : MethodId} {args : Array Value} {below : List Frame} {meth : Method} {c : Code} (C : Cx G p l s m args meth c RX9 cX9_start 3 (some .int) []) (hnm : meth.name = yX9_start.name) (N : Nat) (Z : mZ) : ∀ (v0 : Nat) (v1 : Int32) (x0 : Int32) (x1 : Nat) (M : mM) (r : Int32) (M' : mM), fX9_start_16 N Z v0 v1 x0 x1 M = some (r, M') → JJ G p l e rmX9_start s m args below meth c 3 (mEnd G below args s rmX9_start (.inl (some (.int r))) Z M') 0 0 16 [(0, .ref v0), (1, .int v1)] [.int x0, .ref x1] Z M := by
  intro v0 v1 x0 x1 M r M' h
  unfold fX9_start_16 at h
  obtain ⟨ho3, h⟩ := ck_spec h
  refine j_putI C tyX9 tyX9_ok nmX9 (cn := RX9) (T := TX9) (N := 23) (ci := 9) rfl iX9 ho3 9 (by decide) rfl fwRX9_50 ⟨rfl, rfl⟩ dX9_start_16 ?_
  refine j_aload_n C dX9_start_19 rfl 0 rfl ?_
  obtain ⟨ho4, h⟩ := ck_spec h
  refine j_getI C (cn := RX9) (T := TX9) (N := 23) (ci := 9) rfl iX9 ho4 9 (by decide) rfl fwRX9_50 dX9_start_20 ?_
  refine j_if_le C dX9_start_23 (tgt := 28) (by decide) (fun hc5 => ?_) (fun hc5 => ?_)
  · rw [if_pos hc5] at h
    refine j_aload_n C dX9_start_28 rfl 0 rfl ?_
    obtain ⟨c6, hr6, h⟩ := bnd1_spec h
    refine j_getR C (cn := RX9) (T := TX9) (N := 23) (ci := 9) rfl iX9 ho4 0 (by decide) rfl fwRX9_7 dX9_start_29 hr6 ?_
    refine j_iconst C dX9_start_32 (v := (0 : Int32)) (by decide) ?_
    obtain ⟨ho7, h⟩ := ck_spec h
    obtain ⟨ho8, h⟩ := ck_spec h
    refine j_iald C ho7 ho8 dX9_start_33 ?_
    refine j_istore_n C dX9_start_34 rfl (by decide) (L' := [(2, .int ((sI M x1 9 x0).1 c6 ((0 : Int32)).toNatClampNeg)), (0, .ref v0), (1, .int v1)]) rfl ?_
    refine j_aload_n C dX9_start_35 rfl 1 rfl ?_
    refine j_iload_n C dX9_start_36 rfl 2 rfl ?_
    obtain ⟨_, M9, hq9, h⟩ := bnd2_spec h
    refine j_run0 (c_V C (As := [.int v1]) (rest := []) (ctX9_begins C.2.2.2.2.2.2.2.2.1 N Z hq9) kcRX9_46 oyX9_begins (ci := 9) (T := TX9) (N := 23) rfl (by decide) ho4 ⟨by decide, by decide⟩ ⟨by decide, by decide⟩ (Nat.le_of_ble_eq_true rfl) rfl dX9_start_37) ?_
    refine j_iload_n C dX9_start_40 rfl 0 rfl ?_
    cases h
    exact j_iret C rfl (by decide) (by decide) dX9_start_41
  · rw [if_neg hc5] at h
    refine j_iconst C dX9_start_26 (v := (0 : Int32)) (by decide) ?_
    cases h
    exact j_iret C rfl (by decide) (by decide) dX9_start_27
def fX9_start (N : Nat) (Z : mZ) (a0 : Nat) (a1 : Int32) (M : mM) : Option (Int32 × mM) := bnd2 (fX9_in N Z a1 (4 : Int32) (10 : Int32) M) (fun r1 M1 => if r1 = 0 then fX9_start_16 N Z a0 a1 (1 : Int32) a0 M1 else fX9_start_16 N Z a0 a1 (0 : Int32) a0 M1)
set_option maxHeartbeats 4000000 in
set_option maxRecDepth 100000 in
theorem ctX9_start {G : mG} {l : Launch} (hl : l.stackTraces = false) (N : Nat) (Z : mZ) {a0 : Nat} {a1 : Int32} {M : mM} {r : Int32} {M' : mM} (h : fX9_start N Z a0 a1 M = some (r, M')) : CT G l yX9_start (.code yX9_start cX9_start 3 (some .int)) rmX9_start [.ref a0, .int a1] Z M (.inl (some (.int r))) Z M' := by
  unfold fX9_start at h
  refine CT.of hl (by decide) (Nat.le_of_ble_eq_true rfl) ?_
  intro p e s m args below meth c C hnm
  refine j_sub (L' := [(0, .ref a0), (1, .int a1)]) [0, 1] rfl ?_
  refine j_aload_n C dX9_start_0 rfl 0 rfl ?_
  refine j_iload_n C dX9_start_1 rfl 1 rfl ?_
  refine j_iconst C dX9_start_2 (v := (4 : Int32)) (by decide) ?_
  refine j_bipush C dX9_start_3 (v := (10 : Int32)) (by decide) ?_
  obtain ⟨r1, M1, hq1, h⟩ := bnd2_spec h
  refine j_run1 (c_S C (As := [.int a1, .int (4 : Int32), .int (10 : Int32)]) (rest := [.ref a0]) (ctX9_in C.2.2.2.2.2.2.2.2.1 N Z hq1) kcRX9_54 oyX9_in ⟨by decide, by decide⟩ ⟨by decide, by decide⟩ (Nat.le_of_ble_eq_true rfl) rfl dX9_start_5) ?_
  refine j_if_eq C dX9_start_8 (tgt := 15) (by decide) (fun hc2 => ?_) (fun hc2 => ?_)
  · rw [if_pos hc2] at h
    refine j_iconst C dX9_start_15 (v := (1 : Int32)) (by decide) ?_
    refine j_sub (L' := [(0, .ref a0), (1, .int a1)]) [0, 1] rfl ?_
    exact tX9_start_16 C hnm N Z a0 a1 (1 : Int32) a0 M1 _ _ h
  · rw [if_neg hc2] at h
    refine j_iconst C dX9_start_11 (v := (0 : Int32)) (by decide) ?_
    refine j_goto C dX9_start_12 (tgt := 16) (by decide) ?_
    refine j_sub (L' := [(0, .ref a0), (1, .int a1)]) [0, 1] rfl ?_
    exact tX9_start_16 C hnm N Z a0 a1 (0 : Int32) a0 M1 _ _ h
-- ScaffoldPlannerModel isRule
abbrev rmX9_isRule : Room := { frames := 1, cells := 0, slots := 0, locals := 22 }
theorem dX9_isRule_0 : decode cX9_isRule 0 = .ok (.iload_n 0, 1) := by decide +kernel
theorem dX9_isRule_1 : decode cX9_isRule 1 = .ok (.ifCond .ne 12, 3) := by decide +kernel
theorem dX9_isRule_4 : decode cX9_isRule 4 = .ok (.iload_n 1, 1) := by decide +kernel
theorem dX9_isRule_5 : decode cX9_isRule 5 = .ok (.iconst 1, 1) := by decide +kernel
theorem dX9_isRule_6 : decode cX9_isRule 6 = .ok (.iconst 4, 1) := by decide +kernel
theorem dX9_isRule_7 : decode cX9_isRule 7 = .ok (.invokestatic 54, 3) := by decide +kernel
theorem dX9_isRule_10 : decode cX9_isRule 10 = .ok (.goto 39, 3) := by decide +kernel
theorem dX9_isRule_13 : decode cX9_isRule 13 = .ok (.iload_n 0, 1) := by decide +kernel
theorem dX9_isRule_14 : decode cX9_isRule 14 = .ok (.iconst 1, 1) := by decide +kernel
theorem dX9_isRule_15 : decode cX9_isRule 15 = .ok (.if_icmp .ne 12, 3) := by decide +kernel
theorem dX9_isRule_18 : decode cX9_isRule 18 = .ok (.iload_n 1, 1) := by decide +kernel
theorem dX9_isRule_19 : decode cX9_isRule 19 = .ok (.iconst 0, 1) := by decide +kernel
theorem dX9_isRule_20 : decode cX9_isRule 20 = .ok (.iconst 3, 1) := by decide +kernel
theorem dX9_isRule_21 : decode cX9_isRule 21 = .ok (.invokestatic 54, 3) := by decide +kernel
theorem dX9_isRule_24 : decode cX9_isRule 24 = .ok (.goto 25, 3) := by decide +kernel
theorem dX9_isRule_27 : decode cX9_isRule 27 = .ok (.iload_n 0, 1) := by decide +kernel
theorem dX9_isRule_28 : decode cX9_isRule 28 = .ok (.iconst 2, 1) := by decide +kernel
theorem dX9_isRule_29 : decode cX9_isRule 29 = .ok (.if_icmp .ne 19, 3) := by decide +kernel
theorem dX9_isRule_32 : decode cX9_isRule 32 = .ok (.iload_n 1, 1) := by decide +kernel
theorem dX9_isRule_33 : decode cX9_isRule 33 = .ok (.bipush 100, 2) := by decide +kernel
theorem dX9_isRule_35 : decode cX9_isRule 35 = .ok (.sipush 2000, 3) := by decide +kernel
theorem dX9_isRule_38 : decode cX9_isRule 38 = .ok (.invokestatic 54, 3) := by decide +kernel
theorem dX9_isRule_41 : decode cX9_isRule 41 = .ok (.ifCond .eq 7, 3) := by decide +kernel
theorem dX9_isRule_44 : decode cX9_isRule 44 = .ok (.iconst 1, 1) := by decide +kernel
theorem dX9_isRule_45 : decode cX9_isRule 45 = .ok (.goto 4, 3) := by decide +kernel
theorem dX9_isRule_48 : decode cX9_isRule 48 = .ok (.iconst 0, 1) := by decide +kernel
theorem dX9_isRule_49 : decode cX9_isRule 49 = .ok (.ireturn, 1) := by decide +kernel
def fX9_isRule (N : Nat) (Z : mZ) (a0 : Int32) (a1 : Int32) (M : mM) : Option (Int32 × mM) := if a0 = 0 then bnd2 (fX9_in N Z a1 (1 : Int32) (4 : Int32) M) (fun r2 M2 => ck (isB r2) (some (r2, M2))) else if a0 = (1 : Int32) then bnd2 (fX9_in N Z a1 (0 : Int32) (3 : Int32) M) (fun r5 M5 => ck (isB r5) (some (r5, M5))) else if a0 = (2 : Int32) then bnd2 (fX9_in N Z a1 (100 : Int32) (2000 : Int32) M) (fun r8 M8 => if r8 = 0 then some ((0 : Int32), M8) else some ((1 : Int32), M8)) else some ((0 : Int32), M)
set_option maxHeartbeats 4000000 in
set_option maxRecDepth 100000 in
theorem ctX9_isRule {G : mG} {l : Launch} (hl : l.stackTraces = false) (N : Nat) (Z : mZ) {a0 : Int32} {a1 : Int32} {M : mM} {r : Int32} {M' : mM} (h : fX9_isRule N Z a0 a1 M = some (r, M')) : CT G l yX9_isRule (.code yX9_isRule cX9_isRule 2 (some .boolean)) rmX9_isRule [.int a0, .int a1] Z M (.inl (some (.int r))) Z M' := by
  unfold fX9_isRule at h
  refine CT.of hl (by decide) (Nat.le_of_ble_eq_true rfl) ?_
  intro p e s m args below meth c C hnm
  refine j_sub (L' := [(0, .int a0), (1, .int a1)]) [0, 1] rfl ?_
  refine j_iload_n C dX9_isRule_0 rfl 0 rfl ?_
  refine j_if_ne C dX9_isRule_1 (tgt := 13) (by decide) (fun hc1 => ?_) (fun hc1 => ?_)
  · rw [if_neg hc1] at h
    refine j_iload_n C dX9_isRule_13 rfl 0 rfl ?_
    refine j_iconst C dX9_isRule_14 (v := (1 : Int32)) (by decide) ?_
    refine j_icmp_ne C dX9_isRule_15 (tgt := 27) (by decide) (fun hc4 => ?_) (fun hc4 => ?_)
    · rw [if_neg hc4] at h
      refine j_iload_n C dX9_isRule_27 rfl 0 rfl ?_
      refine j_iconst C dX9_isRule_28 (v := (2 : Int32)) (by decide) ?_
      refine j_icmp_ne C dX9_isRule_29 (tgt := 48) (by decide) (fun hc7 => ?_) (fun hc7 => ?_)
      · rw [if_neg hc7] at h
        refine j_iconst C dX9_isRule_48 (v := (0 : Int32)) (by decide) ?_
        cases h
        exact j_zret C rfl (by decide) (by decide) (by decide) dX9_isRule_49
      · rw [if_pos hc7] at h
        refine j_iload_n C dX9_isRule_32 rfl 1 rfl ?_
        refine j_bipush C dX9_isRule_33 (v := (100 : Int32)) (by decide) ?_
        refine j_sipush C dX9_isRule_35 (v := (2000 : Int32)) (by decide) ?_
        obtain ⟨r8, M8, hq8, h⟩ := bnd2_spec h
        refine j_run1 (c_S C (As := [.int a1, .int (100 : Int32), .int (2000 : Int32)]) (rest := []) (ctX9_in C.2.2.2.2.2.2.2.2.1 N Z hq8) kcRX9_54 oyX9_in ⟨by decide, by decide⟩ ⟨by decide, by decide⟩ (Nat.le_of_ble_eq_true rfl) rfl dX9_isRule_38) ?_
        refine j_if_eq C dX9_isRule_41 (tgt := 48) (by decide) (fun hc9 => ?_) (fun hc9 => ?_)
        · rw [if_pos hc9] at h
          refine j_iconst C dX9_isRule_48 (v := (0 : Int32)) (by decide) ?_
          cases h
          exact j_zret C rfl (by decide) (by decide) (by decide) dX9_isRule_49
        · rw [if_neg hc9] at h
          refine j_iconst C dX9_isRule_44 (v := (1 : Int32)) (by decide) ?_
          refine j_goto C dX9_isRule_45 (tgt := 49) (by decide) ?_
          cases h
          exact j_zret C rfl (by decide) (by decide) (by decide) dX9_isRule_49
    · rw [if_pos hc4] at h
      refine j_iload_n C dX9_isRule_18 rfl 1 rfl ?_
      refine j_iconst C dX9_isRule_19 (v := (0 : Int32)) (by decide) ?_
      refine j_iconst C dX9_isRule_20 (v := (3 : Int32)) (by decide) ?_
      obtain ⟨r5, M5, hq5, h⟩ := bnd2_spec h
      refine j_run1 (c_S C (As := [.int a1, .int (0 : Int32), .int (3 : Int32)]) (rest := []) (ctX9_in C.2.2.2.2.2.2.2.2.1 N Z hq5) kcRX9_54 oyX9_in ⟨by decide, by decide⟩ ⟨by decide, by decide⟩ (Nat.le_of_ble_eq_true rfl) rfl dX9_isRule_21) ?_
      refine j_goto C dX9_isRule_24 (tgt := 49) (by decide) ?_
      obtain ⟨ho6, h⟩ := ck_spec h
      cases h
      exact j_zret C rfl (isB_spec ho6) (by decide) (by decide) dX9_isRule_49
  · rw [if_pos hc1] at h
    refine j_iload_n C dX9_isRule_4 rfl 1 rfl ?_
    refine j_iconst C dX9_isRule_5 (v := (1 : Int32)) (by decide) ?_
    refine j_iconst C dX9_isRule_6 (v := (4 : Int32)) (by decide) ?_
    obtain ⟨r2, M2, hq2, h⟩ := bnd2_spec h
    refine j_run1 (c_S C (As := [.int a1, .int (1 : Int32), .int (4 : Int32)]) (rest := []) (ctX9_in C.2.2.2.2.2.2.2.2.1 N Z hq2) kcRX9_54 oyX9_in ⟨by decide, by decide⟩ ⟨by decide, by decide⟩ (Nat.le_of_ble_eq_true rfl) rfl dX9_isRule_7) ?_
    refine j_goto C dX9_isRule_10 (tgt := 49) (by decide) ?_
    obtain ⟨ho3, h⟩ := ck_spec h
    cases h
    exact j_zret C rfl (isB_spec ho3) (by decide) (by decide) dX9_isRule_49
