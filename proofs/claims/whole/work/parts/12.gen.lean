-- ScaffoldPlanner$Judge examineLaddersOfDeck
abbrev rmX3_examineLaddersOfDeck : Room := { frames := 2, cells := 0, slots := 0, locals := 46 }
theorem dX3_examineLaddersOfDeck_0 : decode cX3_examineLaddersOfDeck 0 = .ok (.aload_n 2, 1) := by decide +kernel
theorem dX3_examineLaddersOfDeck_1 : decode cX3_examineLaddersOfDeck 1 = .ok (.getfield 83, 3) := by decide +kernel
theorem dX3_examineLaddersOfDeck_4 : decode cX3_examineLaddersOfDeck 4 = .ok (.iconst 1, 1) := by decide +kernel
theorem dX3_examineLaddersOfDeck_5 : decode cX3_examineLaddersOfDeck 5 = .ok (.iadd, 1) := by decide +kernel
theorem dX3_examineLaddersOfDeck_6 : decode cX3_examineLaddersOfDeck 6 = .ok (.istore_n 3, 1) := by decide +kernel
theorem dX3_examineLaddersOfDeck_7 : decode cX3_examineLaddersOfDeck 7 = .ok (.aload_n 1, 1) := by decide +kernel
theorem dX3_examineLaddersOfDeck_8 : decode cX3_examineLaddersOfDeck 8 = .ok (.iconst 5, 1) := by decide +kernel
theorem dX3_examineLaddersOfDeck_9 : decode cX3_examineLaddersOfDeck 9 = .ok (.aload_n 2, 1) := by decide +kernel
theorem dX3_examineLaddersOfDeck_10 : decode cX3_examineLaddersOfDeck 10 = .ok (.getfield 89, 3) := by decide +kernel
theorem dX3_examineLaddersOfDeck_13 : decode cX3_examineLaddersOfDeck 13 = .ok (.aload_n 2, 1) := by decide +kernel
theorem dX3_examineLaddersOfDeck_14 : decode cX3_examineLaddersOfDeck 14 = .ok (.getfield 83, 3) := by decide +kernel
theorem dX3_examineLaddersOfDeck_17 : decode cX3_examineLaddersOfDeck 17 = .ok (.invokevirtual 92, 3) := by decide +kernel
theorem dX3_examineLaddersOfDeck_20 : decode cX3_examineLaddersOfDeck 20 = .ok (.ifCond .eq 15, 3) := by decide +kernel
theorem dX3_examineLaddersOfDeck_23 : decode cX3_examineLaddersOfDeck 23 = .ok (.aload_n 0, 1) := by decide +kernel
theorem dX3_examineLaddersOfDeck_24 : decode cX3_examineLaddersOfDeck 24 = .ok (.iconst 3, 1) := by decide +kernel
theorem dX3_examineLaddersOfDeck_25 : decode cX3_examineLaddersOfDeck 25 = .ok (.aload_n 2, 1) := by decide +kernel
theorem dX3_examineLaddersOfDeck_26 : decode cX3_examineLaddersOfDeck 26 = .ok (.getfield 83, 3) := by decide +kernel
theorem dX3_examineLaddersOfDeck_29 : decode cX3_examineLaddersOfDeck 29 = .ok (.invokevirtual 86, 3) := by decide +kernel
theorem dX3_examineLaddersOfDeck_32 : decode cX3_examineLaddersOfDeck 32 = .ok (.goto 22, 3) := by decide +kernel
theorem dX3_examineLaddersOfDeck_35 : decode cX3_examineLaddersOfDeck 35 = .ok (.aload_n 1, 1) := by decide +kernel
theorem dX3_examineLaddersOfDeck_36 : decode cX3_examineLaddersOfDeck 36 = .ok (.iconst 5, 1) := by decide +kernel
theorem dX3_examineLaddersOfDeck_37 : decode cX3_examineLaddersOfDeck 37 = .ok (.aload_n 2, 1) := by decide +kernel
theorem dX3_examineLaddersOfDeck_38 : decode cX3_examineLaddersOfDeck 38 = .ok (.getfield 89, 3) := by decide +kernel
theorem dX3_examineLaddersOfDeck_41 : decode cX3_examineLaddersOfDeck 41 = .ok (.iload_n 3, 1) := by decide +kernel
theorem dX3_examineLaddersOfDeck_42 : decode cX3_examineLaddersOfDeck 42 = .ok (.invokevirtual 92, 3) := by decide +kernel
theorem dX3_examineLaddersOfDeck_45 : decode cX3_examineLaddersOfDeck 45 = .ok (.ifCond .eq 9, 3) := by decide +kernel
theorem dX3_examineLaddersOfDeck_48 : decode cX3_examineLaddersOfDeck 48 = .ok (.aload_n 0, 1) := by decide +kernel
theorem dX3_examineLaddersOfDeck_49 : decode cX3_examineLaddersOfDeck 49 = .ok (.iconst 3, 1) := by decide +kernel
theorem dX3_examineLaddersOfDeck_50 : decode cX3_examineLaddersOfDeck 50 = .ok (.iload_n 3, 1) := by decide +kernel
theorem dX3_examineLaddersOfDeck_51 : decode cX3_examineLaddersOfDeck 51 = .ok (.invokevirtual 86, 3) := by decide +kernel
theorem dX3_examineLaddersOfDeck_54 : decode cX3_examineLaddersOfDeck 54 = .ok (.return_, 1) := by decide +kernel
def fX3_examineLaddersOfDeck (N : Nat) (Z : mZ) (a0 : Nat) (a1 : Nat) (a2 : Nat) (M : mM) : Option (Unit × mM) := ck (okO Z a2 7) (ck (okO Z a1 4) (bnd2 (fX4_has N Z a1 (5 : Int32) (M.1 a2 1) (M.1 a2 2) M) (fun r3 M3 => if r3 = 0 then bnd2 (fX4_has N Z a1 (5 : Int32) (M3.1 a2 1) ((M.1 a2 2) + (1 : Int32)) M3) (fun r5 M5 => if r5 = 0 then some ((), M5) else ck (okO Z a0 3) (bnd2 (fX3_refuse N Z a0 (3 : Int32) ((M.1 a2 2) + (1 : Int32)) M5) (fun _ M8 => some ((), M8)))) else ck (okO Z a0 3) (bnd2 (fX3_refuse N Z a0 (3 : Int32) (M3.1 a2 2) M3) (fun _ M10 => some ((), M10))))))
set_option maxHeartbeats 4000000 in
set_option maxRecDepth 100000 in
theorem ctX3_examineLaddersOfDeck {G : mG} {l : Launch} (hl : l.stackTraces = false) (N : Nat) (Z : mZ) {a0 : Nat} {a1 : Nat} {a2 : Nat} {M : mM} {r : Unit} {M' : mM} (h : fX3_examineLaddersOfDeck N Z a0 a1 a2 M = some (r, M')) : CT G l yX3_examineLaddersOfDeck (.code yX3_examineLaddersOfDeck cX3_examineLaddersOfDeck 4 none) rmX3_examineLaddersOfDeck [.ref a0, .ref a1, .ref a2] Z M (.inl none) Z M' := by
  unfold fX3_examineLaddersOfDeck at h
  refine CT.of hl (by decide) (Nat.le_of_ble_eq_true rfl) ?_
  intro p e s m args below meth c C hnm
  refine j_sub (L' := [(0, .ref a0), (1, .ref a1), (2, .ref a2)]) [0, 1, 2] rfl ?_
  refine j_aload_n C dX3_examineLaddersOfDeck_0 rfl 2 rfl ?_
  obtain ⟨ho1, h⟩ := ck_spec h
  refine j_getI C (cn := RX7) (T := TX7) (N := 5) (ci := 7) rfl iX7 ho1 2 (by decide) rfl fwRX3_83 dX3_examineLaddersOfDeck_1 ?_
  refine j_iconst C dX3_examineLaddersOfDeck_4 (v := (1 : Int32)) (by decide) ?_
  refine j_iadd C dX3_examineLaddersOfDeck_5 ?_
  refine j_istore_n C dX3_examineLaddersOfDeck_6 rfl (by decide) (L' := [(3, .int ((M.1 a2 2) + (1 : Int32))), (0, .ref a0), (1, .ref a1), (2, .ref a2)]) rfl ?_
  refine j_aload_n C dX3_examineLaddersOfDeck_7 rfl 2 rfl ?_
  refine j_iconst C dX3_examineLaddersOfDeck_8 (v := (5 : Int32)) (by decide) ?_
  refine j_aload_n C dX3_examineLaddersOfDeck_9 rfl 3 rfl ?_
  refine j_getI C (cn := RX7) (T := TX7) (N := 5) (ci := 7) rfl iX7 ho1 1 (by decide) rfl fwRX3_89 dX3_examineLaddersOfDeck_10 ?_
  refine j_aload_n C dX3_examineLaddersOfDeck_13 rfl 3 rfl ?_
  refine j_getI C (cn := RX7) (T := TX7) (N := 5) (ci := 7) rfl iX7 ho1 2 (by decide) rfl fwRX3_83 dX3_examineLaddersOfDeck_14 ?_
  obtain ⟨ho2, h⟩ := ck_spec h
  obtain ⟨r3, M3, hq3, h⟩ := bnd2_spec h
  refine j_run1 (c_V C (As := [.int (5 : Int32), .int (M.1 a2 1), .int (M.1 a2 2)]) (rest := []) (ctX4_has C.2.2.2.2.2.2.2.2.1 N Z hq3) kcRX3_92 oyX4_has (ci := 4) (T := TX4) (N := 7) rfl (by decide) ho2 ⟨by decide, by decide⟩ ⟨by decide, by decide⟩ (Nat.le_of_ble_eq_true rfl) rfl dX3_examineLaddersOfDeck_17) ?_
  refine j_if_eq C dX3_examineLaddersOfDeck_20 (tgt := 35) (by decide) (fun hc4 => ?_) (fun hc4 => ?_)
  · rw [if_pos hc4] at h
    refine j_aload_n C dX3_examineLaddersOfDeck_35 rfl 2 rfl ?_
    refine j_iconst C dX3_examineLaddersOfDeck_36 (v := (5 : Int32)) (by decide) ?_
    refine j_aload_n C dX3_examineLaddersOfDeck_37 rfl 3 rfl ?_
    refine j_getI C (cn := RX7) (T := TX7) (N := 5) (ci := 7) rfl iX7 ho1 1 (by decide) rfl fwRX3_89 dX3_examineLaddersOfDeck_38 ?_
    refine j_iload_n C dX3_examineLaddersOfDeck_41 rfl 0 rfl ?_
    obtain ⟨r5, M5, hq5, h⟩ := bnd2_spec h
    refine j_run1 (c_V C (As := [.int (5 : Int32), .int (M3.1 a2 1), .int ((M.1 a2 2) + (1 : Int32))]) (rest := []) (ctX4_has C.2.2.2.2.2.2.2.2.1 N Z hq5) kcRX3_92 oyX4_has (ci := 4) (T := TX4) (N := 7) rfl (by decide) ho2 ⟨by decide, by decide⟩ ⟨by decide, by decide⟩ (Nat.le_of_ble_eq_true rfl) rfl dX3_examineLaddersOfDeck_42) ?_
    refine j_if_eq C dX3_examineLaddersOfDeck_45 (tgt := 54) (by decide) (fun hc6 => ?_) (fun hc6 => ?_)
    · rw [if_pos hc6] at h
      cases h
      exact j_vret C rfl (by decide) (by decide) dX3_examineLaddersOfDeck_54
    · rw [if_neg hc6] at h
      refine j_aload_n C dX3_examineLaddersOfDeck_48 rfl 1 rfl ?_
      refine j_iconst C dX3_examineLaddersOfDeck_49 (v := (3 : Int32)) (by decide) ?_
      refine j_iload_n C dX3_examineLaddersOfDeck_50 rfl 0 rfl ?_
      obtain ⟨ho7, h⟩ := ck_spec h
      obtain ⟨_, M8, hq8, h⟩ := bnd2_spec h
      refine j_run0 (c_V C (As := [.int (3 : Int32), .int ((M.1 a2 2) + (1 : Int32))]) (rest := []) (ctX3_refuse C.2.2.2.2.2.2.2.2.1 N Z hq8) kcRX3_86 oyX3_refuse (ci := 3) (T := TX3) (N := 3) rfl (by decide) ho7 ⟨by decide, by decide⟩ ⟨by decide, by decide⟩ (Nat.le_of_ble_eq_true rfl) rfl dX3_examineLaddersOfDeck_51) ?_
      cases h
      exact j_vret C rfl (by decide) (by decide) dX3_examineLaddersOfDeck_54
  · rw [if_neg hc4] at h
    refine j_aload_n C dX3_examineLaddersOfDeck_23 rfl 1 rfl ?_
    refine j_iconst C dX3_examineLaddersOfDeck_24 (v := (3 : Int32)) (by decide) ?_
    refine j_aload_n C dX3_examineLaddersOfDeck_25 rfl 3 rfl ?_
    refine j_getI C (cn := RX7) (T := TX7) (N := 5) (ci := 7) rfl iX7 ho1 2 (by decide) rfl fwRX3_83 dX3_examineLaddersOfDeck_26 ?_
    obtain ⟨ho9, h⟩ := ck_spec h
    obtain ⟨_, M10, hq10, h⟩ := bnd2_spec h
    refine j_run0 (c_V C (As := [.int (3 : Int32), .int (M3.1 a2 2)]) (rest := []) (ctX3_refuse C.2.2.2.2.2.2.2.2.1 N Z hq10) kcRX3_86 oyX3_refuse (ci := 3) (T := TX3) (N := 3) rfl (by decide) ho9 ⟨by decide, by decide⟩ ⟨by decide, by decide⟩ (Nat.le_of_ble_eq_true rfl) rfl dX3_examineLaddersOfDeck_29) ?_
    refine j_goto C dX3_examineLaddersOfDeck_32 (tgt := 54) (by decide) ?_
    cases h
    exact j_vret C rfl (by decide) (by decide) dX3_examineLaddersOfDeck_54
-- ScaffoldPlanner$Plan isTiedByLevel
theorem kcRX4_69 : okV RX4 69 yX4_placeAfter (.code yX4_placeAfter cX4_placeAfter 2 (some .int)) = true := by decide +kernel
theorem kcRX4_72 : okV RX4 72 yX4_has (.code yX4_has cX4_has 4 (some .boolean)) = true := by decide +kernel
abbrev rmX4_isTiedByLevel : Room := { frames := 2, cells := 0, slots := 0, locals := 46 }
theorem dX4_isTiedByLevel_0 : decode cX4_isTiedByLevel 0 = .ok (.aload_n 0, 1) := by decide +kernel
theorem dX4_isTiedByLevel_1 : decode cX4_isTiedByLevel 1 = .ok (.iload_n 1, 1) := by decide +kernel
theorem dX4_isTiedByLevel_2 : decode cX4_isTiedByLevel 2 = .ok (.invokevirtual 69, 3) := by decide +kernel
theorem dX4_isTiedByLevel_5 : decode cX4_isTiedByLevel 5 = .ok (.istore_n 3, 1) := by decide +kernel
theorem dX4_isTiedByLevel_6 : decode cX4_isTiedByLevel 6 = .ok (.aload_n 0, 1) := by decide +kernel
theorem dX4_isTiedByLevel_7 : decode cX4_isTiedByLevel 7 = .ok (.getfield 18, 3) := by decide +kernel
theorem dX4_isTiedByLevel_10 : decode cX4_isTiedByLevel 10 = .ok (.aload_n 0, 1) := by decide +kernel
theorem dX4_isTiedByLevel_11 : decode cX4_isTiedByLevel 11 = .ok (.iload_n 1, 1) := by decide +kernel
theorem dX4_isTiedByLevel_12 : decode cX4_isTiedByLevel 12 = .ok (.invokevirtual 49, 3) := by decide +kernel
theorem dX4_isTiedByLevel_15 : decode cX4_isTiedByLevel 15 = .ok (.invokestatic 41, 3) := by decide +kernel
theorem dX4_isTiedByLevel_18 : decode cX4_isTiedByLevel 18 = .ok (.iload_n 2, 1) := by decide +kernel
theorem dX4_isTiedByLevel_19 : decode cX4_isTiedByLevel 19 = .ok (.if_icmp .ge 17, 3) := by decide +kernel
theorem dX4_isTiedByLevel_22 : decode cX4_isTiedByLevel 22 = .ok (.aload_n 0, 1) := by decide +kernel
theorem dX4_isTiedByLevel_23 : decode cX4_isTiedByLevel 23 = .ok (.iconst 4, 1) := by decide +kernel
theorem dX4_isTiedByLevel_24 : decode cX4_isTiedByLevel 24 = .ok (.iload_n 1, 1) := by decide +kernel
theorem dX4_isTiedByLevel_25 : decode cX4_isTiedByLevel 25 = .ok (.iload_n 2, 1) := by decide +kernel
theorem dX4_isTiedByLevel_26 : decode cX4_isTiedByLevel 26 = .ok (.invokevirtual 72, 3) := by decide +kernel
theorem dX4_isTiedByLevel_29 : decode cX4_isTiedByLevel 29 = .ok (.ifCond .eq 7, 3) := by decide +kernel
theorem dX4_isTiedByLevel_32 : decode cX4_isTiedByLevel 32 = .ok (.iconst 1, 1) := by decide +kernel
theorem dX4_isTiedByLevel_33 : decode cX4_isTiedByLevel 33 = .ok (.goto 4, 3) := by decide +kernel
theorem dX4_isTiedByLevel_36 : decode cX4_isTiedByLevel 36 = .ok (.iconst 0, 1) := by decide +kernel
theorem dX4_isTiedByLevel_37 : decode cX4_isTiedByLevel 37 = .ok (.istore 4, 2) := by decide +kernel
theorem dX4_isTiedByLevel_39 : decode cX4_isTiedByLevel 39 = .ok (.aload_n 0, 1) := by decide +kernel
theorem dX4_isTiedByLevel_40 : decode cX4_isTiedByLevel 40 = .ok (.getfield 18, 3) := by decide +kernel
theorem dX4_isTiedByLevel_43 : decode cX4_isTiedByLevel 43 = .ok (.iload_n 3, 1) := by decide +kernel
theorem dX4_isTiedByLevel_44 : decode cX4_isTiedByLevel 44 = .ok (.invokestatic 41, 3) := by decide +kernel
theorem dX4_isTiedByLevel_47 : decode cX4_isTiedByLevel 47 = .ok (.iload_n 2, 1) := by decide +kernel
theorem dX4_isTiedByLevel_48 : decode cX4_isTiedByLevel 48 = .ok (.if_icmp .ge 17, 3) := by decide +kernel
theorem dX4_isTiedByLevel_51 : decode cX4_isTiedByLevel 51 = .ok (.aload_n 0, 1) := by decide +kernel
theorem dX4_isTiedByLevel_52 : decode cX4_isTiedByLevel 52 = .ok (.iconst 4, 1) := by decide +kernel
theorem dX4_isTiedByLevel_53 : decode cX4_isTiedByLevel 53 = .ok (.iload_n 3, 1) := by decide +kernel
theorem dX4_isTiedByLevel_54 : decode cX4_isTiedByLevel 54 = .ok (.iload_n 2, 1) := by decide +kernel
theorem dX4_isTiedByLevel_55 : decode cX4_isTiedByLevel 55 = .ok (.invokevirtual 72, 3) := by decide +kernel
theorem dX4_isTiedByLevel_58 : decode cX4_isTiedByLevel 58 = .ok (.ifCond .eq 7, 3) := by decide +kernel
theorem dX4_isTiedByLevel_61 : decode cX4_isTiedByLevel 61 = .ok (.iconst 1, 1) := by decide +kernel
theorem dX4_isTiedByLevel_62 : decode cX4_isTiedByLevel 62 = .ok (.goto 4, 3) := by decide +kernel
theorem dX4_isTiedByLevel_65 : decode cX4_isTiedByLevel 65 = .ok (.iconst 0, 1) := by decide +kernel
theorem dX4_isTiedByLevel_66 : decode cX4_isTiedByLevel 66 = .ok (.istore 5, 2) := by decide +kernel
theorem dX4_isTiedByLevel_68 : decode cX4_isTiedByLevel 68 = .ok (.iload 4, 2) := by decide +kernel
theorem dX4_isTiedByLevel_70 : decode cX4_isTiedByLevel 70 = .ok (.ifCond .ne 8, 3) := by decide +kernel
theorem dX4_isTiedByLevel_73 : decode cX4_isTiedByLevel 73 = .ok (.iload 5, 2) := by decide +kernel
theorem dX4_isTiedByLevel_75 : decode cX4_isTiedByLevel 75 = .ok (.ifCond .eq 7, 3) := by decide +kernel
theorem dX4_isTiedByLevel_78 : decode cX4_isTiedByLevel 78 = .ok (.iconst 1, 1) := by decide +kernel
theorem dX4_isTiedByLevel_79 : decode cX4_isTiedByLevel 79 = .ok (.goto 4, 3) := by decide +kernel
theorem dX4_isTiedByLevel_82 : decode cX4_isTiedByLevel 82 = .ok (.iconst 0, 1) := by decide +kernel
theorem dX4_isTiedByLevel_83 : decode cX4_isTiedByLevel 83 = .ok (.ireturn, 1) := by decide +kernel
def fX4_isTiedByLevel_37 (N : Nat) (Z : mZ) (v0 : Nat) (v2 : Int32) (v3 : Int32) (x0 : Int32) (M : mM) : Option (Int32 × mM) := ck (okO Z v0 4) (bnd1 (Z.2.2.2 v0 2) (fun c8 => bnd2 (fX8_at N Z c8 v3 M) (fun r9 M9 => if v2 ≤ r9 then if x0 = 0 then some ((0 : Int32), M9) else some ((1 : Int32), M9) else bnd2 (fX4_has N Z v0 (4 : Int32) v3 v2 M9) (fun r12 M12 => if r12 = 0 then if x0 = 0 then some ((0 : Int32), M12) else some ((1 : Int32), M12) else if x0 = 0 then some ((1 : Int32), M12) else some ((1 : Int32), M12)))))
set_option maxHeartbeats 4000000 in
set_option maxRecDepth 100000 in
theorem tX4_isTiedByLevel_37 {G : mG} {p : Program} {l : Launch} {e : Env} {s : State} {m : MethodId} {args : Array Value} {below : List Frame} {meth : Method} {c : Code} (C : Cx G p l s m args meth c RX4 cX4_isTiedByLevel 6 (some .boolean) []) (hnm : meth.name = yX4_isTiedByLevel.name) (N : Nat) (Z : mZ) : ∀ (v0 : Nat) (v2 : Int32) (v3 : Int32) (x0 : Int32) (M : mM) (r : Int32) (M' : mM), fX4_isTiedByLevel_37 N Z v0 v2 v3 x0 M = some (r, M') → JJ G p l e rmX4_isTiedByLevel s m args below meth c 6 (mEnd G below args s rmX4_isTiedByLevel (.inl (some (.int r))) Z M') 0 0 37 [(0, .ref v0), (2, .int v2), (3, .int v3)] [.int x0] Z M := by
  intro v0 v2 v3 x0 M r M' h
  unfold fX4_isTiedByLevel_37 at h
  refine j_istore C dX4_isTiedByLevel_37 (by decide) (L' := [(4, .int x0), (0, .ref v0), (2, .int v2), (3, .int v3)]) rfl ?_
  refine j_aload_n C dX4_isTiedByLevel_39 rfl 1 rfl ?_
  obtain ⟨ho7, h⟩ := ck_spec h
  obtain ⟨c8, hr8, h⟩ := bnd1_spec h
  refine j_getR C (cn := RX4) (T := TX4) (N := 7) (ci := 4) rfl iX4 ho7 2 (by decide) rfl fwRX4_18 dX4_isTiedByLevel_40 hr8 ?_
  refine j_iload_n C dX4_isTiedByLevel_43 rfl 3 rfl ?_
  obtain ⟨r9, M9, hq9, h⟩ := bnd2_spec h
  refine j_run1 (c_SN C (As := [.ref c8, .int v3]) (rest := []) (ctX8_at C.2.2.2.2.2.2.2.2.1 N Z hq9) kcRX4_41 oyX8_at ⟨by decide, by decide⟩ ⟨by decide, by decide⟩ (Nat.le_of_ble_eq_true rfl) rfl dX4_isTiedByLevel_44) ?_
  refine j_iload_n C dX4_isTiedByLevel_47 rfl 2 rfl ?_
  refine j_icmp_ge C dX4_isTiedByLevel_48 (tgt := 65) (by decide) (fun hc10 => ?_) (fun hc10 => ?_)
  · rw [if_pos hc10] at h
    refine j_iconst C dX4_isTiedByLevel_65 (v := (0 : Int32)) (by decide) ?_
    refine j_istore C dX4_isTiedByLevel_66 (by decide) (L' := [(5, .int (0 : Int32)), (4, .int x0), (0, .ref v0), (2, .int v2), (3, .int v3)]) rfl ?_
    refine j_iload C dX4_isTiedByLevel_68 1 rfl ?_
    refine j_if_ne C dX4_isTiedByLevel_70 (tgt := 78) (by decide) (fun hc11 => ?_) (fun hc11 => ?_)
    · rw [if_neg hc11] at h
      refine j_iconst C dX4_isTiedByLevel_78 (v := (1 : Int32)) (by decide) ?_
      refine j_goto C dX4_isTiedByLevel_79 (tgt := 83) (by decide) ?_
      cases h
      exact j_zret C rfl (by decide) (by decide) (by decide) dX4_isTiedByLevel_83
    · rw [if_pos hc11] at h
      refine j_iload C dX4_isTiedByLevel_73 0 rfl ?_
      refine j_if_eq C dX4_isTiedByLevel_75 (tgt := 82) (by decide) (fun _ => ?_) (fun hc => absurd hc (by decide))
      refine j_iconst C dX4_isTiedByLevel_82 (v := (0 : Int32)) (by decide) ?_
      cases h
      exact j_zret C rfl (by decide) (by decide) (by decide) dX4_isTiedByLevel_83
  · rw [if_neg hc10] at h
    refine j_aload_n C dX4_isTiedByLevel_51 rfl 1 rfl ?_
    refine j_iconst C dX4_isTiedByLevel_52 (v := (4 : Int32)) (by decide) ?_
    refine j_iload_n C dX4_isTiedByLevel_53 rfl 3 rfl ?_
    refine j_iload_n C dX4_isTiedByLevel_54 rfl 2 rfl ?_
    obtain ⟨r12, M12, hq12, h⟩ := bnd2_spec h
    refine j_run1 (c_V C (As := [.int (4 : Int32), .int v3, .int v2]) (rest := []) (ctX4_has C.2.2.2.2.2.2.2.2.1 N Z hq12) kcRX4_72 oyX4_has (ci := 4) (T := TX4) (N := 7) rfl (by decide) ho7 ⟨by decide, by decide⟩ ⟨by decide, by decide⟩ (Nat.le_of_ble_eq_true rfl) rfl dX4_isTiedByLevel_55) ?_
    refine j_if_eq C dX4_isTiedByLevel_58 (tgt := 65) (by decide) (fun hc13 => ?_) (fun hc13 => ?_)
    · rw [if_pos hc13] at h
      refine j_iconst C dX4_isTiedByLevel_65 (v := (0 : Int32)) (by decide) ?_
      refine j_istore C dX4_isTiedByLevel_66 (by decide) (L' := [(5, .int (0 : Int32)), (4, .int x0), (0, .ref v0), (2, .int v2), (3, .int v3)]) rfl ?_
      refine j_iload C dX4_isTiedByLevel_68 1 rfl ?_
      refine j_if_ne C dX4_isTiedByLevel_70 (tgt := 78) (by decide) (fun hc14 => ?_) (fun hc14 => ?_)
      · rw [if_neg hc14] at h
        refine j_iconst C dX4_isTiedByLevel_78 (v := (1 : Int32)) (by decide) ?_
        refine j_goto C dX4_isTiedByLevel_79 (tgt := 83) (by decide) ?_
        cases h
        exact j_zret C rfl (by decide) (by decide) (by decide) dX4_isTiedByLevel_83
      · rw [if_pos hc14] at h
        refine j_iload C dX4_isTiedByLevel_73 0 rfl ?_
        refine j_if_eq C dX4_isTiedByLevel_75 (tgt := 82) (by decide) (fun _ => ?_) (fun hc => absurd hc (by decide))
        refine j_iconst C dX4_isTiedByLevel_82 (v := (0 : Int32)) (by decide) ?_
        cases h
        exact j_zret C rfl (by decide) (by decide) (by decide) dX4_isTiedByLevel_83
    · rw [if_neg hc13] at h
      refine j_iconst C dX4_isTiedByLevel_61 (v := (1 : Int32)) (by decide) ?_
      refine j_goto C dX4_isTiedByLevel_62 (tgt := 66) (by decide) ?_
      refine j_istore C dX4_isTiedByLevel_66 (by decide) (L' := [(5, .int (1 : Int32)), (4, .int x0), (0, .ref v0), (2, .int v2), (3, .int v3)]) rfl ?_
      refine j_iload C dX4_isTiedByLevel_68 1 rfl ?_
      refine j_if_ne C dX4_isTiedByLevel_70 (tgt := 78) (by decide) (fun hc15 => ?_) (fun hc15 => ?_)
      · rw [if_neg hc15] at h
        refine j_iconst C dX4_isTiedByLevel_78 (v := (1 : Int32)) (by decide) ?_
        refine j_goto C dX4_isTiedByLevel_79 (tgt := 83) (by decide) ?_
        cases h
        exact j_zret C rfl (by decide) (by decide) (by decide) dX4_isTiedByLevel_83
      · rw [if_pos hc15] at h
        refine j_iload C dX4_isTiedByLevel_73 0 rfl ?_
        refine j_if_eq C dX4_isTiedByLevel_75 (tgt := 82) (by decide) (fun hc => absurd hc (by decide)) (fun _ => ?_)
        refine j_iconst C dX4_isTiedByLevel_78 (v := (1 : Int32)) (by decide) ?_
        refine j_goto C dX4_isTiedByLevel_79 (tgt := 83) (by decide) ?_
        cases h
        exact j_zret C rfl (by decide) (by decide) (by decide) dX4_isTiedByLevel_83
def fX4_isTiedByLevel (N : Nat) (Z : mZ) (a0 : Nat) (a1 : Int32) (a2 : Int32) (M : mM) : Option (Int32 × mM) := ck (okO Z a0 4) (bnd2 (fX4_placeAfter N Z a0 a1 M) (fun r2 M2 => bnd1 (Z.2.2.2 a0 2) (fun c3 => bnd2 (fX4_placeBefore N Z a0 a1 M2) (fun r4 M4 => bnd2 (fX8_at N Z c3 r4 M4) (fun r5 M5 => if a2 ≤ r5 then fX4_isTiedByLevel_37 N Z a0 a2 r2 (0 : Int32) M5 else bnd2 (fX4_has N Z a0 (4 : Int32) a1 a2 M5) (fun r16 M16 => if r16 = 0 then fX4_isTiedByLevel_37 N Z a0 a2 r2 (0 : Int32) M16 else fX4_isTiedByLevel_37 N Z a0 a2 r2 (1 : Int32) M16))))))
set_option maxHeartbeats 4000000 in
set_option maxRecDepth 100000 in
theorem ctX4_isTiedByLevel {G : mG} {l : Launch} (hl : l.stackTraces = false) (N : Nat) (Z : mZ) {a0 : Nat} {a1 : Int32} {a2 : Int32} {M : mM} {r : Int32} {M' : mM} (h : fX4_isTiedByLevel N Z a0 a1 a2 M = some (r, M')) : CT G l yX4_isTiedByLevel (.code yX4_isTiedByLevel cX4_isTiedByLevel 6 (some .boolean)) rmX4_isTiedByLevel [.ref a0, .int a1, .int a2] Z M (.inl (some (.int r))) Z M' := by
  unfold fX4_isTiedByLevel at h
  refine CT.of hl (by decide) (Nat.le_of_ble_eq_true rfl) ?_
  intro p e s m args below meth c C hnm
  refine j_sub (L' := [(0, .ref a0), (1, .int a1), (2, .int a2)]) [0, 1, 2] rfl ?_
  refine j_aload_n C dX4_isTiedByLevel_0 rfl 0 rfl ?_
  refine j_iload_n C dX4_isTiedByLevel_1 rfl 1 rfl ?_
  obtain ⟨ho1, h⟩ := ck_spec h
  obtain ⟨r2, M2, hq2, h⟩ := bnd2_spec h
  refine j_run1 (c_V C (As := [.int a1]) (rest := []) (ctX4_placeAfter C.2.2.2.2.2.2.2.2.1 N Z hq2) kcRX4_69 oyX4_placeAfter (ci := 4) (T := TX4) (N := 7) rfl (by decide) ho1 ⟨by decide, by decide⟩ ⟨by decide, by decide⟩ (Nat.le_of_ble_eq_true rfl) rfl dX4_isTiedByLevel_2) ?_
  refine j_istore_n C dX4_isTiedByLevel_5 rfl (by decide) (L' := [(3, .int r2), (0, .ref a0), (1, .int a1), (2, .int a2)]) rfl ?_
  refine j_aload_n C dX4_isTiedByLevel_6 rfl 1 rfl ?_
  obtain ⟨c3, hr3, h⟩ := bnd1_spec h
  refine j_getR C (cn := RX4) (T := TX4) (N := 7) (ci := 4) rfl iX4 ho1 2 (by decide) rfl fwRX4_18 dX4_isTiedByLevel_7 hr3 ?_
  refine j_aload_n C dX4_isTiedByLevel_10 rfl 1 rfl ?_
  refine j_iload_n C dX4_isTiedByLevel_11 rfl 2 rfl ?_
  obtain ⟨r4, M4, hq4, h⟩ := bnd2_spec h
  refine j_run1 (c_V C (As := [.int a1]) (rest := [.ref c3]) (ctX4_placeBefore C.2.2.2.2.2.2.2.2.1 N Z hq4) kcRX4_49 oyX4_placeBefore (ci := 4) (T := TX4) (N := 7) rfl (by decide) ho1 ⟨by decide, by decide⟩ ⟨by decide, by decide⟩ (Nat.le_of_ble_eq_true rfl) rfl dX4_isTiedByLevel_12) ?_
  obtain ⟨r5, M5, hq5, h⟩ := bnd2_spec h
  refine j_run1 (c_SN C (As := [.ref c3, .int r4]) (rest := []) (ctX8_at C.2.2.2.2.2.2.2.2.1 N Z hq5) kcRX4_41 oyX8_at ⟨by decide, by decide⟩ ⟨by decide, by decide⟩ (Nat.le_of_ble_eq_true rfl) rfl dX4_isTiedByLevel_15) ?_
  refine j_iload_n C dX4_isTiedByLevel_18 rfl 3 rfl ?_
  refine j_icmp_ge C dX4_isTiedByLevel_19 (tgt := 36) (by decide) (fun hc6 => ?_) (fun hc6 => ?_)
  · rw [if_pos hc6] at h
    refine j_iconst C dX4_isTiedByLevel_36 (v := (0 : Int32)) (by decide) ?_
    refine j_sub (L' := [(0, .ref a0), (2, .int a2), (3, .int r2)]) [1, 3, 0] rfl ?_
    exact tX4_isTiedByLevel_37 C hnm N Z a0 a2 r2 (0 : Int32) M5 _ _ h
  · rw [if_neg hc6] at h
    refine j_aload_n C dX4_isTiedByLevel_22 rfl 1 rfl ?_
    refine j_iconst C dX4_isTiedByLevel_23 (v := (4 : Int32)) (by decide) ?_
    refine j_iload_n C dX4_isTiedByLevel_24 rfl 2 rfl ?_
    refine j_iload_n C dX4_isTiedByLevel_25 rfl 3 rfl ?_
    obtain ⟨r16, M16, hq16, h⟩ := bnd2_spec h
    refine j_run1 (c_V C (As := [.int (4 : Int32), .int a1, .int a2]) (rest := []) (ctX4_has C.2.2.2.2.2.2.2.2.1 N Z hq16) kcRX4_72 oyX4_has (ci := 4) (T := TX4) (N := 7) rfl (by decide) ho1 ⟨by decide, by decide⟩ ⟨by decide, by decide⟩ (Nat.le_of_ble_eq_true rfl) rfl dX4_isTiedByLevel_26) ?_
    refine j_if_eq C dX4_isTiedByLevel_29 (tgt := 36) (by decide) (fun hc17 => ?_) (fun hc17 => ?_)
    · rw [if_pos hc17] at h
      refine j_iconst C dX4_isTiedByLevel_36 (v := (0 : Int32)) (by decide) ?_
      refine j_sub (L' := [(0, .ref a0), (2, .int a2), (3, .int r2)]) [1, 3, 0] rfl ?_
      exact tX4_isTiedByLevel_37 C hnm N Z a0 a2 r2 (0 : Int32) M16 _ _ h
    · rw [if_neg hc17] at h
      refine j_iconst C dX4_isTiedByLevel_32 (v := (1 : Int32)) (by decide) ?_
      refine j_goto C dX4_isTiedByLevel_33 (tgt := 37) (by decide) ?_
      refine j_sub (L' := [(0, .ref a0), (2, .int a2), (3, .int r2)]) [1, 3, 0] rfl ?_
      exact tX4_isTiedByLevel_37 C hnm N Z a0 a2 r2 (1 : Int32) M16 _ _ h
-- ScaffoldPlanner$Judge examinePiecesOfLevel
theorem kcRX3_96 : okV RX3 96 yX4_isTiedByLevel (.code yX4_isTiedByLevel cX4_isTiedByLevel 6 (some .boolean)) = true := by decide +kernel
theorem oyX4_isTiedByLevel : okY yX4_isTiedByLevel 2 := ⟨by decide +kernel, by decide +kernel, by decide +kernel⟩
abbrev rmX3_examinePiecesOfLevel : Room := { frames := 3, cells := 0, slots := 0, locals := 71 }
theorem dX3_examinePiecesOfLevel_0 : decode cX3_examinePiecesOfLevel 0 = .ok (.aload_n 1, 1) := by decide +kernel
theorem dX3_examinePiecesOfLevel_1 : decode cX3_examinePiecesOfLevel 1 = .ok (.iconst 2, 1) := by decide +kernel
theorem dX3_examinePiecesOfLevel_2 : decode cX3_examinePiecesOfLevel 2 = .ok (.aload_n 2, 1) := by decide +kernel
theorem dX3_examinePiecesOfLevel_3 : decode cX3_examinePiecesOfLevel 3 = .ok (.getfield 89, 3) := by decide +kernel
theorem dX3_examinePiecesOfLevel_6 : decode cX3_examinePiecesOfLevel 6 = .ok (.aload_n 2, 1) := by decide +kernel
theorem dX3_examinePiecesOfLevel_7 : decode cX3_examinePiecesOfLevel 7 = .ok (.getfield 83, 3) := by decide +kernel
theorem dX3_examinePiecesOfLevel_10 : decode cX3_examinePiecesOfLevel 10 = .ok (.invokevirtual 92, 3) := by decide +kernel
theorem dX3_examinePiecesOfLevel_13 : decode cX3_examinePiecesOfLevel 13 = .ok (.ifCond .eq 12, 3) := by decide +kernel
theorem dX3_examinePiecesOfLevel_16 : decode cX3_examinePiecesOfLevel 16 = .ok (.aload_n 0, 1) := by decide +kernel
theorem dX3_examinePiecesOfLevel_17 : decode cX3_examinePiecesOfLevel 17 = .ok (.iconst 3, 1) := by decide +kernel
theorem dX3_examinePiecesOfLevel_18 : decode cX3_examinePiecesOfLevel 18 = .ok (.iconst 2, 1) := by decide +kernel
theorem dX3_examinePiecesOfLevel_19 : decode cX3_examinePiecesOfLevel 19 = .ok (.invokevirtual 86, 3) := by decide +kernel
theorem dX3_examinePiecesOfLevel_22 : decode cX3_examinePiecesOfLevel 22 = .ok (.goto 74, 3) := by decide +kernel
theorem dX3_examinePiecesOfLevel_25 : decode cX3_examinePiecesOfLevel 25 = .ok (.aload_n 1, 1) := by decide +kernel
theorem dX3_examinePiecesOfLevel_26 : decode cX3_examinePiecesOfLevel 26 = .ok (.iconst 3, 1) := by decide +kernel
theorem dX3_examinePiecesOfLevel_27 : decode cX3_examinePiecesOfLevel 27 = .ok (.aload_n 2, 1) := by decide +kernel
theorem dX3_examinePiecesOfLevel_28 : decode cX3_examinePiecesOfLevel 28 = .ok (.getfield 89, 3) := by decide +kernel
theorem dX3_examinePiecesOfLevel_31 : decode cX3_examinePiecesOfLevel 31 = .ok (.aload_n 2, 1) := by decide +kernel
theorem dX3_examinePiecesOfLevel_32 : decode cX3_examinePiecesOfLevel 32 = .ok (.getfield 83, 3) := by decide +kernel
theorem dX3_examinePiecesOfLevel_35 : decode cX3_examinePiecesOfLevel 35 = .ok (.invokevirtual 92, 3) := by decide +kernel
theorem dX3_examinePiecesOfLevel_38 : decode cX3_examinePiecesOfLevel 38 = .ok (.ifCond .eq 12, 3) := by decide +kernel
theorem dX3_examinePiecesOfLevel_41 : decode cX3_examinePiecesOfLevel 41 = .ok (.aload_n 0, 1) := by decide +kernel
theorem dX3_examinePiecesOfLevel_42 : decode cX3_examinePiecesOfLevel 42 = .ok (.iconst 3, 1) := by decide +kernel
theorem dX3_examinePiecesOfLevel_43 : decode cX3_examinePiecesOfLevel 43 = .ok (.iconst 3, 1) := by decide +kernel
theorem dX3_examinePiecesOfLevel_44 : decode cX3_examinePiecesOfLevel 44 = .ok (.invokevirtual 86, 3) := by decide +kernel
theorem dX3_examinePiecesOfLevel_47 : decode cX3_examinePiecesOfLevel 47 = .ok (.goto 49, 3) := by decide +kernel
theorem dX3_examinePiecesOfLevel_50 : decode cX3_examinePiecesOfLevel 50 = .ok (.aload_n 1, 1) := by decide +kernel
theorem dX3_examinePiecesOfLevel_51 : decode cX3_examinePiecesOfLevel 51 = .ok (.aload_n 2, 1) := by decide +kernel
theorem dX3_examinePiecesOfLevel_52 : decode cX3_examinePiecesOfLevel 52 = .ok (.getfield 89, 3) := by decide +kernel
theorem dX3_examinePiecesOfLevel_55 : decode cX3_examinePiecesOfLevel 55 = .ok (.aload_n 2, 1) := by decide +kernel
theorem dX3_examinePiecesOfLevel_56 : decode cX3_examinePiecesOfLevel 56 = .ok (.getfield 83, 3) := by decide +kernel
theorem dX3_examinePiecesOfLevel_59 : decode cX3_examinePiecesOfLevel 59 = .ok (.invokevirtual 96, 3) := by decide +kernel
theorem dX3_examinePiecesOfLevel_62 : decode cX3_examinePiecesOfLevel 62 = .ok (.ifCond .eq 12, 3) := by decide +kernel
theorem dX3_examinePiecesOfLevel_65 : decode cX3_examinePiecesOfLevel 65 = .ok (.aload_n 0, 1) := by decide +kernel
theorem dX3_examinePiecesOfLevel_66 : decode cX3_examinePiecesOfLevel 66 = .ok (.iconst 3, 1) := by decide +kernel
theorem dX3_examinePiecesOfLevel_67 : decode cX3_examinePiecesOfLevel 67 = .ok (.iconst 4, 1) := by decide +kernel
theorem dX3_examinePiecesOfLevel_68 : decode cX3_examinePiecesOfLevel 68 = .ok (.invokevirtual 86, 3) := by decide +kernel
theorem dX3_examinePiecesOfLevel_71 : decode cX3_examinePiecesOfLevel 71 = .ok (.goto 25, 3) := by decide +kernel
theorem dX3_examinePiecesOfLevel_74 : decode cX3_examinePiecesOfLevel 74 = .ok (.aload_n 1, 1) := by decide +kernel
theorem dX3_examinePiecesOfLevel_75 : decode cX3_examinePiecesOfLevel 75 = .ok (.iconst 5, 1) := by decide +kernel
theorem dX3_examinePiecesOfLevel_76 : decode cX3_examinePiecesOfLevel 76 = .ok (.aload_n 2, 1) := by decide +kernel
theorem dX3_examinePiecesOfLevel_77 : decode cX3_examinePiecesOfLevel 77 = .ok (.getfield 89, 3) := by decide +kernel
theorem dX3_examinePiecesOfLevel_80 : decode cX3_examinePiecesOfLevel 80 = .ok (.aload_n 2, 1) := by decide +kernel
theorem dX3_examinePiecesOfLevel_81 : decode cX3_examinePiecesOfLevel 81 = .ok (.getfield 83, 3) := by decide +kernel
theorem dX3_examinePiecesOfLevel_84 : decode cX3_examinePiecesOfLevel 84 = .ok (.invokevirtual 92, 3) := by decide +kernel
theorem dX3_examinePiecesOfLevel_87 : decode cX3_examinePiecesOfLevel 87 = .ok (.ifCond .eq 9, 3) := by decide +kernel
theorem dX3_examinePiecesOfLevel_90 : decode cX3_examinePiecesOfLevel 90 = .ok (.aload_n 0, 1) := by decide +kernel
theorem dX3_examinePiecesOfLevel_91 : decode cX3_examinePiecesOfLevel 91 = .ok (.iconst 3, 1) := by decide +kernel
theorem dX3_examinePiecesOfLevel_92 : decode cX3_examinePiecesOfLevel 92 = .ok (.iconst 5, 1) := by decide +kernel
theorem dX3_examinePiecesOfLevel_93 : decode cX3_examinePiecesOfLevel 93 = .ok (.invokevirtual 86, 3) := by decide +kernel
theorem dX3_examinePiecesOfLevel_96 : decode cX3_examinePiecesOfLevel 96 = .ok (.return_, 1) := by decide +kernel
def fX3_examinePiecesOfLevel (N : Nat) (Z : mZ) (a0 : Nat) (a1 : Nat) (a2 : Nat) (M : mM) : Option (Unit × mM) := ck (okO Z a2 7) (ck (okO Z a1 4) (bnd2 (fX4_has N Z a1 (2 : Int32) (M.1 a2 1) (M.1 a2 2) M) (fun r3 M3 => if r3 = 0 then bnd2 (fX4_has N Z a1 (3 : Int32) (M3.1 a2 1) (M3.1 a2 2) M3) (fun r5 M5 => if r5 = 0 then bnd2 (fX4_isTiedByLevel N Z a1 (M5.1 a2 1) (M5.1 a2 2) M5) (fun r7 M7 => if r7 = 0 then bnd2 (fX4_has N Z a1 (5 : Int32) (M7.1 a2 1) (M7.1 a2 2) M7) (fun r9 M9 => if r9 = 0 then some ((), M9) else ck (okO Z a0 3) (bnd2 (fX3_refuse N Z a0 (3 : Int32) (5 : Int32) M9) (fun _ M12 => some ((), M12)))) else ck (okO Z a0 3) (bnd2 (fX3_refuse N Z a0 (3 : Int32) (4 : Int32) M7) (fun _ M14 => some ((), M14)))) else ck (okO Z a0 3) (bnd2 (fX3_refuse N Z a0 (3 : Int32) (3 : Int32) M5) (fun _ M16 => some ((), M16)))) else ck (okO Z a0 3) (bnd2 (fX3_refuse N Z a0 (3 : Int32) (2 : Int32) M3) (fun _ M18 => some ((), M18))))))
set_option maxHeartbeats 4000000 in
set_option maxRecDepth 100000 in
theorem ctX3_examinePiecesOfLevel {G : mG} {l : Launch} (hl : l.stackTraces = false) (N : Nat) (Z : mZ) {a0 : Nat} {a1 : Nat} {a2 : Nat} {M : mM} {r : Unit} {M' : mM} (h : fX3_examinePiecesOfLevel N Z a0 a1 a2 M = some (r, M')) : CT G l yX3_examinePiecesOfLevel (.code yX3_examinePiecesOfLevel cX3_examinePiecesOfLevel 3 none) rmX3_examinePiecesOfLevel [.ref a0, .ref a1, .ref a2] Z M (.inl none) Z M' := by
  unfold fX3_examinePiecesOfLevel at h
  refine CT.of hl (by decide) (Nat.le_of_ble_eq_true rfl) ?_
  intro p e s m args below meth c C hnm
  refine j_sub (L' := [(0, .ref a0), (1, .ref a1), (2, .ref a2)]) [0, 1, 2] rfl ?_
  refine j_aload_n C dX3_examinePiecesOfLevel_0 rfl 1 rfl ?_
  refine j_iconst C dX3_examinePiecesOfLevel_1 (v := (2 : Int32)) (by decide) ?_
  refine j_aload_n C dX3_examinePiecesOfLevel_2 rfl 2 rfl ?_
  obtain ⟨ho1, h⟩ := ck_spec h
  refine j_getI C (cn := RX7) (T := TX7) (N := 5) (ci := 7) rfl iX7 ho1 1 (by decide) rfl fwRX3_89 dX3_examinePiecesOfLevel_3 ?_
  refine j_aload_n C dX3_examinePiecesOfLevel_6 rfl 2 rfl ?_
  refine j_getI C (cn := RX7) (T := TX7) (N := 5) (ci := 7) rfl iX7 ho1 2 (by decide) rfl fwRX3_83 dX3_examinePiecesOfLevel_7 ?_
  obtain ⟨ho2, h⟩ := ck_spec h
  obtain ⟨r3, M3, hq3, h⟩ := bnd2_spec h
  refine j_run1 (c_V C (As := [.int (2 : Int32), .int (M.1 a2 1), .int (M.1 a2 2)]) (rest := []) (ctX4_has C.2.2.2.2.2.2.2.2.1 N Z hq3) kcRX3_92 oyX4_has (ci := 4) (T := TX4) (N := 7) rfl (by decide) ho2 ⟨by decide, by decide⟩ ⟨by decide, by decide⟩ (Nat.le_of_ble_eq_true rfl) rfl dX3_examinePiecesOfLevel_10) ?_
  refine j_if_eq C dX3_examinePiecesOfLevel_13 (tgt := 25) (by decide) (fun hc4 => ?_) (fun hc4 => ?_)
  · rw [if_pos hc4] at h
    refine j_aload_n C dX3_examinePiecesOfLevel_25 rfl 1 rfl ?_
    refine j_iconst C dX3_examinePiecesOfLevel_26 (v := (3 : Int32)) (by decide) ?_
    refine j_aload_n C dX3_examinePiecesOfLevel_27 rfl 2 rfl ?_
    refine j_getI C (cn := RX7) (T := TX7) (N := 5) (ci := 7) rfl iX7 ho1 1 (by decide) rfl fwRX3_89 dX3_examinePiecesOfLevel_28 ?_
    refine j_aload_n C dX3_examinePiecesOfLevel_31 rfl 2 rfl ?_
    refine j_getI C (cn := RX7) (T := TX7) (N := 5) (ci := 7) rfl iX7 ho1 2 (by decide) rfl fwRX3_83 dX3_examinePiecesOfLevel_32 ?_
    obtain ⟨r5, M5, hq5, h⟩ := bnd2_spec h
    refine j_run1 (c_V C (As := [.int (3 : Int32), .int (M3.1 a2 1), .int (M3.1 a2 2)]) (rest := []) (ctX4_has C.2.2.2.2.2.2.2.2.1 N Z hq5) kcRX3_92 oyX4_has (ci := 4) (T := TX4) (N := 7) rfl (by decide) ho2 ⟨by decide, by decide⟩ ⟨by decide, by decide⟩ (Nat.le_of_ble_eq_true rfl) rfl dX3_examinePiecesOfLevel_35) ?_
    refine j_if_eq C dX3_examinePiecesOfLevel_38 (tgt := 50) (by decide) (fun hc6 => ?_) (fun hc6 => ?_)
    · rw [if_pos hc6] at h
      refine j_aload_n C dX3_examinePiecesOfLevel_50 rfl 1 rfl ?_
      refine j_aload_n C dX3_examinePiecesOfLevel_51 rfl 2 rfl ?_
      refine j_getI C (cn := RX7) (T := TX7) (N := 5) (ci := 7) rfl iX7 ho1 1 (by decide) rfl fwRX3_89 dX3_examinePiecesOfLevel_52 ?_
      refine j_aload_n C dX3_examinePiecesOfLevel_55 rfl 2 rfl ?_
      refine j_getI C (cn := RX7) (T := TX7) (N := 5) (ci := 7) rfl iX7 ho1 2 (by decide) rfl fwRX3_83 dX3_examinePiecesOfLevel_56 ?_
      obtain ⟨r7, M7, hq7, h⟩ := bnd2_spec h
      refine j_run1 (c_V C (As := [.int (M5.1 a2 1), .int (M5.1 a2 2)]) (rest := []) (ctX4_isTiedByLevel C.2.2.2.2.2.2.2.2.1 N Z hq7) kcRX3_96 oyX4_isTiedByLevel (ci := 4) (T := TX4) (N := 7) rfl (by decide) ho2 ⟨by decide, by decide⟩ ⟨by decide, by decide⟩ (Nat.le_of_ble_eq_true rfl) rfl dX3_examinePiecesOfLevel_59) ?_
      refine j_if_eq C dX3_examinePiecesOfLevel_62 (tgt := 74) (by decide) (fun hc8 => ?_) (fun hc8 => ?_)
      · rw [if_pos hc8] at h
        refine j_aload_n C dX3_examinePiecesOfLevel_74 rfl 1 rfl ?_
        refine j_iconst C dX3_examinePiecesOfLevel_75 (v := (5 : Int32)) (by decide) ?_
        refine j_aload_n C dX3_examinePiecesOfLevel_76 rfl 2 rfl ?_
        refine j_getI C (cn := RX7) (T := TX7) (N := 5) (ci := 7) rfl iX7 ho1 1 (by decide) rfl fwRX3_89 dX3_examinePiecesOfLevel_77 ?_
        refine j_aload_n C dX3_examinePiecesOfLevel_80 rfl 2 rfl ?_
        refine j_getI C (cn := RX7) (T := TX7) (N := 5) (ci := 7) rfl iX7 ho1 2 (by decide) rfl fwRX3_83 dX3_examinePiecesOfLevel_81 ?_
        obtain ⟨r9, M9, hq9, h⟩ := bnd2_spec h
        refine j_run1 (c_V C (As := [.int (5 : Int32), .int (M7.1 a2 1), .int (M7.1 a2 2)]) (rest := []) (ctX4_has C.2.2.2.2.2.2.2.2.1 N Z hq9) kcRX3_92 oyX4_has (ci := 4) (T := TX4) (N := 7) rfl (by decide) ho2 ⟨by decide, by decide⟩ ⟨by decide, by decide⟩ (Nat.le_of_ble_eq_true rfl) rfl dX3_examinePiecesOfLevel_84) ?_
        refine j_if_eq C dX3_examinePiecesOfLevel_87 (tgt := 96) (by decide) (fun hc10 => ?_) (fun hc10 => ?_)
        · rw [if_pos hc10] at h
          cases h
          exact j_vret C rfl (by decide) (by decide) dX3_examinePiecesOfLevel_96
        · rw [if_neg hc10] at h
          refine j_aload_n C dX3_examinePiecesOfLevel_90 rfl 0 rfl ?_
          refine j_iconst C dX3_examinePiecesOfLevel_91 (v := (3 : Int32)) (by decide) ?_
          refine j_iconst C dX3_examinePiecesOfLevel_92 (v := (5 : Int32)) (by decide) ?_
          obtain ⟨ho11, h⟩ := ck_spec h
          obtain ⟨_, M12, hq12, h⟩ := bnd2_spec h
          refine j_run0 (c_V C (As := [.int (3 : Int32), .int (5 : Int32)]) (rest := []) (ctX3_refuse C.2.2.2.2.2.2.2.2.1 N Z hq12) kcRX3_86 oyX3_refuse (ci := 3) (T := TX3) (N := 3) rfl (by decide) ho11 ⟨by decide, by decide⟩ ⟨by decide, by decide⟩ (Nat.le_of_ble_eq_true rfl) rfl dX3_examinePiecesOfLevel_93) ?_
          cases h
          exact j_vret C rfl (by decide) (by decide) dX3_examinePiecesOfLevel_96
      · rw [if_neg hc8] at h
        refine j_aload_n C dX3_examinePiecesOfLevel_65 rfl 0 rfl ?_
        refine j_iconst C dX3_examinePiecesOfLevel_66 (v := (3 : Int32)) (by decide) ?_
        refine j_iconst C dX3_examinePiecesOfLevel_67 (v := (4 : Int32)) (by decide) ?_
        obtain ⟨ho13, h⟩ := ck_spec h
        obtain ⟨_, M14, hq14, h⟩ := bnd2_spec h
        refine j_run0 (c_V C (As := [.int (3 : Int32), .int (4 : Int32)]) (rest := []) (ctX3_refuse C.2.2.2.2.2.2.2.2.1 N Z hq14) kcRX3_86 oyX3_refuse (ci := 3) (T := TX3) (N := 3) rfl (by decide) ho13 ⟨by decide, by decide⟩ ⟨by decide, by decide⟩ (Nat.le_of_ble_eq_true rfl) rfl dX3_examinePiecesOfLevel_68) ?_
        refine j_goto C dX3_examinePiecesOfLevel_71 (tgt := 96) (by decide) ?_
        cases h
        exact j_vret C rfl (by decide) (by decide) dX3_examinePiecesOfLevel_96
    · rw [if_neg hc6] at h
      refine j_aload_n C dX3_examinePiecesOfLevel_41 rfl 0 rfl ?_
      refine j_iconst C dX3_examinePiecesOfLevel_42 (v := (3 : Int32)) (by decide) ?_
      refine j_iconst C dX3_examinePiecesOfLevel_43 (v := (3 : Int32)) (by decide) ?_
      obtain ⟨ho15, h⟩ := ck_spec h
      obtain ⟨_, M16, hq16, h⟩ := bnd2_spec h
      refine j_run0 (c_V C (As := [.int (3 : Int32), .int (3 : Int32)]) (rest := []) (ctX3_refuse C.2.2.2.2.2.2.2.2.1 N Z hq16) kcRX3_86 oyX3_refuse (ci := 3) (T := TX3) (N := 3) rfl (by decide) ho15 ⟨by decide, by decide⟩ ⟨by decide, by decide⟩ (Nat.le_of_ble_eq_true rfl) rfl dX3_examinePiecesOfLevel_44) ?_
      refine j_goto C dX3_examinePiecesOfLevel_47 (tgt := 96) (by decide) ?_
      cases h
      exact j_vret C rfl (by decide) (by decide) dX3_examinePiecesOfLevel_96
  · rw [if_neg hc4] at h
    refine j_aload_n C dX3_examinePiecesOfLevel_16 rfl 0 rfl ?_
    refine j_iconst C dX3_examinePiecesOfLevel_17 (v := (3 : Int32)) (by decide) ?_
    refine j_iconst C dX3_examinePiecesOfLevel_18 (v := (2 : Int32)) (by decide) ?_
    obtain ⟨ho17, h⟩ := ck_spec h
    obtain ⟨_, M18, hq18, h⟩ := bnd2_spec h
    refine j_run0 (c_V C (As := [.int (3 : Int32), .int (2 : Int32)]) (rest := []) (ctX3_refuse C.2.2.2.2.2.2.2.2.1 N Z hq18) kcRX3_86 oyX3_refuse (ci := 3) (T := TX3) (N := 3) rfl (by decide) ho17 ⟨by decide, by decide⟩ ⟨by decide, by decide⟩ (Nat.le_of_ble_eq_true rfl) rfl dX3_examinePiecesOfLevel_19) ?_
    refine j_goto C dX3_examinePiecesOfLevel_22 (tgt := 96) (by decide) ?_
    cases h
    exact j_vret C rfl (by decide) (by decide) dX3_examinePiecesOfLevel_96
-- ScaffoldPlanner$Ways isReached
abbrev rmX6_isReached : Room := { frames := 1, cells := 0, slots := 0, locals := 21 }
theorem dX6_isReached_0 : decode cX6_isReached 0 = .ok (.iload_n 2, 1) := by decide +kernel
theorem dX6_isReached_1 : decode cX6_isReached 1 = .ok (.iconst 1, 1) := by decide +kernel
theorem dX6_isReached_2 : decode cX6_isReached 2 = .ok (.if_icmp .lt 28, 3) := by decide +kernel
theorem dX6_isReached_5 : decode cX6_isReached 5 = .ok (.iload_n 2, 1) := by decide +kernel
theorem dX6_isReached_6 : decode cX6_isReached 6 = .ok (.bipush 6, 2) := by decide +kernel
theorem dX6_isReached_8 : decode cX6_isReached 8 = .ok (.if_icmp .gt 22, 3) := by decide +kernel
theorem dX6_isReached_11 : decode cX6_isReached 11 = .ok (.aload_n 0, 1) := by decide +kernel
theorem dX6_isReached_12 : decode cX6_isReached 12 = .ok (.getfield 9, 3) := by decide +kernel
theorem dX6_isReached_15 : decode cX6_isReached 15 = .ok (.iload_n 1, 1) := by decide +kernel
theorem dX6_isReached_16 : decode cX6_isReached 16 = .ok (.invokestatic 46, 3) := by decide +kernel
theorem dX6_isReached_19 : decode cX6_isReached 19 = .ok (.iload_n 2, 1) := by decide +kernel
theorem dX6_isReached_20 : decode cX6_isReached 20 = .ok (.ishr, 1) := by decide +kernel
theorem dX6_isReached_21 : decode cX6_isReached 21 = .ok (.iconst 1, 1) := by decide +kernel
theorem dX6_isReached_22 : decode cX6_isReached 22 = .ok (.iand, 1) := by decide +kernel
theorem dX6_isReached_23 : decode cX6_isReached 23 = .ok (.ifCond .eq 7, 3) := by decide +kernel
theorem dX6_isReached_26 : decode cX6_isReached 26 = .ok (.iconst 1, 1) := by decide +kernel
theorem dX6_isReached_27 : decode cX6_isReached 27 = .ok (.goto 4, 3) := by decide +kernel
theorem dX6_isReached_30 : decode cX6_isReached 30 = .ok (.iconst 0, 1) := by decide +kernel
theorem dX6_isReached_31 : decode cX6_isReached 31 = .ok (.ireturn, 1) := by decide +kernel
def fX6_isReached (N : Nat) (Z : mZ) (a0 : Nat) (a1 : Int32) (a2 : Int32) (M : mM) : Option (Int32 × mM) := if a2 < (1 : Int32) then some ((0 : Int32), M) else if (6 : Int32) < a2 then some ((0 : Int32), M) else ck (okO Z a0 6) (bnd1 (Z.2.2.2 a0 0) (fun c4 => bnd2 (fX8_at N Z c4 a1 M) (fun r5 M5 => if ((r5 >>> (a2 &&& 31)) &&& (1 : Int32)) = 0 then some ((0 : Int32), M5) else some ((1 : Int32), M5))))
set_option maxHeartbeats 4000000 in
set_option maxRecDepth 100000 in
theorem ctX6_isReached {G : mG} {l : Launch} (hl : l.stackTraces = false) (N : Nat) (Z : mZ) {a0 : Nat} {a1 : Int32} {a2 : Int32} {M : mM} {r : Int32} {M' : mM} (h : fX6_isReached N Z a0 a1 a2 M = some (r, M')) : CT G l yX6_isReached (.code yX6_isReached cX6_isReached 3 (some .boolean)) rmX6_isReached [.ref a0, .int a1, .int a2] Z M (.inl (some (.int r))) Z M' := by
  unfold fX6_isReached at h
  refine CT.of hl (by decide) (Nat.le_of_ble_eq_true rfl) ?_
  intro p e s m args below meth c C hnm
  refine j_sub (L' := [(0, .ref a0), (1, .int a1), (2, .int a2)]) [0, 1, 2] rfl ?_
  refine j_iload_n C dX6_isReached_0 rfl 2 rfl ?_
  refine j_iconst C dX6_isReached_1 (v := (1 : Int32)) (by decide) ?_
  refine j_icmp_lt C dX6_isReached_2 (tgt := 30) (by decide) (fun hc1 => ?_) (fun hc1 => ?_)
  · rw [if_pos hc1] at h
    refine j_iconst C dX6_isReached_30 (v := (0 : Int32)) (by decide) ?_
    cases h
    exact j_zret C rfl (by decide) (by decide) (by decide) dX6_isReached_31
  · rw [if_neg hc1] at h
    refine j_iload_n C dX6_isReached_5 rfl 2 rfl ?_
    refine j_bipush C dX6_isReached_6 (v := (6 : Int32)) (by decide) ?_
    refine j_icmp_gt C dX6_isReached_8 (tgt := 30) (by decide) (fun hc2 => ?_) (fun hc2 => ?_)
    · rw [if_pos hc2] at h
      refine j_iconst C dX6_isReached_30 (v := (0 : Int32)) (by decide) ?_
      cases h
      exact j_zret C rfl (by decide) (by decide) (by decide) dX6_isReached_31
    · rw [if_neg hc2] at h
      refine j_aload_n C dX6_isReached_11 rfl 0 rfl ?_
      obtain ⟨ho3, h⟩ := ck_spec h
      obtain ⟨c4, hr4, h⟩ := bnd1_spec h
      refine j_getR C (cn := RX6) (T := TX6) (N := 4) (ci := 6) rfl iX6 ho3 0 (by decide) rfl fwRX6_9 dX6_isReached_12 hr4 ?_
      refine j_iload_n C dX6_isReached_15 rfl 1 rfl ?_
      obtain ⟨r5, M5, hq5, h⟩ := bnd2_spec h
      refine j_run1 (c_SN C (As := [.ref c4, .int a1]) (rest := []) (ctX8_at C.2.2.2.2.2.2.2.2.1 N Z hq5) kcRX6_46 oyX8_at ⟨by decide, by decide⟩ ⟨by decide, by decide⟩ (Nat.le_of_ble_eq_true rfl) rfl dX6_isReached_16) ?_
      refine j_iload_n C dX6_isReached_19 rfl 2 rfl ?_
      refine j_ishr C dX6_isReached_20 ?_
      refine j_iconst C dX6_isReached_21 (v := (1 : Int32)) (by decide) ?_
      refine j_iand C dX6_isReached_22 ?_
      refine j_if_eq C dX6_isReached_23 (tgt := 30) (by decide) (fun hc6 => ?_) (fun hc6 => ?_)
      · rw [if_pos hc6] at h
        refine j_iconst C dX6_isReached_30 (v := (0 : Int32)) (by decide) ?_
        cases h
        exact j_zret C rfl (by decide) (by decide) (by decide) dX6_isReached_31
      · rw [if_neg hc6] at h
        refine j_iconst C dX6_isReached_26 (v := (1 : Int32)) (by decide) ?_
        refine j_goto C dX6_isReached_27 (tgt := 31) (by decide) ?_
        cases h
        exact j_zret C rfl (by decide) (by decide) (by decide) dX6_isReached_31
-- ScaffoldPlanner$Judge examineStanding
theorem kcRX3_100 : okV RX3 100 yX6_isReached (.code yX6_isReached cX6_isReached 3 (some .boolean)) = true := by decide +kernel
theorem oyX6_isReached : okY yX6_isReached 2 := ⟨by decide +kernel, by decide +kernel, by decide +kernel⟩
theorem kcRX3_105 : okV RX3 105 yX4_placeBefore (.code yX4_placeBefore cX4_placeBefore 2 (some .int)) = true := by decide +kernel
abbrev rmX3_examineStanding : Room := { frames := 2, cells := 0, slots := 0, locals := 43 }
theorem dX3_examineStanding_0 : decode cX3_examineStanding 0 = .ok (.aload_n 3, 1) := by decide +kernel
theorem dX3_examineStanding_1 : decode cX3_examineStanding 1 = .ok (.getfield 83, 3) := by decide +kernel
theorem dX3_examineStanding_4 : decode cX3_examineStanding 4 = .ok (.iconst 1, 1) := by decide +kernel
theorem dX3_examineStanding_5 : decode cX3_examineStanding 5 = .ok (.isub, 1) := by decide +kernel
theorem dX3_examineStanding_6 : decode cX3_examineStanding 6 = .ok (.istore 4, 2) := by decide +kernel
theorem dX3_examineStanding_8 : decode cX3_examineStanding 8 = .ok (.iload 4, 2) := by decide +kernel
theorem dX3_examineStanding_10 : decode cX3_examineStanding 10 = .ok (.ifCond .eq 16, 3) := by decide +kernel
theorem dX3_examineStanding_13 : decode cX3_examineStanding 13 = .ok (.aload_n 2, 1) := by decide +kernel
theorem dX3_examineStanding_14 : decode cX3_examineStanding 14 = .ok (.aload_n 3, 1) := by decide +kernel
theorem dX3_examineStanding_15 : decode cX3_examineStanding 15 = .ok (.getfield 89, 3) := by decide +kernel
theorem dX3_examineStanding_18 : decode cX3_examineStanding 18 = .ok (.iload 4, 2) := by decide +kernel
theorem dX3_examineStanding_20 : decode cX3_examineStanding 20 = .ok (.invokevirtual 100, 3) := by decide +kernel
theorem dX3_examineStanding_23 : decode cX3_examineStanding 23 = .ok (.ifCond .eq 4, 3) := by decide +kernel
theorem dX3_examineStanding_26 : decode cX3_examineStanding 26 = .ok (.return_, 1) := by decide +kernel
theorem dX3_examineStanding_27 : decode cX3_examineStanding 27 = .ok (.aload_n 3, 1) := by decide +kernel
theorem dX3_examineStanding_28 : decode cX3_examineStanding 28 = .ok (.getfield 29, 3) := by decide +kernel
theorem dX3_examineStanding_31 : decode cX3_examineStanding 31 = .ok (.iconst 4, 1) := by decide +kernel
theorem dX3_examineStanding_32 : decode cX3_examineStanding 32 = .ok (.if_icmp .ne 21, 3) := by decide +kernel
theorem dX3_examineStanding_35 : decode cX3_examineStanding 35 = .ok (.aload_n 2, 1) := by decide +kernel
theorem dX3_examineStanding_36 : decode cX3_examineStanding 36 = .ok (.aload_n 1, 1) := by decide +kernel
theorem dX3_examineStanding_37 : decode cX3_examineStanding 37 = .ok (.aload_n 3, 1) := by decide +kernel
theorem dX3_examineStanding_38 : decode cX3_examineStanding 38 = .ok (.getfield 89, 3) := by decide +kernel
theorem dX3_examineStanding_41 : decode cX3_examineStanding 41 = .ok (.invokevirtual 105, 3) := by decide +kernel
theorem dX3_examineStanding_44 : decode cX3_examineStanding 44 = .ok (.iload 4, 2) := by decide +kernel
theorem dX3_examineStanding_46 : decode cX3_examineStanding 46 = .ok (.invokevirtual 100, 3) := by decide +kernel
theorem dX3_examineStanding_49 : decode cX3_examineStanding 49 = .ok (.ifCond .eq 4, 3) := by decide +kernel
theorem dX3_examineStanding_52 : decode cX3_examineStanding 52 = .ok (.return_, 1) := by decide +kernel
theorem dX3_examineStanding_53 : decode cX3_examineStanding 53 = .ok (.aload_n 0, 1) := by decide +kernel
theorem dX3_examineStanding_54 : decode cX3_examineStanding 54 = .ok (.iconst 4, 1) := by decide +kernel
theorem dX3_examineStanding_55 : decode cX3_examineStanding 55 = .ok (.aload_n 3, 1) := by decide +kernel
theorem dX3_examineStanding_56 : decode cX3_examineStanding 56 = .ok (.getfield 83, 3) := by decide +kernel
theorem dX3_examineStanding_59 : decode cX3_examineStanding 59 = .ok (.invokevirtual 86, 3) := by decide +kernel
theorem dX3_examineStanding_62 : decode cX3_examineStanding 62 = .ok (.return_, 1) := by decide +kernel
def fX3_examineStanding (N : Nat) (Z : mZ) (a0 : Nat) (a1 : Nat) (a2 : Nat) (a3 : Nat) (M : mM) : Option (Unit × mM) := ck (okO Z a3 7) (if ((M.1 a3 2) - (1 : Int32)) = 0 then some ((), M) else ck (okO Z a2 6) (bnd2 (fX6_isReached N Z a2 (M.1 a3 1) ((M.1 a3 2) - (1 : Int32)) M) (fun r4 M4 => if r4 = 0 then if (M4.1 a3 0) = (4 : Int32) then ck (okO Z a1 4) (bnd2 (fX4_placeBefore N Z a1 (M4.1 a3 1) M4) (fun r8 M8 => bnd2 (fX6_isReached N Z a2 r8 ((M.1 a3 2) - (1 : Int32)) M8) (fun r9 M9 => if r9 = 0 then ck (okO Z a0 3) (bnd2 (fX3_refuse N Z a0 (4 : Int32) (M9.1 a3 2) M9) (fun _ M12 => some ((), M12))) else some ((), M9)))) else ck (okO Z a0 3) (bnd2 (fX3_refuse N Z a0 (4 : Int32) (M4.1 a3 2) M4) (fun _ M14 => some ((), M14))) else some ((), M4))))
set_option maxHeartbeats 4000000 in
set_option maxRecDepth 100000 in
theorem ctX3_examineStanding {G : mG} {l : Launch} (hl : l.stackTraces = false) (N : Nat) (Z : mZ) {a0 : Nat} {a1 : Nat} {a2 : Nat} {a3 : Nat} {M : mM} {r : Unit} {M' : mM} (h : fX3_examineStanding N Z a0 a1 a2 a3 M = some (r, M')) : CT G l yX3_examineStanding (.code yX3_examineStanding cX3_examineStanding 5 none) rmX3_examineStanding [.ref a0, .ref a1, .ref a2, .ref a3] Z M (.inl none) Z M' := by
  unfold fX3_examineStanding at h
  refine CT.of hl (by decide) (Nat.le_of_ble_eq_true rfl) ?_
  intro p e s m args below meth c C hnm
  refine j_sub (L' := [(0, .ref a0), (1, .ref a1), (2, .ref a2), (3, .ref a3)]) [0, 1, 2, 3] rfl ?_
  refine j_aload_n C dX3_examineStanding_0 rfl 3 rfl ?_
  obtain ⟨ho1, h⟩ := ck_spec h
  refine j_getI C (cn := RX7) (T := TX7) (N := 5) (ci := 7) rfl iX7 ho1 2 (by decide) rfl fwRX3_83 dX3_examineStanding_1 ?_
  refine j_iconst C dX3_examineStanding_4 (v := (1 : Int32)) (by decide) ?_
  refine j_isub C dX3_examineStanding_5 ?_
  refine j_istore C dX3_examineStanding_6 (by decide) (L' := [(4, .int ((M.1 a3 2) - (1 : Int32))), (0, .ref a0), (1, .ref a1), (2, .ref a2), (3, .ref a3)]) rfl ?_
  refine j_iload C dX3_examineStanding_8 0 rfl ?_
  refine j_if_eq C dX3_examineStanding_10 (tgt := 26) (by decide) (fun hc2 => ?_) (fun hc2 => ?_)
  · rw [if_pos hc2] at h
    cases h
    exact j_vret C rfl (by decide) (by decide) dX3_examineStanding_26
  · rw [if_neg hc2] at h
    refine j_aload_n C dX3_examineStanding_13 rfl 3 rfl ?_
    refine j_aload_n C dX3_examineStanding_14 rfl 4 rfl ?_
    refine j_getI C (cn := RX7) (T := TX7) (N := 5) (ci := 7) rfl iX7 ho1 1 (by decide) rfl fwRX3_89 dX3_examineStanding_15 ?_
    refine j_iload C dX3_examineStanding_18 0 rfl ?_
    obtain ⟨ho3, h⟩ := ck_spec h
    obtain ⟨r4, M4, hq4, h⟩ := bnd2_spec h
    refine j_run1 (c_V C (As := [.int (M.1 a3 1), .int ((M.1 a3 2) - (1 : Int32))]) (rest := []) (ctX6_isReached C.2.2.2.2.2.2.2.2.1 N Z hq4) kcRX3_100 oyX6_isReached (ci := 6) (T := TX6) (N := 4) rfl (by decide) ho3 ⟨by decide, by decide⟩ ⟨by decide, by decide⟩ (Nat.le_of_ble_eq_true rfl) rfl dX3_examineStanding_20) ?_
    refine j_if_eq C dX3_examineStanding_23 (tgt := 27) (by decide) (fun hc5 => ?_) (fun hc5 => ?_)
    · rw [if_pos hc5] at h
      refine j_aload_n C dX3_examineStanding_27 rfl 4 rfl ?_
      refine j_getI C (cn := RX7) (T := TX7) (N := 5) (ci := 7) rfl iX7 ho1 0 (by decide) rfl fwRX3_29 dX3_examineStanding_28 ?_
      refine j_iconst C dX3_examineStanding_31 (v := (4 : Int32)) (by decide) ?_
      refine j_icmp_ne C dX3_examineStanding_32 (tgt := 53) (by decide) (fun hc6 => ?_) (fun hc6 => ?_)
      · rw [if_neg hc6] at h
        refine j_aload_n C dX3_examineStanding_53 rfl 1 rfl ?_
        refine j_iconst C dX3_examineStanding_54 (v := (4 : Int32)) (by decide) ?_
        refine j_aload_n C dX3_examineStanding_55 rfl 4 rfl ?_
        refine j_getI C (cn := RX7) (T := TX7) (N := 5) (ci := 7) rfl iX7 ho1 2 (by decide) rfl fwRX3_83 dX3_examineStanding_56 ?_
        obtain ⟨ho13, h⟩ := ck_spec h
        obtain ⟨_, M14, hq14, h⟩ := bnd2_spec h
        refine j_run0 (c_V C (As := [.int (4 : Int32), .int (M4.1 a3 2)]) (rest := []) (ctX3_refuse C.2.2.2.2.2.2.2.2.1 N Z hq14) kcRX3_86 oyX3_refuse (ci := 3) (T := TX3) (N := 3) rfl (by decide) ho13 ⟨by decide, by decide⟩ ⟨by decide, by decide⟩ (Nat.le_of_ble_eq_true rfl) rfl dX3_examineStanding_59) ?_
        cases h
        exact j_vret C rfl (by decide) (by decide) dX3_examineStanding_62
      · rw [if_pos hc6] at h
        refine j_aload_n C dX3_examineStanding_35 rfl 3 rfl ?_
        refine j_aload_n C dX3_examineStanding_36 rfl 2 rfl ?_
        refine j_aload_n C dX3_examineStanding_37 rfl 4 rfl ?_
        refine j_getI C (cn := RX7) (T := TX7) (N := 5) (ci := 7) rfl iX7 ho1 1 (by decide) rfl fwRX3_89 dX3_examineStanding_38 ?_
        obtain ⟨ho7, h⟩ := ck_spec h
        obtain ⟨r8, M8, hq8, h⟩ := bnd2_spec h
        refine j_run1 (c_V C (As := [.int (M4.1 a3 1)]) (rest := [.ref a2]) (ctX4_placeBefore C.2.2.2.2.2.2.2.2.1 N Z hq8) kcRX3_105 oyX4_placeBefore (ci := 4) (T := TX4) (N := 7) rfl (by decide) ho7 ⟨by decide, by decide⟩ ⟨by decide, by decide⟩ (Nat.le_of_ble_eq_true rfl) rfl dX3_examineStanding_41) ?_
        refine j_iload C dX3_examineStanding_44 0 rfl ?_
        obtain ⟨r9, M9, hq9, h⟩ := bnd2_spec h
        refine j_run1 (c_V C (As := [.int r8, .int ((M.1 a3 2) - (1 : Int32))]) (rest := []) (ctX6_isReached C.2.2.2.2.2.2.2.2.1 N Z hq9) kcRX3_100 oyX6_isReached (ci := 6) (T := TX6) (N := 4) rfl (by decide) ho3 ⟨by decide, by decide⟩ ⟨by decide, by decide⟩ (Nat.le_of_ble_eq_true rfl) rfl dX3_examineStanding_46) ?_
        refine j_if_eq C dX3_examineStanding_49 (tgt := 53) (by decide) (fun hc10 => ?_) (fun hc10 => ?_)
        · rw [if_pos hc10] at h
          refine j_aload_n C dX3_examineStanding_53 rfl 1 rfl ?_
          refine j_iconst C dX3_examineStanding_54 (v := (4 : Int32)) (by decide) ?_
          refine j_aload_n C dX3_examineStanding_55 rfl 4 rfl ?_
          refine j_getI C (cn := RX7) (T := TX7) (N := 5) (ci := 7) rfl iX7 ho1 2 (by decide) rfl fwRX3_83 dX3_examineStanding_56 ?_
          obtain ⟨ho11, h⟩ := ck_spec h
          obtain ⟨_, M12, hq12, h⟩ := bnd2_spec h
          refine j_run0 (c_V C (As := [.int (4 : Int32), .int (M9.1 a3 2)]) (rest := []) (ctX3_refuse C.2.2.2.2.2.2.2.2.1 N Z hq12) kcRX3_86 oyX3_refuse (ci := 3) (T := TX3) (N := 3) rfl (by decide) ho11 ⟨by decide, by decide⟩ ⟨by decide, by decide⟩ (Nat.le_of_ble_eq_true rfl) rfl dX3_examineStanding_59) ?_
          cases h
          exact j_vret C rfl (by decide) (by decide) dX3_examineStanding_62
        · rw [if_neg hc10] at h
          cases h
          exact j_vret C rfl (by decide) (by decide) dX3_examineStanding_52
    · rw [if_neg hc5] at h
      cases h
      exact j_vret C rfl (by decide) (by decide) dX3_examineStanding_26
-- ScaffoldPlanner$Plan postsByLevel
abbrev rmX4_postsByLevel : Room := { frames := 1, cells := 0, slots := 0, locals := 21 }
theorem dX4_postsByLevel_0 : decode cX4_postsByLevel 0 = .ok (.aload_n 0, 1) := by decide +kernel
theorem dX4_postsByLevel_1 : decode cX4_postsByLevel 1 = .ok (.getfield 18, 3) := by decide +kernel
theorem dX4_postsByLevel_4 : decode cX4_postsByLevel 4 = .ok (.aload_n 0, 1) := by decide +kernel
theorem dX4_postsByLevel_5 : decode cX4_postsByLevel 5 = .ok (.iload_n 1, 1) := by decide +kernel
theorem dX4_postsByLevel_6 : decode cX4_postsByLevel 6 = .ok (.invokevirtual 49, 3) := by decide +kernel
theorem dX4_postsByLevel_9 : decode cX4_postsByLevel 9 = .ok (.invokestatic 41, 3) := by decide +kernel
theorem dX4_postsByLevel_12 : decode cX4_postsByLevel 12 = .ok (.iload_n 2, 1) := by decide +kernel
theorem dX4_postsByLevel_13 : decode cX4_postsByLevel 13 = .ok (.if_icmp .ge 7, 3) := by decide +kernel
theorem dX4_postsByLevel_16 : decode cX4_postsByLevel 16 = .ok (.iconst 1, 1) := by decide +kernel
theorem dX4_postsByLevel_17 : decode cX4_postsByLevel 17 = .ok (.goto 4, 3) := by decide +kernel
theorem dX4_postsByLevel_20 : decode cX4_postsByLevel 20 = .ok (.iconst 0, 1) := by decide +kernel
theorem dX4_postsByLevel_21 : decode cX4_postsByLevel 21 = .ok (.istore_n 3, 1) := by decide +kernel
theorem dX4_postsByLevel_22 : decode cX4_postsByLevel 22 = .ok (.aload_n 0, 1) := by decide +kernel
theorem dX4_postsByLevel_23 : decode cX4_postsByLevel 23 = .ok (.getfield 18, 3) := by decide +kernel
theorem dX4_postsByLevel_26 : decode cX4_postsByLevel 26 = .ok (.aload_n 0, 1) := by decide +kernel
theorem dX4_postsByLevel_27 : decode cX4_postsByLevel 27 = .ok (.iload_n 1, 1) := by decide +kernel
theorem dX4_postsByLevel_28 : decode cX4_postsByLevel 28 = .ok (.invokevirtual 69, 3) := by decide +kernel
theorem dX4_postsByLevel_31 : decode cX4_postsByLevel 31 = .ok (.invokestatic 41, 3) := by decide +kernel
theorem dX4_postsByLevel_34 : decode cX4_postsByLevel 34 = .ok (.iload_n 2, 1) := by decide +kernel
theorem dX4_postsByLevel_35 : decode cX4_postsByLevel 35 = .ok (.if_icmp .ge 7, 3) := by decide +kernel
theorem dX4_postsByLevel_38 : decode cX4_postsByLevel 38 = .ok (.iconst 1, 1) := by decide +kernel
theorem dX4_postsByLevel_39 : decode cX4_postsByLevel 39 = .ok (.goto 4, 3) := by decide +kernel
theorem dX4_postsByLevel_42 : decode cX4_postsByLevel 42 = .ok (.iconst 0, 1) := by decide +kernel
theorem dX4_postsByLevel_43 : decode cX4_postsByLevel 43 = .ok (.istore 4, 2) := by decide +kernel
theorem dX4_postsByLevel_45 : decode cX4_postsByLevel 45 = .ok (.iload_n 3, 1) := by decide +kernel
theorem dX4_postsByLevel_46 : decode cX4_postsByLevel 46 = .ok (.iload 4, 2) := by decide +kernel
theorem dX4_postsByLevel_48 : decode cX4_postsByLevel 48 = .ok (.iadd, 1) := by decide +kernel
theorem dX4_postsByLevel_49 : decode cX4_postsByLevel 49 = .ok (.ireturn, 1) := by decide +kernel
def fX4_postsByLevel_21 (N : Nat) (Z : mZ) (v0 : Nat) (v1 : Int32) (v2 : Int32) (x0 : Int32) (M : mM) : Option (Int32 × mM) := ck (okO Z v0 4) (bnd1 (Z.2.2.2 v0 2) (fun c7 => bnd2 (fX4_placeAfter N Z v0 v1 M) (fun r8 M8 => bnd2 (fX8_at N Z c7 r8 M8) (fun r9 M9 => if v2 ≤ r9 then some ((x0 + (0 : Int32)), M9) else some ((x0 + (1 : Int32)), M9)))))
set_option maxHeartbeats 4000000 in
set_option maxRecDepth 100000 in
theorem tX4_postsByLevel_21 {G : mG} {p : Program} {l : Launch} {e : Env} {s : State} {m : MethodId} {args : Array Value} {below : List Frame} {meth : Method} {c : Code} (C : Cx G p l s m args meth c RX4 cX4_postsByLevel 5 (some .int) []) (hnm : meth.name = yX4_postsByLevel.name) (N : Nat) (Z : mZ) : ∀ (v0 : Nat) (v1 : Int32) (v2 : Int32) (x0 : Int32) (M : mM) (r : Int32) (M' : mM), fX4_postsByLevel_21 N Z v0 v1 v2 x0 M = some (r, M') → JJ G p l e rmX4_postsByLevel s m args below meth c 5 (mEnd G below args s rmX4_postsByLevel (.inl (some (.int r))) Z M') 0 0 21 [(0, .ref v0), (1, .int v1), (2, .int v2)] [.int x0] Z M := by
  intro v0 v1 v2 x0 M r M' h
  unfold fX4_postsByLevel_21 at h
  refine j_istore_n C dX4_postsByLevel_21 rfl (by decide) (L' := [(3, .int x0), (0, .ref v0), (1, .int v1), (2, .int v2)]) rfl ?_
  refine j_aload_n C dX4_postsByLevel_22 rfl 1 rfl ?_
  obtain ⟨ho6, h⟩ := ck_spec h
  obtain ⟨c7, hr7, h⟩ := bnd1_spec h
  refine j_getR C (cn := RX4) (T := TX4) (N := 7) (ci := 4) rfl iX4 ho6 2 (by decide) rfl fwRX4_18 dX4_postsByLevel_23 hr7 ?_
  refine j_aload_n C dX4_postsByLevel_26 rfl 1 rfl ?_
  refine j_iload_n C dX4_postsByLevel_27 rfl 2 rfl ?_
  obtain ⟨r8, M8, hq8, h⟩ := bnd2_spec h
  refine j_run1 (c_V C (As := [.int v1]) (rest := [.ref c7]) (ctX4_placeAfter C.2.2.2.2.2.2.2.2.1 N Z hq8) kcRX4_69 oyX4_placeAfter (ci := 4) (T := TX4) (N := 7) rfl (by decide) ho6 ⟨by decide, by decide⟩ ⟨by decide, by decide⟩ (Nat.le_of_ble_eq_true rfl) rfl dX4_postsByLevel_28) ?_
  obtain ⟨r9, M9, hq9, h⟩ := bnd2_spec h
  refine j_run1 (c_SN C (As := [.ref c7, .int r8]) (rest := []) (ctX8_at C.2.2.2.2.2.2.2.2.1 N Z hq9) kcRX4_41 oyX8_at ⟨by decide, by decide⟩ ⟨by decide, by decide⟩ (Nat.le_of_ble_eq_true rfl) rfl dX4_postsByLevel_31) ?_
  refine j_iload_n C dX4_postsByLevel_34 rfl 3 rfl ?_
  refine j_icmp_ge C dX4_postsByLevel_35 (tgt := 42) (by decide) (fun hc10 => ?_) (fun hc10 => ?_)
  · rw [if_pos hc10] at h
    refine j_iconst C dX4_postsByLevel_42 (v := (0 : Int32)) (by decide) ?_
    refine j_istore C dX4_postsByLevel_43 (by decide) (L' := [(4, .int (0 : Int32)), (3, .int x0), (0, .ref v0), (1, .int v1), (2, .int v2)]) rfl ?_
    refine j_iload_n C dX4_postsByLevel_45 rfl 1 rfl ?_
    refine j_iload C dX4_postsByLevel_46 0 rfl ?_
    refine j_iadd C dX4_postsByLevel_48 ?_
    cases h
    exact j_iret C rfl (by decide) (by decide) dX4_postsByLevel_49
  · rw [if_neg hc10] at h
    refine j_iconst C dX4_postsByLevel_38 (v := (1 : Int32)) (by decide) ?_
    refine j_goto C dX4_postsByLevel_39 (tgt := 43) (by decide) ?_
    refine j_istore C dX4_postsByLevel_43 (by decide) (L' := [(4, .int (1 : Int32)), (3, .int x0), (0, .ref v0), (1, .int v1), (2, .int v2)]) rfl ?_
    refine j_iload_n C dX4_postsByLevel_45 rfl 1 rfl ?_
    refine j_iload C dX4_postsByLevel_46 0 rfl ?_
    refine j_iadd C dX4_postsByLevel_48 ?_
    cases h
    exact j_iret C rfl (by decide) (by decide) dX4_postsByLevel_49
def fX4_postsByLevel (N : Nat) (Z : mZ) (a0 : Nat) (a1 : Int32) (a2 : Int32) (M : mM) : Option (Int32 × mM) := ck (okO Z a0 4) (bnd1 (Z.2.2.2 a0 2) (fun c2 => bnd2 (fX4_placeBefore N Z a0 a1 M) (fun r3 M3 => bnd2 (fX8_at N Z c2 r3 M3) (fun r4 M4 => if a2 ≤ r4 then fX4_postsByLevel_21 N Z a0 a1 a2 (0 : Int32) M4 else fX4_postsByLevel_21 N Z a0 a1 a2 (1 : Int32) M4))))
set_option maxHeartbeats 4000000 in
set_option maxRecDepth 100000 in
theorem ctX4_postsByLevel {G : mG} {l : Launch} (hl : l.stackTraces = false) (N : Nat) (Z : mZ) {a0 : Nat} {a1 : Int32} {a2 : Int32} {M : mM} {r : Int32} {M' : mM} (h : fX4_postsByLevel N Z a0 a1 a2 M = some (r, M')) : CT G l yX4_postsByLevel (.code yX4_postsByLevel cX4_postsByLevel 5 (some .int)) rmX4_postsByLevel [.ref a0, .int a1, .int a2] Z M (.inl (some (.int r))) Z M' := by
  unfold fX4_postsByLevel at h
  refine CT.of hl (by decide) (Nat.le_of_ble_eq_true rfl) ?_
  intro p e s m args below meth c C hnm
  refine j_sub (L' := [(0, .ref a0), (1, .int a1), (2, .int a2)]) [0, 1, 2] rfl ?_
  refine j_aload_n C dX4_postsByLevel_0 rfl 0 rfl ?_
  obtain ⟨ho1, h⟩ := ck_spec h
  obtain ⟨c2, hr2, h⟩ := bnd1_spec h
  refine j_getR C (cn := RX4) (T := TX4) (N := 7) (ci := 4) rfl iX4 ho1 2 (by decide) rfl fwRX4_18 dX4_postsByLevel_1 hr2 ?_
  refine j_aload_n C dX4_postsByLevel_4 rfl 0 rfl ?_
  refine j_iload_n C dX4_postsByLevel_5 rfl 1 rfl ?_
  obtain ⟨r3, M3, hq3, h⟩ := bnd2_spec h
  refine j_run1 (c_V C (As := [.int a1]) (rest := [.ref c2]) (ctX4_placeBefore C.2.2.2.2.2.2.2.2.1 N Z hq3) kcRX4_49 oyX4_placeBefore (ci := 4) (T := TX4) (N := 7) rfl (by decide) ho1 ⟨by decide, by decide⟩ ⟨by decide, by decide⟩ (Nat.le_of_ble_eq_true rfl) rfl dX4_postsByLevel_6) ?_
  obtain ⟨r4, M4, hq4, h⟩ := bnd2_spec h
  refine j_run1 (c_SN C (As := [.ref c2, .int r3]) (rest := []) (ctX8_at C.2.2.2.2.2.2.2.2.1 N Z hq4) kcRX4_41 oyX8_at ⟨by decide, by decide⟩ ⟨by decide, by decide⟩ (Nat.le_of_ble_eq_true rfl) rfl dX4_postsByLevel_9) ?_
  refine j_iload_n C dX4_postsByLevel_12 rfl 2 rfl ?_
  refine j_icmp_ge C dX4_postsByLevel_13 (tgt := 20) (by decide) (fun hc5 => ?_) (fun hc5 => ?_)
  · rw [if_pos hc5] at h
    refine j_iconst C dX4_postsByLevel_20 (v := (0 : Int32)) (by decide) ?_
    refine j_sub (L' := [(0, .ref a0), (1, .int a1), (2, .int a2)]) [0, 1, 2] rfl ?_
    exact tX4_postsByLevel_21 C hnm N Z a0 a1 a2 (0 : Int32) M4 _ _ h
  · rw [if_neg hc5] at h
    refine j_iconst C dX4_postsByLevel_16 (v := (1 : Int32)) (by decide) ?_
    refine j_goto C dX4_postsByLevel_17 (tgt := 21) (by decide) ?_
    refine j_sub (L' := [(0, .ref a0), (1, .int a1), (2, .int a2)]) [0, 1, 2] rfl ?_
    exact tX4_postsByLevel_21 C hnm N Z a0 a1 a2 (1 : Int32) M4 _ _ h
-- ScaffoldPlanner$Judge examineYard
theorem fwRX3_109 : Cond.fieldLink RX3 109 RX4 (TX4 6).2.1 (TX4 6).2.2.1 ∈ gw := by decide +kernel
theorem kcRX3_113 : okSN RX3 113 yX8_at "ScaffoldPlanner" (.code yX8_at cX8_at 2 (some .int)) = true := by decide +kernel
theorem kcRX3_117 : okV RX3 117 yX4_postsByLevel (.code yX4_postsByLevel cX4_postsByLevel 5 (some .int)) = true := by decide +kernel
theorem oyX4_postsByLevel : okY yX4_postsByLevel 2 := ⟨by decide +kernel, by decide +kernel, by decide +kernel⟩
abbrev rmX3_examineYard : Room := { frames := 2, cells := 0, slots := 0, locals := 45 }
theorem dX3_examineYard_0 : decode cX3_examineYard 0 = .ok (.aload_n 2, 1) := by decide +kernel
theorem dX3_examineYard_1 : decode cX3_examineYard 1 = .ok (.getfield 29, 3) := by decide +kernel
theorem dX3_examineYard_4 : decode cX3_examineYard 4 = .ok (.ifCond .eq 28, 3) := by decide +kernel
theorem dX3_examineYard_7 : decode cX3_examineYard 7 = .ok (.aload_n 1, 1) := by decide +kernel
theorem dX3_examineYard_8 : decode cX3_examineYard 8 = .ok (.getfield 109, 3) := by decide +kernel
theorem dX3_examineYard_11 : decode cX3_examineYard 11 = .ok (.aload_n 2, 1) := by decide +kernel
theorem dX3_examineYard_12 : decode cX3_examineYard 12 = .ok (.getfield 29, 3) := by decide +kernel
theorem dX3_examineYard_15 : decode cX3_examineYard 15 = .ok (.invokestatic 113, 3) := by decide +kernel
theorem dX3_examineYard_18 : decode cX3_examineYard 18 = .ok (.iconst 1, 1) := by decide +kernel
theorem dX3_examineYard_19 : decode cX3_examineYard 19 = .ok (.if_icmp .ge 12, 3) := by decide +kernel
theorem dX3_examineYard_22 : decode cX3_examineYard 22 = .ok (.aload_n 0, 1) := by decide +kernel
theorem dX3_examineYard_23 : decode cX3_examineYard 23 = .ok (.iconst 5, 1) := by decide +kernel
theorem dX3_examineYard_24 : decode cX3_examineYard 24 = .ok (.aload_n 2, 1) := by decide +kernel
theorem dX3_examineYard_25 : decode cX3_examineYard 25 = .ok (.getfield 29, 3) := by decide +kernel
theorem dX3_examineYard_28 : decode cX3_examineYard 28 = .ok (.invokevirtual 86, 3) := by decide +kernel
theorem dX3_examineYard_31 : decode cX3_examineYard 31 = .ok (.return_, 1) := by decide +kernel
theorem dX3_examineYard_32 : decode cX3_examineYard 32 = .ok (.aload_n 1, 1) := by decide +kernel
theorem dX3_examineYard_33 : decode cX3_examineYard 33 = .ok (.getfield 109, 3) := by decide +kernel
theorem dX3_examineYard_36 : decode cX3_examineYard 36 = .ok (.iconst 0, 1) := by decide +kernel
theorem dX3_examineYard_37 : decode cX3_examineYard 37 = .ok (.invokestatic 113, 3) := by decide +kernel
theorem dX3_examineYard_40 : decode cX3_examineYard 40 = .ok (.aload_n 1, 1) := by decide +kernel
theorem dX3_examineYard_41 : decode cX3_examineYard 41 = .ok (.aload_n 2, 1) := by decide +kernel
theorem dX3_examineYard_42 : decode cX3_examineYard 42 = .ok (.getfield 89, 3) := by decide +kernel
theorem dX3_examineYard_45 : decode cX3_examineYard 45 = .ok (.aload_n 2, 1) := by decide +kernel
theorem dX3_examineYard_46 : decode cX3_examineYard 46 = .ok (.getfield 83, 3) := by decide +kernel
theorem dX3_examineYard_49 : decode cX3_examineYard 49 = .ok (.invokevirtual 117, 3) := by decide +kernel
theorem dX3_examineYard_52 : decode cX3_examineYard 52 = .ok (.if_icmp .ge 12, 3) := by decide +kernel
theorem dX3_examineYard_55 : decode cX3_examineYard 55 = .ok (.aload_n 0, 1) := by decide +kernel
theorem dX3_examineYard_56 : decode cX3_examineYard 56 = .ok (.iconst 5, 1) := by decide +kernel
theorem dX3_examineYard_57 : decode cX3_examineYard 57 = .ok (.iconst 0, 1) := by decide +kernel
theorem dX3_examineYard_58 : decode cX3_examineYard 58 = .ok (.invokevirtual 86, 3) := by decide +kernel
theorem dX3_examineYard_61 : decode cX3_examineYard 61 = .ok (.goto 21, 3) := by decide +kernel
theorem dX3_examineYard_64 : decode cX3_examineYard 64 = .ok (.aload_n 1, 1) := by decide +kernel
theorem dX3_examineYard_65 : decode cX3_examineYard 65 = .ok (.getfield 109, 3) := by decide +kernel
theorem dX3_examineYard_68 : decode cX3_examineYard 68 = .ok (.iconst 1, 1) := by decide +kernel
theorem dX3_examineYard_69 : decode cX3_examineYard 69 = .ok (.invokestatic 113, 3) := by decide +kernel
theorem dX3_examineYard_72 : decode cX3_examineYard 72 = .ok (.iconst 2, 1) := by decide +kernel
theorem dX3_examineYard_73 : decode cX3_examineYard 73 = .ok (.if_icmp .ge 9, 3) := by decide +kernel
theorem dX3_examineYard_76 : decode cX3_examineYard 76 = .ok (.aload_n 0, 1) := by decide +kernel
theorem dX3_examineYard_77 : decode cX3_examineYard 77 = .ok (.iconst 5, 1) := by decide +kernel
theorem dX3_examineYard_78 : decode cX3_examineYard 78 = .ok (.iconst 1, 1) := by decide +kernel
theorem dX3_examineYard_79 : decode cX3_examineYard 79 = .ok (.invokevirtual 86, 3) := by decide +kernel
theorem dX3_examineYard_82 : decode cX3_examineYard 82 = .ok (.return_, 1) := by decide +kernel
def fX3_examineYard (N : Nat) (Z : mZ) (a0 : Nat) (a1 : Nat) (a2 : Nat) (M : mM) : Option (Unit × mM) := ck (okO Z a2 7) (if (M.1 a2 0) = 0 then ck (okO Z a1 4) (bnd1 (Z.2.2.2 a1 6) (fun c4 => bnd2 (fX8_at N Z c4 (0 : Int32) M) (fun r5 M5 => bnd2 (fX4_postsByLevel N Z a1 (M5.1 a2 1) (M5.1 a2 2) M5) (fun r6 M6 => if r6 ≤ r5 then bnd2 (fX8_at N Z c4 (1 : Int32) M6) (fun r8 M8 => if (2 : Int32) ≤ r8 then some ((), M8) else ck (okO Z a0 3) (bnd2 (fX3_refuse N Z a0 (5 : Int32) (1 : Int32) M8) (fun _ M11 => some ((), M11)))) else ck (okO Z a0 3) (bnd2 (fX3_refuse N Z a0 (5 : Int32) (0 : Int32) M6) (fun _ M13 => some ((), M13))))))) else ck (okO Z a1 4) (bnd1 (Z.2.2.2 a1 6) (fun c15 => bnd2 (fX8_at N Z c15 (M.1 a2 0) M) (fun r16 M16 => if (1 : Int32) ≤ r16 then some ((), M16) else ck (okO Z a0 3) (bnd2 (fX3_refuse N Z a0 (5 : Int32) (M16.1 a2 0) M16) (fun _ M19 => some ((), M19)))))))
set_option maxHeartbeats 4000000 in
set_option maxRecDepth 100000 in
theorem ctX3_examineYard {G : mG} {l : Launch} (hl : l.stackTraces = false) (N : Nat) (Z : mZ) {a0 : Nat} {a1 : Nat} {a2 : Nat} {M : mM} {r : Unit} {M' : mM} (h : fX3_examineYard N Z a0 a1 a2 M = some (r, M')) : CT G l yX3_examineYard (.code yX3_examineYard cX3_examineYard 3 none) rmX3_examineYard [.ref a0, .ref a1, .ref a2] Z M (.inl none) Z M' := by
  unfold fX3_examineYard at h
  refine CT.of hl (by decide) (Nat.le_of_ble_eq_true rfl) ?_
  intro p e s m args below meth c C hnm
  refine j_sub (L' := [(0, .ref a0), (1, .ref a1), (2, .ref a2)]) [0, 1, 2] rfl ?_
  refine j_aload_n C dX3_examineYard_0 rfl 2 rfl ?_
  obtain ⟨ho1, h⟩ := ck_spec h
  refine j_getI C (cn := RX7) (T := TX7) (N := 5) (ci := 7) rfl iX7 ho1 0 (by decide) rfl fwRX3_29 dX3_examineYard_1 ?_
  refine j_if_eq C dX3_examineYard_4 (tgt := 32) (by decide) (fun hc2 => ?_) (fun hc2 => ?_)
  · rw [if_pos hc2] at h
    refine j_aload_n C dX3_examineYard_32 rfl 1 rfl ?_
    obtain ⟨ho3, h⟩ := ck_spec h
    obtain ⟨c4, hr4, h⟩ := bnd1_spec h
    refine j_getR C (cn := RX4) (T := TX4) (N := 7) (ci := 4) rfl iX4 ho3 6 (by decide) rfl fwRX3_109 dX3_examineYard_33 hr4 ?_
    refine j_iconst C dX3_examineYard_36 (v := (0 : Int32)) (by decide) ?_
    obtain ⟨r5, M5, hq5, h⟩ := bnd2_spec h
    refine j_run1 (c_SN C (As := [.ref c4, .int (0 : Int32)]) (rest := []) (ctX8_at C.2.2.2.2.2.2.2.2.1 N Z hq5) kcRX3_113 oyX8_at ⟨by decide, by decide⟩ ⟨by decide, by decide⟩ (Nat.le_of_ble_eq_true rfl) rfl dX3_examineYard_37) ?_
    refine j_aload_n C dX3_examineYard_40 rfl 1 rfl ?_
    refine j_aload_n C dX3_examineYard_41 rfl 2 rfl ?_
    refine j_getI C (cn := RX7) (T := TX7) (N := 5) (ci := 7) rfl iX7 ho1 1 (by decide) rfl fwRX3_89 dX3_examineYard_42 ?_
    refine j_aload_n C dX3_examineYard_45 rfl 2 rfl ?_
    refine j_getI C (cn := RX7) (T := TX7) (N := 5) (ci := 7) rfl iX7 ho1 2 (by decide) rfl fwRX3_83 dX3_examineYard_46 ?_
    obtain ⟨r6, M6, hq6, h⟩ := bnd2_spec h
    refine j_run1 (c_V C (As := [.int (M5.1 a2 1), .int (M5.1 a2 2)]) (rest := [.int r5]) (ctX4_postsByLevel C.2.2.2.2.2.2.2.2.1 N Z hq6) kcRX3_117 oyX4_postsByLevel (ci := 4) (T := TX4) (N := 7) rfl (by decide) ho3 ⟨by decide, by decide⟩ ⟨by decide, by decide⟩ (Nat.le_of_ble_eq_true rfl) rfl dX3_examineYard_49) ?_
    refine j_icmp_ge C dX3_examineYard_52 (tgt := 64) (by decide) (fun hc7 => ?_) (fun hc7 => ?_)
    · rw [if_pos hc7] at h
      refine j_aload_n C dX3_examineYard_64 rfl 1 rfl ?_
      refine j_getR C (cn := RX4) (T := TX4) (N := 7) (ci := 4) rfl iX4 ho3 6 (by decide) rfl fwRX3_109 dX3_examineYard_65 hr4 ?_
      refine j_iconst C dX3_examineYard_68 (v := (1 : Int32)) (by decide) ?_
      obtain ⟨r8, M8, hq8, h⟩ := bnd2_spec h
      refine j_run1 (c_SN C (As := [.ref c4, .int (1 : Int32)]) (rest := []) (ctX8_at C.2.2.2.2.2.2.2.2.1 N Z hq8) kcRX3_113 oyX8_at ⟨by decide, by decide⟩ ⟨by decide, by decide⟩ (Nat.le_of_ble_eq_true rfl) rfl dX3_examineYard_69) ?_
      refine j_iconst C dX3_examineYard_72 (v := (2 : Int32)) (by decide) ?_
      refine j_icmp_ge C dX3_examineYard_73 (tgt := 82) (by decide) (fun hc9 => ?_) (fun hc9 => ?_)
      · rw [if_pos hc9] at h
        cases h
        exact j_vret C rfl (by decide) (by decide) dX3_examineYard_82
      · rw [if_neg hc9] at h
        refine j_aload_n C dX3_examineYard_76 rfl 0 rfl ?_
        refine j_iconst C dX3_examineYard_77 (v := (5 : Int32)) (by decide) ?_
        refine j_iconst C dX3_examineYard_78 (v := (1 : Int32)) (by decide) ?_
        obtain ⟨ho10, h⟩ := ck_spec h
        obtain ⟨_, M11, hq11, h⟩ := bnd2_spec h
        refine j_run0 (c_V C (As := [.int (5 : Int32), .int (1 : Int32)]) (rest := []) (ctX3_refuse C.2.2.2.2.2.2.2.2.1 N Z hq11) kcRX3_86 oyX3_refuse (ci := 3) (T := TX3) (N := 3) rfl (by decide) ho10 ⟨by decide, by decide⟩ ⟨by decide, by decide⟩ (Nat.le_of_ble_eq_true rfl) rfl dX3_examineYard_79) ?_
        cases h
        exact j_vret C rfl (by decide) (by decide) dX3_examineYard_82
    · rw [if_neg hc7] at h
      refine j_aload_n C dX3_examineYard_55 rfl 0 rfl ?_
      refine j_iconst C dX3_examineYard_56 (v := (5 : Int32)) (by decide) ?_
      refine j_iconst C dX3_examineYard_57 (v := (0 : Int32)) (by decide) ?_
      obtain ⟨ho12, h⟩ := ck_spec h
      obtain ⟨_, M13, hq13, h⟩ := bnd2_spec h
      refine j_run0 (c_V C (As := [.int (5 : Int32), .int (0 : Int32)]) (rest := []) (ctX3_refuse C.2.2.2.2.2.2.2.2.1 N Z hq13) kcRX3_86 oyX3_refuse (ci := 3) (T := TX3) (N := 3) rfl (by decide) ho12 ⟨by decide, by decide⟩ ⟨by decide, by decide⟩ (Nat.le_of_ble_eq_true rfl) rfl dX3_examineYard_58) ?_
      refine j_goto C dX3_examineYard_61 (tgt := 82) (by decide) ?_
      cases h
      exact j_vret C rfl (by decide) (by decide) dX3_examineYard_82
  · rw [if_neg hc2] at h
    refine j_aload_n C dX3_examineYard_7 rfl 1 rfl ?_
    obtain ⟨ho14, h⟩ := ck_spec h
    obtain ⟨c15, hr15, h⟩ := bnd1_spec h
    refine j_getR C (cn := RX4) (T := TX4) (N := 7) (ci := 4) rfl iX4 ho14 6 (by decide) rfl fwRX3_109 dX3_examineYard_8 hr15 ?_
    refine j_aload_n C dX3_examineYard_11 rfl 2 rfl ?_
    refine j_getI C (cn := RX7) (T := TX7) (N := 5) (ci := 7) rfl iX7 ho1 0 (by decide) rfl fwRX3_29 dX3_examineYard_12 ?_
    obtain ⟨r16, M16, hq16, h⟩ := bnd2_spec h
    refine j_run1 (c_SN C (As := [.ref c15, .int (M.1 a2 0)]) (rest := []) (ctX8_at C.2.2.2.2.2.2.2.2.1 N Z hq16) kcRX3_113 oyX8_at ⟨by decide, by decide⟩ ⟨by decide, by decide⟩ (Nat.le_of_ble_eq_true rfl) rfl dX3_examineYard_15) ?_
    refine j_iconst C dX3_examineYard_18 (v := (1 : Int32)) (by decide) ?_
    refine j_icmp_ge C dX3_examineYard_19 (tgt := 31) (by decide) (fun hc17 => ?_) (fun hc17 => ?_)
    · rw [if_pos hc17] at h
      cases h
      exact j_vret C rfl (by decide) (by decide) dX3_examineYard_31
    · rw [if_neg hc17] at h
      refine j_aload_n C dX3_examineYard_22 rfl 0 rfl ?_
      refine j_iconst C dX3_examineYard_23 (v := (5 : Int32)) (by decide) ?_
      refine j_aload_n C dX3_examineYard_24 rfl 2 rfl ?_
      refine j_getI C (cn := RX7) (T := TX7) (N := 5) (ci := 7) rfl iX7 ho1 0 (by decide) rfl fwRX3_29 dX3_examineYard_25 ?_
      obtain ⟨ho18, h⟩ := ck_spec h
      obtain ⟨_, M19, hq19, h⟩ := bnd2_spec h
      refine j_run0 (c_V C (As := [.int (5 : Int32), .int (M16.1 a2 0)]) (rest := []) (ctX3_refuse C.2.2.2.2.2.2.2.2.1 N Z hq19) kcRX3_86 oyX3_refuse (ci := 3) (T := TX3) (N := 3) rfl (by decide) ho18 ⟨by decide, by decide⟩ ⟨by decide, by decide⟩ (Nat.le_of_ble_eq_true rfl) rfl dX3_examineYard_28) ?_
      cases h
      exact j_vret C rfl (by decide) (by decide) dX3_examineYard_31
-- ScaffoldPlanner$Plan supply
theorem kcRX4_86 : okSN RX4 86 yX8_write "ScaffoldPlanner" (.code yX8_write cX8_write 3 none) = true := by decide +kernel
abbrev rmX4_supply : Room := { frames := 1, cells := 0, slots := 0, locals := 22 }
theorem dX4_supply_0 : decode cX4_supply 0 = .ok (.aload_n 0, 1) := by decide +kernel
theorem dX4_supply_1 : decode cX4_supply 1 = .ok (.getfield 31, 3) := by decide +kernel
theorem dX4_supply_4 : decode cX4_supply 4 = .ok (.iload_n 1, 1) := by decide +kernel
theorem dX4_supply_5 : decode cX4_supply 5 = .ok (.aload_n 0, 1) := by decide +kernel
theorem dX4_supply_6 : decode cX4_supply 6 = .ok (.getfield 31, 3) := by decide +kernel
theorem dX4_supply_9 : decode cX4_supply 9 = .ok (.iload_n 1, 1) := by decide +kernel
theorem dX4_supply_10 : decode cX4_supply 10 = .ok (.invokestatic 41, 3) := by decide +kernel
theorem dX4_supply_13 : decode cX4_supply 13 = .ok (.iload_n 2, 1) := by decide +kernel
theorem dX4_supply_14 : decode cX4_supply 14 = .ok (.iadd, 1) := by decide +kernel
theorem dX4_supply_15 : decode cX4_supply 15 = .ok (.invokestatic 86, 3) := by decide +kernel
theorem dX4_supply_18 : decode cX4_supply 18 = .ok (.return_, 1) := by decide +kernel
def fX4_supply (N : Nat) (Z : mZ) (a0 : Nat) (a1 : Int32) (a2 : Int32) (M : mM) : Option (Unit × mM) := ck (okO Z a0 4) (bnd1 (Z.2.2.2 a0 6) (fun c2 => bnd2 (fX8_at N Z c2 a1 M) (fun r3 M3 => bnd2 (fX8_write N Z c2 a1 (r3 + a2) M3) (fun _ M4 => some ((), M4)))))
set_option maxHeartbeats 4000000 in
set_option maxRecDepth 100000 in
theorem ctX4_supply {G : mG} {l : Launch} (hl : l.stackTraces = false) (N : Nat) (Z : mZ) {a0 : Nat} {a1 : Int32} {a2 : Int32} {M : mM} {r : Unit} {M' : mM} (h : fX4_supply N Z a0 a1 a2 M = some (r, M')) : CT G l yX4_supply (.code yX4_supply cX4_supply 3 none) rmX4_supply [.ref a0, .int a1, .int a2] Z M (.inl none) Z M' := by
  unfold fX4_supply at h
  refine CT.of hl (by decide) (Nat.le_of_ble_eq_true rfl) ?_
  intro p e s m args below meth c C hnm
  refine j_sub (L' := [(0, .ref a0), (1, .int a1), (2, .int a2)]) [0, 1, 2] rfl ?_
  refine j_aload_n C dX4_supply_0 rfl 0 rfl ?_
  obtain ⟨ho1, h⟩ := ck_spec h
  obtain ⟨c2, hr2, h⟩ := bnd1_spec h
  refine j_getR C (cn := RX4) (T := TX4) (N := 7) (ci := 4) rfl iX4 ho1 6 (by decide) rfl fwRX4_31 dX4_supply_1 hr2 ?_
  refine j_iload_n C dX4_supply_4 rfl 1 rfl ?_
  refine j_aload_n C dX4_supply_5 rfl 0 rfl ?_
  refine j_getR C (cn := RX4) (T := TX4) (N := 7) (ci := 4) rfl iX4 ho1 6 (by decide) rfl fwRX4_31 dX4_supply_6 hr2 ?_
  refine j_iload_n C dX4_supply_9 rfl 1 rfl ?_
  obtain ⟨r3, M3, hq3, h⟩ := bnd2_spec h
  refine j_run1 (c_SN C (As := [.ref c2, .int a1]) (rest := [.int a1, .ref c2]) (ctX8_at C.2.2.2.2.2.2.2.2.1 N Z hq3) kcRX4_41 oyX8_at ⟨by decide, by decide⟩ ⟨by decide, by decide⟩ (Nat.le_of_ble_eq_true rfl) rfl dX4_supply_10) ?_
  refine j_iload_n C dX4_supply_13 rfl 2 rfl ?_
  refine j_iadd C dX4_supply_14 ?_
  obtain ⟨_, M4, hq4, h⟩ := bnd2_spec h
  refine j_run0 (c_SN C (As := [.ref c2, .int a1, .int (r3 + a2)]) (rest := []) (ctX8_write C.2.2.2.2.2.2.2.2.1 N Z hq4) kcRX4_86 oyX8_write ⟨by decide, by decide⟩ ⟨by decide, by decide⟩ (Nat.le_of_ble_eq_true rfl) rfl dX4_supply_15) ?_
  cases h
  exact j_vret C rfl (by decide) (by decide) dX4_supply_18
-- ScaffoldPlanner$Plan carryOut
theorem fwRX4_76 : Cond.fieldLink RX4 76 RX7 (TX7 4).2.1 (TX7 4).2.2.1 ∈ gw := by decide +kernel
theorem fwRX4_80 : Cond.fieldLink RX4 80 RX7 (TX7 2).2.1 (TX7 2).2.2.1 ∈ gw := by decide +kernel
theorem kcRX4_83 : okV RX4 83 yX4_postsByLevel (.code yX4_postsByLevel cX4_postsByLevel 5 (some .int)) = true := by decide +kernel
theorem kcRX4_90 : okV RX4 90 yX4_supply (.code yX4_supply cX4_supply 3 none) = true := by decide +kernel
theorem oyX4_supply : okY yX4_supply 2 := ⟨by decide +kernel, by decide +kernel, by decide +kernel⟩
theorem fwRX4_94 : Cond.fieldLink RX4 94 RX7 (TX7 3).2.1 (TX7 3).2.2.1 ∈ gw := by decide +kernel
abbrev rmX4_carryOut : Room := { frames := 2, cells := 0, slots := 0, locals := 45 }
theorem dX4_carryOut_0 : decode cX4_carryOut 0 = .ok (.aload_n 1, 1) := by decide +kernel
theorem dX4_carryOut_1 : decode cX4_carryOut 1 = .ok (.getfield 76, 3) := by decide +kernel
theorem dX4_carryOut_4 : decode cX4_carryOut 4 = .ok (.ifCond .eq 7, 3) := by decide +kernel
theorem dX4_carryOut_7 : decode cX4_carryOut 7 = .ok (.iconst (-1), 1) := by decide +kernel
theorem dX4_carryOut_8 : decode cX4_carryOut 8 = .ok (.goto 4, 3) := by decide +kernel
theorem dX4_carryOut_11 : decode cX4_carryOut 11 = .ok (.iconst 1, 1) := by decide +kernel
theorem dX4_carryOut_12 : decode cX4_carryOut 12 = .ok (.istore_n 2, 1) := by decide +kernel
theorem dX4_carryOut_13 : decode cX4_carryOut 13 = .ok (.aload_n 1, 1) := by decide +kernel
theorem dX4_carryOut_14 : decode cX4_carryOut 14 = .ok (.getfield 58, 3) := by decide +kernel
theorem dX4_carryOut_17 : decode cX4_carryOut 17 = .ok (.ifCond .ne 61, 3) := by decide +kernel
theorem dX4_carryOut_20 : decode cX4_carryOut 20 = .ok (.aload_n 0, 1) := by decide +kernel
theorem dX4_carryOut_21 : decode cX4_carryOut 21 = .ok (.aload_n 1, 1) := by decide +kernel
theorem dX4_carryOut_22 : decode cX4_carryOut 22 = .ok (.getfield 63, 3) := by decide +kernel
theorem dX4_carryOut_25 : decode cX4_carryOut 25 = .ok (.aload_n 1, 1) := by decide +kernel
theorem dX4_carryOut_26 : decode cX4_carryOut 26 = .ok (.getfield 80, 3) := by decide +kernel
theorem dX4_carryOut_29 : decode cX4_carryOut 29 = .ok (.invokevirtual 83, 3) := by decide +kernel
theorem dX4_carryOut_32 : decode cX4_carryOut 32 = .ok (.istore_n 3, 1) := by decide +kernel
theorem dX4_carryOut_33 : decode cX4_carryOut 33 = .ok (.aload_n 0, 1) := by decide +kernel
theorem dX4_carryOut_34 : decode cX4_carryOut 34 = .ok (.getfield 18, 3) := by decide +kernel
theorem dX4_carryOut_37 : decode cX4_carryOut 37 = .ok (.aload_n 1, 1) := by decide +kernel
theorem dX4_carryOut_38 : decode cX4_carryOut 38 = .ok (.getfield 63, 3) := by decide +kernel
theorem dX4_carryOut_41 : decode cX4_carryOut 41 = .ok (.aload_n 0, 1) := by decide +kernel
theorem dX4_carryOut_42 : decode cX4_carryOut 42 = .ok (.getfield 18, 3) := by decide +kernel
theorem dX4_carryOut_45 : decode cX4_carryOut 45 = .ok (.aload_n 1, 1) := by decide +kernel
theorem dX4_carryOut_46 : decode cX4_carryOut 46 = .ok (.getfield 63, 3) := by decide +kernel
theorem dX4_carryOut_49 : decode cX4_carryOut 49 = .ok (.invokestatic 41, 3) := by decide +kernel
theorem dX4_carryOut_52 : decode cX4_carryOut 52 = .ok (.iload_n 2, 1) := by decide +kernel
theorem dX4_carryOut_53 : decode cX4_carryOut 53 = .ok (.iadd, 1) := by decide +kernel
theorem dX4_carryOut_54 : decode cX4_carryOut 54 = .ok (.invokestatic 86, 3) := by decide +kernel
theorem dX4_carryOut_57 : decode cX4_carryOut 57 = .ok (.aload_n 0, 1) := by decide +kernel
theorem dX4_carryOut_58 : decode cX4_carryOut 58 = .ok (.iconst 0, 1) := by decide +kernel
theorem dX4_carryOut_59 : decode cX4_carryOut 59 = .ok (.iload_n 2, 1) := by decide +kernel
theorem dX4_carryOut_60 : decode cX4_carryOut 60 = .ok (.ineg, 1) := by decide +kernel
theorem dX4_carryOut_61 : decode cX4_carryOut 61 = .ok (.iload_n 3, 1) := by decide +kernel
theorem dX4_carryOut_62 : decode cX4_carryOut 62 = .ok (.imul, 1) := by decide +kernel
theorem dX4_carryOut_63 : decode cX4_carryOut 63 = .ok (.invokevirtual 90, 3) := by decide +kernel
theorem dX4_carryOut_66 : decode cX4_carryOut 66 = .ok (.aload_n 0, 1) := by decide +kernel
theorem dX4_carryOut_67 : decode cX4_carryOut 67 = .ok (.iconst 1, 1) := by decide +kernel
theorem dX4_carryOut_68 : decode cX4_carryOut 68 = .ok (.iload_n 2, 1) := by decide +kernel
theorem dX4_carryOut_69 : decode cX4_carryOut 69 = .ok (.ineg, 1) := by decide +kernel
theorem dX4_carryOut_70 : decode cX4_carryOut 70 = .ok (.iconst 2, 1) := by decide +kernel
theorem dX4_carryOut_71 : decode cX4_carryOut 71 = .ok (.imul, 1) := by decide +kernel
theorem dX4_carryOut_72 : decode cX4_carryOut 72 = .ok (.invokevirtual 90, 3) := by decide +kernel
theorem dX4_carryOut_75 : decode cX4_carryOut 75 = .ok (.goto 53, 3) := by decide +kernel
theorem dX4_carryOut_78 : decode cX4_carryOut 78 = .ok (.aload_n 0, 1) := by decide +kernel
theorem dX4_carryOut_79 : decode cX4_carryOut 79 = .ok (.aload_n 1, 1) := by decide +kernel
theorem dX4_carryOut_80 : decode cX4_carryOut 80 = .ok (.getfield 58, 3) := by decide +kernel
theorem dX4_carryOut_83 : decode cX4_carryOut 83 = .ok (.aload_n 1, 1) := by decide +kernel
theorem dX4_carryOut_84 : decode cX4_carryOut 84 = .ok (.getfield 63, 3) := by decide +kernel
theorem dX4_carryOut_87 : decode cX4_carryOut 87 = .ok (.invokevirtual 45, 3) := by decide +kernel
theorem dX4_carryOut_90 : decode cX4_carryOut 90 = .ok (.iconst 1, 1) := by decide +kernel
theorem dX4_carryOut_91 : decode cX4_carryOut 91 = .ok (.aload_n 1, 1) := by decide +kernel
theorem dX4_carryOut_92 : decode cX4_carryOut 92 = .ok (.getfield 80, 3) := by decide +kernel
theorem dX4_carryOut_95 : decode cX4_carryOut 95 = .ok (.ishl, 1) := by decide +kernel
theorem dX4_carryOut_96 : decode cX4_carryOut 96 = .ok (.ixor, 1) := by decide +kernel
theorem dX4_carryOut_97 : decode cX4_carryOut 97 = .ok (.istore_n 3, 1) := by decide +kernel
theorem dX4_carryOut_98 : decode cX4_carryOut 98 = .ok (.aload_n 0, 1) := by decide +kernel
theorem dX4_carryOut_99 : decode cX4_carryOut 99 = .ok (.getfield 22, 3) := by decide +kernel
theorem dX4_carryOut_102 : decode cX4_carryOut 102 = .ok (.aload_n 1, 1) := by decide +kernel
theorem dX4_carryOut_103 : decode cX4_carryOut 103 = .ok (.getfield 58, 3) := by decide +kernel
theorem dX4_carryOut_106 : decode cX4_carryOut 106 = .ok (.bipush 10, 2) := by decide +kernel
theorem dX4_carryOut_108 : decode cX4_carryOut 108 = .ok (.imul, 1) := by decide +kernel
theorem dX4_carryOut_109 : decode cX4_carryOut 109 = .ok (.aload_n 1, 1) := by decide +kernel
theorem dX4_carryOut_110 : decode cX4_carryOut 110 = .ok (.getfield 63, 3) := by decide +kernel
theorem dX4_carryOut_113 : decode cX4_carryOut 113 = .ok (.iadd, 1) := by decide +kernel
theorem dX4_carryOut_114 : decode cX4_carryOut 114 = .ok (.iload_n 3, 1) := by decide +kernel
theorem dX4_carryOut_115 : decode cX4_carryOut 115 = .ok (.invokestatic 86, 3) := by decide +kernel
theorem dX4_carryOut_118 : decode cX4_carryOut 118 = .ok (.aload_n 0, 1) := by decide +kernel
theorem dX4_carryOut_119 : decode cX4_carryOut 119 = .ok (.aload_n 1, 1) := by decide +kernel
theorem dX4_carryOut_120 : decode cX4_carryOut 120 = .ok (.getfield 58, 3) := by decide +kernel
theorem dX4_carryOut_123 : decode cX4_carryOut 123 = .ok (.iload_n 2, 1) := by decide +kernel
theorem dX4_carryOut_124 : decode cX4_carryOut 124 = .ok (.ineg, 1) := by decide +kernel
theorem dX4_carryOut_125 : decode cX4_carryOut 125 = .ok (.invokevirtual 90, 3) := by decide +kernel
theorem dX4_carryOut_128 : decode cX4_carryOut 128 = .ok (.aload_n 1, 1) := by decide +kernel
theorem dX4_carryOut_129 : decode cX4_carryOut 129 = .ok (.getfield 58, 3) := by decide +kernel
theorem dX4_carryOut_132 : decode cX4_carryOut 132 = .ok (.iconst 2, 1) := by decide +kernel
theorem dX4_carryOut_133 : decode cX4_carryOut 133 = .ok (.if_icmp .ne 37, 3) := by decide +kernel
theorem dX4_carryOut_136 : decode cX4_carryOut 136 = .ok (.aload_n 0, 1) := by decide +kernel
theorem dX4_carryOut_137 : decode cX4_carryOut 137 = .ok (.getfield 25, 3) := by decide +kernel
theorem dX4_carryOut_140 : decode cX4_carryOut 140 = .ok (.aload_n 1, 1) := by decide +kernel
theorem dX4_carryOut_141 : decode cX4_carryOut 141 = .ok (.getfield 63, 3) := by decide +kernel
theorem dX4_carryOut_144 : decode cX4_carryOut 144 = .ok (.bipush 7, 2) := by decide +kernel
theorem dX4_carryOut_146 : decode cX4_carryOut 146 = .ok (.imul, 1) := by decide +kernel
theorem dX4_carryOut_147 : decode cX4_carryOut 147 = .ok (.aload_n 1, 1) := by decide +kernel
theorem dX4_carryOut_148 : decode cX4_carryOut 148 = .ok (.getfield 80, 3) := by decide +kernel
theorem dX4_carryOut_151 : decode cX4_carryOut 151 = .ok (.iadd, 1) := by decide +kernel
theorem dX4_carryOut_152 : decode cX4_carryOut 152 = .ok (.aload_n 1, 1) := by decide +kernel
theorem dX4_carryOut_153 : decode cX4_carryOut 153 = .ok (.getfield 76, 3) := by decide +kernel
theorem dX4_carryOut_156 : decode cX4_carryOut 156 = .ok (.ifCond .eq 7, 3) := by decide +kernel
theorem dX4_carryOut_159 : decode cX4_carryOut 159 = .ok (.iconst 0, 1) := by decide +kernel
theorem dX4_carryOut_160 : decode cX4_carryOut 160 = .ok (.goto 7, 3) := by decide +kernel
theorem dX4_carryOut_163 : decode cX4_carryOut 163 = .ok (.aload_n 1, 1) := by decide +kernel
theorem dX4_carryOut_164 : decode cX4_carryOut 164 = .ok (.getfield 94, 3) := by decide +kernel
theorem dX4_carryOut_167 : decode cX4_carryOut 167 = .ok (.invokestatic 86, 3) := by decide +kernel
theorem dX4_carryOut_170 : decode cX4_carryOut 170 = .ok (.aload_n 0, 1) := by decide +kernel
theorem dX4_carryOut_171 : decode cX4_carryOut 171 = .ok (.dup, 1) := by decide +kernel
theorem dX4_carryOut_172 : decode cX4_carryOut 172 = .ok (.getfield 15, 3) := by decide +kernel
theorem dX4_carryOut_175 : decode cX4_carryOut 175 = .ok (.iconst 1, 1) := by decide +kernel
theorem dX4_carryOut_176 : decode cX4_carryOut 176 = .ok (.iadd, 1) := by decide +kernel
theorem dX4_carryOut_177 : decode cX4_carryOut 177 = .ok (.putfield 15, 3) := by decide +kernel
theorem dX4_carryOut_180 : decode cX4_carryOut 180 = .ok (.return_, 1) := by decide +kernel
def fX4_carryOut_128 (N : Nat) (Z : mZ) (v0 : Nat) (v1 : Nat) (M : mM) : Option (Unit × mM) := ck (okO Z v1 7) (if (M.1 v1 0) = (2 : Int32) then ck (okO Z v0 4) (bnd1 (Z.2.2.2 v0 4) (fun c15 => if (M.1 v1 4) = 0 then bnd2 (fX8_write N Z c15 (((M.1 v1 1) * (7 : Int32)) + (M.1 v1 2)) (M.1 v1 3) M) (fun _ M17 => some ((), (sI M17 v0 1 ((M17.1 v0 1) + (1 : Int32))))) else bnd2 (fX8_write N Z c15 (((M.1 v1 1) * (7 : Int32)) + (M.1 v1 2)) (0 : Int32) M) (fun _ M18 => some ((), (sI M18 v0 1 ((M18.1 v0 1) + (1 : Int32))))))) else ck (okO Z v0 4) (some ((), (sI M v0 1 ((M.1 v0 1) + (1 : Int32))))))
set_option maxHeartbeats 4000000 in
set_option maxRecDepth 100000 in
theorem tX4_carryOut_128 {G : mG} {p : Program} {l : Launch} {e : Env} {s : State} {m : MethodId} {args : Array Value} {below : List Frame} {meth : Method} {c : Code} (C : Cx G p l s m args meth c RX4 cX4_carryOut 4 none []) (hnm : meth.name = yX4_carryOut.name) (N : Nat) (Z : mZ) : ∀ (v0 : Nat) (v1 : Nat) (M : mM) (r : Unit) (M' : mM), fX4_carryOut_128 N Z v0 v1 M = some (r, M') → JJ G p l e rmX4_carryOut s m args below meth c 4 (mEnd G below args s rmX4_carryOut (.inl none) Z M') 0 0 128 [(0, .ref v0), (1, .ref v1)] [] Z M := by
  intro v0 v1 M r M' h
  unfold fX4_carryOut_128 at h
  refine j_aload_n C dX4_carryOut_128 rfl 1 rfl ?_
  obtain ⟨ho12, h⟩ := ck_spec h
  refine j_getI C (cn := RX7) (T := TX7) (N := 5) (ci := 7) rfl iX7 ho12 0 (by decide) rfl fwRX4_58 dX4_carryOut_129 ?_
  refine j_iconst C dX4_carryOut_132 (v := (2 : Int32)) (by decide) ?_
  refine j_icmp_ne C dX4_carryOut_133 (tgt := 170) (by decide) (fun hc13 => ?_) (fun hc13 => ?_)
  · rw [if_neg hc13] at h
    refine j_aload_n C dX4_carryOut_170 rfl 0 rfl ?_
    refine j_dup C dX4_carryOut_171 rfl ?_
    obtain ⟨ho19, h⟩ := ck_spec h
    refine j_getI C (cn := RX4) (T := TX4) (N := 7) (ci := 4) rfl iX4 ho19 1 (by decide) rfl fwRX4_15 dX4_carryOut_172 ?_
    refine j_iconst C dX4_carryOut_175 (v := (1 : Int32)) (by decide) ?_
    refine j_iadd C dX4_carryOut_176 ?_
    refine j_putI C tyX4 tyX4_ok nmX4 (cn := RX4) (T := TX4) (N := 7) (ci := 4) rfl iX4 ho19 1 (by decide) rfl fwRX4_15 ⟨rfl, rfl⟩ dX4_carryOut_177 ?_
    cases h
    exact j_vret C rfl (by decide) (by decide) dX4_carryOut_180
  · rw [if_pos hc13] at h
    refine j_aload_n C dX4_carryOut_136 rfl 0 rfl ?_
    obtain ⟨ho14, h⟩ := ck_spec h
    obtain ⟨c15, hr15, h⟩ := bnd1_spec h
    refine j_getR C (cn := RX4) (T := TX4) (N := 7) (ci := 4) rfl iX4 ho14 4 (by decide) rfl fwRX4_25 dX4_carryOut_137 hr15 ?_
    refine j_aload_n C dX4_carryOut_140 rfl 1 rfl ?_
    refine j_getI C (cn := RX7) (T := TX7) (N := 5) (ci := 7) rfl iX7 ho12 1 (by decide) rfl fwRX4_63 dX4_carryOut_141 ?_
    refine j_bipush C dX4_carryOut_144 (v := (7 : Int32)) (by decide) ?_
    refine j_imul C dX4_carryOut_146 ?_
    refine j_aload_n C dX4_carryOut_147 rfl 1 rfl ?_
    refine j_getI C (cn := RX7) (T := TX7) (N := 5) (ci := 7) rfl iX7 ho12 2 (by decide) rfl fwRX4_80 dX4_carryOut_148 ?_
    refine j_iadd C dX4_carryOut_151 ?_
    refine j_aload_n C dX4_carryOut_152 rfl 1 rfl ?_
    refine j_getI C (cn := RX7) (T := TX7) (N := 5) (ci := 7) rfl iX7 ho12 4 (by decide) rfl fwRX4_76 dX4_carryOut_153 ?_
    refine j_if_eq C dX4_carryOut_156 (tgt := 163) (by decide) (fun hc16 => ?_) (fun hc16 => ?_)
    · rw [if_pos hc16] at h
      refine j_aload_n C dX4_carryOut_163 rfl 1 rfl ?_
      refine j_getI C (cn := RX7) (T := TX7) (N := 5) (ci := 7) rfl iX7 ho12 3 (by decide) rfl fwRX4_94 dX4_carryOut_164 ?_
      obtain ⟨_, M17, hq17, h⟩ := bnd2_spec h
      refine j_run0 (c_SN C (As := [.ref c15, .int (((M.1 v1 1) * (7 : Int32)) + (M.1 v1 2)), .int (M.1 v1 3)]) (rest := []) (ctX8_write C.2.2.2.2.2.2.2.2.1 N Z hq17) kcRX4_86 oyX8_write ⟨by decide, by decide⟩ ⟨by decide, by decide⟩ (Nat.le_of_ble_eq_true rfl) rfl dX4_carryOut_167) ?_
      refine j_aload_n C dX4_carryOut_170 rfl 0 rfl ?_
      refine j_dup C dX4_carryOut_171 rfl ?_
      refine j_getI C (cn := RX4) (T := TX4) (N := 7) (ci := 4) rfl iX4 ho14 1 (by decide) rfl fwRX4_15 dX4_carryOut_172 ?_
      refine j_iconst C dX4_carryOut_175 (v := (1 : Int32)) (by decide) ?_
      refine j_iadd C dX4_carryOut_176 ?_
      refine j_putI C tyX4 tyX4_ok nmX4 (cn := RX4) (T := TX4) (N := 7) (ci := 4) rfl iX4 ho14 1 (by decide) rfl fwRX4_15 ⟨rfl, rfl⟩ dX4_carryOut_177 ?_
      cases h
      exact j_vret C rfl (by decide) (by decide) dX4_carryOut_180
    · rw [if_neg hc16] at h
      refine j_iconst C dX4_carryOut_159 (v := (0 : Int32)) (by decide) ?_
      refine j_goto C dX4_carryOut_160 (tgt := 167) (by decide) ?_
      obtain ⟨_, M18, hq18, h⟩ := bnd2_spec h
      refine j_run0 (c_SN C (As := [.ref c15, .int (((M.1 v1 1) * (7 : Int32)) + (M.1 v1 2)), .int (0 : Int32)]) (rest := []) (ctX8_write C.2.2.2.2.2.2.2.2.1 N Z hq18) kcRX4_86 oyX8_write ⟨by decide, by decide⟩ ⟨by decide, by decide⟩ (Nat.le_of_ble_eq_true rfl) rfl dX4_carryOut_167) ?_
      refine j_aload_n C dX4_carryOut_170 rfl 0 rfl ?_
      refine j_dup C dX4_carryOut_171 rfl ?_
      refine j_getI C (cn := RX4) (T := TX4) (N := 7) (ci := 4) rfl iX4 ho14 1 (by decide) rfl fwRX4_15 dX4_carryOut_172 ?_
      refine j_iconst C dX4_carryOut_175 (v := (1 : Int32)) (by decide) ?_
      refine j_iadd C dX4_carryOut_176 ?_
      refine j_putI C tyX4 tyX4_ok nmX4 (cn := RX4) (T := TX4) (N := 7) (ci := 4) rfl iX4 ho14 1 (by decide) rfl fwRX4_15 ⟨rfl, rfl⟩ dX4_carryOut_177 ?_
      cases h
      exact j_vret C rfl (by decide) (by decide) dX4_carryOut_180
def fX4_carryOut_12 (N : Nat) (Z : mZ) (v0 : Nat) (v1 : Nat) (x0 : Int32) (M : mM) : Option (Unit × mM) := ck (okO Z v1 7) (if (M.1 v1 0) = 0 then ck (okO Z v0 4) (bnd2 (fX4_postsByLevel N Z v0 (M.1 v1 1) (M.1 v1 2) M) (fun r6 M6 => bnd1 (Z.2.2.2 v0 2) (fun c7 => bnd2 (fX8_at N Z c7 (M6.1 v1 1) M6) (fun r8 M8 => bnd2 (fX8_write N Z c7 (M6.1 v1 1) (r8 + x0) M8) (fun _ M9 => bnd2 (fX4_supply N Z v0 (0 : Int32) (((-x0)) * r6) M9) (fun _ M10 => bnd2 (fX4_supply N Z v0 (1 : Int32) (((-x0)) * (2 : Int32)) M10) (fun _ M11 => fX4_carryOut_128 N Z v0 v1 M11))))))) else ck (okO Z v0 4) (bnd2 (fX4_levelsWith N Z v0 (M.1 v1 0) (M.1 v1 1) M) (fun r21 M21 => bnd1 (Z.2.2.2 v0 3) (fun c22 => bnd2 (fX8_write N Z c22 (((M21.1 v1 0) * (10 : Int32)) + (M21.1 v1 1)) (r21 ^^^ ((1 : Int32) <<< ((M21.1 v1 2) &&& 31))) M21) (fun _ M23 => bnd2 (fX4_supply N Z v0 (M23.1 v1 0) ((-x0)) M23) (fun _ M24 => fX4_carryOut_128 N Z v0 v1 M24))))))
set_option maxHeartbeats 4000000 in
set_option maxRecDepth 100000 in
theorem tX4_carryOut_12 {G : mG} {p : Program} {l : Launch} {e : Env} {s : State} {m : MethodId} {args : Array Value} {below : List Frame} {meth : Method} {c : Code} (C : Cx G p l s m args meth c RX4 cX4_carryOut 4 none []) (hnm : meth.name = yX4_carryOut.name) (N : Nat) (Z : mZ) : ∀ (v0 : Nat) (v1 : Nat) (x0 : Int32) (M : mM) (r : Unit) (M' : mM), fX4_carryOut_12 N Z v0 v1 x0 M = some (r, M') → JJ G p l e rmX4_carryOut s m args below meth c 4 (mEnd G below args s rmX4_carryOut (.inl none) Z M') 0 0 12 [(0, .ref v0), (1, .ref v1)] [.int x0] Z M := by
  intro v0 v1 x0 M r M' h
  unfold fX4_carryOut_12 at h
  refine j_istore_n C dX4_carryOut_12 rfl (by decide) (L' := [(2, .int x0), (0, .ref v0), (1, .ref v1)]) rfl ?_
  refine j_aload_n C dX4_carryOut_13 rfl 2 rfl ?_
  obtain ⟨ho3, h⟩ := ck_spec h
  refine j_getI C (cn := RX7) (T := TX7) (N := 5) (ci := 7) rfl iX7 ho3 0 (by decide) rfl fwRX4_58 dX4_carryOut_14 ?_
  refine j_if_ne C dX4_carryOut_17 (tgt := 78) (by decide) (fun hc4 => ?_) (fun hc4 => ?_)
  · rw [if_neg hc4] at h
    refine j_aload_n C dX4_carryOut_78 rfl 1 rfl ?_
    refine j_aload_n C dX4_carryOut_79 rfl 2 rfl ?_
    refine j_getI C (cn := RX7) (T := TX7) (N := 5) (ci := 7) rfl iX7 ho3 0 (by decide) rfl fwRX4_58 dX4_carryOut_80 ?_
    refine j_aload_n C dX4_carryOut_83 rfl 2 rfl ?_
    refine j_getI C (cn := RX7) (T := TX7) (N := 5) (ci := 7) rfl iX7 ho3 1 (by decide) rfl fwRX4_63 dX4_carryOut_84 ?_
    obtain ⟨ho20, h⟩ := ck_spec h
    obtain ⟨r21, M21, hq21, h⟩ := bnd2_spec h
    refine j_run1 (c_V C (As := [.int (M.1 v1 0), .int (M.1 v1 1)]) (rest := []) (ctX4_levelsWith C.2.2.2.2.2.2.2.2.1 N Z hq21) kcRX4_45 oyX4_levelsWith (ci := 4) (T := TX4) (N := 7) rfl (by decide) ho20 ⟨by decide, by decide⟩ ⟨by decide, by decide⟩ (Nat.le_of_ble_eq_true rfl) rfl dX4_carryOut_87) ?_
    refine j_iconst C dX4_carryOut_90 (v := (1 : Int32)) (by decide) ?_
    refine j_aload_n C dX4_carryOut_91 rfl 2 rfl ?_
    refine j_getI C (cn := RX7) (T := TX7) (N := 5) (ci := 7) rfl iX7 ho3 2 (by decide) rfl fwRX4_80 dX4_carryOut_92 ?_
    refine j_ishl C dX4_carryOut_95 ?_
    refine j_ixor C dX4_carryOut_96 ?_
    refine j_istore_n C dX4_carryOut_97 rfl (by decide) (L' := [(3, .int (r21 ^^^ ((1 : Int32) <<< ((M21.1 v1 2) &&& 31)))), (2, .int x0), (0, .ref v0), (1, .ref v1)]) rfl ?_
    refine j_aload_n C dX4_carryOut_98 rfl 2 rfl ?_
    obtain ⟨c22, hr22, h⟩ := bnd1_spec h
    refine j_getR C (cn := RX4) (T := TX4) (N := 7) (ci := 4) rfl iX4 ho20 3 (by decide) rfl fwRX4_22 dX4_carryOut_99 hr22 ?_
    refine j_aload_n C dX4_carryOut_102 rfl 3 rfl ?_
    refine j_getI C (cn := RX7) (T := TX7) (N := 5) (ci := 7) rfl iX7 ho3 0 (by decide) rfl fwRX4_58 dX4_carryOut_103 ?_
    refine j_bipush C dX4_carryOut_106 (v := (10 : Int32)) (by decide) ?_
    refine j_imul C dX4_carryOut_108 ?_
    refine j_aload_n C dX4_carryOut_109 rfl 3 rfl ?_
    refine j_getI C (cn := RX7) (T := TX7) (N := 5) (ci := 7) rfl iX7 ho3 1 (by decide) rfl fwRX4_63 dX4_carryOut_110 ?_
    refine j_iadd C dX4_carryOut_113 ?_
    refine j_iload_n C dX4_carryOut_114 rfl 0 rfl ?_
    obtain ⟨_, M23, hq23, h⟩ := bnd2_spec h
    refine j_run0 (c_SN C (As := [.ref c22, .int (((M21.1 v1 0) * (10 : Int32)) + (M21.1 v1 1)), .int (r21 ^^^ ((1 : Int32) <<< ((M21.1 v1 2) &&& 31)))]) (rest := []) (ctX8_write C.2.2.2.2.2.2.2.2.1 N Z hq23) kcRX4_86 oyX8_write ⟨by decide, by decide⟩ ⟨by decide, by decide⟩ (Nat.le_of_ble_eq_true rfl) rfl dX4_carryOut_115) ?_
    refine j_aload_n C dX4_carryOut_118 rfl 2 rfl ?_
    refine j_aload_n C dX4_carryOut_119 rfl 3 rfl ?_
    refine j_getI C (cn := RX7) (T := TX7) (N := 5) (ci := 7) rfl iX7 ho3 0 (by decide) rfl fwRX4_58 dX4_carryOut_120 ?_
    refine j_iload_n C dX4_carryOut_123 rfl 1 rfl ?_
    refine j_ineg C dX4_carryOut_124 ?_
    obtain ⟨_, M24, hq24, h⟩ := bnd2_spec h
    refine j_run0 (c_V C (As := [.int (M23.1 v1 0), .int ((-x0))]) (rest := []) (ctX4_supply C.2.2.2.2.2.2.2.2.1 N Z hq24) kcRX4_90 oyX4_supply (ci := 4) (T := TX4) (N := 7) rfl (by decide) ho20 ⟨by decide, by decide⟩ ⟨by decide, by decide⟩ (Nat.le_of_ble_eq_true rfl) rfl dX4_carryOut_125) ?_
    refine j_sub (L' := [(0, .ref v0), (1, .ref v1)]) [2, 3] rfl ?_
    exact tX4_carryOut_128 C hnm N Z v0 v1 M24 _ _ h
  · rw [if_pos hc4] at h
    refine j_aload_n C dX4_carryOut_20 rfl 1 rfl ?_
    refine j_aload_n C dX4_carryOut_21 rfl 2 rfl ?_
    refine j_getI C (cn := RX7) (T := TX7) (N := 5) (ci := 7) rfl iX7 ho3 1 (by decide) rfl fwRX4_63 dX4_carryOut_22 ?_
    refine j_aload_n C dX4_carryOut_25 rfl 2 rfl ?_
    refine j_getI C (cn := RX7) (T := TX7) (N := 5) (ci := 7) rfl iX7 ho3 2 (by decide) rfl fwRX4_80 dX4_carryOut_26 ?_
    obtain ⟨ho5, h⟩ := ck_spec h
    obtain ⟨r6, M6, hq6, h⟩ := bnd2_spec h
    refine j_run1 (c_V C (As := [.int (M.1 v1 1), .int (M.1 v1 2)]) (rest := []) (ctX4_postsByLevel C.2.2.2.2.2.2.2.2.1 N Z hq6) kcRX4_83 oyX4_postsByLevel (ci := 4) (T := TX4) (N := 7) rfl (by decide) ho5 ⟨by decide, by decide⟩ ⟨by decide, by decide⟩ (Nat.le_of_ble_eq_true rfl) rfl dX4_carryOut_29) ?_
    refine j_istore_n C dX4_carryOut_32 rfl (by decide) (L' := [(3, .int r6), (2, .int x0), (0, .ref v0), (1, .ref v1)]) rfl ?_
    refine j_aload_n C dX4_carryOut_33 rfl 2 rfl ?_
    obtain ⟨c7, hr7, h⟩ := bnd1_spec h
    refine j_getR C (cn := RX4) (T := TX4) (N := 7) (ci := 4) rfl iX4 ho5 2 (by decide) rfl fwRX4_18 dX4_carryOut_34 hr7 ?_
    refine j_aload_n C dX4_carryOut_37 rfl 3 rfl ?_
    refine j_getI C (cn := RX7) (T := TX7) (N := 5) (ci := 7) rfl iX7 ho3 1 (by decide) rfl fwRX4_63 dX4_carryOut_38 ?_
    refine j_aload_n C dX4_carryOut_41 rfl 2 rfl ?_
    refine j_getR C (cn := RX4) (T := TX4) (N := 7) (ci := 4) rfl iX4 ho5 2 (by decide) rfl fwRX4_18 dX4_carryOut_42 hr7 ?_
    refine j_aload_n C dX4_carryOut_45 rfl 3 rfl ?_
    refine j_getI C (cn := RX7) (T := TX7) (N := 5) (ci := 7) rfl iX7 ho3 1 (by decide) rfl fwRX4_63 dX4_carryOut_46 ?_
    obtain ⟨r8, M8, hq8, h⟩ := bnd2_spec h
    refine j_run1 (c_SN C (As := [.ref c7, .int (M6.1 v1 1)]) (rest := [.int (M6.1 v1 1), .ref c7]) (ctX8_at C.2.2.2.2.2.2.2.2.1 N Z hq8) kcRX4_41 oyX8_at ⟨by decide, by decide⟩ ⟨by decide, by decide⟩ (Nat.le_of_ble_eq_true rfl) rfl dX4_carryOut_49) ?_
    refine j_iload_n C dX4_carryOut_52 rfl 1 rfl ?_
    refine j_iadd C dX4_carryOut_53 ?_
    obtain ⟨_, M9, hq9, h⟩ := bnd2_spec h
    refine j_run0 (c_SN C (As := [.ref c7, .int (M6.1 v1 1), .int (r8 + x0)]) (rest := []) (ctX8_write C.2.2.2.2.2.2.2.2.1 N Z hq9) kcRX4_86 oyX8_write ⟨by decide, by decide⟩ ⟨by decide, by decide⟩ (Nat.le_of_ble_eq_true rfl) rfl dX4_carryOut_54) ?_
    refine j_aload_n C dX4_carryOut_57 rfl 2 rfl ?_
    refine j_iconst C dX4_carryOut_58 (v := (0 : Int32)) (by decide) ?_
    refine j_iload_n C dX4_carryOut_59 rfl 1 rfl ?_
    refine j_ineg C dX4_carryOut_60 ?_
    refine j_iload_n C dX4_carryOut_61 rfl 0 rfl ?_
    refine j_imul C dX4_carryOut_62 ?_
    obtain ⟨_, M10, hq10, h⟩ := bnd2_spec h
    refine j_run0 (c_V C (As := [.int (0 : Int32), .int (((-x0)) * r6)]) (rest := []) (ctX4_supply C.2.2.2.2.2.2.2.2.1 N Z hq10) kcRX4_90 oyX4_supply (ci := 4) (T := TX4) (N := 7) rfl (by decide) ho5 ⟨by decide, by decide⟩ ⟨by decide, by decide⟩ (Nat.le_of_ble_eq_true rfl) rfl dX4_carryOut_63) ?_
    refine j_aload_n C dX4_carryOut_66 rfl 2 rfl ?_
    refine j_iconst C dX4_carryOut_67 (v := (1 : Int32)) (by decide) ?_
    refine j_iload_n C dX4_carryOut_68 rfl 1 rfl ?_
    refine j_ineg C dX4_carryOut_69 ?_
    refine j_iconst C dX4_carryOut_70 (v := (2 : Int32)) (by decide) ?_
    refine j_imul C dX4_carryOut_71 ?_
    obtain ⟨_, M11, hq11, h⟩ := bnd2_spec h
    refine j_run0 (c_V C (As := [.int (1 : Int32), .int (((-x0)) * (2 : Int32))]) (rest := []) (ctX4_supply C.2.2.2.2.2.2.2.2.1 N Z hq11) kcRX4_90 oyX4_supply (ci := 4) (T := TX4) (N := 7) rfl (by decide) ho5 ⟨by decide, by decide⟩ ⟨by decide, by decide⟩ (Nat.le_of_ble_eq_true rfl) rfl dX4_carryOut_72) ?_
    refine j_goto C dX4_carryOut_75 (tgt := 128) (by decide) ?_
    refine j_sub (L' := [(0, .ref v0), (1, .ref v1)]) [2, 3] rfl ?_
    exact tX4_carryOut_128 C hnm N Z v0 v1 M11 _ _ h
def fX4_carryOut (N : Nat) (Z : mZ) (a0 : Nat) (a1 : Nat) (M : mM) : Option (Unit × mM) := ck (okO Z a1 7) (if (M.1 a1 4) = 0 then fX4_carryOut_12 N Z a0 a1 (1 : Int32) M else fX4_carryOut_12 N Z a0 a1 (-1 : Int32) M)
set_option maxHeartbeats 4000000 in
set_option maxRecDepth 100000 in
theorem ctX4_carryOut {G : mG} {l : Launch} (hl : l.stackTraces = false) (N : Nat) (Z : mZ) {a0 : Nat} {a1 : Nat} {M : mM} {r : Unit} {M' : mM} (h : fX4_carryOut N Z a0 a1 M = some (r, M')) : CT G l yX4_carryOut (.code yX4_carryOut cX4_carryOut 4 none) rmX4_carryOut [.ref a0, .ref a1] Z M (.inl none) Z M' := by
  unfold fX4_carryOut at h
  refine CT.of hl (by decide) (Nat.le_of_ble_eq_true rfl) ?_
  intro p e s m args below meth c C hnm
  refine j_sub (L' := [(0, .ref a0), (1, .ref a1)]) [0, 1] rfl ?_
  refine j_aload_n C dX4_carryOut_0 rfl 1 rfl ?_
  obtain ⟨ho1, h⟩ := ck_spec h
  refine j_getI C (cn := RX7) (T := TX7) (N := 5) (ci := 7) rfl iX7 ho1 4 (by decide) rfl fwRX4_76 dX4_carryOut_1 ?_
  refine j_if_eq C dX4_carryOut_4 (tgt := 11) (by decide) (fun hc2 => ?_) (fun hc2 => ?_)
  · rw [if_pos hc2] at h
    refine j_iconst C dX4_carryOut_11 (v := (1 : Int32)) (by decide) ?_
    refine j_sub (L' := [(0, .ref a0), (1, .ref a1)]) [0, 1] rfl ?_
    exact tX4_carryOut_12 C hnm N Z a0 a1 (1 : Int32) M _ _ h
  · rw [if_neg hc2] at h
    refine j_iconst C dX4_carryOut_7 (v := (-1 : Int32)) (by decide) ?_
    refine j_goto C dX4_carryOut_8 (tgt := 12) (by decide) ?_
    refine j_sub (L' := [(0, .ref a0), (1, .ref a1)]) [0, 1] rfl ?_
    exact tX4_carryOut_12 C hnm N Z a0 a1 (-1 : Int32) M _ _ h
-- ScaffoldPlanner isHeld
abbrev rmX8_isHeld : Room := { frames := 0, cells := 0, slots := 0, locals := 0 }
theorem dX8_isHeld_0 : decode cX8_isHeld 0 = .ok (.iconst 0, 1) := by decide +kernel
theorem dX8_isHeld_1 : decode cX8_isHeld 1 = .ok (.istore 4, 2) := by decide +kernel
theorem dX8_isHeld_3 : decode cX8_isHeld 3 = .ok (.iconst 1, 1) := by decide +kernel
theorem dX8_isHeld_4 : decode cX8_isHeld 4 = .ok (.istore 5, 2) := by decide +kernel
theorem dX8_isHeld_6 : decode cX8_isHeld 6 = .ok (.iload 5, 2) := by decide +kernel
theorem dX8_isHeld_8 : decode cX8_isHeld 8 = .ok (.iload_n 1, 1) := by decide +kernel
theorem dX8_isHeld_9 : decode cX8_isHeld 9 = .ok (.if_icmp .gt 36, 3) := by decide +kernel
theorem dX8_isHeld_12 : decode cX8_isHeld 12 = .ok (.iload_n 0, 1) := by decide +kernel
theorem dX8_isHeld_13 : decode cX8_isHeld 13 = .ok (.iload 5, 2) := by decide +kernel
theorem dX8_isHeld_15 : decode cX8_isHeld 15 = .ok (.ishr, 1) := by decide +kernel
theorem dX8_isHeld_16 : decode cX8_isHeld 16 = .ok (.iconst 1, 1) := by decide +kernel
theorem dX8_isHeld_17 : decode cX8_isHeld 17 = .ok (.iand, 1) := by decide +kernel
theorem dX8_isHeld_18 : decode cX8_isHeld 18 = .ok (.ifCond .ne 6, 3) := by decide +kernel
theorem dX8_isHeld_21 : decode cX8_isHeld 21 = .ok (.goto 18, 3) := by decide +kernel
theorem dX8_isHeld_24 : decode cX8_isHeld 24 = .ok (.iload 5, 2) := by decide +kernel
theorem dX8_isHeld_26 : decode cX8_isHeld 26 = .ok (.iload 4, 2) := by decide +kernel
theorem dX8_isHeld_28 : decode cX8_isHeld 28 = .ok (.isub, 1) := by decide +kernel
theorem dX8_isHeld_29 : decode cX8_isHeld 29 = .ok (.iload_n 2, 1) := by decide +kernel
theorem dX8_isHeld_30 : decode cX8_isHeld 30 = .ok (.if_icmp .le 5, 3) := by decide +kernel
theorem dX8_isHeld_33 : decode cX8_isHeld 33 = .ok (.iconst 0, 1) := by decide +kernel
theorem dX8_isHeld_34 : decode cX8_isHeld 34 = .ok (.ireturn, 1) := by decide +kernel
theorem dX8_isHeld_35 : decode cX8_isHeld 35 = .ok (.iload 5, 2) := by decide +kernel
theorem dX8_isHeld_37 : decode cX8_isHeld 37 = .ok (.istore 4, 2) := by decide +kernel
theorem dX8_isHeld_39 : decode cX8_isHeld 39 = .ok (.iinc 5 1, 3) := by decide +kernel
theorem dX8_isHeld_42 : decode cX8_isHeld 42 = .ok (.goto (-36), 3) := by decide +kernel
theorem dX8_isHeld_45 : decode cX8_isHeld 45 = .ok (.iload_n 1, 1) := by decide +kernel
theorem dX8_isHeld_46 : decode cX8_isHeld 46 = .ok (.iload 4, 2) := by decide +kernel
theorem dX8_isHeld_48 : decode cX8_isHeld 48 = .ok (.isub, 1) := by decide +kernel
theorem dX8_isHeld_49 : decode cX8_isHeld 49 = .ok (.iload_n 3, 1) := by decide +kernel
theorem dX8_isHeld_50 : decode cX8_isHeld 50 = .ok (.if_icmp .gt 7, 3) := by decide +kernel
theorem dX8_isHeld_53 : decode cX8_isHeld 53 = .ok (.iconst 1, 1) := by decide +kernel
theorem dX8_isHeld_54 : decode cX8_isHeld 54 = .ok (.goto 4, 3) := by decide +kernel
theorem dX8_isHeld_57 : decode cX8_isHeld 57 = .ok (.iconst 0, 1) := by decide +kernel
theorem dX8_isHeld_58 : decode cX8_isHeld 58 = .ok (.ireturn, 1) := by decide +kernel
def fX8_isHeld_6 (N : Nat) (Z : mZ) : Nat → Int32 → Int32 → Int32 → Int32 → Int32 → Int32 → mM → Option (Int32 × mM)
  | 0, _, _, _, _, _, _, _ => none
  | fu + 1, v0, v1, v2, v3, v4, v5, M => if v1 < v5 then if v3 < (v1 - v4) then some ((0 : Int32), M) else some ((1 : Int32), M) else if ((v0 >>> (v5 &&& 31)) &&& (1 : Int32)) = 0 then fX8_isHeld_6 N Z fu v0 v1 v2 v3 v4 (v5 + (1 : Int32)) M else if (v5 - v4) ≤ v2 then fX8_isHeld_6 N Z fu v0 v1 v2 v3 v5 (v5 + (1 : Int32)) M else some ((0 : Int32), M)
set_option maxHeartbeats 4000000 in
set_option maxRecDepth 100000 in
theorem tX8_isHeld_6 {G : mG} {p : Program} {l : Launch} {e : Env} {s : State} {m : MethodId} {args : Array Value} {below : List Frame} {meth : Method} {c : Code} (C : Cx G p l s m args meth c RX8 cX8_isHeld 6 (some .boolean) []) (hnm : meth.name = yX8_isHeld.name) (N : Nat) (Z : mZ) : ∀ (fu : Nat) (v0 : Int32) (v1 : Int32) (v2 : Int32) (v3 : Int32) (v4 : Int32) (v5 : Int32) (M : mM) (r : Int32) (M' : mM), fX8_isHeld_6 N Z fu v0 v1 v2 v3 v4 v5 M = some (r, M') → JJ G p l e rmX8_isHeld s m args below meth c 6 (mEnd G below args s rmX8_isHeld (.inl (some (.int r))) Z M') 0 0 6 [(0, .int v0), (1, .int v1), (2, .int v2), (3, .int v3), (4, .int v4), (5, .int v5)] [] Z M := by
  intro fu
  induction fu with
  | zero =>
    intro v0 v1 v2 v3 v4 v5 M r M' h
    cases h
  | succ fu ih =>
    intro v0 v1 v2 v3 v4 v5 M r M' h
    rw [fX8_isHeld_6] at h
    refine j_iload C dX8_isHeld_6 5 rfl ?_
    refine j_iload_n C dX8_isHeld_8 rfl 1 rfl ?_
    refine j_icmp_gt C dX8_isHeld_9 (tgt := 45) (by decide) (fun hc1 => ?_) (fun hc1 => ?_)
    · rw [if_pos hc1] at h
      refine j_iload_n C dX8_isHeld_45 rfl 1 rfl ?_
      refine j_iload C dX8_isHeld_46 4 rfl ?_
      refine j_isub C dX8_isHeld_48 ?_
      refine j_iload_n C dX8_isHeld_49 rfl 3 rfl ?_
      refine j_icmp_gt C dX8_isHeld_50 (tgt := 57) (by decide) (fun hc2 => ?_) (fun hc2 => ?_)
      · rw [if_pos hc2] at h
        refine j_iconst C dX8_isHeld_57 (v := (0 : Int32)) (by decide) ?_
        cases h
        exact j_zret C rfl (by decide) (by decide) (by decide) dX8_isHeld_58
      · rw [if_neg hc2] at h
        refine j_iconst C dX8_isHeld_53 (v := (1 : Int32)) (by decide) ?_
        refine j_goto C dX8_isHeld_54 (tgt := 58) (by decide) ?_
        cases h
        exact j_zret C rfl (by decide) (by decide) (by decide) dX8_isHeld_58
    · rw [if_neg hc1] at h
      refine j_iload_n C dX8_isHeld_12 rfl 0 rfl ?_
      refine j_iload C dX8_isHeld_13 5 rfl ?_
      refine j_ishr C dX8_isHeld_15 ?_
      refine j_iconst C dX8_isHeld_16 (v := (1 : Int32)) (by decide) ?_
      refine j_iand C dX8_isHeld_17 ?_
      refine j_if_ne C dX8_isHeld_18 (tgt := 24) (by decide) (fun hc3 => ?_) (fun hc3 => ?_)
      · rw [if_neg hc3] at h
        refine j_iload C dX8_isHeld_24 5 rfl ?_
        refine j_iload C dX8_isHeld_26 4 rfl ?_
        refine j_isub C dX8_isHeld_28 ?_
        refine j_iload_n C dX8_isHeld_29 rfl 2 rfl ?_
        refine j_icmp_le C dX8_isHeld_30 (tgt := 35) (by decide) (fun hc4 => ?_) (fun hc4 => ?_)
        · rw [if_pos hc4] at h
          refine j_iload C dX8_isHeld_35 5 rfl ?_
          refine j_istore C dX8_isHeld_37 (by decide) (L' := [(4, .int v5), (0, .int v0), (1, .int v1), (2, .int v2), (3, .int v3), (5, .int v5)]) rfl ?_
          refine j_iinc C dX8_isHeld_39 5 rfl (v := (v5 + (1 : Int32))) (by first | rfl | decide) (by decide) (L' := [(5, .int (v5 + (1 : Int32))), (4, .int v5), (0, .int v0), (1, .int v1), (2, .int v2), (3, .int v3)]) rfl ?_
          refine j_goto C dX8_isHeld_42 (tgt := 6) (by decide) ?_
          refine j_sub (L' := [(0, .int v0), (1, .int v1), (2, .int v2), (3, .int v3), (4, .int v5), (5, .int (v5 + (1 : Int32)))]) [2, 3, 4, 5, 1, 0] rfl ?_
          exact ih v0 v1 v2 v3 v5 (v5 + (1 : Int32)) M r M' h
        · rw [if_neg hc4] at h
          refine j_iconst C dX8_isHeld_33 (v := (0 : Int32)) (by decide) ?_
          cases h
          exact j_zret C rfl (by decide) (by decide) (by decide) dX8_isHeld_34
      · rw [if_pos hc3] at h
        refine j_goto C dX8_isHeld_21 (tgt := 39) (by decide) ?_
        refine j_iinc C dX8_isHeld_39 5 rfl (v := (v5 + (1 : Int32))) (by first | rfl | decide) (by decide) (L' := [(5, .int (v5 + (1 : Int32))), (0, .int v0), (1, .int v1), (2, .int v2), (3, .int v3), (4, .int v4)]) rfl ?_
        refine j_goto C dX8_isHeld_42 (tgt := 6) (by decide) ?_
        refine j_sub (L' := [(0, .int v0), (1, .int v1), (2, .int v2), (3, .int v3), (4, .int v4), (5, .int (v5 + (1 : Int32)))]) [1, 2, 3, 4, 5, 0] rfl ?_
        exact ih v0 v1 v2 v3 v4 (v5 + (1 : Int32)) M r M' h
def fX8_isHeld (N : Nat) (Z : mZ) (a0 : Int32) (a1 : Int32) (a2 : Int32) (a3 : Int32) (M : mM) : Option (Int32 × mM) := fX8_isHeld_6 N Z N a0 a1 a2 a3 (0 : Int32) (1 : Int32) M
set_option maxHeartbeats 4000000 in
set_option maxRecDepth 100000 in
theorem ctX8_isHeld {G : mG} {l : Launch} (hl : l.stackTraces = false) (N : Nat) (Z : mZ) {a0 : Int32} {a1 : Int32} {a2 : Int32} {a3 : Int32} {M : mM} {r : Int32} {M' : mM} (h : fX8_isHeld N Z a0 a1 a2 a3 M = some (r, M')) : CT G l yX8_isHeld (.code yX8_isHeld cX8_isHeld 6 (some .boolean)) rmX8_isHeld [.int a0, .int a1, .int a2, .int a3] Z M (.inl (some (.int r))) Z M' := by
  unfold fX8_isHeld at h
  refine CT.of hl (by decide) (Nat.le_of_ble_eq_true rfl) ?_
  intro p e s m args below meth c C hnm
  refine j_sub (L' := [(0, .int a0), (1, .int a1), (2, .int a2), (3, .int a3)]) [0, 1, 2, 3] rfl ?_
  refine j_iconst C dX8_isHeld_0 (v := (0 : Int32)) (by decide) ?_
  refine j_istore C dX8_isHeld_1 (by decide) (L' := [(4, .int (0 : Int32)), (0, .int a0), (1, .int a1), (2, .int a2), (3, .int a3)]) rfl ?_
  refine j_iconst C dX8_isHeld_3 (v := (1 : Int32)) (by decide) ?_
  refine j_istore C dX8_isHeld_4 (by decide) (L' := [(5, .int (1 : Int32)), (4, .int (0 : Int32)), (0, .int a0), (1, .int a1), (2, .int a2), (3, .int a3)]) rfl ?_
  refine j_sub (L' := [(0, .int a0), (1, .int a1), (2, .int a2), (3, .int a3), (4, .int (0 : Int32)), (5, .int (1 : Int32))]) [2, 3, 4, 5, 1, 0] rfl ?_
  exact tX8_isHeld_6 C hnm N Z N a0 a1 a2 a3 (0 : Int32) (1 : Int32) M _ _ h
-- ScaffoldPlanner$Plan isHeldBy
theorem kcRX4_102 : okSN RX4 102 yX8_isHeld "ScaffoldPlanner" (.code yX8_isHeld cX8_isHeld 6 (some .boolean)) = true := by decide +kernel
theorem oyX8_isHeld : okY yX8_isHeld 4 := ⟨by decide +kernel, by decide +kernel, by decide +kernel⟩
abbrev rmX4_isHeldBy : Room := { frames := 1, cells := 0, slots := 0, locals := 25 }
theorem dX4_isHeldBy_0 : decode cX4_isHeldBy 0 = .ok (.iload_n 1, 1) := by decide +kernel
theorem dX4_isHeldBy_1 : decode cX4_isHeldBy 1 = .ok (.iload_n 2, 1) := by decide +kernel
theorem dX4_isHeldBy_2 : decode cX4_isHeldBy 2 = .ok (.aload_n 0, 1) := by decide +kernel
theorem dX4_isHeldBy_3 : decode cX4_isHeldBy 3 = .ok (.getfield 28, 3) := by decide +kernel
theorem dX4_isHeldBy_6 : decode cX4_isHeldBy 6 = .ok (.iconst 0, 1) := by decide +kernel
theorem dX4_isHeldBy_7 : decode cX4_isHeldBy 7 = .ok (.invokestatic 41, 3) := by decide +kernel
theorem dX4_isHeldBy_10 : decode cX4_isHeldBy 10 = .ok (.aload_n 0, 1) := by decide +kernel
theorem dX4_isHeldBy_11 : decode cX4_isHeldBy 11 = .ok (.getfield 28, 3) := by decide +kernel
theorem dX4_isHeldBy_14 : decode cX4_isHeldBy 14 = .ok (.iconst 1, 1) := by decide +kernel
theorem dX4_isHeldBy_15 : decode cX4_isHeldBy 15 = .ok (.invokestatic 41, 3) := by decide +kernel
theorem dX4_isHeldBy_18 : decode cX4_isHeldBy 18 = .ok (.invokestatic 102, 3) := by decide +kernel
theorem dX4_isHeldBy_21 : decode cX4_isHeldBy 21 = .ok (.ireturn, 1) := by decide +kernel
def fX4_isHeldBy (N : Nat) (Z : mZ) (a0 : Nat) (a1 : Int32) (a2 : Int32) (M : mM) : Option (Int32 × mM) := ck (okO Z a0 4) (bnd1 (Z.2.2.2 a0 5) (fun c2 => bnd2 (fX8_at N Z c2 (0 : Int32) M) (fun r3 M3 => bnd2 (fX8_at N Z c2 (1 : Int32) M3) (fun r4 M4 => bnd2 (fX8_isHeld N Z a1 a2 r3 r4 M4) (fun r5 M5 => ck (isB r5) (some (r5, M5)))))))
set_option maxHeartbeats 4000000 in
set_option maxRecDepth 100000 in
theorem ctX4_isHeldBy {G : mG} {l : Launch} (hl : l.stackTraces = false) (N : Nat) (Z : mZ) {a0 : Nat} {a1 : Int32} {a2 : Int32} {M : mM} {r : Int32} {M' : mM} (h : fX4_isHeldBy N Z a0 a1 a2 M = some (r, M')) : CT G l yX4_isHeldBy (.code yX4_isHeldBy cX4_isHeldBy 3 (some .boolean)) rmX4_isHeldBy [.ref a0, .int a1, .int a2] Z M (.inl (some (.int r))) Z M' := by
  unfold fX4_isHeldBy at h
  refine CT.of hl (by decide) (Nat.le_of_ble_eq_true rfl) ?_
  intro p e s m args below meth c C hnm
  refine j_sub (L' := [(0, .ref a0), (1, .int a1), (2, .int a2)]) [0, 1, 2] rfl ?_
  refine j_iload_n C dX4_isHeldBy_0 rfl 1 rfl ?_
  refine j_iload_n C dX4_isHeldBy_1 rfl 2 rfl ?_
  refine j_aload_n C dX4_isHeldBy_2 rfl 0 rfl ?_
  obtain ⟨ho1, h⟩ := ck_spec h
  obtain ⟨c2, hr2, h⟩ := bnd1_spec h
  refine j_getR C (cn := RX4) (T := TX4) (N := 7) (ci := 4) rfl iX4 ho1 5 (by decide) rfl fwRX4_28 dX4_isHeldBy_3 hr2 ?_
  refine j_iconst C dX4_isHeldBy_6 (v := (0 : Int32)) (by decide) ?_
  obtain ⟨r3, M3, hq3, h⟩ := bnd2_spec h
  refine j_run1 (c_SN C (As := [.ref c2, .int (0 : Int32)]) (rest := [.int a2, .int a1]) (ctX8_at C.2.2.2.2.2.2.2.2.1 N Z hq3) kcRX4_41 oyX8_at ⟨by decide, by decide⟩ ⟨by decide, by decide⟩ (Nat.le_of_ble_eq_true rfl) rfl dX4_isHeldBy_7) ?_
  refine j_aload_n C dX4_isHeldBy_10 rfl 0 rfl ?_
  refine j_getR C (cn := RX4) (T := TX4) (N := 7) (ci := 4) rfl iX4 ho1 5 (by decide) rfl fwRX4_28 dX4_isHeldBy_11 hr2 ?_
  refine j_iconst C dX4_isHeldBy_14 (v := (1 : Int32)) (by decide) ?_
  obtain ⟨r4, M4, hq4, h⟩ := bnd2_spec h
  refine j_run1 (c_SN C (As := [.ref c2, .int (1 : Int32)]) (rest := [.int r3, .int a2, .int a1]) (ctX8_at C.2.2.2.2.2.2.2.2.1 N Z hq4) kcRX4_41 oyX8_at ⟨by decide, by decide⟩ ⟨by decide, by decide⟩ (Nat.le_of_ble_eq_true rfl) rfl dX4_isHeldBy_15) ?_
  obtain ⟨r5, M5, hq5, h⟩ := bnd2_spec h
  refine j_run1 (c_SN C (As := [.int a1, .int a2, .int r3, .int r4]) (rest := []) (ctX8_isHeld C.2.2.2.2.2.2.2.2.1 N Z hq5) kcRX4_102 oyX8_isHeld ⟨by decide, by decide⟩ ⟨by decide, by decide⟩ (Nat.le_of_ble_eq_true rfl) rfl dX4_isHeldBy_18) ?_
  obtain ⟨ho6, h⟩ := ck_spec h
  cases h
  exact j_zret C rfl (isB_spec ho6) (by decide) (by decide) dX4_isHeldBy_21
-- ScaffoldPlanner$Plan lowestUnheldPost
theorem kcRX4_106 : okV RX4 106 yX4_isHeldBy (.code yX4_isHeldBy cX4_isHeldBy 3 (some .boolean)) = true := by decide +kernel
theorem oyX4_isHeldBy : okY yX4_isHeldBy 2 := ⟨by decide +kernel, by decide +kernel, by decide +kernel⟩
abbrev rmX4_lowestUnheldPost : Room := { frames := 2, cells := 0, slots := 0, locals := 47 }
theorem dX4_lowestUnheldPost_0 : decode cX4_lowestUnheldPost 0 = .ok (.iconst 0, 1) := by decide +kernel
theorem dX4_lowestUnheldPost_1 : decode cX4_lowestUnheldPost 1 = .ok (.istore_n 1, 1) := by decide +kernel
theorem dX4_lowestUnheldPost_2 : decode cX4_lowestUnheldPost 2 = .ok (.iload_n 1, 1) := by decide +kernel
theorem dX4_lowestUnheldPost_3 : decode cX4_lowestUnheldPost 3 = .ok (.aload_n 0, 1) := by decide +kernel
theorem dX4_lowestUnheldPost_4 : decode cX4_lowestUnheldPost 4 = .ok (.getfield 9, 3) := by decide +kernel
theorem dX4_lowestUnheldPost_7 : decode cX4_lowestUnheldPost 7 = .ok (.if_icmp .ge 29, 3) := by decide +kernel
theorem dX4_lowestUnheldPost_10 : decode cX4_lowestUnheldPost 10 = .ok (.aload_n 0, 1) := by decide +kernel
theorem dX4_lowestUnheldPost_11 : decode cX4_lowestUnheldPost 11 = .ok (.aload_n 0, 1) := by decide +kernel
theorem dX4_lowestUnheldPost_12 : decode cX4_lowestUnheldPost 12 = .ok (.iconst 4, 1) := by decide +kernel
theorem dX4_lowestUnheldPost_13 : decode cX4_lowestUnheldPost 13 = .ok (.iload_n 1, 1) := by decide +kernel
theorem dX4_lowestUnheldPost_14 : decode cX4_lowestUnheldPost 14 = .ok (.invokevirtual 45, 3) := by decide +kernel
theorem dX4_lowestUnheldPost_17 : decode cX4_lowestUnheldPost 17 = .ok (.aload_n 0, 1) := by decide +kernel
theorem dX4_lowestUnheldPost_18 : decode cX4_lowestUnheldPost 18 = .ok (.iload_n 1, 1) := by decide +kernel
theorem dX4_lowestUnheldPost_19 : decode cX4_lowestUnheldPost 19 = .ok (.invokevirtual 66, 3) := by decide +kernel
theorem dX4_lowestUnheldPost_22 : decode cX4_lowestUnheldPost 22 = .ok (.invokevirtual 106, 3) := by decide +kernel
theorem dX4_lowestUnheldPost_25 : decode cX4_lowestUnheldPost 25 = .ok (.ifCond .ne 5, 3) := by decide +kernel
theorem dX4_lowestUnheldPost_28 : decode cX4_lowestUnheldPost 28 = .ok (.iload_n 1, 1) := by decide +kernel
theorem dX4_lowestUnheldPost_29 : decode cX4_lowestUnheldPost 29 = .ok (.ireturn, 1) := by decide +kernel
theorem dX4_lowestUnheldPost_30 : decode cX4_lowestUnheldPost 30 = .ok (.iinc 1 1, 3) := by decide +kernel
theorem dX4_lowestUnheldPost_33 : decode cX4_lowestUnheldPost 33 = .ok (.goto (-31), 3) := by decide +kernel
theorem dX4_lowestUnheldPost_36 : decode cX4_lowestUnheldPost 36 = .ok (.iconst (-1), 1) := by decide +kernel
theorem dX4_lowestUnheldPost_37 : decode cX4_lowestUnheldPost 37 = .ok (.ireturn, 1) := by decide +kernel
def fX4_lowestUnheldPost_2 (N : Nat) (Z : mZ) : Nat → Nat → Int32 → mM → Option (Int32 × mM)
  | 0, _, _, _ => none
  | fu + 1, v0, v1, M => ck (okO Z v0 4) (if (M.1 v0 0) ≤ v1 then some ((-1 : Int32), M) else bnd2 (fX4_levelsWith N Z v0 (4 : Int32) v1 M) (fun r3 M3 => bnd2 (fX4_postHeight N Z v0 v1 M3) (fun r4 M4 => bnd2 (fX4_isHeldBy N Z v0 r3 r4 M4) (fun r5 M5 => if r5 = 0 then some (v1, M5) else fX4_lowestUnheldPost_2 N Z fu v0 (v1 + (1 : Int32)) M5))))
set_option maxHeartbeats 4000000 in
set_option maxRecDepth 100000 in
theorem tX4_lowestUnheldPost_2 {G : mG} {p : Program} {l : Launch} {e : Env} {s : State} {m : MethodId} {args : Array Value} {below : List Frame} {meth : Method} {c : Code} (C : Cx G p l s m args meth c RX4 cX4_lowestUnheldPost 2 (some .int) []) (hnm : meth.name = yX4_lowestUnheldPost.name) (N : Nat) (Z : mZ) : ∀ (fu : Nat) (v0 : Nat) (v1 : Int32) (M : mM) (r : Int32) (M' : mM), fX4_lowestUnheldPost_2 N Z fu v0 v1 M = some (r, M') → JJ G p l e rmX4_lowestUnheldPost s m args below meth c 2 (mEnd G below args s rmX4_lowestUnheldPost (.inl (some (.int r))) Z M') 0 0 2 [(0, .ref v0), (1, .int v1)] [] Z M := by
  intro fu
  induction fu with
  | zero =>
    intro v0 v1 M r M' h
    cases h
  | succ fu ih =>
    intro v0 v1 M r M' h
    rw [fX4_lowestUnheldPost_2] at h
    refine j_iload_n C dX4_lowestUnheldPost_2 rfl 1 rfl ?_
    refine j_aload_n C dX4_lowestUnheldPost_3 rfl 0 rfl ?_
    obtain ⟨ho1, h⟩ := ck_spec h
    refine j_getI C (cn := RX4) (T := TX4) (N := 7) (ci := 4) rfl iX4 ho1 0 (by decide) rfl fwRX4_9 dX4_lowestUnheldPost_4 ?_
    refine j_icmp_ge C dX4_lowestUnheldPost_7 (tgt := 36) (by decide) (fun hc2 => ?_) (fun hc2 => ?_)
    · rw [if_pos hc2] at h
      refine j_iconst C dX4_lowestUnheldPost_36 (v := (-1 : Int32)) (by decide) ?_
      cases h
      exact j_iret C rfl (by decide) (by decide) dX4_lowestUnheldPost_37
    · rw [if_neg hc2] at h
      refine j_aload_n C dX4_lowestUnheldPost_10 rfl 0 rfl ?_
      refine j_aload_n C dX4_lowestUnheldPost_11 rfl 0 rfl ?_
      refine j_iconst C dX4_lowestUnheldPost_12 (v := (4 : Int32)) (by decide) ?_
      refine j_iload_n C dX4_lowestUnheldPost_13 rfl 1 rfl ?_
      obtain ⟨r3, M3, hq3, h⟩ := bnd2_spec h
      refine j_run1 (c_V C (As := [.int (4 : Int32), .int v1]) (rest := [.ref v0]) (ctX4_levelsWith C.2.2.2.2.2.2.2.2.1 N Z hq3) kcRX4_45 oyX4_levelsWith (ci := 4) (T := TX4) (N := 7) rfl (by decide) ho1 ⟨by decide, by decide⟩ ⟨by decide, by decide⟩ (Nat.le_of_ble_eq_true rfl) rfl dX4_lowestUnheldPost_14) ?_
      refine j_aload_n C dX4_lowestUnheldPost_17 rfl 0 rfl ?_
      refine j_iload_n C dX4_lowestUnheldPost_18 rfl 1 rfl ?_
      obtain ⟨r4, M4, hq4, h⟩ := bnd2_spec h
      refine j_run1 (c_V C (As := [.int v1]) (rest := [.int r3, .ref v0]) (ctX4_postHeight C.2.2.2.2.2.2.2.2.1 N Z hq4) kcRX4_66 oyX4_postHeight (ci := 4) (T := TX4) (N := 7) rfl (by decide) ho1 ⟨by decide, by decide⟩ ⟨by decide, by decide⟩ (Nat.le_of_ble_eq_true rfl) rfl dX4_lowestUnheldPost_19) ?_
      obtain ⟨r5, M5, hq5, h⟩ := bnd2_spec h
      refine j_run1 (c_V C (As := [.int r3, .int r4]) (rest := []) (ctX4_isHeldBy C.2.2.2.2.2.2.2.2.1 N Z hq5) kcRX4_106 oyX4_isHeldBy (ci := 4) (T := TX4) (N := 7) rfl (by decide) ho1 ⟨by decide, by decide⟩ ⟨by decide, by decide⟩ (Nat.le_of_ble_eq_true rfl) rfl dX4_lowestUnheldPost_22) ?_
      refine j_if_ne C dX4_lowestUnheldPost_25 (tgt := 30) (by decide) (fun hc6 => ?_) (fun hc6 => ?_)
      · rw [if_neg hc6] at h
        refine j_iinc C dX4_lowestUnheldPost_30 1 rfl (v := (v1 + (1 : Int32))) (by first | rfl | decide) (by decide) (L' := [(1, .int (v1 + (1 : Int32))), (0, .ref v0)]) rfl ?_
        refine j_goto C dX4_lowestUnheldPost_33 (tgt := 2) (by decide) ?_
        refine j_sub (L' := [(0, .ref v0), (1, .int (v1 + (1 : Int32)))]) [1, 0] rfl ?_
        exact ih v0 (v1 + (1 : Int32)) M5 r M' h
      · rw [if_pos hc6] at h
        refine j_iload_n C dX4_lowestUnheldPost_28 rfl 1 rfl ?_
        cases h
        exact j_iret C rfl (by decide) (by decide) dX4_lowestUnheldPost_29
def fX4_lowestUnheldPost (N : Nat) (Z : mZ) (a0 : Nat) (M : mM) : Option (Int32 × mM) := fX4_lowestUnheldPost_2 N Z N a0 (0 : Int32) M
set_option maxHeartbeats 4000000 in
set_option maxRecDepth 100000 in
theorem ctX4_lowestUnheldPost {G : mG} {l : Launch} (hl : l.stackTraces = false) (N : Nat) (Z : mZ) {a0 : Nat} {M : mM} {r : Int32} {M' : mM} (h : fX4_lowestUnheldPost N Z a0 M = some (r, M')) : CT G l yX4_lowestUnheldPost (.code yX4_lowestUnheldPost cX4_lowestUnheldPost 2 (some .int)) rmX4_lowestUnheldPost [.ref a0] Z M (.inl (some (.int r))) Z M' := by
  unfold fX4_lowestUnheldPost at h
  refine CT.of hl (by decide) (Nat.le_of_ble_eq_true rfl) ?_
  intro p e s m args below meth c C hnm
  refine j_sub (L' := [(0, .ref a0)]) [0] rfl ?_
  refine j_iconst C dX4_lowestUnheldPost_0 (v := (0 : Int32)) (by decide) ?_
  refine j_istore_n C dX4_lowestUnheldPost_1 rfl (by decide) (L' := [(1, .int (0 : Int32)), (0, .ref a0)]) rfl ?_
  refine j_sub (L' := [(0, .ref a0), (1, .int (0 : Int32))]) [1, 0] rfl ?_
  exact tX4_lowestUnheldPost_2 C hnm N Z N a0 (0 : Int32) M _ _ h
-- ScaffoldPlanner$Judge examineLowest
abbrev rmX3_examineLowest : Room := { frames := 1, cells := 0, slots := 0, locals := 22 }
theorem dX3_examineLowest_0 : decode cX3_examineLowest 0 = .ok (.aload_n 0, 1) := by decide +kernel
theorem dX3_examineLowest_1 : decode cX3_examineLowest 1 = .ok (.getfield 9, 3) := by decide +kernel
theorem dX3_examineLowest_4 : decode cX3_examineLowest 4 = .ok (.ifCond .ne 14, 3) := by decide +kernel
theorem dX3_examineLowest_7 : decode cX3_examineLowest 7 = .ok (.iload_n 2, 1) := by decide +kernel
theorem dX3_examineLowest_8 : decode cX3_examineLowest 8 = .ok (.iconst (-1), 1) := by decide +kernel
theorem dX3_examineLowest_9 : decode cX3_examineLowest 9 = .ok (.if_icmp .eq 9, 3) := by decide +kernel
theorem dX3_examineLowest_12 : decode cX3_examineLowest 12 = .ok (.aload_n 0, 1) := by decide +kernel
theorem dX3_examineLowest_13 : decode cX3_examineLowest 13 = .ok (.iload_n 1, 1) := by decide +kernel
theorem dX3_examineLowest_14 : decode cX3_examineLowest 14 = .ok (.iload_n 2, 1) := by decide +kernel
theorem dX3_examineLowest_15 : decode cX3_examineLowest 15 = .ok (.invokevirtual 86, 3) := by decide +kernel
theorem dX3_examineLowest_18 : decode cX3_examineLowest 18 = .ok (.return_, 1) := by decide +kernel
def fX3_examineLowest (N : Nat) (Z : mZ) (a0 : Nat) (a1 : Int32) (a2 : Int32) (M : mM) : Option (Unit × mM) := ck (okO Z a0 3) (if (M.1 a0 0) = 0 then if a2 = (-1 : Int32) then some ((), M) else bnd2 (fX3_refuse N Z a0 a1 a2 M) (fun _ M4 => some ((), M4)) else some ((), M))
set_option maxHeartbeats 4000000 in
set_option maxRecDepth 100000 in
theorem ctX3_examineLowest {G : mG} {l : Launch} (hl : l.stackTraces = false) (N : Nat) (Z : mZ) {a0 : Nat} {a1 : Int32} {a2 : Int32} {M : mM} {r : Unit} {M' : mM} (h : fX3_examineLowest N Z a0 a1 a2 M = some (r, M')) : CT G l yX3_examineLowest (.code yX3_examineLowest cX3_examineLowest 3 none) rmX3_examineLowest [.ref a0, .int a1, .int a2] Z M (.inl none) Z M' := by
  unfold fX3_examineLowest at h
  refine CT.of hl (by decide) (Nat.le_of_ble_eq_true rfl) ?_
  intro p e s m args below meth c C hnm
  refine j_sub (L' := [(0, .ref a0), (1, .int a1), (2, .int a2)]) [0, 1, 2] rfl ?_
  refine j_aload_n C dX3_examineLowest_0 rfl 0 rfl ?_
  obtain ⟨ho1, h⟩ := ck_spec h
  refine j_getI C (cn := RX3) (T := TX3) (N := 3) (ci := 3) rfl iX3 ho1 0 (by decide) rfl fwRX3_9 dX3_examineLowest_1 ?_
  refine j_if_ne C dX3_examineLowest_4 (tgt := 18) (by decide) (fun hc2 => ?_) (fun hc2 => ?_)
  · rw [if_neg hc2] at h
    cases h
    exact j_vret C rfl (by decide) (by decide) dX3_examineLowest_18
  · rw [if_pos hc2] at h
    refine j_iload_n C dX3_examineLowest_7 rfl 2 rfl ?_
    refine j_iconst C dX3_examineLowest_8 (v := (-1 : Int32)) (by decide) ?_
    refine j_icmp_eq C dX3_examineLowest_9 (tgt := 18) (by decide) (fun hc3 => ?_) (fun hc3 => ?_)
    · rw [if_pos hc3] at h
      cases h
      exact j_vret C rfl (by decide) (by decide) dX3_examineLowest_18
    · rw [if_neg hc3] at h
      refine j_aload_n C dX3_examineLowest_12 rfl 0 rfl ?_
      refine j_iload_n C dX3_examineLowest_13 rfl 1 rfl ?_
      refine j_iload_n C dX3_examineLowest_14 rfl 2 rfl ?_
      obtain ⟨_, M4, hq4, h⟩ := bnd2_spec h
      refine j_run0 (c_V C (As := [.int a1, .int a2]) (rest := []) (ctX3_refuse C.2.2.2.2.2.2.2.2.1 N Z hq4) kcRX3_86 oyX3_refuse (ci := 3) (T := TX3) (N := 3) rfl (by decide) ho1 ⟨by decide, by decide⟩ ⟨by decide, by decide⟩ (Nat.le_of_ble_eq_true rfl) rfl dX3_examineLowest_15) ?_
      cases h
      exact j_vret C rfl (by decide) (by decide) dX3_examineLowest_18
-- ScaffoldPlanner$Plan bracedOrHighest
abbrev rmX4_bracedOrHighest : Room := { frames := 1, cells := 0, slots := 0, locals := 23 }
theorem dX4_bracedOrHighest_0 : decode cX4_bracedOrHighest 0 = .ok (.aload_n 0, 1) := by decide +kernel
theorem dX4_bracedOrHighest_1 : decode cX4_bracedOrHighest 1 = .ok (.getfield 18, 3) := by decide +kernel
theorem dX4_bracedOrHighest_4 : decode cX4_bracedOrHighest 4 = .ok (.iload_n 1, 1) := by decide +kernel
theorem dX4_bracedOrHighest_5 : decode cX4_bracedOrHighest 5 = .ok (.invokestatic 41, 3) := by decide +kernel
theorem dX4_bracedOrHighest_8 : decode cX4_bracedOrHighest 8 = .ok (.istore_n 2, 1) := by decide +kernel
theorem dX4_bracedOrHighest_9 : decode cX4_bracedOrHighest 9 = .ok (.aload_n 0, 1) := by decide +kernel
theorem dX4_bracedOrHighest_10 : decode cX4_bracedOrHighest 10 = .ok (.iconst 3, 1) := by decide +kernel
theorem dX4_bracedOrHighest_11 : decode cX4_bracedOrHighest 11 = .ok (.aload_n 0, 1) := by decide +kernel
theorem dX4_bracedOrHighest_12 : decode cX4_bracedOrHighest 12 = .ok (.iload_n 1, 1) := by decide +kernel
theorem dX4_bracedOrHighest_13 : decode cX4_bracedOrHighest 13 = .ok (.invokevirtual 49, 3) := by decide +kernel
theorem dX4_bracedOrHighest_16 : decode cX4_bracedOrHighest 16 = .ok (.invokevirtual 45, 3) := by decide +kernel
theorem dX4_bracedOrHighest_19 : decode cX4_bracedOrHighest 19 = .ok (.aload_n 0, 1) := by decide +kernel
theorem dX4_bracedOrHighest_20 : decode cX4_bracedOrHighest 20 = .ok (.iconst 3, 1) := by decide +kernel
theorem dX4_bracedOrHighest_21 : decode cX4_bracedOrHighest 21 = .ok (.iload_n 1, 1) := by decide +kernel
theorem dX4_bracedOrHighest_22 : decode cX4_bracedOrHighest 22 = .ok (.invokevirtual 45, 3) := by decide +kernel
theorem dX4_bracedOrHighest_25 : decode cX4_bracedOrHighest 25 = .ok (.ior, 1) := by decide +kernel
theorem dX4_bracedOrHighest_26 : decode cX4_bracedOrHighest 26 = .ok (.aload_n 0, 1) := by decide +kernel
theorem dX4_bracedOrHighest_27 : decode cX4_bracedOrHighest 27 = .ok (.iconst 3, 1) := by decide +kernel
theorem dX4_bracedOrHighest_28 : decode cX4_bracedOrHighest 28 = .ok (.aload_n 0, 1) := by decide +kernel
theorem dX4_bracedOrHighest_29 : decode cX4_bracedOrHighest 29 = .ok (.iload_n 1, 1) := by decide +kernel
theorem dX4_bracedOrHighest_30 : decode cX4_bracedOrHighest 30 = .ok (.invokevirtual 69, 3) := by decide +kernel
theorem dX4_bracedOrHighest_33 : decode cX4_bracedOrHighest 33 = .ok (.invokevirtual 45, 3) := by decide +kernel
theorem dX4_bracedOrHighest_36 : decode cX4_bracedOrHighest 36 = .ok (.ior, 1) := by decide +kernel
theorem dX4_bracedOrHighest_37 : decode cX4_bracedOrHighest 37 = .ok (.istore_n 3, 1) := by decide +kernel
theorem dX4_bracedOrHighest_38 : decode cX4_bracedOrHighest 38 = .ok (.iconst 0, 1) := by decide +kernel
theorem dX4_bracedOrHighest_39 : decode cX4_bracedOrHighest 39 = .ok (.istore 4, 2) := by decide +kernel
theorem dX4_bracedOrHighest_41 : decode cX4_bracedOrHighest 41 = .ok (.iconst 1, 1) := by decide +kernel
theorem dX4_bracedOrHighest_42 : decode cX4_bracedOrHighest 42 = .ok (.istore 5, 2) := by decide +kernel
theorem dX4_bracedOrHighest_44 : decode cX4_bracedOrHighest 44 = .ok (.iload 5, 2) := by decide +kernel
theorem dX4_bracedOrHighest_46 : decode cX4_bracedOrHighest 46 = .ok (.iload_n 2, 1) := by decide +kernel
theorem dX4_bracedOrHighest_47 : decode cX4_bracedOrHighest 47 = .ok (.if_icmp .gt 33, 3) := by decide +kernel
theorem dX4_bracedOrHighest_50 : decode cX4_bracedOrHighest 50 = .ok (.iload 5, 2) := by decide +kernel
theorem dX4_bracedOrHighest_52 : decode cX4_bracedOrHighest 52 = .ok (.iload_n 2, 1) := by decide +kernel
theorem dX4_bracedOrHighest_53 : decode cX4_bracedOrHighest 53 = .ok (.if_icmp .eq 12, 3) := by decide +kernel
theorem dX4_bracedOrHighest_56 : decode cX4_bracedOrHighest 56 = .ok (.iload_n 3, 1) := by decide +kernel
theorem dX4_bracedOrHighest_57 : decode cX4_bracedOrHighest 57 = .ok (.iload 5, 2) := by decide +kernel
theorem dX4_bracedOrHighest_59 : decode cX4_bracedOrHighest 59 = .ok (.ishr, 1) := by decide +kernel
theorem dX4_bracedOrHighest_60 : decode cX4_bracedOrHighest 60 = .ok (.iconst 1, 1) := by decide +kernel
theorem dX4_bracedOrHighest_61 : decode cX4_bracedOrHighest 61 = .ok (.iand, 1) := by decide +kernel
theorem dX4_bracedOrHighest_62 : decode cX4_bracedOrHighest 62 = .ok (.ifCond .eq 12, 3) := by decide +kernel
theorem dX4_bracedOrHighest_65 : decode cX4_bracedOrHighest 65 = .ok (.iload 4, 2) := by decide +kernel
theorem dX4_bracedOrHighest_67 : decode cX4_bracedOrHighest 67 = .ok (.iconst 1, 1) := by decide +kernel
theorem dX4_bracedOrHighest_68 : decode cX4_bracedOrHighest 68 = .ok (.iload 5, 2) := by decide +kernel
theorem dX4_bracedOrHighest_70 : decode cX4_bracedOrHighest 70 = .ok (.ishl, 1) := by decide +kernel
theorem dX4_bracedOrHighest_71 : decode cX4_bracedOrHighest 71 = .ok (.ior, 1) := by decide +kernel
theorem dX4_bracedOrHighest_72 : decode cX4_bracedOrHighest 72 = .ok (.istore 4, 2) := by decide +kernel
theorem dX4_bracedOrHighest_74 : decode cX4_bracedOrHighest 74 = .ok (.iinc 5 1, 3) := by decide +kernel
theorem dX4_bracedOrHighest_77 : decode cX4_bracedOrHighest 77 = .ok (.goto (-33), 3) := by decide +kernel
theorem dX4_bracedOrHighest_80 : decode cX4_bracedOrHighest 80 = .ok (.iload 4, 2) := by decide +kernel
theorem dX4_bracedOrHighest_82 : decode cX4_bracedOrHighest 82 = .ok (.ireturn, 1) := by decide +kernel
def fX4_bracedOrHighest_44 (N : Nat) (Z : mZ) : Nat → Int32 → Int32 → Int32 → Int32 → mM → Option (Int32 × mM)
  | 0, _, _, _, _, _ => none
  | fu + 1, v2, v3, v4, v5, M => if v2 < v5 then some (v4, M) else if v5 = v2 then fX4_bracedOrHighest_44 N Z fu v2 v3 (v4 ||| ((1 : Int32) <<< (v5 &&& 31))) (v5 + (1 : Int32)) M else if ((v3 >>> (v5 &&& 31)) &&& (1 : Int32)) = 0 then fX4_bracedOrHighest_44 N Z fu v2 v3 v4 (v5 + (1 : Int32)) M else fX4_bracedOrHighest_44 N Z fu v2 v3 (v4 ||| ((1 : Int32) <<< (v5 &&& 31))) (v5 + (1 : Int32)) M
set_option maxHeartbeats 4000000 in
set_option maxRecDepth 100000 in
theorem tX4_bracedOrHighest_44 {G : mG} {p : Program} {l : Launch} {e : Env} {s : State} {m : MethodId} {args : Array Value} {below : List Frame} {meth : Method} {c : Code} (C : Cx G p l s m args meth c RX4 cX4_bracedOrHighest 6 (some .int) []) (hnm : meth.name = yX4_bracedOrHighest.name) (N : Nat) (Z : mZ) : ∀ (fu : Nat) (v2 : Int32) (v3 : Int32) (v4 : Int32) (v5 : Int32) (M : mM) (r : Int32) (M' : mM), fX4_bracedOrHighest_44 N Z fu v2 v3 v4 v5 M = some (r, M') → JJ G p l e rmX4_bracedOrHighest s m args below meth c 6 (mEnd G below args s rmX4_bracedOrHighest (.inl (some (.int r))) Z M') 0 0 44 [(2, .int v2), (3, .int v3), (4, .int v4), (5, .int v5)] [] Z M := by
  intro fu
  induction fu with
  | zero =>
    intro v2 v3 v4 v5 M r M' h
    cases h
  | succ fu ih =>
    intro v2 v3 v4 v5 M r M' h
    rw [fX4_bracedOrHighest_44] at h
    refine j_iload C dX4_bracedOrHighest_44 3 rfl ?_
    refine j_iload_n C dX4_bracedOrHighest_46 rfl 0 rfl ?_
    refine j_icmp_gt C dX4_bracedOrHighest_47 (tgt := 80) (by decide) (fun hc9 => ?_) (fun hc9 => ?_)
    · rw [if_pos hc9] at h
      refine j_iload C dX4_bracedOrHighest_80 2 rfl ?_
      cases h
      exact j_iret C rfl (by decide) (by decide) dX4_bracedOrHighest_82
    · rw [if_neg hc9] at h
      refine j_iload C dX4_bracedOrHighest_50 3 rfl ?_
      refine j_iload_n C dX4_bracedOrHighest_52 rfl 0 rfl ?_
      refine j_icmp_eq C dX4_bracedOrHighest_53 (tgt := 65) (by decide) (fun hc10 => ?_) (fun hc10 => ?_)
      · rw [if_pos hc10] at h
        refine j_iload C dX4_bracedOrHighest_65 2 rfl ?_
        refine j_iconst C dX4_bracedOrHighest_67 (v := (1 : Int32)) (by decide) ?_
        refine j_iload C dX4_bracedOrHighest_68 3 rfl ?_
        refine j_ishl C dX4_bracedOrHighest_70 ?_
        refine j_ior C dX4_bracedOrHighest_71 ?_
        refine j_istore C dX4_bracedOrHighest_72 (by decide) (L' := [(4, .int (v4 ||| ((1 : Int32) <<< (v5 &&& 31)))), (2, .int v2), (3, .int v3), (5, .int v5)]) rfl ?_
        refine j_iinc C dX4_bracedOrHighest_74 3 rfl (v := (v5 + (1 : Int32))) (by first | rfl | decide) (by decide) (L' := [(5, .int (v5 + (1 : Int32))), (4, .int (v4 ||| ((1 : Int32) <<< (v5 &&& 31)))), (2, .int v2), (3, .int v3)]) rfl ?_
        refine j_goto C dX4_bracedOrHighest_77 (tgt := 44) (by decide) ?_
        refine j_sub (L' := [(2, .int v2), (3, .int v3), (4, .int (v4 ||| ((1 : Int32) <<< (v5 &&& 31)))), (5, .int (v5 + (1 : Int32)))]) [2, 3, 1, 0] rfl ?_
        exact ih v2 v3 (v4 ||| ((1 : Int32) <<< (v5 &&& 31))) (v5 + (1 : Int32)) M r M' h
      · rw [if_neg hc10] at h
        refine j_iload_n C dX4_bracedOrHighest_56 rfl 1 rfl ?_
        refine j_iload C dX4_bracedOrHighest_57 3 rfl ?_
        refine j_ishr C dX4_bracedOrHighest_59 ?_
        refine j_iconst C dX4_bracedOrHighest_60 (v := (1 : Int32)) (by decide) ?_
        refine j_iand C dX4_bracedOrHighest_61 ?_
        refine j_if_eq C dX4_bracedOrHighest_62 (tgt := 74) (by decide) (fun hc11 => ?_) (fun hc11 => ?_)
        · rw [if_pos hc11] at h
          refine j_iinc C dX4_bracedOrHighest_74 3 rfl (v := (v5 + (1 : Int32))) (by first | rfl | decide) (by decide) (L' := [(5, .int (v5 + (1 : Int32))), (2, .int v2), (3, .int v3), (4, .int v4)]) rfl ?_
          refine j_goto C dX4_bracedOrHighest_77 (tgt := 44) (by decide) ?_
          refine j_sub (L' := [(2, .int v2), (3, .int v3), (4, .int v4), (5, .int (v5 + (1 : Int32)))]) [1, 2, 3, 0] rfl ?_
          exact ih v2 v3 v4 (v5 + (1 : Int32)) M r M' h
        · rw [if_neg hc11] at h
          refine j_iload C dX4_bracedOrHighest_65 2 rfl ?_
          refine j_iconst C dX4_bracedOrHighest_67 (v := (1 : Int32)) (by decide) ?_
          refine j_iload C dX4_bracedOrHighest_68 3 rfl ?_
          refine j_ishl C dX4_bracedOrHighest_70 ?_
          refine j_ior C dX4_bracedOrHighest_71 ?_
          refine j_istore C dX4_bracedOrHighest_72 (by decide) (L' := [(4, .int (v4 ||| ((1 : Int32) <<< (v5 &&& 31)))), (2, .int v2), (3, .int v3), (5, .int v5)]) rfl ?_
          refine j_iinc C dX4_bracedOrHighest_74 3 rfl (v := (v5 + (1 : Int32))) (by first | rfl | decide) (by decide) (L' := [(5, .int (v5 + (1 : Int32))), (4, .int (v4 ||| ((1 : Int32) <<< (v5 &&& 31)))), (2, .int v2), (3, .int v3)]) rfl ?_
          refine j_goto C dX4_bracedOrHighest_77 (tgt := 44) (by decide) ?_
          refine j_sub (L' := [(2, .int v2), (3, .int v3), (4, .int (v4 ||| ((1 : Int32) <<< (v5 &&& 31)))), (5, .int (v5 + (1 : Int32)))]) [2, 3, 1, 0] rfl ?_
          exact ih v2 v3 (v4 ||| ((1 : Int32) <<< (v5 &&& 31))) (v5 + (1 : Int32)) M r M' h
def fX4_bracedOrHighest (N : Nat) (Z : mZ) (a0 : Nat) (a1 : Int32) (M : mM) : Option (Int32 × mM) := ck (okO Z a0 4) (bnd1 (Z.2.2.2 a0 2) (fun c2 => bnd2 (fX8_at N Z c2 a1 M) (fun r3 M3 => bnd2 (fX4_placeBefore N Z a0 a1 M3) (fun r4 M4 => bnd2 (fX4_levelsWith N Z a0 (3 : Int32) r4 M4) (fun r5 M5 => bnd2 (fX4_levelsWith N Z a0 (3 : Int32) a1 M5) (fun r6 M6 => bnd2 (fX4_placeAfter N Z a0 a1 M6) (fun r7 M7 => bnd2 (fX4_levelsWith N Z a0 (3 : Int32) r7 M7) (fun r8 M8 => fX4_bracedOrHighest_44 N Z N r3 ((r5 ||| r6) ||| r8) (0 : Int32) (1 : Int32) M8))))))))
set_option maxHeartbeats 4000000 in
set_option maxRecDepth 100000 in
theorem ctX4_bracedOrHighest {G : mG} {l : Launch} (hl : l.stackTraces = false) (N : Nat) (Z : mZ) {a0 : Nat} {a1 : Int32} {M : mM} {r : Int32} {M' : mM} (h : fX4_bracedOrHighest N Z a0 a1 M = some (r, M')) : CT G l yX4_bracedOrHighest (.code yX4_bracedOrHighest cX4_bracedOrHighest 6 (some .int)) rmX4_bracedOrHighest [.ref a0, .int a1] Z M (.inl (some (.int r))) Z M' := by
  unfold fX4_bracedOrHighest at h
  refine CT.of hl (by decide) (Nat.le_of_ble_eq_true rfl) ?_
  intro p e s m args below meth c C hnm
  refine j_sub (L' := [(0, .ref a0), (1, .int a1)]) [0, 1] rfl ?_
  refine j_aload_n C dX4_bracedOrHighest_0 rfl 0 rfl ?_
  obtain ⟨ho1, h⟩ := ck_spec h
  obtain ⟨c2, hr2, h⟩ := bnd1_spec h
  refine j_getR C (cn := RX4) (T := TX4) (N := 7) (ci := 4) rfl iX4 ho1 2 (by decide) rfl fwRX4_18 dX4_bracedOrHighest_1 hr2 ?_
  refine j_iload_n C dX4_bracedOrHighest_4 rfl 1 rfl ?_
  obtain ⟨r3, M3, hq3, h⟩ := bnd2_spec h
  refine j_run1 (c_SN C (As := [.ref c2, .int a1]) (rest := []) (ctX8_at C.2.2.2.2.2.2.2.2.1 N Z hq3) kcRX4_41 oyX8_at ⟨by decide, by decide⟩ ⟨by decide, by decide⟩ (Nat.le_of_ble_eq_true rfl) rfl dX4_bracedOrHighest_5) ?_
  refine j_istore_n C dX4_bracedOrHighest_8 rfl (by decide) (L' := [(2, .int r3), (0, .ref a0), (1, .int a1)]) rfl ?_
  refine j_aload_n C dX4_bracedOrHighest_9 rfl 1 rfl ?_
  refine j_iconst C dX4_bracedOrHighest_10 (v := (3 : Int32)) (by decide) ?_
  refine j_aload_n C dX4_bracedOrHighest_11 rfl 1 rfl ?_
  refine j_iload_n C dX4_bracedOrHighest_12 rfl 2 rfl ?_
  obtain ⟨r4, M4, hq4, h⟩ := bnd2_spec h
  refine j_run1 (c_V C (As := [.int a1]) (rest := [.int (3 : Int32), .ref a0]) (ctX4_placeBefore C.2.2.2.2.2.2.2.2.1 N Z hq4) kcRX4_49 oyX4_placeBefore (ci := 4) (T := TX4) (N := 7) rfl (by decide) ho1 ⟨by decide, by decide⟩ ⟨by decide, by decide⟩ (Nat.le_of_ble_eq_true rfl) rfl dX4_bracedOrHighest_13) ?_
  obtain ⟨r5, M5, hq5, h⟩ := bnd2_spec h
  refine j_run1 (c_V C (As := [.int (3 : Int32), .int r4]) (rest := []) (ctX4_levelsWith C.2.2.2.2.2.2.2.2.1 N Z hq5) kcRX4_45 oyX4_levelsWith (ci := 4) (T := TX4) (N := 7) rfl (by decide) ho1 ⟨by decide, by decide⟩ ⟨by decide, by decide⟩ (Nat.le_of_ble_eq_true rfl) rfl dX4_bracedOrHighest_16) ?_
  refine j_aload_n C dX4_bracedOrHighest_19 rfl 1 rfl ?_
  refine j_iconst C dX4_bracedOrHighest_20 (v := (3 : Int32)) (by decide) ?_
  refine j_iload_n C dX4_bracedOrHighest_21 rfl 2 rfl ?_
  obtain ⟨r6, M6, hq6, h⟩ := bnd2_spec h
  refine j_run1 (c_V C (As := [.int (3 : Int32), .int a1]) (rest := [.int r5]) (ctX4_levelsWith C.2.2.2.2.2.2.2.2.1 N Z hq6) kcRX4_45 oyX4_levelsWith (ci := 4) (T := TX4) (N := 7) rfl (by decide) ho1 ⟨by decide, by decide⟩ ⟨by decide, by decide⟩ (Nat.le_of_ble_eq_true rfl) rfl dX4_bracedOrHighest_22) ?_
  refine j_ior C dX4_bracedOrHighest_25 ?_
  refine j_aload_n C dX4_bracedOrHighest_26 rfl 1 rfl ?_
  refine j_iconst C dX4_bracedOrHighest_27 (v := (3 : Int32)) (by decide) ?_
  refine j_aload_n C dX4_bracedOrHighest_28 rfl 1 rfl ?_
  refine j_iload_n C dX4_bracedOrHighest_29 rfl 2 rfl ?_
  obtain ⟨r7, M7, hq7, h⟩ := bnd2_spec h
  refine j_run1 (c_V C (As := [.int a1]) (rest := [.int (3 : Int32), .ref a0, .int (r5 ||| r6)]) (ctX4_placeAfter C.2.2.2.2.2.2.2.2.1 N Z hq7) kcRX4_69 oyX4_placeAfter (ci := 4) (T := TX4) (N := 7) rfl (by decide) ho1 ⟨by decide, by decide⟩ ⟨by decide, by decide⟩ (Nat.le_of_ble_eq_true rfl) rfl dX4_bracedOrHighest_30) ?_
  obtain ⟨r8, M8, hq8, h⟩ := bnd2_spec h
  refine j_run1 (c_V C (As := [.int (3 : Int32), .int r7]) (rest := [.int (r5 ||| r6)]) (ctX4_levelsWith C.2.2.2.2.2.2.2.2.1 N Z hq8) kcRX4_45 oyX4_levelsWith (ci := 4) (T := TX4) (N := 7) rfl (by decide) ho1 ⟨by decide, by decide⟩ ⟨by decide, by decide⟩ (Nat.le_of_ble_eq_true rfl) rfl dX4_bracedOrHighest_33) ?_
  refine j_ior C dX4_bracedOrHighest_36 ?_
  refine j_istore_n C dX4_bracedOrHighest_37 rfl (by decide) (L' := [(3, .int ((r5 ||| r6) ||| r8)), (2, .int r3), (0, .ref a0), (1, .int a1)]) rfl ?_
  refine j_iconst C dX4_bracedOrHighest_38 (v := (0 : Int32)) (by decide) ?_
  refine j_istore C dX4_bracedOrHighest_39 (by decide) (L' := [(4, .int (0 : Int32)), (3, .int ((r5 ||| r6) ||| r8)), (2, .int r3), (0, .ref a0), (1, .int a1)]) rfl ?_
  refine j_iconst C dX4_bracedOrHighest_41 (v := (1 : Int32)) (by decide) ?_
  refine j_istore C dX4_bracedOrHighest_42 (by decide) (L' := [(5, .int (1 : Int32)), (4, .int (0 : Int32)), (3, .int ((r5 ||| r6) ||| r8)), (2, .int r3), (0, .ref a0), (1, .int a1)]) rfl ?_
  refine j_sub (L' := [(2, .int r3), (3, .int ((r5 ||| r6) ||| r8)), (4, .int (0 : Int32)), (5, .int (1 : Int32))]) [3, 2, 1, 0] rfl ?_
  exact tX4_bracedOrHighest_44 C hnm N Z N r3 ((r5 ||| r6) ||| r8) (0 : Int32) (1 : Int32) M8 _ _ h
