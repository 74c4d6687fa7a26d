-- ScaffoldPlannerModel bay
theorem kcRX9_203 : okV RX9 203 yX9_deckSet (.code yX9_deckSet cX9_deckSet 5 (some .int)) = true := by decide +kernel
theorem oyX9_deckSet : okY yX9_deckSet 2 := ⟨by decide +kernel, by decide +kernel, by decide +kernel⟩
theorem kcRX9_207 : okV RX9 207 yX9_bracedSet (.code yX9_bracedSet cX9_bracedSet 4 (some .int)) = true := by decide +kernel
theorem oyX9_bracedSet : okY yX9_bracedSet 1 := ⟨by decide +kernel, by decide +kernel, by decide +kernel⟩
abbrev rmX9_bay : Room := { frames := 4, cells := 0, slots := 0, locals := 91 }
theorem dX9_bay_0 : decode cX9_bay 0 = .ok (.aload_n 0, 1) := by decide +kernel
theorem dX9_bay_1 : decode cX9_bay 1 = .ok (.aload_n 0, 1) := by decide +kernel
theorem dX9_bay_2 : decode cX9_bay 2 = .ok (.iload_n 1, 1) := by decide +kernel
theorem dX9_bay_3 : decode cX9_bay 3 = .ok (.invokevirtual 184, 3) := by decide +kernel
theorem dX9_bay_6 : decode cX9_bay 6 = .ok (.ifCond .eq 20, 3) := by decide +kernel
theorem dX9_bay_9 : decode cX9_bay 9 = .ok (.iload_n 2, 1) := by decide +kernel
theorem dX9_bay_10 : decode cX9_bay 10 = .ok (.iconst 0, 1) := by decide +kernel
theorem dX9_bay_11 : decode cX9_bay 11 = .ok (.iconst 5, 1) := by decide +kernel
theorem dX9_bay_12 : decode cX9_bay 12 = .ok (.invokestatic 54, 3) := by decide +kernel
theorem dX9_bay_15 : decode cX9_bay 15 = .ok (.ifCond .eq 7, 3) := by decide +kernel
theorem dX9_bay_18 : decode cX9_bay 18 = .ok (.iconst 0, 1) := by decide +kernel
theorem dX9_bay_19 : decode cX9_bay 19 = .ok (.goto 8, 3) := by decide +kernel
theorem dX9_bay_22 : decode cX9_bay 22 = .ok (.iconst 2, 1) := by decide +kernel
theorem dX9_bay_23 : decode cX9_bay 23 = .ok (.goto 4, 3) := by decide +kernel
theorem dX9_bay_26 : decode cX9_bay 26 = .ok (.iconst 1, 1) := by decide +kernel
theorem dX9_bay_27 : decode cX9_bay 27 = .ok (.putfield 50, 3) := by decide +kernel
theorem dX9_bay_30 : decode cX9_bay 30 = .ok (.aload_n 0, 1) := by decide +kernel
theorem dX9_bay_31 : decode cX9_bay 31 = .ok (.getfield 50, 3) := by decide +kernel
theorem dX9_bay_34 : decode cX9_bay 34 = .ok (.ifCond .le 5, 3) := by decide +kernel
theorem dX9_bay_37 : decode cX9_bay 37 = .ok (.iconst 0, 1) := by decide +kernel
theorem dX9_bay_38 : decode cX9_bay 38 = .ok (.ireturn, 1) := by decide +kernel
theorem dX9_bay_39 : decode cX9_bay 39 = .ok (.aload_n 0, 1) := by decide +kernel
theorem dX9_bay_40 : decode cX9_bay 40 = .ok (.invokevirtual 139, 3) := by decide +kernel
theorem dX9_bay_43 : decode cX9_bay 43 = .ok (.iload_n 2, 1) := by decide +kernel
theorem dX9_bay_44 : decode cX9_bay 44 = .ok (.tableswitch 75 0 4 #[36, 42, 49, 59, 69], 36) := by decide +kernel
theorem dX9_bay_80 : decode cX9_bay 80 = .ok (.aload_n 0, 1) := by decide +kernel
theorem dX9_bay_81 : decode cX9_bay 81 = .ok (.iload_n 1, 1) := by decide +kernel
theorem dX9_bay_82 : decode cX9_bay 82 = .ok (.invokevirtual 69, 3) := by decide +kernel
theorem dX9_bay_85 : decode cX9_bay 85 = .ok (.ireturn, 1) := by decide +kernel
theorem dX9_bay_86 : decode cX9_bay 86 = .ok (.aload_n 0, 1) := by decide +kernel
theorem dX9_bay_87 : decode cX9_bay 87 = .ok (.iload_n 1, 1) := by decide +kernel
theorem dX9_bay_88 : decode cX9_bay 88 = .ok (.iconst 0, 1) := by decide +kernel
theorem dX9_bay_89 : decode cX9_bay 89 = .ok (.invokevirtual 203, 3) := by decide +kernel
theorem dX9_bay_92 : decode cX9_bay 92 = .ok (.ireturn, 1) := by decide +kernel
theorem dX9_bay_93 : decode cX9_bay 93 = .ok (.aload_n 0, 1) := by decide +kernel
theorem dX9_bay_94 : decode cX9_bay 94 = .ok (.getfield 7, 3) := by decide +kernel
theorem dX9_bay_97 : decode cX9_bay 97 = .ok (.bipush 91, 2) := by decide +kernel
theorem dX9_bay_99 : decode cX9_bay 99 = .ok (.iload_n 1, 1) := by decide +kernel
theorem dX9_bay_100 : decode cX9_bay 100 = .ok (.iadd, 1) := by decide +kernel
theorem dX9_bay_101 : decode cX9_bay 101 = .ok (.iaload, 1) := by decide +kernel
theorem dX9_bay_102 : decode cX9_bay 102 = .ok (.ireturn, 1) := by decide +kernel
theorem dX9_bay_103 : decode cX9_bay 103 = .ok (.aload_n 0, 1) := by decide +kernel
theorem dX9_bay_104 : decode cX9_bay 104 = .ok (.getfield 7, 3) := by decide +kernel
theorem dX9_bay_107 : decode cX9_bay 107 = .ok (.bipush 101, 2) := by decide +kernel
theorem dX9_bay_109 : decode cX9_bay 109 = .ok (.iload_n 1, 1) := by decide +kernel
theorem dX9_bay_110 : decode cX9_bay 110 = .ok (.iadd, 1) := by decide +kernel
theorem dX9_bay_111 : decode cX9_bay 111 = .ok (.iaload, 1) := by decide +kernel
theorem dX9_bay_112 : decode cX9_bay 112 = .ok (.ireturn, 1) := by decide +kernel
theorem dX9_bay_113 : decode cX9_bay 113 = .ok (.aload_n 0, 1) := by decide +kernel
theorem dX9_bay_114 : decode cX9_bay 114 = .ok (.iload_n 1, 1) := by decide +kernel
theorem dX9_bay_115 : decode cX9_bay 115 = .ok (.invokevirtual 207, 3) := by decide +kernel
theorem dX9_bay_118 : decode cX9_bay 118 = .ok (.ireturn, 1) := by decide +kernel
theorem dX9_bay_119 : decode cX9_bay 119 = .ok (.aload_n 0, 1) := by decide +kernel
theorem dX9_bay_120 : decode cX9_bay 120 = .ok (.iload_n 1, 1) := by decide +kernel
theorem dX9_bay_121 : decode cX9_bay 121 = .ok (.iconst 1, 1) := by decide +kernel
theorem dX9_bay_122 : decode cX9_bay 122 = .ok (.invokevirtual 203, 3) := by decide +kernel
theorem dX9_bay_125 : decode cX9_bay 125 = .ok (.ireturn, 1) := by decide +kernel
def fX9_bay_27 (N : Nat) (Z : mZ) (v0 : Nat) (v1 : Int32) (v2 : Int32) (x0 : Int32) (x1 : Nat) (M : mM) : Option (Int32 × mM) := ck (okO Z x1 9) (ck (okO Z v0 9) (if ((sI M x1 9 x0).1 v0 9) ≤ 0 then bnd2 (fX9_walks N Z v0 (sI M x1 9 x0)) (fun _ M7 => if v2 = nI 0 then bnd2 (fX9_high N Z v0 v1 M7) (fun r9 M9 => some (r9, M9)) else if v2 = nI 1 then bnd2 (fX9_deckSet N Z v0 v1 (0 : Int32) M7) (fun r11 M11 => some (r11, M11)) else if v2 = nI 2 then bnd1 (Z.2.2.2 v0 0) (fun c13 => ck (okI Z c13) (ck (inB ((91 : Int32) + v1) (Z.2.2.1 c13)) (some ((M7.1 c13 (((91 : Int32) + v1)).toNatClampNeg), M7)))) else if v2 = nI 3 then bnd1 (Z.2.2.2 v0 0) (fun c17 => ck (okI Z c17) (ck (inB ((101 : Int32) + v1) (Z.2.2.1 c17)) (some ((M7.1 c17 (((101 : Int32) + v1)).toNatClampNeg), M7)))) else if v2 = nI 4 then bnd2 (fX9_bracedSet N Z v0 v1 M7) (fun r21 M21 => some (r21, M21)) else bnd2 (fX9_deckSet N Z v0 v1 (1 : Int32) M7) (fun r22 M22 => some (r22, M22))) else some ((0 : Int32), (sI M x1 9 x0))))
set_option maxHeartbeats 4000000 in
set_option maxRecDepth 100000 in
theorem tX9_bay_27 {G : mG} {p : Program} {l : Launch} {e : Env} {s : State} {m : MethodId} {args : Array Value} {below : List Frame} {meth : Method} {c : Code} (C : Cx G p l s m args meth c RX9 cX9_bay 3 (some .int) []) (hnm : meth.name = yX9_bay.name) (N : Nat) (Z : mZ) : ∀ (v0 : Nat) (v1 : Int32) (v2 : Int32) (x0 : Int32) (x1 : Nat) (M : mM) (r : Int32) (M' : mM), fX9_bay_27 N Z v0 v1 v2 x0 x1 M = some (r, M') → JJ G p l e rmX9_bay s m args below meth c 3 (mEnd G below args s rmX9_bay (.inl (some (.int r))) Z M') 0 0 27 [(0, .ref v0), (1, .int v1), (2, .int v2)] [.int x0, .ref x1] Z M := by
  intro v0 v1 v2 x0 x1 M r M' h
  unfold fX9_bay_27 at h
  obtain ⟨ho4, h⟩ := ck_spec h
  refine j_putI C tyX9 tyX9_ok nmX9 (cn := RX9) (T := TX9) (N := 23) (ci := 9) rfl iX9 ho4 9 (by decide) rfl fwRX9_50 ⟨rfl, rfl⟩ dX9_bay_27 ?_
  refine j_aload_n C dX9_bay_30 rfl 0 rfl ?_
  obtain ⟨ho5, h⟩ := ck_spec h
  refine j_getI C (cn := RX9) (T := TX9) (N := 23) (ci := 9) rfl iX9 ho5 9 (by decide) rfl fwRX9_50 dX9_bay_31 ?_
  refine j_if_le C dX9_bay_34 (tgt := 39) (by decide) (fun hc6 => ?_) (fun hc6 => ?_)
  · rw [if_pos hc6] at h
    refine j_aload_n C dX9_bay_39 rfl 0 rfl ?_
    obtain ⟨_, M7, hq7, h⟩ := bnd2_spec h
    refine j_run0 (c_V C (As := []) (rest := []) (ctX9_walks C.2.2.2.2.2.2.2.2.1 N Z hq7) kcRX9_139 oyX9_walks (ci := 9) (T := TX9) (N := 23) rfl (by decide) ho5 ⟨by decide, by decide⟩ ⟨by decide, by decide⟩ (Nat.le_of_ble_eq_true rfl) rfl dX9_bay_40) ?_
    refine j_iload_n C dX9_bay_43 rfl 2 rfl ?_
    by_cases hc8 : v2 = nI 0
    · rw [if_pos hc8] at h
      refine j_tableIn C dX9_bay_44 (by rw [hc8]; decide) (by rw [hc8]; decide) (off := 36) (by rw [hc8]; rfl) (tgt := 80) (by decide) ?_
      refine j_aload_n C dX9_bay_80 rfl 0 rfl ?_
      refine j_iload_n C dX9_bay_81 rfl 1 rfl ?_
      obtain ⟨r9, M9, hq9, h⟩ := bnd2_spec h
      refine j_run1 (c_V C (As := [.int v1]) (rest := []) (ctX9_high C.2.2.2.2.2.2.2.2.1 N Z hq9) kcRX9_69 oyX9_high (ci := 9) (T := TX9) (N := 23) rfl (by decide) ho5 ⟨by decide, by decide⟩ ⟨by decide, by decide⟩ (Nat.le_of_ble_eq_true rfl) rfl dX9_bay_82) ?_
      cases h
      exact j_iret C rfl (by decide) (by decide) dX9_bay_85
    rw [if_neg hc8] at h
    by_cases hc10 : v2 = nI 1
    · rw [if_pos hc10] at h
      refine j_tableIn C dX9_bay_44 (by rw [hc10]; decide) (by rw [hc10]; decide) (off := 42) (by rw [hc10]; rfl) (tgt := 86) (by decide) ?_
      refine j_aload_n C dX9_bay_86 rfl 0 rfl ?_
      refine j_iload_n C dX9_bay_87 rfl 1 rfl ?_
      refine j_iconst C dX9_bay_88 (v := (0 : Int32)) (by decide) ?_
      obtain ⟨r11, M11, hq11, h⟩ := bnd2_spec h
      refine j_run1 (c_V C (As := [.int v1, .int (0 : Int32)]) (rest := []) (ctX9_deckSet C.2.2.2.2.2.2.2.2.1 N Z hq11) kcRX9_203 oyX9_deckSet (ci := 9) (T := TX9) (N := 23) rfl (by decide) ho5 ⟨by decide, by decide⟩ ⟨by decide, by decide⟩ (Nat.le_of_ble_eq_true rfl) rfl dX9_bay_89) ?_
      cases h
      exact j_iret C rfl (by decide) (by decide) dX9_bay_92
    rw [if_neg hc10] at h
    by_cases hc12 : v2 = nI 2
    · rw [if_pos hc12] at h
      refine j_tableIn C dX9_bay_44 (by rw [hc12]; decide) (by rw [hc12]; decide) (off := 49) (by rw [hc12]; rfl) (tgt := 93) (by decide) ?_
      refine j_aload_n C dX9_bay_93 rfl 0 rfl ?_
      obtain ⟨c13, hr13, h⟩ := bnd1_spec h
      refine j_getR C (cn := RX9) (T := TX9) (N := 23) (ci := 9) rfl iX9 ho5 0 (by decide) rfl fwRX9_7 dX9_bay_94 hr13 ?_
      refine j_bipush C dX9_bay_97 (v := (91 : Int32)) (by decide) ?_
      refine j_iload_n C dX9_bay_99 rfl 1 rfl ?_
      refine j_iadd C dX9_bay_100 ?_
      obtain ⟨ho14, h⟩ := ck_spec h
      obtain ⟨ho15, h⟩ := ck_spec h
      refine j_iald C ho14 ho15 dX9_bay_101 ?_
      cases h
      exact j_iret C rfl (by decide) (by decide) dX9_bay_102
    rw [if_neg hc12] at h
    by_cases hc16 : v2 = nI 3
    · rw [if_pos hc16] at h
      refine j_tableIn C dX9_bay_44 (by rw [hc16]; decide) (by rw [hc16]; decide) (off := 59) (by rw [hc16]; rfl) (tgt := 103) (by decide) ?_
      refine j_aload_n C dX9_bay_103 rfl 0 rfl ?_
      obtain ⟨c17, hr17, h⟩ := bnd1_spec h
      refine j_getR C (cn := RX9) (T := TX9) (N := 23) (ci := 9) rfl iX9 ho5 0 (by decide) rfl fwRX9_7 dX9_bay_104 hr17 ?_
      refine j_bipush C dX9_bay_107 (v := (101 : Int32)) (by decide) ?_
      refine j_iload_n C dX9_bay_109 rfl 1 rfl ?_
      refine j_iadd C dX9_bay_110 ?_
      obtain ⟨ho18, h⟩ := ck_spec h
      obtain ⟨ho19, h⟩ := ck_spec h
      refine j_iald C ho18 ho19 dX9_bay_111 ?_
      cases h
      exact j_iret C rfl (by decide) (by decide) dX9_bay_112
    rw [if_neg hc16] at h
    by_cases hc20 : v2 = nI 4
    · rw [if_pos hc20] at h
      refine j_tableIn C dX9_bay_44 (by rw [hc20]; decide) (by rw [hc20]; decide) (off := 69) (by rw [hc20]; rfl) (tgt := 113) (by decide) ?_
      refine j_aload_n C dX9_bay_113 rfl 0 rfl ?_
      refine j_iload_n C dX9_bay_114 rfl 1 rfl ?_
      obtain ⟨r21, M21, hq21, h⟩ := bnd2_spec h
      refine j_run1 (c_V C (As := [.int v1]) (rest := []) (ctX9_bracedSet C.2.2.2.2.2.2.2.2.1 N Z hq21) kcRX9_207 oyX9_bracedSet (ci := 9) (T := TX9) (N := 23) rfl (by decide) ho5 ⟨by decide, by decide⟩ ⟨by decide, by decide⟩ (Nat.le_of_ble_eq_true rfl) rfl dX9_bay_115) ?_
      cases h
      exact j_iret C rfl (by decide) (by decide) dX9_bay_118
    rw [if_neg hc20] at h
    refine j_tableOut C dX9_bay_44 (sw_out (n := 4) (by decide) (fun j hj => by rcases (show j = 0 ∨ j = 1 ∨ j = 2 ∨ j = 3 ∨ j = 4 by omega) with rfl | rfl | rfl | rfl | rfl <;> assumption)) (tgt := 119) (by decide) ?_
    refine j_aload_n C dX9_bay_119 rfl 0 rfl ?_
    refine j_iload_n C dX9_bay_120 rfl 1 rfl ?_
    refine j_iconst C dX9_bay_121 (v := (1 : Int32)) (by decide) ?_
    obtain ⟨r22, M22, hq22, h⟩ := bnd2_spec h
    refine j_run1 (c_V C (As := [.int v1, .int (1 : Int32)]) (rest := []) (ctX9_deckSet C.2.2.2.2.2.2.2.2.1 N Z hq22) kcRX9_203 oyX9_deckSet (ci := 9) (T := TX9) (N := 23) rfl (by decide) ho5 ⟨by decide, by decide⟩ ⟨by decide, by decide⟩ (Nat.le_of_ble_eq_true rfl) rfl dX9_bay_122) ?_
    cases h
    exact j_iret C rfl (by decide) (by decide) dX9_bay_125
  · rw [if_neg hc6] at h
    refine j_iconst C dX9_bay_37 (v := (0 : Int32)) (by decide) ?_
    cases h
    exact j_iret C rfl (by decide) (by decide) dX9_bay_38
def fX9_bay (N : Nat) (Z : mZ) (a0 : Nat) (a1 : Int32) (a2 : Int32) (M : mM) : Option (Int32 × mM) := ck (okO Z a0 9) (bnd2 (fX9_isPlace N Z a0 a1 M) (fun r2 M2 => if r2 = 0 then fX9_bay_27 N Z a0 a1 a2 (1 : Int32) a0 M2 else bnd2 (fX9_in N Z a2 (0 : Int32) (5 : Int32) M2) (fun r23 M23 => if r23 = 0 then fX9_bay_27 N Z a0 a1 a2 (2 : Int32) a0 M23 else fX9_bay_27 N Z a0 a1 a2 (0 : Int32) a0 M23)))
set_option maxHeartbeats 4000000 in
set_option maxRecDepth 100000 in
theorem ctX9_bay {G : mG} {l : Launch} (hl : l.stackTraces = false) (N : Nat) (Z : mZ) {a0 : Nat} {a1 : Int32} {a2 : Int32} {M : mM} {r : Int32} {M' : mM} (h : fX9_bay N Z a0 a1 a2 M = some (r, M')) : CT G l yX9_bay (.code yX9_bay cX9_bay 3 (some .int)) rmX9_bay [.ref a0, .int a1, .int a2] Z M (.inl (some (.int r))) Z M' := by
  unfold fX9_bay at h
  refine CT.of hl (by decide) (Nat.le_of_ble_eq_true rfl) ?_
  intro p e s m args below meth c C hnm
  refine j_sub (L' := [(0, .ref a0), (1, .int a1), (2, .int a2)]) [0, 1, 2] rfl ?_
  refine j_aload_n C dX9_bay_0 rfl 0 rfl ?_
  refine j_aload_n C dX9_bay_1 rfl 0 rfl ?_
  refine j_iload_n C dX9_bay_2 rfl 1 rfl ?_
  obtain ⟨ho1, h⟩ := ck_spec h
  obtain ⟨r2, M2, hq2, h⟩ := bnd2_spec h
  refine j_run1 (c_V C (As := [.int a1]) (rest := [.ref a0]) (ctX9_isPlace C.2.2.2.2.2.2.2.2.1 N Z hq2) kcRX9_184 oyX9_isPlace (ci := 9) (T := TX9) (N := 23) rfl (by decide) ho1 ⟨by decide, by decide⟩ ⟨by decide, by decide⟩ (Nat.le_of_ble_eq_true rfl) rfl dX9_bay_3) ?_
  refine j_if_eq C dX9_bay_6 (tgt := 26) (by decide) (fun hc3 => ?_) (fun hc3 => ?_)
  · rw [if_pos hc3] at h
    refine j_iconst C dX9_bay_26 (v := (1 : Int32)) (by decide) ?_
    refine j_sub (L' := [(0, .ref a0), (1, .int a1), (2, .int a2)]) [0, 1, 2] rfl ?_
    exact tX9_bay_27 C hnm N Z a0 a1 a2 (1 : Int32) a0 M2 _ _ h
  · rw [if_neg hc3] at h
    refine j_iload_n C dX9_bay_9 rfl 2 rfl ?_
    refine j_iconst C dX9_bay_10 (v := (0 : Int32)) (by decide) ?_
    refine j_iconst C dX9_bay_11 (v := (5 : Int32)) (by decide) ?_
    obtain ⟨r23, M23, hq23, h⟩ := bnd2_spec h
    refine j_run1 (c_S C (As := [.int a2, .int (0 : Int32), .int (5 : Int32)]) (rest := [.ref a0]) (ctX9_in C.2.2.2.2.2.2.2.2.1 N Z hq23) kcRX9_54 oyX9_in ⟨by decide, by decide⟩ ⟨by decide, by decide⟩ (Nat.le_of_ble_eq_true rfl) rfl dX9_bay_12) ?_
    refine j_if_eq C dX9_bay_15 (tgt := 22) (by decide) (fun hc24 => ?_) (fun hc24 => ?_)
    · rw [if_pos hc24] at h
      refine j_iconst C dX9_bay_22 (v := (2 : Int32)) (by decide) ?_
      refine j_goto C dX9_bay_23 (tgt := 27) (by decide) ?_
      refine j_sub (L' := [(0, .ref a0), (1, .int a1), (2, .int a2)]) [0, 1, 2] rfl ?_
      exact tX9_bay_27 C hnm N Z a0 a1 a2 (2 : Int32) a0 M23 _ _ h
    · rw [if_neg hc24] at h
      refine j_iconst C dX9_bay_18 (v := (0 : Int32)) (by decide) ?_
      refine j_goto C dX9_bay_19 (tgt := 27) (by decide) ?_
      refine j_sub (L' := [(0, .ref a0), (1, .int a1), (2, .int a2)]) [0, 1, 2] rfl ?_
      exact tX9_bay_27 C hnm N Z a0 a1 a2 (0 : Int32) a0 M23 _ _ h
-- ScaffoldPlannerModel tiesBy
abbrev rmX9_tiesBy : Room := { frames := 2, cells := 0, slots := 0, locals := 45 }
theorem dX9_tiesBy_0 : decode cX9_tiesBy 0 = .ok (.iconst 0, 1) := by decide +kernel
theorem dX9_tiesBy_1 : decode cX9_tiesBy 1 = .ok (.istore_n 3, 1) := by decide +kernel
theorem dX9_tiesBy_2 : decode cX9_tiesBy 2 = .ok (.iconst 1, 1) := by decide +kernel
theorem dX9_tiesBy_3 : decode cX9_tiesBy 3 = .ok (.istore 4, 2) := by decide +kernel
theorem dX9_tiesBy_5 : decode cX9_tiesBy 5 = .ok (.iload 4, 2) := by decide +kernel
theorem dX9_tiesBy_7 : decode cX9_tiesBy 7 = .ok (.aload_n 0, 1) := by decide +kernel
theorem dX9_tiesBy_8 : decode cX9_tiesBy 8 = .ok (.iload_n 1, 1) := by decide +kernel
theorem dX9_tiesBy_9 : decode cX9_tiesBy 9 = .ok (.invokevirtual 80, 3) := by decide +kernel
theorem dX9_tiesBy_12 : decode cX9_tiesBy 12 = .ok (.if_icmp .gt 122, 3) := by decide +kernel
theorem dX9_tiesBy_15 : decode cX9_tiesBy 15 = .ok (.aload_n 0, 1) := by decide +kernel
theorem dX9_tiesBy_16 : decode cX9_tiesBy 16 = .ok (.bipush 111, 2) := by decide +kernel
theorem dX9_tiesBy_18 : decode cX9_tiesBy 18 = .ok (.iload_n 1, 1) := by decide +kernel
theorem dX9_tiesBy_19 : decode cX9_tiesBy 19 = .ok (.iload 4, 2) := by decide +kernel
theorem dX9_tiesBy_21 : decode cX9_tiesBy 21 = .ok (.invokevirtual 87, 3) := by decide +kernel
theorem dX9_tiesBy_24 : decode cX9_tiesBy 24 = .ok (.istore 5, 2) := by decide +kernel
theorem dX9_tiesBy_26 : decode cX9_tiesBy 26 = .ok (.iload_n 2, 1) := by decide +kernel
theorem dX9_tiesBy_27 : decode cX9_tiesBy 27 = .ok (.ifCond .eq 50, 3) := by decide +kernel
theorem dX9_tiesBy_30 : decode cX9_tiesBy 30 = .ok (.iload 5, 2) := by decide +kernel
theorem dX9_tiesBy_32 : decode cX9_tiesBy 32 = .ok (.ifCond .eq 96, 3) := by decide +kernel
theorem dX9_tiesBy_35 : decode cX9_tiesBy 35 = .ok (.aload_n 0, 1) := by decide +kernel
theorem dX9_tiesBy_36 : decode cX9_tiesBy 36 = .ok (.iload_n 1, 1) := by decide +kernel
theorem dX9_tiesBy_37 : decode cX9_tiesBy 37 = .ok (.invokevirtual 80, 3) := by decide +kernel
theorem dX9_tiesBy_40 : decode cX9_tiesBy 40 = .ok (.aload_n 0, 1) := by decide +kernel
theorem dX9_tiesBy_41 : decode cX9_tiesBy 41 = .ok (.getfield 7, 3) := by decide +kernel
theorem dX9_tiesBy_44 : decode cX9_tiesBy 44 = .ok (.bipush 111, 2) := by decide +kernel
theorem dX9_tiesBy_46 : decode cX9_tiesBy 46 = .ok (.iload_n 1, 1) := by decide +kernel
theorem dX9_tiesBy_47 : decode cX9_tiesBy 47 = .ok (.iadd, 1) := by decide +kernel
theorem dX9_tiesBy_48 : decode cX9_tiesBy 48 = .ok (.iaload, 1) := by decide +kernel
theorem dX9_tiesBy_49 : decode cX9_tiesBy 49 = .ok (.iconst 1, 1) := by decide +kernel
theorem dX9_tiesBy_50 : decode cX9_tiesBy 50 = .ok (.iload 4, 2) := by decide +kernel
theorem dX9_tiesBy_52 : decode cX9_tiesBy 52 = .ok (.ishl, 1) := by decide +kernel
theorem dX9_tiesBy_53 : decode cX9_tiesBy 53 = .ok (.iconst (-1), 1) := by decide +kernel
theorem dX9_tiesBy_54 : decode cX9_tiesBy 54 = .ok (.ixor, 1) := by decide +kernel
theorem dX9_tiesBy_55 : decode cX9_tiesBy 55 = .ok (.iand, 1) := by decide +kernel
theorem dX9_tiesBy_56 : decode cX9_tiesBy 56 = .ok (.aload_n 0, 1) := by decide +kernel
theorem dX9_tiesBy_57 : decode cX9_tiesBy 57 = .ok (.getfield 7, 3) := by decide +kernel
theorem dX9_tiesBy_60 : decode cX9_tiesBy 60 = .ok (.iconst 1, 1) := by decide +kernel
theorem dX9_tiesBy_61 : decode cX9_tiesBy 61 = .ok (.iaload, 1) := by decide +kernel
theorem dX9_tiesBy_62 : decode cX9_tiesBy 62 = .ok (.aload_n 0, 1) := by decide +kernel
theorem dX9_tiesBy_63 : decode cX9_tiesBy 63 = .ok (.getfield 7, 3) := by decide +kernel
theorem dX9_tiesBy_66 : decode cX9_tiesBy 66 = .ok (.iconst 2, 1) := by decide +kernel
theorem dX9_tiesBy_67 : decode cX9_tiesBy 67 = .ok (.iaload, 1) := by decide +kernel
theorem dX9_tiesBy_68 : decode cX9_tiesBy 68 = .ok (.invokestatic 83, 3) := by decide +kernel
theorem dX9_tiesBy_71 : decode cX9_tiesBy 71 = .ok (.ifCond .ne 57, 3) := by decide +kernel
theorem dX9_tiesBy_74 : decode cX9_tiesBy 74 = .ok (.goto 47, 3) := by decide +kernel
theorem dX9_tiesBy_77 : decode cX9_tiesBy 77 = .ok (.iload 5, 2) := by decide +kernel
theorem dX9_tiesBy_79 : decode cX9_tiesBy 79 = .ok (.ifCond .ne 49, 3) := by decide +kernel
theorem dX9_tiesBy_82 : decode cX9_tiesBy 82 = .ok (.aload_n 0, 1) := by decide +kernel
theorem dX9_tiesBy_83 : decode cX9_tiesBy 83 = .ok (.iload_n 1, 1) := by decide +kernel
theorem dX9_tiesBy_84 : decode cX9_tiesBy 84 = .ok (.invokevirtual 80, 3) := by decide +kernel
theorem dX9_tiesBy_87 : decode cX9_tiesBy 87 = .ok (.iconst 1, 1) := by decide +kernel
theorem dX9_tiesBy_88 : decode cX9_tiesBy 88 = .ok (.iadd, 1) := by decide +kernel
theorem dX9_tiesBy_89 : decode cX9_tiesBy 89 = .ok (.aload_n 0, 1) := by decide +kernel
theorem dX9_tiesBy_90 : decode cX9_tiesBy 90 = .ok (.getfield 7, 3) := by decide +kernel
theorem dX9_tiesBy_93 : decode cX9_tiesBy 93 = .ok (.bipush 111, 2) := by decide +kernel
theorem dX9_tiesBy_95 : decode cX9_tiesBy 95 = .ok (.iload_n 1, 1) := by decide +kernel
theorem dX9_tiesBy_96 : decode cX9_tiesBy 96 = .ok (.iadd, 1) := by decide +kernel
theorem dX9_tiesBy_97 : decode cX9_tiesBy 97 = .ok (.iaload, 1) := by decide +kernel
theorem dX9_tiesBy_98 : decode cX9_tiesBy 98 = .ok (.iconst 1, 1) := by decide +kernel
theorem dX9_tiesBy_99 : decode cX9_tiesBy 99 = .ok (.iload 4, 2) := by decide +kernel
theorem dX9_tiesBy_101 : decode cX9_tiesBy 101 = .ok (.ishl, 1) := by decide +kernel
theorem dX9_tiesBy_102 : decode cX9_tiesBy 102 = .ok (.ior, 1) := by decide +kernel
theorem dX9_tiesBy_103 : decode cX9_tiesBy 103 = .ok (.aload_n 0, 1) := by decide +kernel
theorem dX9_tiesBy_104 : decode cX9_tiesBy 104 = .ok (.getfield 7, 3) := by decide +kernel
theorem dX9_tiesBy_107 : decode cX9_tiesBy 107 = .ok (.iconst 1, 1) := by decide +kernel
theorem dX9_tiesBy_108 : decode cX9_tiesBy 108 = .ok (.iaload, 1) := by decide +kernel
theorem dX9_tiesBy_109 : decode cX9_tiesBy 109 = .ok (.aload_n 0, 1) := by decide +kernel
theorem dX9_tiesBy_110 : decode cX9_tiesBy 110 = .ok (.getfield 7, 3) := by decide +kernel
theorem dX9_tiesBy_113 : decode cX9_tiesBy 113 = .ok (.iconst 2, 1) := by decide +kernel
theorem dX9_tiesBy_114 : decode cX9_tiesBy 114 = .ok (.iaload, 1) := by decide +kernel
theorem dX9_tiesBy_115 : decode cX9_tiesBy 115 = .ok (.invokestatic 83, 3) := by decide +kernel
theorem dX9_tiesBy_118 : decode cX9_tiesBy 118 = .ok (.ifCond .eq 10, 3) := by decide +kernel
theorem dX9_tiesBy_121 : decode cX9_tiesBy 121 = .ok (.iload_n 3, 1) := by decide +kernel
theorem dX9_tiesBy_122 : decode cX9_tiesBy 122 = .ok (.iconst 1, 1) := by decide +kernel
theorem dX9_tiesBy_123 : decode cX9_tiesBy 123 = .ok (.iload 4, 2) := by decide +kernel
theorem dX9_tiesBy_125 : decode cX9_tiesBy 125 = .ok (.ishl, 1) := by decide +kernel
theorem dX9_tiesBy_126 : decode cX9_tiesBy 126 = .ok (.ior, 1) := by decide +kernel
theorem dX9_tiesBy_127 : decode cX9_tiesBy 127 = .ok (.istore_n 3, 1) := by decide +kernel
theorem dX9_tiesBy_128 : decode cX9_tiesBy 128 = .ok (.iinc 4 1, 3) := by decide +kernel
theorem dX9_tiesBy_131 : decode cX9_tiesBy 131 = .ok (.goto (-126), 3) := by decide +kernel
theorem dX9_tiesBy_134 : decode cX9_tiesBy 134 = .ok (.iload_n 3, 1) := by decide +kernel
theorem dX9_tiesBy_135 : decode cX9_tiesBy 135 = .ok (.ireturn, 1) := by decide +kernel
def fX9_tiesBy_5 (N : Nat) (Z : mZ) : Nat → Nat → Int32 → Int32 → Int32 → Int32 → mM → Option (Int32 × mM)
  | 0, _, _, _, _, _, _ => none
  | fu + 1, v0, v1, v2, v3, v4, M => ck (okO Z v0 9) (bnd2 (fX9_postHigh N Z v0 v1 M) (fun r2 M2 => if r2 < v4 then some (v3, M2) else bnd2 (fX9_has N Z v0 (111 : Int32) v1 v4 M2) (fun r4 M4 => if v2 = 0 then if r4 = 0 then bnd2 (fX9_postHigh N Z v0 v1 M4) (fun r7 M7 => bnd1 (Z.2.2.2 v0 0) (fun c8 => ck (okI Z c8) (ck (inB ((111 : Int32) + v1) (Z.2.2.1 c8)) (ck (inB (1 : Int32) (Z.2.2.1 c8)) (ck (inB (2 : Int32) (Z.2.2.1 c8)) (bnd2 (fX9_isHeldBy N Z (r7 + (1 : Int32)) ((M7.1 c8 (((111 : Int32) + v1)).toNatClampNeg) ||| ((1 : Int32) <<< (v4 &&& 31))) (M7.1 c8 ((1 : Int32)).toNatClampNeg) (M7.1 c8 ((2 : Int32)).toNatClampNeg) M7) (fun r13 M13 => if r13 = 0 then fX9_tiesBy_5 N Z fu v0 v1 v2 v3 (v4 + (1 : Int32)) M13 else fX9_tiesBy_5 N Z fu v0 v1 v2 (v3 ||| ((1 : Int32) <<< (v4 &&& 31))) (v4 + (1 : Int32)) M13))))))) else fX9_tiesBy_5 N Z fu v0 v1 v2 v3 (v4 + (1 : Int32)) M4 else if r4 = 0 then fX9_tiesBy_5 N Z fu v0 v1 v2 v3 (v4 + (1 : Int32)) M4 else bnd2 (fX9_postHigh N Z v0 v1 M4) (fun r16 M16 => bnd1 (Z.2.2.2 v0 0) (fun c17 => ck (okI Z c17) (ck (inB ((111 : Int32) + v1) (Z.2.2.1 c17)) (ck (inB (1 : Int32) (Z.2.2.1 c17)) (ck (inB (2 : Int32) (Z.2.2.1 c17)) (bnd2 (fX9_isHeldBy N Z r16 ((M16.1 c17 (((111 : Int32) + v1)).toNatClampNeg) &&& (((1 : Int32) <<< (v4 &&& 31)) ^^^ (-1 : Int32))) (M16.1 c17 ((1 : Int32)).toNatClampNeg) (M16.1 c17 ((2 : Int32)).toNatClampNeg) M16) (fun r22 M22 => if r22 = 0 then fX9_tiesBy_5 N Z fu v0 v1 v2 (v3 ||| ((1 : Int32) <<< (v4 &&& 31))) (v4 + (1 : Int32)) M22 else fX9_tiesBy_5 N Z fu v0 v1 v2 v3 (v4 + (1 : Int32)) M22))))))))))
set_option maxHeartbeats 4000000 in
set_option maxRecDepth 100000 in
theorem tX9_tiesBy_5 {G : mG} {p : Program} {l : Launch} {e : Env} {s : State} {m : MethodId} {args : Array Value} {below : List Frame} {meth : Method} {c : Code} (C : Cx G p l s m args meth c RX9 cX9_tiesBy 6 (some .int) []) (hnm : meth.name = yX9_tiesBy.name) (N : Nat) (Z : mZ) : ∀ (fu : Nat) (v0 : Nat) (v1 : Int32) (v2 : Int32) (v3 : Int32) (v4 : Int32) (M : mM) (r : Int32) (M' : mM), fX9_tiesBy_5 N Z fu v0 v1 v2 v3 v4 M = some (r, M') → JJ G p l e rmX9_tiesBy s m args below meth c 6 (mEnd G below args s rmX9_tiesBy (.inl (some (.int r))) Z M') 0 0 5 [(0, .ref v0), (1, .int v1), (2, .int v2), (3, .int v3), (4, .int v4)] [] Z M := by
  intro fu
  induction fu with
  | zero =>
    intro v0 v1 v2 v3 v4 M r M' h
    cases h
  | succ fu ih =>
    intro v0 v1 v2 v3 v4 M r M' h
    rw [fX9_tiesBy_5] at h
    refine j_iload C dX9_tiesBy_5 4 rfl ?_
    refine j_aload_n C dX9_tiesBy_7 rfl 0 rfl ?_
    refine j_iload_n C dX9_tiesBy_8 rfl 1 rfl ?_
    obtain ⟨ho1, h⟩ := ck_spec h
    obtain ⟨r2, M2, hq2, h⟩ := bnd2_spec h
    refine j_run1 (c_V C (As := [.int v1]) (rest := [.int v4]) (ctX9_postHigh C.2.2.2.2.2.2.2.2.1 N Z hq2) kcRX9_80 oyX9_postHigh (ci := 9) (T := TX9) (N := 23) rfl (by decide) ho1 ⟨by decide, by decide⟩ ⟨by decide, by decide⟩ (Nat.le_of_ble_eq_true rfl) rfl dX9_tiesBy_9) ?_
    refine j_icmp_gt C dX9_tiesBy_12 (tgt := 134) (by decide) (fun hc3 => ?_) (fun hc3 => ?_)
    · rw [if_pos hc3] at h
      refine j_iload_n C dX9_tiesBy_134 rfl 3 rfl ?_
      cases h
      exact j_iret C rfl (by decide) (by decide) dX9_tiesBy_135
    · rw [if_neg hc3] at h
      refine j_aload_n C dX9_tiesBy_15 rfl 0 rfl ?_
      refine j_bipush C dX9_tiesBy_16 (v := (111 : Int32)) (by decide) ?_
      refine j_iload_n C dX9_tiesBy_18 rfl 1 rfl ?_
      refine j_iload C dX9_tiesBy_19 4 rfl ?_
      obtain ⟨r4, M4, hq4, h⟩ := bnd2_spec h
      refine j_run1 (c_V C (As := [.int (111 : Int32), .int v1, .int v4]) (rest := []) (ctX9_has C.2.2.2.2.2.2.2.2.1 N Z hq4) kcRX9_87 oyX9_has (ci := 9) (T := TX9) (N := 23) rfl (by decide) ho1 ⟨by decide, by decide⟩ ⟨by decide, by decide⟩ (Nat.le_of_ble_eq_true rfl) rfl dX9_tiesBy_21) ?_
      refine j_istore C dX9_tiesBy_24 (by decide) (L' := [(5, .int r4), (0, .ref v0), (1, .int v1), (2, .int v2), (3, .int v3), (4, .int v4)]) rfl ?_
      refine j_iload_n C dX9_tiesBy_26 rfl 3 rfl ?_
      refine j_if_eq C dX9_tiesBy_27 (tgt := 77) (by decide) (fun hc5 => ?_) (fun hc5 => ?_)
      · rw [if_pos hc5] at h
        refine j_iload C dX9_tiesBy_77 0 rfl ?_
        refine j_if_ne C dX9_tiesBy_79 (tgt := 128) (by decide) (fun hc6 => ?_) (fun hc6 => ?_)
        · rw [if_neg hc6] at h
          refine j_iinc C dX9_tiesBy_128 5 rfl (v := (v4 + (1 : Int32))) (by first | rfl | decide) (by decide) (L' := [(4, .int (v4 + (1 : Int32))), (5, .int r4), (0, .ref v0), (1, .int v1), (2, .int v2), (3, .int v3)]) rfl ?_
          refine j_goto C dX9_tiesBy_131 (tgt := 5) (by decide) ?_
          refine j_sub (L' := [(0, .ref v0), (1, .int v1), (2, .int v2), (3, .int v3), (4, .int (v4 + (1 : Int32)))]) [2, 3, 4, 5, 0] rfl ?_
          exact ih v0 v1 v2 v3 (v4 + (1 : Int32)) M4 r M' h
        · rw [if_pos hc6] at h
          refine j_aload_n C dX9_tiesBy_82 rfl 1 rfl ?_
          refine j_iload_n C dX9_tiesBy_83 rfl 2 rfl ?_
          obtain ⟨r7, M7, hq7, h⟩ := bnd2_spec h
          refine j_run1 (c_V C (As := [.int v1]) (rest := []) (ctX9_postHigh C.2.2.2.2.2.2.2.2.1 N Z hq7) kcRX9_80 oyX9_postHigh (ci := 9) (T := TX9) (N := 23) rfl (by decide) ho1 ⟨by decide, by decide⟩ ⟨by decide, by decide⟩ (Nat.le_of_ble_eq_true rfl) rfl dX9_tiesBy_84) ?_
          refine j_iconst C dX9_tiesBy_87 (v := (1 : Int32)) (by decide) ?_
          refine j_iadd C dX9_tiesBy_88 ?_
          refine j_aload_n C dX9_tiesBy_89 rfl 1 rfl ?_
          obtain ⟨c8, hr8, h⟩ := bnd1_spec h
          refine j_getR C (cn := RX9) (T := TX9) (N := 23) (ci := 9) rfl iX9 ho1 0 (by decide) rfl fwRX9_7 dX9_tiesBy_90 hr8 ?_
          refine j_bipush C dX9_tiesBy_93 (v := (111 : Int32)) (by decide) ?_
          refine j_iload_n C dX9_tiesBy_95 rfl 2 rfl ?_
          refine j_iadd C dX9_tiesBy_96 ?_
          obtain ⟨ho9, h⟩ := ck_spec h
          obtain ⟨ho10, h⟩ := ck_spec h
          refine j_iald C ho9 ho10 dX9_tiesBy_97 ?_
          refine j_iconst C dX9_tiesBy_98 (v := (1 : Int32)) (by decide) ?_
          refine j_iload C dX9_tiesBy_99 5 rfl ?_
          refine j_ishl C dX9_tiesBy_101 ?_
          refine j_ior C dX9_tiesBy_102 ?_
          refine j_aload_n C dX9_tiesBy_103 rfl 1 rfl ?_
          refine j_getR C (cn := RX9) (T := TX9) (N := 23) (ci := 9) rfl iX9 ho1 0 (by decide) rfl fwRX9_7 dX9_tiesBy_104 hr8 ?_
          refine j_iconst C dX9_tiesBy_107 (v := (1 : Int32)) (by decide) ?_
          obtain ⟨ho11, h⟩ := ck_spec h
          refine j_iald C ho9 ho11 dX9_tiesBy_108 ?_
          refine j_aload_n C dX9_tiesBy_109 rfl 1 rfl ?_
          refine j_getR C (cn := RX9) (T := TX9) (N := 23) (ci := 9) rfl iX9 ho1 0 (by decide) rfl fwRX9_7 dX9_tiesBy_110 hr8 ?_
          refine j_iconst C dX9_tiesBy_113 (v := (2 : Int32)) (by decide) ?_
          obtain ⟨ho12, h⟩ := ck_spec h
          refine j_iald C ho9 ho12 dX9_tiesBy_114 ?_
          obtain ⟨r13, M13, hq13, h⟩ := bnd2_spec h
          refine j_run1 (c_S C (As := [.int (r7 + (1 : Int32)), .int ((M7.1 c8 (((111 : Int32) + v1)).toNatClampNeg) ||| ((1 : Int32) <<< (v4 &&& 31))), .int (M7.1 c8 ((1 : Int32)).toNatClampNeg), .int (M7.1 c8 ((2 : Int32)).toNatClampNeg)]) (rest := []) (ctX9_isHeldBy C.2.2.2.2.2.2.2.2.1 N Z hq13) kcRX9_83 oyX9_isHeldBy ⟨by decide, by decide⟩ ⟨by decide, by decide⟩ (Nat.le_of_ble_eq_true rfl) rfl dX9_tiesBy_115) ?_
          refine j_if_eq C dX9_tiesBy_118 (tgt := 128) (by decide) (fun hc14 => ?_) (fun hc14 => ?_)
          · rw [if_pos hc14] at h
            refine j_iinc C dX9_tiesBy_128 5 rfl (v := (v4 + (1 : Int32))) (by first | rfl | decide) (by decide) (L' := [(4, .int (v4 + (1 : Int32))), (5, .int r4), (0, .ref v0), (1, .int v1), (2, .int v2), (3, .int v3)]) rfl ?_
            refine j_goto C dX9_tiesBy_131 (tgt := 5) (by decide) ?_
            refine j_sub (L' := [(0, .ref v0), (1, .int v1), (2, .int v2), (3, .int v3), (4, .int (v4 + (1 : Int32)))]) [2, 3, 4, 5, 0] rfl ?_
            exact ih v0 v1 v2 v3 (v4 + (1 : Int32)) M13 r M' h
          · rw [if_neg hc14] at h
            refine j_iload_n C dX9_tiesBy_121 rfl 4 rfl ?_
            refine j_iconst C dX9_tiesBy_122 (v := (1 : Int32)) (by decide) ?_
            refine j_iload C dX9_tiesBy_123 5 rfl ?_
            refine j_ishl C dX9_tiesBy_125 ?_
            refine j_ior C dX9_tiesBy_126 ?_
            refine j_istore_n C dX9_tiesBy_127 rfl (by decide) (L' := [(3, .int (v3 ||| ((1 : Int32) <<< (v4 &&& 31)))), (5, .int r4), (0, .ref v0), (1, .int v1), (2, .int v2), (4, .int v4)]) rfl ?_
            refine j_iinc C dX9_tiesBy_128 5 rfl (v := (v4 + (1 : Int32))) (by first | rfl | decide) (by decide) (L' := [(4, .int (v4 + (1 : Int32))), (3, .int (v3 ||| ((1 : Int32) <<< (v4 &&& 31)))), (5, .int r4), (0, .ref v0), (1, .int v1), (2, .int v2)]) rfl ?_
            refine j_goto C dX9_tiesBy_131 (tgt := 5) (by decide) ?_
            refine j_sub (L' := [(0, .ref v0), (1, .int v1), (2, .int v2), (3, .int (v3 ||| ((1 : Int32) <<< (v4 &&& 31)))), (4, .int (v4 + (1 : Int32)))]) [3, 4, 5, 1, 0] rfl ?_
            exact ih v0 v1 v2 (v3 ||| ((1 : Int32) <<< (v4 &&& 31))) (v4 + (1 : Int32)) M13 r M' h
      · rw [if_neg hc5] at h
        refine j_iload C dX9_tiesBy_30 0 rfl ?_
        refine j_if_eq C dX9_tiesBy_32 (tgt := 128) (by decide) (fun hc15 => ?_) (fun hc15 => ?_)
        · rw [if_pos hc15] at h
          refine j_iinc C dX9_tiesBy_128 5 rfl (v := (v4 + (1 : Int32))) (by first | rfl | decide) (by decide) (L' := [(4, .int (v4 + (1 : Int32))), (5, .int r4), (0, .ref v0), (1, .int v1), (2, .int v2), (3, .int v3)]) rfl ?_
          refine j_goto C dX9_tiesBy_131 (tgt := 5) (by decide) ?_
          refine j_sub (L' := [(0, .ref v0), (1, .int v1), (2, .int v2), (3, .int v3), (4, .int (v4 + (1 : Int32)))]) [2, 3, 4, 5, 0] rfl ?_
          exact ih v0 v1 v2 v3 (v4 + (1 : Int32)) M4 r M' h
        · rw [if_neg hc15] at h
          refine j_aload_n C dX9_tiesBy_35 rfl 1 rfl ?_
          refine j_iload_n C dX9_tiesBy_36 rfl 2 rfl ?_
          obtain ⟨r16, M16, hq16, h⟩ := bnd2_spec h
          refine j_run1 (c_V C (As := [.int v1]) (rest := []) (ctX9_postHigh C.2.2.2.2.2.2.2.2.1 N Z hq16) kcRX9_80 oyX9_postHigh (ci := 9) (T := TX9) (N := 23) rfl (by decide) ho1 ⟨by decide, by decide⟩ ⟨by decide, by decide⟩ (Nat.le_of_ble_eq_true rfl) rfl dX9_tiesBy_37) ?_
          refine j_aload_n C dX9_tiesBy_40 rfl 1 rfl ?_
          obtain ⟨c17, hr17, h⟩ := bnd1_spec h
          refine j_getR C (cn := RX9) (T := TX9) (N := 23) (ci := 9) rfl iX9 ho1 0 (by decide) rfl fwRX9_7 dX9_tiesBy_41 hr17 ?_
          refine j_bipush C dX9_tiesBy_44 (v := (111 : Int32)) (by decide) ?_
          refine j_iload_n C dX9_tiesBy_46 rfl 2 rfl ?_
          refine j_iadd C dX9_tiesBy_47 ?_
          obtain ⟨ho18, h⟩ := ck_spec h
          obtain ⟨ho19, h⟩ := ck_spec h
          refine j_iald C ho18 ho19 dX9_tiesBy_48 ?_
          refine j_iconst C dX9_tiesBy_49 (v := (1 : Int32)) (by decide) ?_
          refine j_iload C dX9_tiesBy_50 5 rfl ?_
          refine j_ishl C dX9_tiesBy_52 ?_
          refine j_iconst C dX9_tiesBy_53 (v := (-1 : Int32)) (by decide) ?_
          refine j_ixor C dX9_tiesBy_54 ?_
          refine j_iand C dX9_tiesBy_55 ?_
          refine j_aload_n C dX9_tiesBy_56 rfl 1 rfl ?_
          refine j_getR C (cn := RX9) (T := TX9) (N := 23) (ci := 9) rfl iX9 ho1 0 (by decide) rfl fwRX9_7 dX9_tiesBy_57 hr17 ?_
          refine j_iconst C dX9_tiesBy_60 (v := (1 : Int32)) (by decide) ?_
          obtain ⟨ho20, h⟩ := ck_spec h
          refine j_iald C ho18 ho20 dX9_tiesBy_61 ?_
          refine j_aload_n C dX9_tiesBy_62 rfl 1 rfl ?_
          refine j_getR C (cn := RX9) (T := TX9) (N := 23) (ci := 9) rfl iX9 ho1 0 (by decide) rfl fwRX9_7 dX9_tiesBy_63 hr17 ?_
          refine j_iconst C dX9_tiesBy_66 (v := (2 : Int32)) (by decide) ?_
          obtain ⟨ho21, h⟩ := ck_spec h
          refine j_iald C ho18 ho21 dX9_tiesBy_67 ?_
          obtain ⟨r22, M22, hq22, h⟩ := bnd2_spec h
          refine j_run1 (c_S C (As := [.int r16, .int ((M16.1 c17 (((111 : Int32) + v1)).toNatClampNeg) &&& (((1 : Int32) <<< (v4 &&& 31)) ^^^ (-1 : Int32))), .int (M16.1 c17 ((1 : Int32)).toNatClampNeg), .int (M16.1 c17 ((2 : Int32)).toNatClampNeg)]) (rest := []) (ctX9_isHeldBy C.2.2.2.2.2.2.2.2.1 N Z hq22) kcRX9_83 oyX9_isHeldBy ⟨by decide, by decide⟩ ⟨by decide, by decide⟩ (Nat.le_of_ble_eq_true rfl) rfl dX9_tiesBy_68) ?_
          refine j_if_ne C dX9_tiesBy_71 (tgt := 128) (by decide) (fun hc23 => ?_) (fun hc23 => ?_)
          · rw [if_neg hc23] at h
            refine j_iinc C dX9_tiesBy_128 5 rfl (v := (v4 + (1 : Int32))) (by first | rfl | decide) (by decide) (L' := [(4, .int (v4 + (1 : Int32))), (5, .int r4), (0, .ref v0), (1, .int v1), (2, .int v2), (3, .int v3)]) rfl ?_
            refine j_goto C dX9_tiesBy_131 (tgt := 5) (by decide) ?_
            refine j_sub (L' := [(0, .ref v0), (1, .int v1), (2, .int v2), (3, .int v3), (4, .int (v4 + (1 : Int32)))]) [2, 3, 4, 5, 0] rfl ?_
            exact ih v0 v1 v2 v3 (v4 + (1 : Int32)) M22 r M' h
          · rw [if_pos hc23] at h
            refine j_goto C dX9_tiesBy_74 (tgt := 121) (by decide) ?_
            refine j_iload_n C dX9_tiesBy_121 rfl 4 rfl ?_
            refine j_iconst C dX9_tiesBy_122 (v := (1 : Int32)) (by decide) ?_
            refine j_iload C dX9_tiesBy_123 5 rfl ?_
            refine j_ishl C dX9_tiesBy_125 ?_
            refine j_ior C dX9_tiesBy_126 ?_
            refine j_istore_n C dX9_tiesBy_127 rfl (by decide) (L' := [(3, .int (v3 ||| ((1 : Int32) <<< (v4 &&& 31)))), (5, .int r4), (0, .ref v0), (1, .int v1), (2, .int v2), (4, .int v4)]) rfl ?_
            refine j_iinc C dX9_tiesBy_128 5 rfl (v := (v4 + (1 : Int32))) (by first | rfl | decide) (by decide) (L' := [(4, .int (v4 + (1 : Int32))), (3, .int (v3 ||| ((1 : Int32) <<< (v4 &&& 31)))), (5, .int r4), (0, .ref v0), (1, .int v1), (2, .int v2)]) rfl ?_
            refine j_goto C dX9_tiesBy_131 (tgt := 5) (by decide) ?_
            refine j_sub (L' := [(0, .ref v0), (1, .int v1), (2, .int v2), (3, .int (v3 ||| ((1 : Int32) <<< (v4 &&& 31)))), (4, .int (v4 + (1 : Int32)))]) [3, 4, 5, 1, 0] rfl ?_
            exact ih v0 v1 v2 (v3 ||| ((1 : Int32) <<< (v4 &&& 31))) (v4 + (1 : Int32)) M22 r M' h
def fX9_tiesBy (N : Nat) (Z : mZ) (a0 : Nat) (a1 : Int32) (a2 : Int32) (M : mM) : Option (Int32 × mM) := fX9_tiesBy_5 N Z N a0 a1 a2 (0 : Int32) (1 : Int32) M
set_option maxHeartbeats 4000000 in
set_option maxRecDepth 100000 in
theorem ctX9_tiesBy {G : mG} {l : Launch} (hl : l.stackTraces = false) (N : Nat) (Z : mZ) {a0 : Nat} {a1 : Int32} {a2 : Int32} {M : mM} {r : Int32} {M' : mM} (h : fX9_tiesBy N Z a0 a1 a2 M = some (r, M')) : CT G l yX9_tiesBy (.code yX9_tiesBy cX9_tiesBy 6 (some .int)) rmX9_tiesBy [.ref a0, .int a1, .int a2] Z M (.inl (some (.int r))) Z M' := by
  unfold fX9_tiesBy at h
  refine CT.of hl (by decide) (Nat.le_of_ble_eq_true rfl) ?_
  intro p e s m args below meth c C hnm
  refine j_sub (L' := [(0, .ref a0), (1, .int a1), (2, .int a2)]) [0, 1, 2] rfl ?_
  refine j_iconst C dX9_tiesBy_0 (v := (0 : Int32)) (by decide) ?_
  refine j_istore_n C dX9_tiesBy_1 rfl (by decide) (L' := [(3, .int (0 : Int32)), (0, .ref a0), (1, .int a1), (2, .int a2)]) rfl ?_
  refine j_iconst C dX9_tiesBy_2 (v := (1 : Int32)) (by decide) ?_
  refine j_istore C dX9_tiesBy_3 (by decide) (L' := [(4, .int (1 : Int32)), (3, .int (0 : Int32)), (0, .ref a0), (1, .int a1), (2, .int a2)]) rfl ?_
  refine j_sub (L' := [(0, .ref a0), (1, .int a1), (2, .int a2), (3, .int (0 : Int32)), (4, .int (1 : Int32))]) [2, 3, 4, 1, 0] rfl ?_
  exact tX9_tiesBy_5 C hnm N Z N a0 a1 a2 (0 : Int32) (1 : Int32) M _ _ h
-- ScaffoldPlannerModel post
theorem kcRX9_210 : okV RX9 210 yX9_tiesBy (.code yX9_tiesBy cX9_tiesBy 6 (some .int)) = true := by decide +kernel
theorem oyX9_tiesBy : okY yX9_tiesBy 2 := ⟨by decide +kernel, by decide +kernel, by decide +kernel⟩
abbrev rmX9_post : Room := { frames := 4, cells := 0, slots := 0, locals := 88 }
theorem dX9_post_0 : decode cX9_post 0 = .ok (.aload_n 0, 1) := by decide +kernel
theorem dX9_post_1 : decode cX9_post 1 = .ok (.aload_n 0, 1) := by decide +kernel
theorem dX9_post_2 : decode cX9_post 2 = .ok (.iload_n 1, 1) := by decide +kernel
theorem dX9_post_3 : decode cX9_post 3 = .ok (.invokevirtual 184, 3) := by decide +kernel
theorem dX9_post_6 : decode cX9_post 6 = .ok (.ifCond .eq 20, 3) := by decide +kernel
theorem dX9_post_9 : decode cX9_post 9 = .ok (.iload_n 2, 1) := by decide +kernel
theorem dX9_post_10 : decode cX9_post 10 = .ok (.iconst 0, 1) := by decide +kernel
theorem dX9_post_11 : decode cX9_post 11 = .ok (.iconst 4, 1) := by decide +kernel
theorem dX9_post_12 : decode cX9_post 12 = .ok (.invokestatic 54, 3) := by decide +kernel
theorem dX9_post_15 : decode cX9_post 15 = .ok (.ifCond .eq 7, 3) := by decide +kernel
theorem dX9_post_18 : decode cX9_post 18 = .ok (.iconst 0, 1) := by decide +kernel
theorem dX9_post_19 : decode cX9_post 19 = .ok (.goto 8, 3) := by decide +kernel
theorem dX9_post_22 : decode cX9_post 22 = .ok (.iconst 2, 1) := by decide +kernel
theorem dX9_post_23 : decode cX9_post 23 = .ok (.goto 4, 3) := by decide +kernel
theorem dX9_post_26 : decode cX9_post 26 = .ok (.iconst 1, 1) := by decide +kernel
theorem dX9_post_27 : decode cX9_post 27 = .ok (.putfield 50, 3) := by decide +kernel
theorem dX9_post_30 : decode cX9_post 30 = .ok (.aload_n 0, 1) := by decide +kernel
theorem dX9_post_31 : decode cX9_post 31 = .ok (.getfield 50, 3) := by decide +kernel
theorem dX9_post_34 : decode cX9_post 34 = .ok (.ifCond .le 5, 3) := by decide +kernel
theorem dX9_post_37 : decode cX9_post 37 = .ok (.iconst 0, 1) := by decide +kernel
theorem dX9_post_38 : decode cX9_post 38 = .ok (.ireturn, 1) := by decide +kernel
theorem dX9_post_39 : decode cX9_post 39 = .ok (.iload_n 2, 1) := by decide +kernel
theorem dX9_post_40 : decode cX9_post 40 = .ok (.tableswitch 50 0 2 #[28, 34, 44], 28) := by decide +kernel
theorem dX9_post_68 : decode cX9_post 68 = .ok (.aload_n 0, 1) := by decide +kernel
theorem dX9_post_69 : decode cX9_post 69 = .ok (.iload_n 1, 1) := by decide +kernel
theorem dX9_post_70 : decode cX9_post 70 = .ok (.invokevirtual 80, 3) := by decide +kernel
theorem dX9_post_73 : decode cX9_post 73 = .ok (.ireturn, 1) := by decide +kernel
theorem dX9_post_74 : decode cX9_post 74 = .ok (.aload_n 0, 1) := by decide +kernel
theorem dX9_post_75 : decode cX9_post 75 = .ok (.getfield 7, 3) := by decide +kernel
theorem dX9_post_78 : decode cX9_post 78 = .ok (.bipush 111, 2) := by decide +kernel
theorem dX9_post_80 : decode cX9_post 80 = .ok (.iload_n 1, 1) := by decide +kernel
theorem dX9_post_81 : decode cX9_post 81 = .ok (.iadd, 1) := by decide +kernel
theorem dX9_post_82 : decode cX9_post 82 = .ok (.iaload, 1) := by decide +kernel
theorem dX9_post_83 : decode cX9_post 83 = .ok (.ireturn, 1) := by decide +kernel
theorem dX9_post_84 : decode cX9_post 84 = .ok (.aload_n 0, 1) := by decide +kernel
theorem dX9_post_85 : decode cX9_post 85 = .ok (.iload_n 1, 1) := by decide +kernel
theorem dX9_post_86 : decode cX9_post 86 = .ok (.invokevirtual 110, 3) := by decide +kernel
theorem dX9_post_89 : decode cX9_post 89 = .ok (.ireturn, 1) := by decide +kernel
theorem dX9_post_90 : decode cX9_post 90 = .ok (.aload_n 0, 1) := by decide +kernel
theorem dX9_post_91 : decode cX9_post 91 = .ok (.iload_n 1, 1) := by decide +kernel
theorem dX9_post_92 : decode cX9_post 92 = .ok (.iload_n 2, 1) := by decide +kernel
theorem dX9_post_93 : decode cX9_post 93 = .ok (.iconst 3, 1) := by decide +kernel
theorem dX9_post_94 : decode cX9_post 94 = .ok (.if_icmp .ne 7, 3) := by decide +kernel
theorem dX9_post_97 : decode cX9_post 97 = .ok (.iconst 1, 1) := by decide +kernel
theorem dX9_post_98 : decode cX9_post 98 = .ok (.goto 4, 3) := by decide +kernel
theorem dX9_post_101 : decode cX9_post 101 = .ok (.iconst 0, 1) := by decide +kernel
theorem dX9_post_102 : decode cX9_post 102 = .ok (.invokevirtual 210, 3) := by decide +kernel
theorem dX9_post_105 : decode cX9_post 105 = .ok (.ireturn, 1) := by decide +kernel
def fX9_post_27 (N : Nat) (Z : mZ) (v0 : Nat) (v1 : Int32) (v2 : Int32) (x0 : Int32) (x1 : Nat) (M : mM) : Option (Int32 × mM) := ck (okO Z x1 9) (ck (okO Z v0 9) (if ((sI M x1 9 x0).1 v0 9) ≤ 0 then if v2 = nI 0 then bnd2 (fX9_postHigh N Z v0 v1 (sI M x1 9 x0)) (fun r8 M8 => some (r8, M8)) else if v2 = nI 1 then bnd1 (Z.2.2.2 v0 0) (fun c10 => ck (okI Z c10) (ck (inB ((111 : Int32) + v1) (Z.2.2.1 c10)) (some (((sI M x1 9 x0).1 c10 (((111 : Int32) + v1)).toNatClampNeg), (sI M x1 9 x0))))) else if v2 = nI 2 then bnd2 (fX9_loadOf N Z v0 v1 (sI M x1 9 x0)) (fun r14 M14 => some (r14, M14)) else if v2 = (3 : Int32) then bnd2 (fX9_tiesBy N Z v0 v1 (1 : Int32) (sI M x1 9 x0)) (fun r16 M16 => some (r16, M16)) else bnd2 (fX9_tiesBy N Z v0 v1 (0 : Int32) (sI M x1 9 x0)) (fun r17 M17 => some (r17, M17)) else some ((0 : Int32), (sI M x1 9 x0))))
set_option maxHeartbeats 4000000 in
set_option maxRecDepth 100000 in
theorem tX9_post_27 {G : mG} {p : Program} {l : Launch} {e : Env} {s : State} {m : MethodId} {args : Array Value} {below : List Frame} {meth : Method} {c : Code} (C : Cx G p l s m args meth c RX9 cX9_post 3 (some .int) []) (hnm : meth.name = yX9_post.name) (N : Nat) (Z : mZ) : ∀ (v0 : Nat) (v1 : Int32) (v2 : Int32) (x0 : Int32) (x1 : Nat) (M : mM) (r : Int32) (M' : mM), fX9_post_27 N Z v0 v1 v2 x0 x1 M = some (r, M') → JJ G p l e rmX9_post s m args below meth c 3 (mEnd G below args s rmX9_post (.inl (some (.int r))) Z M') 0 0 27 [(0, .ref v0), (1, .int v1), (2, .int v2)] [.int x0, .ref x1] Z M := by
  intro v0 v1 v2 x0 x1 M r M' h
  unfold fX9_post_27 at h
  obtain ⟨ho4, h⟩ := ck_spec h
  refine j_putI C tyX9 tyX9_ok nmX9 (cn := RX9) (T := TX9) (N := 23) (ci := 9) rfl iX9 ho4 9 (by decide) rfl fwRX9_50 ⟨rfl, rfl⟩ dX9_post_27 ?_
  refine j_aload_n C dX9_post_30 rfl 0 rfl ?_
  obtain ⟨ho5, h⟩ := ck_spec h
  refine j_getI C (cn := RX9) (T := TX9) (N := 23) (ci := 9) rfl iX9 ho5 9 (by decide) rfl fwRX9_50 dX9_post_31 ?_
  refine j_if_le C dX9_post_34 (tgt := 39) (by decide) (fun hc6 => ?_) (fun hc6 => ?_)
  · rw [if_pos hc6] at h
    refine j_iload_n C dX9_post_39 rfl 2 rfl ?_
    by_cases hc7 : v2 = nI 0
    · rw [if_pos hc7] at h
      refine j_tableIn C dX9_post_40 (by rw [hc7]; decide) (by rw [hc7]; decide) (off := 28) (by rw [hc7]; rfl) (tgt := 68) (by decide) ?_
      refine j_aload_n C dX9_post_68 rfl 0 rfl ?_
      refine j_iload_n C dX9_post_69 rfl 1 rfl ?_
      obtain ⟨r8, M8, hq8, h⟩ := bnd2_spec h
      refine j_run1 (c_V C (As := [.int v1]) (rest := []) (ctX9_postHigh C.2.2.2.2.2.2.2.2.1 N Z hq8) kcRX9_80 oyX9_postHigh (ci := 9) (T := TX9) (N := 23) rfl (by decide) ho5 ⟨by decide, by decide⟩ ⟨by decide, by decide⟩ (Nat.le_of_ble_eq_true rfl) rfl dX9_post_70) ?_
      cases h
      exact j_iret C rfl (by decide) (by decide) dX9_post_73
    rw [if_neg hc7] at h
    by_cases hc9 : v2 = nI 1
    · rw [if_pos hc9] at h
      refine j_tableIn C dX9_post_40 (by rw [hc9]; decide) (by rw [hc9]; decide) (off := 34) (by rw [hc9]; rfl) (tgt := 74) (by decide) ?_
      refine j_aload_n C dX9_post_74 rfl 0 rfl ?_
      obtain ⟨c10, hr10, h⟩ := bnd1_spec h
      refine j_getR C (cn := RX9) (T := TX9) (N := 23) (ci := 9) rfl iX9 ho5 0 (by decide) rfl fwRX9_7 dX9_post_75 hr10 ?_
      refine j_bipush C dX9_post_78 (v := (111 : Int32)) (by decide) ?_
      refine j_iload_n C dX9_post_80 rfl 1 rfl ?_
      refine j_iadd C dX9_post_81 ?_
      obtain ⟨ho11, h⟩ := ck_spec h
      obtain ⟨ho12, h⟩ := ck_spec h
      refine j_iald C ho11 ho12 dX9_post_82 ?_
      cases h
      exact j_iret C rfl (by decide) (by decide) dX9_post_83
    rw [if_neg hc9] at h
    by_cases hc13 : v2 = nI 2
    · rw [if_pos hc13] at h
      refine j_tableIn C dX9_post_40 (by rw [hc13]; decide) (by rw [hc13]; decide) (off := 44) (by rw [hc13]; rfl) (tgt := 84) (by decide) ?_
      refine j_aload_n C dX9_post_84 rfl 0 rfl ?_
      refine j_iload_n C dX9_post_85 rfl 1 rfl ?_
      obtain ⟨r14, M14, hq14, h⟩ := bnd2_spec h
      refine j_run1 (c_V C (As := [.int v1]) (rest := []) (ctX9_loadOf C.2.2.2.2.2.2.2.2.1 N Z hq14) kcRX9_110 oyX9_loadOf (ci := 9) (T := TX9) (N := 23) rfl (by decide) ho5 ⟨by decide, by decide⟩ ⟨by decide, by decide⟩ (Nat.le_of_ble_eq_true rfl) rfl dX9_post_86) ?_
      cases h
      exact j_iret C rfl (by decide) (by decide) dX9_post_89
    rw [if_neg hc13] at h
    refine j_tableOut C dX9_post_40 (sw_out (n := 2) (by decide) (fun j hj => by rcases (show j = 0 ∨ j = 1 ∨ j = 2 by omega) with rfl | rfl | rfl <;> assumption)) (tgt := 90) (by decide) ?_
    refine j_aload_n C dX9_post_90 rfl 0 rfl ?_
    refine j_iload_n C dX9_post_91 rfl 1 rfl ?_
    refine j_iload_n C dX9_post_92 rfl 2 rfl ?_
    refine j_iconst C dX9_post_93 (v := (3 : Int32)) (by decide) ?_
    refine j_icmp_ne C dX9_post_94 (tgt := 101) (by decide) (fun hc15 => ?_) (fun hc15 => ?_)
    · rw [if_neg hc15] at h
      refine j_iconst C dX9_post_101 (v := (0 : Int32)) (by decide) ?_
      obtain ⟨r17, M17, hq17, h⟩ := bnd2_spec h
      refine j_run1 (c_V C (As := [.int v1, .int (0 : Int32)]) (rest := []) (ctX9_tiesBy C.2.2.2.2.2.2.2.2.1 N Z hq17) kcRX9_210 oyX9_tiesBy (ci := 9) (T := TX9) (N := 23) rfl (by decide) ho5 ⟨by decide, by decide⟩ ⟨by decide, by decide⟩ (Nat.le_of_ble_eq_true rfl) rfl dX9_post_102) ?_
      cases h
      exact j_iret C rfl (by decide) (by decide) dX9_post_105
    · rw [if_pos hc15] at h
      refine j_iconst C dX9_post_97 (v := (1 : Int32)) (by decide) ?_
      refine j_goto C dX9_post_98 (tgt := 102) (by decide) ?_
      obtain ⟨r16, M16, hq16, h⟩ := bnd2_spec h
      refine j_run1 (c_V C (As := [.int v1, .int (1 : Int32)]) (rest := []) (ctX9_tiesBy C.2.2.2.2.2.2.2.2.1 N Z hq16) kcRX9_210 oyX9_tiesBy (ci := 9) (T := TX9) (N := 23) rfl (by decide) ho5 ⟨by decide, by decide⟩ ⟨by decide, by decide⟩ (Nat.le_of_ble_eq_true rfl) rfl dX9_post_102) ?_
      cases h
      exact j_iret C rfl (by decide) (by decide) dX9_post_105
  · rw [if_neg hc6] at h
    refine j_iconst C dX9_post_37 (v := (0 : Int32)) (by decide) ?_
    cases h
    exact j_iret C rfl (by decide) (by decide) dX9_post_38
def fX9_post (N : Nat) (Z : mZ) (a0 : Nat) (a1 : Int32) (a2 : Int32) (M : mM) : Option (Int32 × mM) := ck (okO Z a0 9) (bnd2 (fX9_isPlace N Z a0 a1 M) (fun r2 M2 => if r2 = 0 then fX9_post_27 N Z a0 a1 a2 (1 : Int32) a0 M2 else bnd2 (fX9_in N Z a2 (0 : Int32) (4 : Int32) M2) (fun r18 M18 => if r18 = 0 then fX9_post_27 N Z a0 a1 a2 (2 : Int32) a0 M18 else fX9_post_27 N Z a0 a1 a2 (0 : Int32) a0 M18)))
set_option maxHeartbeats 4000000 in
set_option maxRecDepth 100000 in
theorem ctX9_post {G : mG} {l : Launch} (hl : l.stackTraces = false) (N : Nat) (Z : mZ) {a0 : Nat} {a1 : Int32} {a2 : Int32} {M : mM} {r : Int32} {M' : mM} (h : fX9_post N Z a0 a1 a2 M = some (r, M')) : CT G l yX9_post (.code yX9_post cX9_post 3 (some .int)) rmX9_post [.ref a0, .int a1, .int a2] Z M (.inl (some (.int r))) Z M' := by
  unfold fX9_post at h
  refine CT.of hl (by decide) (Nat.le_of_ble_eq_true rfl) ?_
  intro p e s m args below meth c C hnm
  refine j_sub (L' := [(0, .ref a0), (1, .int a1), (2, .int a2)]) [0, 1, 2] rfl ?_
  refine j_aload_n C dX9_post_0 rfl 0 rfl ?_
  refine j_aload_n C dX9_post_1 rfl 0 rfl ?_
  refine j_iload_n C dX9_post_2 rfl 1 rfl ?_
  obtain ⟨ho1, h⟩ := ck_spec h
  obtain ⟨r2, M2, hq2, h⟩ := bnd2_spec h
  refine j_run1 (c_V C (As := [.int a1]) (rest := [.ref a0]) (ctX9_isPlace C.2.2.2.2.2.2.2.2.1 N Z hq2) kcRX9_184 oyX9_isPlace (ci := 9) (T := TX9) (N := 23) rfl (by decide) ho1 ⟨by decide, by decide⟩ ⟨by decide, by decide⟩ (Nat.le_of_ble_eq_true rfl) rfl dX9_post_3) ?_
  refine j_if_eq C dX9_post_6 (tgt := 26) (by decide) (fun hc3 => ?_) (fun hc3 => ?_)
  · rw [if_pos hc3] at h
    refine j_iconst C dX9_post_26 (v := (1 : Int32)) (by decide) ?_
    refine j_sub (L' := [(0, .ref a0), (1, .int a1), (2, .int a2)]) [0, 1, 2] rfl ?_
    exact tX9_post_27 C hnm N Z a0 a1 a2 (1 : Int32) a0 M2 _ _ h
  · rw [if_neg hc3] at h
    refine j_iload_n C dX9_post_9 rfl 2 rfl ?_
    refine j_iconst C dX9_post_10 (v := (0 : Int32)) (by decide) ?_
    refine j_iconst C dX9_post_11 (v := (4 : Int32)) (by decide) ?_
    obtain ⟨r18, M18, hq18, h⟩ := bnd2_spec h
    refine j_run1 (c_S C (As := [.int a2, .int (0 : Int32), .int (4 : Int32)]) (rest := [.ref a0]) (ctX9_in C.2.2.2.2.2.2.2.2.1 N Z hq18) kcRX9_54 oyX9_in ⟨by decide, by decide⟩ ⟨by decide, by decide⟩ (Nat.le_of_ble_eq_true rfl) rfl dX9_post_12) ?_
    refine j_if_eq C dX9_post_15 (tgt := 22) (by decide) (fun hc19 => ?_) (fun hc19 => ?_)
    · rw [if_pos hc19] at h
      refine j_iconst C dX9_post_22 (v := (2 : Int32)) (by decide) ?_
      refine j_goto C dX9_post_23 (tgt := 27) (by decide) ?_
      refine j_sub (L' := [(0, .ref a0), (1, .int a1), (2, .int a2)]) [0, 1, 2] rfl ?_
      exact tX9_post_27 C hnm N Z a0 a1 a2 (2 : Int32) a0 M18 _ _ h
    · rw [if_neg hc19] at h
      refine j_iconst C dX9_post_18 (v := (0 : Int32)) (by decide) ?_
      refine j_goto C dX9_post_19 (tgt := 27) (by decide) ?_
      refine j_sub (L' := [(0, .ref a0), (1, .int a1), (2, .int a2)]) [0, 1, 2] rfl ?_
      exact tX9_post_27 C hnm N Z a0 a1 a2 (0 : Int32) a0 M18 _ _ h
-- ScaffoldPlannerModel load
abbrev rmX9_load : Room := { frames := 2, cells := 0, slots := 0, locals := 44 }
theorem dX9_load_0 : decode cX9_load 0 = .ok (.aload_n 0, 1) := by decide +kernel
theorem dX9_load_1 : decode cX9_load 1 = .ok (.aload_n 0, 1) := by decide +kernel
theorem dX9_load_2 : decode cX9_load 2 = .ok (.iload_n 1, 1) := by decide +kernel
theorem dX9_load_3 : decode cX9_load 3 = .ok (.invokevirtual 184, 3) := by decide +kernel
theorem dX9_load_6 : decode cX9_load 6 = .ok (.ifCond .eq 20, 3) := by decide +kernel
theorem dX9_load_9 : decode cX9_load 9 = .ok (.aload_n 0, 1) := by decide +kernel
theorem dX9_load_10 : decode cX9_load 10 = .ok (.iload_n 1, 1) := by decide +kernel
theorem dX9_load_11 : decode cX9_load 11 = .ok (.iload_n 2, 1) := by decide +kernel
theorem dX9_load_12 : decode cX9_load 12 = .ok (.invokevirtual 93, 3) := by decide +kernel
theorem dX9_load_15 : decode cX9_load 15 = .ok (.ifCond .le 7, 3) := by decide +kernel
theorem dX9_load_18 : decode cX9_load 18 = .ok (.iconst 0, 1) := by decide +kernel
theorem dX9_load_19 : decode cX9_load 19 = .ok (.goto 8, 3) := by decide +kernel
theorem dX9_load_22 : decode cX9_load 22 = .ok (.iconst 2, 1) := by decide +kernel
theorem dX9_load_23 : decode cX9_load 23 = .ok (.goto 4, 3) := by decide +kernel
theorem dX9_load_26 : decode cX9_load 26 = .ok (.iconst 1, 1) := by decide +kernel
theorem dX9_load_27 : decode cX9_load 27 = .ok (.putfield 50, 3) := by decide +kernel
theorem dX9_load_30 : decode cX9_load 30 = .ok (.aload_n 0, 1) := by decide +kernel
theorem dX9_load_31 : decode cX9_load 31 = .ok (.getfield 50, 3) := by decide +kernel
theorem dX9_load_34 : decode cX9_load 34 = .ok (.ifCond .le 7, 3) := by decide +kernel
theorem dX9_load_37 : decode cX9_load 37 = .ok (.iconst 0, 1) := by decide +kernel
theorem dX9_load_38 : decode cX9_load 38 = .ok (.goto 9, 3) := by decide +kernel
theorem dX9_load_41 : decode cX9_load 41 = .ok (.aload_n 0, 1) := by decide +kernel
theorem dX9_load_42 : decode cX9_load 42 = .ok (.iload_n 1, 1) := by decide +kernel
theorem dX9_load_43 : decode cX9_load 43 = .ok (.iload_n 2, 1) := by decide +kernel
theorem dX9_load_44 : decode cX9_load 44 = .ok (.invokevirtual 93, 3) := by decide +kernel
theorem dX9_load_47 : decode cX9_load 47 = .ok (.ireturn, 1) := by decide +kernel
def fX9_load (N : Nat) (Z : mZ) (a0 : Nat) (a1 : Int32) (a2 : Int32) (M : mM) : Option (Int32 × mM) := ck (okO Z a0 9) (bnd2 (fX9_isPlace N Z a0 a1 M) (fun r2 M2 => if r2 = 0 then if ((sI M2 a0 9 (1 : Int32)).1 a0 9) ≤ 0 then bnd2 (fX9_deckAt N Z a0 a1 a2 (sI M2 a0 9 (1 : Int32))) (fun r5 M5 => some (r5, M5)) else some ((0 : Int32), (sI M2 a0 9 (1 : Int32))) else bnd2 (fX9_deckAt N Z a0 a1 a2 M2) (fun r6 M6 => if r6 ≤ 0 then if ((sI M6 a0 9 (2 : Int32)).1 a0 9) ≤ 0 then bnd2 (fX9_deckAt N Z a0 a1 a2 (sI M6 a0 9 (2 : Int32))) (fun r9 M9 => some (r9, M9)) else some ((0 : Int32), (sI M6 a0 9 (2 : Int32))) else if ((sI M6 a0 9 (0 : Int32)).1 a0 9) ≤ 0 then bnd2 (fX9_deckAt N Z a0 a1 a2 (sI M6 a0 9 (0 : Int32))) (fun r11 M11 => some (r11, M11)) else some ((0 : Int32), (sI M6 a0 9 (0 : Int32))))))
set_option maxHeartbeats 4000000 in
set_option maxRecDepth 100000 in
theorem ctX9_load {G : mG} {l : Launch} (hl : l.stackTraces = false) (N : Nat) (Z : mZ) {a0 : Nat} {a1 : Int32} {a2 : Int32} {M : mM} {r : Int32} {M' : mM} (h : fX9_load N Z a0 a1 a2 M = some (r, M')) : CT G l yX9_load (.code yX9_load cX9_load 3 (some .int)) rmX9_load [.ref a0, .int a1, .int a2] Z M (.inl (some (.int r))) Z M' := by
  unfold fX9_load at h
  refine CT.of hl (by decide) (Nat.le_of_ble_eq_true rfl) ?_
  intro p e s m args below meth c C hnm
  refine j_sub (L' := [(0, .ref a0), (1, .int a1), (2, .int a2)]) [0, 1, 2] rfl ?_
  refine j_aload_n C dX9_load_0 rfl 0 rfl ?_
  refine j_aload_n C dX9_load_1 rfl 0 rfl ?_
  refine j_iload_n C dX9_load_2 rfl 1 rfl ?_
  obtain ⟨ho1, h⟩ := ck_spec h
  obtain ⟨r2, M2, hq2, h⟩ := bnd2_spec h
  refine j_run1 (c_V C (As := [.int a1]) (rest := [.ref a0]) (ctX9_isPlace C.2.2.2.2.2.2.2.2.1 N Z hq2) kcRX9_184 oyX9_isPlace (ci := 9) (T := TX9) (N := 23) rfl (by decide) ho1 ⟨by decide, by decide⟩ ⟨by decide, by decide⟩ (Nat.le_of_ble_eq_true rfl) rfl dX9_load_3) ?_
  refine j_if_eq C dX9_load_6 (tgt := 26) (by decide) (fun hc3 => ?_) (fun hc3 => ?_)
  · rw [if_pos hc3] at h
    refine j_iconst C dX9_load_26 (v := (1 : Int32)) (by decide) ?_
    refine j_putI C tyX9 tyX9_ok nmX9 (cn := RX9) (T := TX9) (N := 23) (ci := 9) rfl iX9 ho1 9 (by decide) rfl fwRX9_50 ⟨rfl, rfl⟩ dX9_load_27 ?_
    refine j_aload_n C dX9_load_30 rfl 0 rfl ?_
    refine j_getI C (cn := RX9) (T := TX9) (N := 23) (ci := 9) rfl iX9 ho1 9 (by decide) rfl fwRX9_50 dX9_load_31 ?_
    refine j_if_le C dX9_load_34 (tgt := 41) (by decide) (fun hc4 => ?_) (fun hc4 => ?_)
    · rw [if_pos hc4] at h
      refine j_aload_n C dX9_load_41 rfl 0 rfl ?_
      refine j_iload_n C dX9_load_42 rfl 1 rfl ?_
      refine j_iload_n C dX9_load_43 rfl 2 rfl ?_
      obtain ⟨r5, M5, hq5, h⟩ := bnd2_spec h
      refine j_run1 (c_V C (As := [.int a1, .int a2]) (rest := []) (ctX9_deckAt C.2.2.2.2.2.2.2.2.1 N Z hq5) kcRX9_93 oyX9_deckAt (ci := 9) (T := TX9) (N := 23) rfl (by decide) ho1 ⟨by decide, by decide⟩ ⟨by decide, by decide⟩ (Nat.le_of_ble_eq_true rfl) rfl dX9_load_44) ?_
      cases h
      exact j_iret C rfl (by decide) (by decide) dX9_load_47
    · rw [if_neg hc4] at h
      refine j_iconst C dX9_load_37 (v := (0 : Int32)) (by decide) ?_
      refine j_goto C dX9_load_38 (tgt := 47) (by decide) ?_
      cases h
      exact j_iret C rfl (by decide) (by decide) dX9_load_47
  · rw [if_neg hc3] at h
    refine j_aload_n C dX9_load_9 rfl 0 rfl ?_
    refine j_iload_n C dX9_load_10 rfl 1 rfl ?_
    refine j_iload_n C dX9_load_11 rfl 2 rfl ?_
    obtain ⟨r6, M6, hq6, h⟩ := bnd2_spec h
    refine j_run1 (c_V C (As := [.int a1, .int a2]) (rest := [.ref a0]) (ctX9_deckAt C.2.2.2.2.2.2.2.2.1 N Z hq6) kcRX9_93 oyX9_deckAt (ci := 9) (T := TX9) (N := 23) rfl (by decide) ho1 ⟨by decide, by decide⟩ ⟨by decide, by decide⟩ (Nat.le_of_ble_eq_true rfl) rfl dX9_load_12) ?_
    refine j_if_le C dX9_load_15 (tgt := 22) (by decide) (fun hc7 => ?_) (fun hc7 => ?_)
    · rw [if_pos hc7] at h
      refine j_iconst C dX9_load_22 (v := (2 : Int32)) (by decide) ?_
      refine j_goto C dX9_load_23 (tgt := 27) (by decide) ?_
      refine j_putI C tyX9 tyX9_ok nmX9 (cn := RX9) (T := TX9) (N := 23) (ci := 9) rfl iX9 ho1 9 (by decide) rfl fwRX9_50 ⟨rfl, rfl⟩ dX9_load_27 ?_
      refine j_aload_n C dX9_load_30 rfl 0 rfl ?_
      refine j_getI C (cn := RX9) (T := TX9) (N := 23) (ci := 9) rfl iX9 ho1 9 (by decide) rfl fwRX9_50 dX9_load_31 ?_
      refine j_if_le C dX9_load_34 (tgt := 41) (by decide) (fun hc8 => ?_) (fun hc8 => ?_)
      · rw [if_pos hc8] at h
        refine j_aload_n C dX9_load_41 rfl 0 rfl ?_
        refine j_iload_n C dX9_load_42 rfl 1 rfl ?_
        refine j_iload_n C dX9_load_43 rfl 2 rfl ?_
        obtain ⟨r9, M9, hq9, h⟩ := bnd2_spec h
        refine j_run1 (c_V C (As := [.int a1, .int a2]) (rest := []) (ctX9_deckAt C.2.2.2.2.2.2.2.2.1 N Z hq9) kcRX9_93 oyX9_deckAt (ci := 9) (T := TX9) (N := 23) rfl (by decide) ho1 ⟨by decide, by decide⟩ ⟨by decide, by decide⟩ (Nat.le_of_ble_eq_true rfl) rfl dX9_load_44) ?_
        cases h
        exact j_iret C rfl (by decide) (by decide) dX9_load_47
      · rw [if_neg hc8] at h
        refine j_iconst C dX9_load_37 (v := (0 : Int32)) (by decide) ?_
        refine j_goto C dX9_load_38 (tgt := 47) (by decide) ?_
        cases h
        exact j_iret C rfl (by decide) (by decide) dX9_load_47
    · rw [if_neg hc7] at h
      refine j_iconst C dX9_load_18 (v := (0 : Int32)) (by decide) ?_
      refine j_goto C dX9_load_19 (tgt := 27) (by decide) ?_
      refine j_putI C tyX9 tyX9_ok nmX9 (cn := RX9) (T := TX9) (N := 23) (ci := 9) rfl iX9 ho1 9 (by decide) rfl fwRX9_50 ⟨rfl, rfl⟩ dX9_load_27 ?_
      refine j_aload_n C dX9_load_30 rfl 0 rfl ?_
      refine j_getI C (cn := RX9) (T := TX9) (N := 23) (ci := 9) rfl iX9 ho1 9 (by decide) rfl fwRX9_50 dX9_load_31 ?_
      refine j_if_le C dX9_load_34 (tgt := 41) (by decide) (fun hc10 => ?_) (fun hc10 => ?_)
      · rw [if_pos hc10] at h
        refine j_aload_n C dX9_load_41 rfl 0 rfl ?_
        refine j_iload_n C dX9_load_42 rfl 1 rfl ?_
        refine j_iload_n C dX9_load_43 rfl 2 rfl ?_
        obtain ⟨r11, M11, hq11, h⟩ := bnd2_spec h
        refine j_run1 (c_V C (As := [.int a1, .int a2]) (rest := []) (ctX9_deckAt C.2.2.2.2.2.2.2.2.1 N Z hq11) kcRX9_93 oyX9_deckAt (ci := 9) (T := TX9) (N := 23) rfl (by decide) ho1 ⟨by decide, by decide⟩ ⟨by decide, by decide⟩ (Nat.le_of_ble_eq_true rfl) rfl dX9_load_44) ?_
        cases h
        exact j_iret C rfl (by decide) (by decide) dX9_load_47
      · rw [if_neg hc10] at h
        refine j_iconst C dX9_load_37 (v := (0 : Int32)) (by decide) ?_
        refine j_goto C dX9_load_38 (tgt := 47) (by decide) ?_
        cases h
        exact j_iret C rfl (by decide) (by decide) dX9_load_47
-- ScaffoldPlannerModel steps
abbrev rmX9_steps : Room := { frames := 4, cells := 0, slots := 0, locals := 91 }
theorem dX9_steps_0 : decode cX9_steps 0 = .ok (.aload_n 0, 1) := by decide +kernel
theorem dX9_steps_1 : decode cX9_steps 1 = .ok (.invokevirtual 139, 3) := by decide +kernel
theorem dX9_steps_4 : decode cX9_steps 4 = .ok (.aload_n 0, 1) := by decide +kernel
theorem dX9_steps_5 : decode cX9_steps 5 = .ok (.aload_n 0, 1) := by decide +kernel
theorem dX9_steps_6 : decode cX9_steps 6 = .ok (.iload_n 1, 1) := by decide +kernel
theorem dX9_steps_7 : decode cX9_steps 7 = .ok (.invokevirtual 184, 3) := by decide +kernel
theorem dX9_steps_10 : decode cX9_steps 10 = .ok (.ifCond .eq 20, 3) := by decide +kernel
theorem dX9_steps_13 : decode cX9_steps 13 = .ok (.aload_n 0, 1) := by decide +kernel
theorem dX9_steps_14 : decode cX9_steps 14 = .ok (.iload_n 1, 1) := by decide +kernel
theorem dX9_steps_15 : decode cX9_steps 15 = .ok (.iload_n 2, 1) := by decide +kernel
theorem dX9_steps_16 : decode cX9_steps 16 = .ok (.invokevirtual 142, 3) := by decide +kernel
theorem dX9_steps_19 : decode cX9_steps 19 = .ok (.ifCond .eq 7, 3) := by decide +kernel
theorem dX9_steps_22 : decode cX9_steps 22 = .ok (.iconst 0, 1) := by decide +kernel
theorem dX9_steps_23 : decode cX9_steps 23 = .ok (.goto 8, 3) := by decide +kernel
theorem dX9_steps_26 : decode cX9_steps 26 = .ok (.iconst 2, 1) := by decide +kernel
theorem dX9_steps_27 : decode cX9_steps 27 = .ok (.goto 4, 3) := by decide +kernel
theorem dX9_steps_30 : decode cX9_steps 30 = .ok (.iconst 1, 1) := by decide +kernel
theorem dX9_steps_31 : decode cX9_steps 31 = .ok (.putfield 50, 3) := by decide +kernel
theorem dX9_steps_34 : decode cX9_steps 34 = .ok (.aload_n 0, 1) := by decide +kernel
theorem dX9_steps_35 : decode cX9_steps 35 = .ok (.getfield 50, 3) := by decide +kernel
theorem dX9_steps_38 : decode cX9_steps 38 = .ok (.ifCond .le 7, 3) := by decide +kernel
theorem dX9_steps_41 : decode cX9_steps 41 = .ok (.iconst 0, 1) := by decide +kernel
theorem dX9_steps_42 : decode cX9_steps 42 = .ok (.goto 14, 3) := by decide +kernel
theorem dX9_steps_45 : decode cX9_steps 45 = .ok (.aload_n 0, 1) := by decide +kernel
theorem dX9_steps_46 : decode cX9_steps 46 = .ok (.getfield 28, 3) := by decide +kernel
theorem dX9_steps_49 : decode cX9_steps 49 = .ok (.bipush 7, 2) := by decide +kernel
theorem dX9_steps_51 : decode cX9_steps 51 = .ok (.iload_n 1, 1) := by decide +kernel
theorem dX9_steps_52 : decode cX9_steps 52 = .ok (.imul, 1) := by decide +kernel
theorem dX9_steps_53 : decode cX9_steps 53 = .ok (.iload_n 2, 1) := by decide +kernel
theorem dX9_steps_54 : decode cX9_steps 54 = .ok (.iadd, 1) := by decide +kernel
theorem dX9_steps_55 : decode cX9_steps 55 = .ok (.iaload, 1) := by decide +kernel
theorem dX9_steps_56 : decode cX9_steps 56 = .ok (.ireturn, 1) := by decide +kernel
def fX9_steps_31 (N : Nat) (Z : mZ) (v0 : Nat) (v1 : Int32) (v2 : Int32) (x0 : Int32) (x1 : Nat) (M : mM) : Option (Int32 × mM) := ck (okO Z x1 9) (ck (okO Z v0 9) (if ((sI M x1 9 x0).1 v0 9) ≤ 0 then bnd1 (Z.2.2.2 v0 11) (fun c8 => ck (okI Z c8) (ck (inB (((7 : Int32) * v1) + v2) (Z.2.2.1 c8)) (some (((sI M x1 9 x0).1 c8 ((((7 : Int32) * v1) + v2)).toNatClampNeg), (sI M x1 9 x0))))) else some ((0 : Int32), (sI M x1 9 x0))))
set_option maxHeartbeats 4000000 in
set_option maxRecDepth 100000 in
theorem tX9_steps_31 {G : mG} {p : Program} {l : Launch} {e : Env} {s : State} {m : MethodId} {args : Array Value} {below : List Frame} {meth : Method} {c : Code} (C : Cx G p l s m args meth c RX9 cX9_steps 3 (some .int) []) (hnm : meth.name = yX9_steps.name) (N : Nat) (Z : mZ) : ∀ (v0 : Nat) (v1 : Int32) (v2 : Int32) (x0 : Int32) (x1 : Nat) (M : mM) (r : Int32) (M' : mM), fX9_steps_31 N Z v0 v1 v2 x0 x1 M = some (r, M') → JJ G p l e rmX9_steps s m args below meth c 3 (mEnd G below args s rmX9_steps (.inl (some (.int r))) Z M') 0 0 31 [(0, .ref v0), (1, .int v1), (2, .int v2)] [.int x0, .ref x1] Z M := by
  intro v0 v1 v2 x0 x1 M r M' h
  unfold fX9_steps_31 at h
  obtain ⟨ho5, h⟩ := ck_spec h
  refine j_putI C tyX9 tyX9_ok nmX9 (cn := RX9) (T := TX9) (N := 23) (ci := 9) rfl iX9 ho5 9 (by decide) rfl fwRX9_50 ⟨rfl, rfl⟩ dX9_steps_31 ?_
  refine j_aload_n C dX9_steps_34 rfl 0 rfl ?_
  obtain ⟨ho6, h⟩ := ck_spec h
  refine j_getI C (cn := RX9) (T := TX9) (N := 23) (ci := 9) rfl iX9 ho6 9 (by decide) rfl fwRX9_50 dX9_steps_35 ?_
  refine j_if_le C dX9_steps_38 (tgt := 45) (by decide) (fun hc7 => ?_) (fun hc7 => ?_)
  · rw [if_pos hc7] at h
    refine j_aload_n C dX9_steps_45 rfl 0 rfl ?_
    obtain ⟨c8, hr8, h⟩ := bnd1_spec h
    refine j_getR C (cn := RX9) (T := TX9) (N := 23) (ci := 9) rfl iX9 ho6 11 (by decide) rfl fwRX9_28 dX9_steps_46 hr8 ?_
    refine j_bipush C dX9_steps_49 (v := (7 : Int32)) (by decide) ?_
    refine j_iload_n C dX9_steps_51 rfl 1 rfl ?_
    refine j_imul C dX9_steps_52 ?_
    refine j_iload_n C dX9_steps_53 rfl 2 rfl ?_
    refine j_iadd C dX9_steps_54 ?_
    obtain ⟨ho9, h⟩ := ck_spec h
    obtain ⟨ho10, h⟩ := ck_spec h
    refine j_iald C ho9 ho10 dX9_steps_55 ?_
    cases h
    exact j_iret C rfl (by decide) (by decide) dX9_steps_56
  · rw [if_neg hc7] at h
    refine j_iconst C dX9_steps_41 (v := (0 : Int32)) (by decide) ?_
    refine j_goto C dX9_steps_42 (tgt := 56) (by decide) ?_
    cases h
    exact j_iret C rfl (by decide) (by decide) dX9_steps_56
def fX9_steps (N : Nat) (Z : mZ) (a0 : Nat) (a1 : Int32) (a2 : Int32) (M : mM) : Option (Int32 × mM) := ck (okO Z a0 9) (bnd2 (fX9_walks N Z a0 M) (fun _ M2 => bnd2 (fX9_isPlace N Z a0 a1 M2) (fun r3 M3 => if r3 = 0 then fX9_steps_31 N Z a0 a1 a2 (1 : Int32) a0 M3 else bnd2 (fX9_isReached N Z a0 a1 a2 M3) (fun r11 M11 => if r11 = 0 then fX9_steps_31 N Z a0 a1 a2 (2 : Int32) a0 M11 else fX9_steps_31 N Z a0 a1 a2 (0 : Int32) a0 M11))))
set_option maxHeartbeats 4000000 in
set_option maxRecDepth 100000 in
theorem ctX9_steps {G : mG} {l : Launch} (hl : l.stackTraces = false) (N : Nat) (Z : mZ) {a0 : Nat} {a1 : Int32} {a2 : Int32} {M : mM} {r : Int32} {M' : mM} (h : fX9_steps N Z a0 a1 a2 M = some (r, M')) : CT G l yX9_steps (.code yX9_steps cX9_steps 3 (some .int)) rmX9_steps [.ref a0, .int a1, .int a2] Z M (.inl (some (.int r))) Z M' := by
  unfold fX9_steps at h
  refine CT.of hl (by decide) (Nat.le_of_ble_eq_true rfl) ?_
  intro p e s m args below meth c C hnm
  refine j_sub (L' := [(0, .ref a0), (1, .int a1), (2, .int a2)]) [0, 1, 2] rfl ?_
  refine j_aload_n C dX9_steps_0 rfl 0 rfl ?_
  obtain ⟨ho1, h⟩ := ck_spec h
  obtain ⟨_, M2, hq2, h⟩ := bnd2_spec h
  refine j_run0 (c_V C (As := []) (rest := []) (ctX9_walks C.2.2.2.2.2.2.2.2.1 N Z hq2) kcRX9_139 oyX9_walks (ci := 9) (T := TX9) (N := 23) rfl (by decide) ho1 ⟨by decide, by decide⟩ ⟨by decide, by decide⟩ (Nat.le_of_ble_eq_true rfl) rfl dX9_steps_1) ?_
  refine j_aload_n C dX9_steps_4 rfl 0 rfl ?_
  refine j_aload_n C dX9_steps_5 rfl 0 rfl ?_
  refine j_iload_n C dX9_steps_6 rfl 1 rfl ?_
  obtain ⟨r3, M3, hq3, h⟩ := bnd2_spec h
  refine j_run1 (c_V C (As := [.int a1]) (rest := [.ref a0]) (ctX9_isPlace C.2.2.2.2.2.2.2.2.1 N Z hq3) kcRX9_184 oyX9_isPlace (ci := 9) (T := TX9) (N := 23) rfl (by decide) ho1 ⟨by decide, by decide⟩ ⟨by decide, by decide⟩ (Nat.le_of_ble_eq_true rfl) rfl dX9_steps_7) ?_
  refine j_if_eq C dX9_steps_10 (tgt := 30) (by decide) (fun hc4 => ?_) (fun hc4 => ?_)
  · rw [if_pos hc4] at h
    refine j_iconst C dX9_steps_30 (v := (1 : Int32)) (by decide) ?_
    refine j_sub (L' := [(0, .ref a0), (1, .int a1), (2, .int a2)]) [0, 1, 2] rfl ?_
    exact tX9_steps_31 C hnm N Z a0 a1 a2 (1 : Int32) a0 M3 _ _ h
  · rw [if_neg hc4] at h
    refine j_aload_n C dX9_steps_13 rfl 0 rfl ?_
    refine j_iload_n C dX9_steps_14 rfl 1 rfl ?_
    refine j_iload_n C dX9_steps_15 rfl 2 rfl ?_
    obtain ⟨r11, M11, hq11, h⟩ := bnd2_spec h
    refine j_run1 (c_V C (As := [.int a1, .int a2]) (rest := [.ref a0]) (ctX9_isReached C.2.2.2.2.2.2.2.2.1 N Z hq11) kcRX9_142 oyX9_isReached (ci := 9) (T := TX9) (N := 23) rfl (by decide) ho1 ⟨by decide, by decide⟩ ⟨by decide, by decide⟩ (Nat.le_of_ble_eq_true rfl) rfl dX9_steps_16) ?_
    refine j_if_eq C dX9_steps_19 (tgt := 26) (by decide) (fun hc12 => ?_) (fun hc12 => ?_)
    · rw [if_pos hc12] at h
      refine j_iconst C dX9_steps_26 (v := (2 : Int32)) (by decide) ?_
      refine j_goto C dX9_steps_27 (tgt := 31) (by decide) ?_
      refine j_sub (L' := [(0, .ref a0), (1, .int a1), (2, .int a2)]) [0, 1, 2] rfl ?_
      exact tX9_steps_31 C hnm N Z a0 a1 a2 (2 : Int32) a0 M11 _ _ h
    · rw [if_neg hc12] at h
      refine j_iconst C dX9_steps_22 (v := (0 : Int32)) (by decide) ?_
      refine j_goto C dX9_steps_23 (tgt := 31) (by decide) ?_
      refine j_sub (L' := [(0, .ref a0), (1, .int a1), (2, .int a2)]) [0, 1, 2] rfl ?_
      exact tX9_steps_31 C hnm N Z a0 a1 a2 (0 : Int32) a0 M11 _ _ h
-- ScaffoldPlannerModel leastTies
abbrev rmX9_leastTies : Room := { frames := 1, cells := 0, slots := 0, locals := 25 }
theorem dX9_leastTies_0 : decode cX9_leastTies 0 = .ok (.iconst (-1), 1) := by decide +kernel
theorem dX9_leastTies_1 : decode cX9_leastTies 1 = .ok (.istore_n 2, 1) := by decide +kernel
theorem dX9_leastTies_2 : decode cX9_leastTies 2 = .ok (.iconst 0, 1) := by decide +kernel
theorem dX9_leastTies_3 : decode cX9_leastTies 3 = .ok (.istore_n 3, 1) := by decide +kernel
theorem dX9_leastTies_4 : decode cX9_leastTies 4 = .ok (.iload_n 3, 1) := by decide +kernel
theorem dX9_leastTies_5 : decode cX9_leastTies 5 = .ok (.iconst 2, 1) := by decide +kernel
theorem dX9_leastTies_6 : decode cX9_leastTies 6 = .ok (.iload_n 1, 1) := by decide +kernel
theorem dX9_leastTies_7 : decode cX9_leastTies 7 = .ok (.ishl, 1) := by decide +kernel
theorem dX9_leastTies_8 : decode cX9_leastTies 8 = .ok (.if_icmp .ge 46, 3) := by decide +kernel
theorem dX9_leastTies_11 : decode cX9_leastTies 11 = .ok (.iload_n 1, 1) := by decide +kernel
theorem dX9_leastTies_12 : decode cX9_leastTies 12 = .ok (.iload_n 3, 1) := by decide +kernel
theorem dX9_leastTies_13 : decode cX9_leastTies 13 = .ok (.aload_n 0, 1) := by decide +kernel
theorem dX9_leastTies_14 : decode cX9_leastTies 14 = .ok (.getfield 7, 3) := by decide +kernel
theorem dX9_leastTies_17 : decode cX9_leastTies 17 = .ok (.iconst 1, 1) := by decide +kernel
theorem dX9_leastTies_18 : decode cX9_leastTies 18 = .ok (.iaload, 1) := by decide +kernel
theorem dX9_leastTies_19 : decode cX9_leastTies 19 = .ok (.aload_n 0, 1) := by decide +kernel
theorem dX9_leastTies_20 : decode cX9_leastTies 20 = .ok (.getfield 7, 3) := by decide +kernel
theorem dX9_leastTies_23 : decode cX9_leastTies 23 = .ok (.iconst 2, 1) := by decide +kernel
theorem dX9_leastTies_24 : decode cX9_leastTies 24 = .ok (.iaload, 1) := by decide +kernel
theorem dX9_leastTies_25 : decode cX9_leastTies 25 = .ok (.invokestatic 83, 3) := by decide +kernel
theorem dX9_leastTies_28 : decode cX9_leastTies 28 = .ok (.ifCond .eq 20, 3) := by decide +kernel
theorem dX9_leastTies_31 : decode cX9_leastTies 31 = .ok (.iload_n 2, 1) := by decide +kernel
theorem dX9_leastTies_32 : decode cX9_leastTies 32 = .ok (.ifCond .lt 14, 3) := by decide +kernel
theorem dX9_leastTies_35 : decode cX9_leastTies 35 = .ok (.iload_n 3, 1) := by decide +kernel
theorem dX9_leastTies_36 : decode cX9_leastTies 36 = .ok (.invokestatic 194, 3) := by decide +kernel
theorem dX9_leastTies_39 : decode cX9_leastTies 39 = .ok (.iload_n 2, 1) := by decide +kernel
theorem dX9_leastTies_40 : decode cX9_leastTies 40 = .ok (.invokestatic 194, 3) := by decide +kernel
theorem dX9_leastTies_43 : decode cX9_leastTies 43 = .ok (.if_icmp .ge 5, 3) := by decide +kernel
theorem dX9_leastTies_46 : decode cX9_leastTies 46 = .ok (.iload_n 3, 1) := by decide +kernel
theorem dX9_leastTies_47 : decode cX9_leastTies 47 = .ok (.istore_n 2, 1) := by decide +kernel
theorem dX9_leastTies_48 : decode cX9_leastTies 48 = .ok (.iinc 3 2, 3) := by decide +kernel
theorem dX9_leastTies_51 : decode cX9_leastTies 51 = .ok (.goto (-47), 3) := by decide +kernel
theorem dX9_leastTies_54 : decode cX9_leastTies 54 = .ok (.iload_n 2, 1) := by decide +kernel
theorem dX9_leastTies_55 : decode cX9_leastTies 55 = .ok (.ireturn, 1) := by decide +kernel
def fX9_leastTies_4 (N : Nat) (Z : mZ) : Nat → Nat → Int32 → Int32 → Int32 → mM → Option (Int32 × mM)
  | 0, _, _, _, _, _ => none
  | fu + 1, v0, v1, v2, v3, M => if ((2 : Int32) <<< (v1 &&& 31)) ≤ v3 then some (v2, M) else ck (okO Z v0 9) (bnd1 (Z.2.2.2 v0 0) (fun c3 => ck (okI Z c3) (ck (inB (1 : Int32) (Z.2.2.1 c3)) (ck (inB (2 : Int32) (Z.2.2.1 c3)) (bnd2 (fX9_isHeldBy N Z v1 v3 (M.1 c3 ((1 : Int32)).toNatClampNeg) (M.1 c3 ((2 : Int32)).toNatClampNeg) M) (fun r7 M7 => if r7 = 0 then fX9_leastTies_4 N Z fu v0 v1 v2 (v3 + (2 : Int32)) M7 else if v2 < 0 then fX9_leastTies_4 N Z fu v0 v1 v3 (v3 + (2 : Int32)) M7 else bnd2 (fX9_bits N Z v3 M7) (fun r10 M10 => bnd2 (fX9_bits N Z v2 M10) (fun r11 M11 => if r11 ≤ r10 then fX9_leastTies_4 N Z fu v0 v1 v2 (v3 + (2 : Int32)) M11 else fX9_leastTies_4 N Z fu v0 v1 v3 (v3 + (2 : Int32)) M11))))))))
set_option maxHeartbeats 4000000 in
set_option maxRecDepth 100000 in
theorem tX9_leastTies_4 {G : mG} {p : Program} {l : Launch} {e : Env} {s : State} {m : MethodId} {args : Array Value} {below : List Frame} {meth : Method} {c : Code} (C : Cx G p l s m args meth c RX9 cX9_leastTies 4 (some .int) []) (hnm : meth.name = yX9_leastTies.name) (N : Nat) (Z : mZ) : ∀ (fu : Nat) (v0 : Nat) (v1 : Int32) (v2 : Int32) (v3 : Int32) (M : mM) (r : Int32) (M' : mM), fX9_leastTies_4 N Z fu v0 v1 v2 v3 M = some (r, M') → JJ G p l e rmX9_leastTies s m args below meth c 4 (mEnd G below args s rmX9_leastTies (.inl (some (.int r))) Z M') 0 0 4 [(0, .ref v0), (1, .int v1), (2, .int v2), (3, .int v3)] [] Z M := by
  intro fu
  induction fu with
  | zero =>
    intro v0 v1 v2 v3 M r M' h
    cases h
  | succ fu ih =>
    intro v0 v1 v2 v3 M r M' h
    rw [fX9_leastTies_4] at h
    refine j_iload_n C dX9_leastTies_4 rfl 3 rfl ?_
    refine j_iconst C dX9_leastTies_5 (v := (2 : Int32)) (by decide) ?_
    refine j_iload_n C dX9_leastTies_6 rfl 1 rfl ?_
    refine j_ishl C dX9_leastTies_7 ?_
    refine j_icmp_ge C dX9_leastTies_8 (tgt := 54) (by decide) (fun hc1 => ?_) (fun hc1 => ?_)
    · rw [if_pos hc1] at h
      refine j_iload_n C dX9_leastTies_54 rfl 2 rfl ?_
      cases h
      exact j_iret C rfl (by decide) (by decide) dX9_leastTies_55
    · rw [if_neg hc1] at h
      refine j_iload_n C dX9_leastTies_11 rfl 1 rfl ?_
      refine j_iload_n C dX9_leastTies_12 rfl 3 rfl ?_
      refine j_aload_n C dX9_leastTies_13 rfl 0 rfl ?_
      obtain ⟨ho2, h⟩ := ck_spec h
      obtain ⟨c3, hr3, h⟩ := bnd1_spec h
      refine j_getR C (cn := RX9) (T := TX9) (N := 23) (ci := 9) rfl iX9 ho2 0 (by decide) rfl fwRX9_7 dX9_leastTies_14 hr3 ?_
      refine j_iconst C dX9_leastTies_17 (v := (1 : Int32)) (by decide) ?_
      obtain ⟨ho4, h⟩ := ck_spec h
      obtain ⟨ho5, h⟩ := ck_spec h
      refine j_iald C ho4 ho5 dX9_leastTies_18 ?_
      refine j_aload_n C dX9_leastTies_19 rfl 0 rfl ?_
      refine j_getR C (cn := RX9) (T := TX9) (N := 23) (ci := 9) rfl iX9 ho2 0 (by decide) rfl fwRX9_7 dX9_leastTies_20 hr3 ?_
      refine j_iconst C dX9_leastTies_23 (v := (2 : Int32)) (by decide) ?_
      obtain ⟨ho6, h⟩ := ck_spec h
      refine j_iald C ho4 ho6 dX9_leastTies_24 ?_
      obtain ⟨r7, M7, hq7, h⟩ := bnd2_spec h
      refine j_run1 (c_S C (As := [.int v1, .int v3, .int (M.1 c3 ((1 : Int32)).toNatClampNeg), .int (M.1 c3 ((2 : Int32)).toNatClampNeg)]) (rest := []) (ctX9_isHeldBy C.2.2.2.2.2.2.2.2.1 N Z hq7) kcRX9_83 oyX9_isHeldBy ⟨by decide, by decide⟩ ⟨by decide, by decide⟩ (Nat.le_of_ble_eq_true rfl) rfl dX9_leastTies_25) ?_
      refine j_if_eq C dX9_leastTies_28 (tgt := 48) (by decide) (fun hc8 => ?_) (fun hc8 => ?_)
      · rw [if_pos hc8] at h
        refine j_iinc C dX9_leastTies_48 3 rfl (v := (v3 + (2 : Int32))) (by first | rfl | decide) (by decide) (L' := [(3, .int (v3 + (2 : Int32))), (0, .ref v0), (1, .int v1), (2, .int v2)]) rfl ?_
        refine j_goto C dX9_leastTies_51 (tgt := 4) (by decide) ?_
        refine j_sub (L' := [(0, .ref v0), (1, .int v1), (2, .int v2), (3, .int (v3 + (2 : Int32)))]) [1, 2, 3, 0] rfl ?_
        exact ih v0 v1 v2 (v3 + (2 : Int32)) M7 r M' h
      · rw [if_neg hc8] at h
        refine j_iload_n C dX9_leastTies_31 rfl 2 rfl ?_
        refine j_if_lt C dX9_leastTies_32 (tgt := 46) (by decide) (fun hc9 => ?_) (fun hc9 => ?_)
        · rw [if_pos hc9] at h
          refine j_iload_n C dX9_leastTies_46 rfl 3 rfl ?_
          refine j_istore_n C dX9_leastTies_47 rfl (by decide) (L' := [(2, .int v3), (0, .ref v0), (1, .int v1), (3, .int v3)]) rfl ?_
          refine j_iinc C dX9_leastTies_48 3 rfl (v := (v3 + (2 : Int32))) (by first | rfl | decide) (by decide) (L' := [(3, .int (v3 + (2 : Int32))), (2, .int v3), (0, .ref v0), (1, .int v1)]) rfl ?_
          refine j_goto C dX9_leastTies_51 (tgt := 4) (by decide) ?_
          refine j_sub (L' := [(0, .ref v0), (1, .int v1), (2, .int v3), (3, .int (v3 + (2 : Int32)))]) [2, 3, 1, 0] rfl ?_
          exact ih v0 v1 v3 (v3 + (2 : Int32)) M7 r M' h
        · rw [if_neg hc9] at h
          refine j_iload_n C dX9_leastTies_35 rfl 3 rfl ?_
          obtain ⟨r10, M10, hq10, h⟩ := bnd2_spec h
          refine j_run1 (c_S C (As := [.int v3]) (rest := []) (ctX9_bits C.2.2.2.2.2.2.2.2.1 N Z hq10) kcRX9_194 oyX9_bits ⟨by decide, by decide⟩ ⟨by decide, by decide⟩ (Nat.le_of_ble_eq_true rfl) rfl dX9_leastTies_36) ?_
          refine j_iload_n C dX9_leastTies_39 rfl 2 rfl ?_
          obtain ⟨r11, M11, hq11, h⟩ := bnd2_spec h
          refine j_run1 (c_S C (As := [.int v2]) (rest := [.int r10]) (ctX9_bits C.2.2.2.2.2.2.2.2.1 N Z hq11) kcRX9_194 oyX9_bits ⟨by decide, by decide⟩ ⟨by decide, by decide⟩ (Nat.le_of_ble_eq_true rfl) rfl dX9_leastTies_40) ?_
          refine j_icmp_ge C dX9_leastTies_43 (tgt := 48) (by decide) (fun hc12 => ?_) (fun hc12 => ?_)
          · rw [if_pos hc12] at h
            refine j_iinc C dX9_leastTies_48 3 rfl (v := (v3 + (2 : Int32))) (by first | rfl | decide) (by decide) (L' := [(3, .int (v3 + (2 : Int32))), (0, .ref v0), (1, .int v1), (2, .int v2)]) rfl ?_
            refine j_goto C dX9_leastTies_51 (tgt := 4) (by decide) ?_
            refine j_sub (L' := [(0, .ref v0), (1, .int v1), (2, .int v2), (3, .int (v3 + (2 : Int32)))]) [1, 2, 3, 0] rfl ?_
            exact ih v0 v1 v2 (v3 + (2 : Int32)) M11 r M' h
          · rw [if_neg hc12] at h
            refine j_iload_n C dX9_leastTies_46 rfl 3 rfl ?_
            refine j_istore_n C dX9_leastTies_47 rfl (by decide) (L' := [(2, .int v3), (0, .ref v0), (1, .int v1), (3, .int v3)]) rfl ?_
            refine j_iinc C dX9_leastTies_48 3 rfl (v := (v3 + (2 : Int32))) (by first | rfl | decide) (by decide) (L' := [(3, .int (v3 + (2 : Int32))), (2, .int v3), (0, .ref v0), (1, .int v1)]) rfl ?_
            refine j_goto C dX9_leastTies_51 (tgt := 4) (by decide) ?_
            refine j_sub (L' := [(0, .ref v0), (1, .int v1), (2, .int v3), (3, .int (v3 + (2 : Int32)))]) [2, 3, 1, 0] rfl ?_
            exact ih v0 v1 v3 (v3 + (2 : Int32)) M11 r M' h
def fX9_leastTies (N : Nat) (Z : mZ) (a0 : Nat) (a1 : Int32) (M : mM) : Option (Int32 × mM) := fX9_leastTies_4 N Z N a0 a1 (-1 : Int32) (0 : Int32) M
set_option maxHeartbeats 4000000 in
set_option maxRecDepth 100000 in
theorem ctX9_leastTies {G : mG} {l : Launch} (hl : l.stackTraces = false) (N : Nat) (Z : mZ) {a0 : Nat} {a1 : Int32} {M : mM} {r : Int32} {M' : mM} (h : fX9_leastTies N Z a0 a1 M = some (r, M')) : CT G l yX9_leastTies (.code yX9_leastTies cX9_leastTies 4 (some .int)) rmX9_leastTies [.ref a0, .int a1] Z M (.inl (some (.int r))) Z M' := by
  unfold fX9_leastTies at h
  refine CT.of hl (by decide) (Nat.le_of_ble_eq_true rfl) ?_
  intro p e s m args below meth c C hnm
  refine j_sub (L' := [(0, .ref a0), (1, .int a1)]) [0, 1] rfl ?_
  refine j_iconst C dX9_leastTies_0 (v := (-1 : Int32)) (by decide) ?_
  refine j_istore_n C dX9_leastTies_1 rfl (by decide) (L' := [(2, .int (-1 : Int32)), (0, .ref a0), (1, .int a1)]) rfl ?_
  refine j_iconst C dX9_leastTies_2 (v := (0 : Int32)) (by decide) ?_
  refine j_istore_n C dX9_leastTies_3 rfl (by decide) (L' := [(3, .int (0 : Int32)), (2, .int (-1 : Int32)), (0, .ref a0), (1, .int a1)]) rfl ?_
  refine j_sub (L' := [(0, .ref a0), (1, .int a1), (2, .int (-1 : Int32)), (3, .int (0 : Int32))]) [2, 3, 1, 0] rfl ?_
  exact tX9_leastTies_4 C hnm N Z N a0 a1 (-1 : Int32) (0 : Int32) M _ _ h
-- ScaffoldPlannerModel fewestTies
theorem kcRX9_213 : okV RX9 213 yX9_leastTies (.code yX9_leastTies cX9_leastTies 4 (some .int)) = true := by decide +kernel
theorem oyX9_leastTies : okY yX9_leastTies 1 := ⟨by decide +kernel, by decide +kernel, by decide +kernel⟩
abbrev rmX9_fewestTies : Room := { frames := 2, cells := 0, slots := 0, locals := 48 }
theorem dX9_fewestTies_0 : decode cX9_fewestTies 0 = .ok (.aload_n 0, 1) := by decide +kernel
theorem dX9_fewestTies_1 : decode cX9_fewestTies 1 = .ok (.iload_n 1, 1) := by decide +kernel
theorem dX9_fewestTies_2 : decode cX9_fewestTies 2 = .ok (.iconst 0, 1) := by decide +kernel
theorem dX9_fewestTies_3 : decode cX9_fewestTies 3 = .ok (.bipush 12, 2) := by decide +kernel
theorem dX9_fewestTies_5 : decode cX9_fewestTies 5 = .ok (.invokestatic 54, 3) := by decide +kernel
theorem dX9_fewestTies_8 : decode cX9_fewestTies 8 = .ok (.ifCond .eq 7, 3) := by decide +kernel
theorem dX9_fewestTies_11 : decode cX9_fewestTies 11 = .ok (.iconst 0, 1) := by decide +kernel
theorem dX9_fewestTies_12 : decode cX9_fewestTies 12 = .ok (.goto 4, 3) := by decide +kernel
theorem dX9_fewestTies_15 : decode cX9_fewestTies 15 = .ok (.iconst 1, 1) := by decide +kernel
theorem dX9_fewestTies_16 : decode cX9_fewestTies 16 = .ok (.putfield 50, 3) := by decide +kernel
theorem dX9_fewestTies_19 : decode cX9_fewestTies 19 = .ok (.aload_n 0, 1) := by decide +kernel
theorem dX9_fewestTies_20 : decode cX9_fewestTies 20 = .ok (.getfield 50, 3) := by decide +kernel
theorem dX9_fewestTies_23 : decode cX9_fewestTies 23 = .ok (.ifCond .le 7, 3) := by decide +kernel
theorem dX9_fewestTies_26 : decode cX9_fewestTies 26 = .ok (.iconst 0, 1) := by decide +kernel
theorem dX9_fewestTies_27 : decode cX9_fewestTies 27 = .ok (.goto 11, 3) := by decide +kernel
theorem dX9_fewestTies_30 : decode cX9_fewestTies 30 = .ok (.aload_n 0, 1) := by decide +kernel
theorem dX9_fewestTies_31 : decode cX9_fewestTies 31 = .ok (.iload_n 1, 1) := by decide +kernel
theorem dX9_fewestTies_32 : decode cX9_fewestTies 32 = .ok (.invokevirtual 213, 3) := by decide +kernel
theorem dX9_fewestTies_35 : decode cX9_fewestTies 35 = .ok (.invokestatic 194, 3) := by decide +kernel
theorem dX9_fewestTies_38 : decode cX9_fewestTies 38 = .ok (.ireturn, 1) := by decide +kernel
def fX9_fewestTies (N : Nat) (Z : mZ) (a0 : Nat) (a1 : Int32) (M : mM) : Option (Int32 × mM) := bnd2 (fX9_in N Z a1 (0 : Int32) (12 : Int32) M) (fun r1 M1 => if r1 = 0 then ck (okO Z a0 9) (if ((sI M1 a0 9 (1 : Int32)).1 a0 9) ≤ 0 then bnd2 (fX9_leastTies N Z a0 a1 (sI M1 a0 9 (1 : Int32))) (fun r5 M5 => bnd2 (fX9_bits N Z r5 M5) (fun r6 M6 => some (r6, M6))) else some ((0 : Int32), (sI M1 a0 9 (1 : Int32)))) else ck (okO Z a0 9) (if ((sI M1 a0 9 (0 : Int32)).1 a0 9) ≤ 0 then bnd2 (fX9_leastTies N Z a0 a1 (sI M1 a0 9 (0 : Int32))) (fun r9 M9 => bnd2 (fX9_bits N Z r9 M9) (fun r10 M10 => some (r10, M10))) else some ((0 : Int32), (sI M1 a0 9 (0 : Int32)))))
set_option maxHeartbeats 4000000 in
set_option maxRecDepth 100000 in
theorem ctX9_fewestTies {G : mG} {l : Launch} (hl : l.stackTraces = false) (N : Nat) (Z : mZ) {a0 : Nat} {a1 : Int32} {M : mM} {r : Int32} {M' : mM} (h : fX9_fewestTies N Z a0 a1 M = some (r, M')) : CT G l yX9_fewestTies (.code yX9_fewestTies cX9_fewestTies 2 (some .int)) rmX9_fewestTies [.ref a0, .int a1] Z M (.inl (some (.int r))) Z M' := by
  unfold fX9_fewestTies at h
  refine CT.of hl (by decide) (Nat.le_of_ble_eq_true rfl) ?_
  intro p e s m args below meth c C hnm
  refine j_sub (L' := [(0, .ref a0), (1, .int a1)]) [0, 1] rfl ?_
  refine j_aload_n C dX9_fewestTies_0 rfl 0 rfl ?_
  refine j_iload_n C dX9_fewestTies_1 rfl 1 rfl ?_
  refine j_iconst C dX9_fewestTies_2 (v := (0 : Int32)) (by decide) ?_
  refine j_bipush C dX9_fewestTies_3 (v := (12 : Int32)) (by decide) ?_
  obtain ⟨r1, M1, hq1, h⟩ := bnd2_spec h
  refine j_run1 (c_S C (As := [.int a1, .int (0 : Int32), .int (12 : Int32)]) (rest := [.ref a0]) (ctX9_in C.2.2.2.2.2.2.2.2.1 N Z hq1) kcRX9_54 oyX9_in ⟨by decide, by decide⟩ ⟨by decide, by decide⟩ (Nat.le_of_ble_eq_true rfl) rfl dX9_fewestTies_5) ?_
  refine j_if_eq C dX9_fewestTies_8 (tgt := 15) (by decide) (fun hc2 => ?_) (fun hc2 => ?_)
  · rw [if_pos hc2] at h
    refine j_iconst C dX9_fewestTies_15 (v := (1 : Int32)) (by decide) ?_
    obtain ⟨ho3, h⟩ := ck_spec h
    refine j_putI C tyX9 tyX9_ok nmX9 (cn := RX9) (T := TX9) (N := 23) (ci := 9) rfl iX9 ho3 9 (by decide) rfl fwRX9_50 ⟨rfl, rfl⟩ dX9_fewestTies_16 ?_
    refine j_aload_n C dX9_fewestTies_19 rfl 0 rfl ?_
    refine j_getI C (cn := RX9) (T := TX9) (N := 23) (ci := 9) rfl iX9 ho3 9 (by decide) rfl fwRX9_50 dX9_fewestTies_20 ?_
    refine j_if_le C dX9_fewestTies_23 (tgt := 30) (by decide) (fun hc4 => ?_) (fun hc4 => ?_)
    · rw [if_pos hc4] at h
      refine j_aload_n C dX9_fewestTies_30 rfl 0 rfl ?_
      refine j_iload_n C dX9_fewestTies_31 rfl 1 rfl ?_
      obtain ⟨r5, M5, hq5, h⟩ := bnd2_spec h
      refine j_run1 (c_V C (As := [.int a1]) (rest := []) (ctX9_leastTies C.2.2.2.2.2.2.2.2.1 N Z hq5) kcRX9_213 oyX9_leastTies (ci := 9) (T := TX9) (N := 23) rfl (by decide) ho3 ⟨by decide, by decide⟩ ⟨by decide, by decide⟩ (Nat.le_of_ble_eq_true rfl) rfl dX9_fewestTies_32) ?_
      obtain ⟨r6, M6, hq6, h⟩ := bnd2_spec h
      refine j_run1 (c_S C (As := [.int r5]) (rest := []) (ctX9_bits C.2.2.2.2.2.2.2.2.1 N Z hq6) kcRX9_194 oyX9_bits ⟨by decide, by decide⟩ ⟨by decide, by decide⟩ (Nat.le_of_ble_eq_true rfl) rfl dX9_fewestTies_35) ?_
      cases h
      exact j_iret C rfl (by decide) (by decide) dX9_fewestTies_38
    · rw [if_neg hc4] at h
      refine j_iconst C dX9_fewestTies_26 (v := (0 : Int32)) (by decide) ?_
      refine j_goto C dX9_fewestTies_27 (tgt := 38) (by decide) ?_
      cases h
      exact j_iret C rfl (by decide) (by decide) dX9_fewestTies_38
  · rw [if_neg hc2] at h
    refine j_iconst C dX9_fewestTies_11 (v := (0 : Int32)) (by decide) ?_
    refine j_goto C dX9_fewestTies_12 (tgt := 16) (by decide) ?_
    obtain ⟨ho7, h⟩ := ck_spec h
    refine j_putI C tyX9 tyX9_ok nmX9 (cn := RX9) (T := TX9) (N := 23) (ci := 9) rfl iX9 ho7 9 (by decide) rfl fwRX9_50 ⟨rfl, rfl⟩ dX9_fewestTies_16 ?_
    refine j_aload_n C dX9_fewestTies_19 rfl 0 rfl ?_
    refine j_getI C (cn := RX9) (T := TX9) (N := 23) (ci := 9) rfl iX9 ho7 9 (by decide) rfl fwRX9_50 dX9_fewestTies_20 ?_
    refine j_if_le C dX9_fewestTies_23 (tgt := 30) (by decide) (fun hc8 => ?_) (fun hc8 => ?_)
    · rw [if_pos hc8] at h
      refine j_aload_n C dX9_fewestTies_30 rfl 0 rfl ?_
      refine j_iload_n C dX9_fewestTies_31 rfl 1 rfl ?_
      obtain ⟨r9, M9, hq9, h⟩ := bnd2_spec h
      refine j_run1 (c_V C (As := [.int a1]) (rest := []) (ctX9_leastTies C.2.2.2.2.2.2.2.2.1 N Z hq9) kcRX9_213 oyX9_leastTies (ci := 9) (T := TX9) (N := 23) rfl (by decide) ho7 ⟨by decide, by decide⟩ ⟨by decide, by decide⟩ (Nat.le_of_ble_eq_true rfl) rfl dX9_fewestTies_32) ?_
      obtain ⟨r10, M10, hq10, h⟩ := bnd2_spec h
      refine j_run1 (c_S C (As := [.int r9]) (rest := []) (ctX9_bits C.2.2.2.2.2.2.2.2.1 N Z hq10) kcRX9_194 oyX9_bits ⟨by decide, by decide⟩ ⟨by decide, by decide⟩ (Nat.le_of_ble_eq_true rfl) rfl dX9_fewestTies_35) ?_
      cases h
      exact j_iret C rfl (by decide) (by decide) dX9_fewestTies_38
    · rw [if_neg hc8] at h
      refine j_iconst C dX9_fewestTies_26 (v := (0 : Int32)) (by decide) ?_
      refine j_goto C dX9_fewestTies_27 (tgt := 38) (by decide) ?_
      cases h
      exact j_iret C rfl (by decide) (by decide) dX9_fewestTies_38
-- ScaffoldPlannerModel tieLevels
abbrev rmX9_tieLevels : Room := { frames := 2, cells := 0, slots := 0, locals := 48 }
theorem dX9_tieLevels_0 : decode cX9_tieLevels 0 = .ok (.aload_n 0, 1) := by decide +kernel
theorem dX9_tieLevels_1 : decode cX9_tieLevels 1 = .ok (.iload_n 1, 1) := by decide +kernel
theorem dX9_tieLevels_2 : decode cX9_tieLevels 2 = .ok (.iconst 0, 1) := by decide +kernel
theorem dX9_tieLevels_3 : decode cX9_tieLevels 3 = .ok (.bipush 12, 2) := by decide +kernel
theorem dX9_tieLevels_5 : decode cX9_tieLevels 5 = .ok (.invokestatic 54, 3) := by decide +kernel
theorem dX9_tieLevels_8 : decode cX9_tieLevels 8 = .ok (.ifCond .eq 7, 3) := by decide +kernel
theorem dX9_tieLevels_11 : decode cX9_tieLevels 11 = .ok (.iconst 0, 1) := by decide +kernel
theorem dX9_tieLevels_12 : decode cX9_tieLevels 12 = .ok (.goto 4, 3) := by decide +kernel
theorem dX9_tieLevels_15 : decode cX9_tieLevels 15 = .ok (.iconst 1, 1) := by decide +kernel
theorem dX9_tieLevels_16 : decode cX9_tieLevels 16 = .ok (.putfield 50, 3) := by decide +kernel
theorem dX9_tieLevels_19 : decode cX9_tieLevels 19 = .ok (.aload_n 0, 1) := by decide +kernel
theorem dX9_tieLevels_20 : decode cX9_tieLevels 20 = .ok (.getfield 50, 3) := by decide +kernel
theorem dX9_tieLevels_23 : decode cX9_tieLevels 23 = .ok (.ifCond .le 7, 3) := by decide +kernel
theorem dX9_tieLevels_26 : decode cX9_tieLevels 26 = .ok (.iconst 0, 1) := by decide +kernel
theorem dX9_tieLevels_27 : decode cX9_tieLevels 27 = .ok (.goto 8, 3) := by decide +kernel
theorem dX9_tieLevels_30 : decode cX9_tieLevels 30 = .ok (.aload_n 0, 1) := by decide +kernel
theorem dX9_tieLevels_31 : decode cX9_tieLevels 31 = .ok (.iload_n 1, 1) := by decide +kernel
theorem dX9_tieLevels_32 : decode cX9_tieLevels 32 = .ok (.invokevirtual 213, 3) := by decide +kernel
theorem dX9_tieLevels_35 : decode cX9_tieLevels 35 = .ok (.ireturn, 1) := by decide +kernel
def fX9_tieLevels (N : Nat) (Z : mZ) (a0 : Nat) (a1 : Int32) (M : mM) : Option (Int32 × mM) := bnd2 (fX9_in N Z a1 (0 : Int32) (12 : Int32) M) (fun r1 M1 => if r1 = 0 then ck (okO Z a0 9) (if ((sI M1 a0 9 (1 : Int32)).1 a0 9) ≤ 0 then bnd2 (fX9_leastTies N Z a0 a1 (sI M1 a0 9 (1 : Int32))) (fun r5 M5 => some (r5, M5)) else some ((0 : Int32), (sI M1 a0 9 (1 : Int32)))) else ck (okO Z a0 9) (if ((sI M1 a0 9 (0 : Int32)).1 a0 9) ≤ 0 then bnd2 (fX9_leastTies N Z a0 a1 (sI M1 a0 9 (0 : Int32))) (fun r8 M8 => some (r8, M8)) else some ((0 : Int32), (sI M1 a0 9 (0 : Int32)))))
set_option maxHeartbeats 4000000 in
set_option maxRecDepth 100000 in
theorem ctX9_tieLevels {G : mG} {l : Launch} (hl : l.stackTraces = false) (N : Nat) (Z : mZ) {a0 : Nat} {a1 : Int32} {M : mM} {r : Int32} {M' : mM} (h : fX9_tieLevels N Z a0 a1 M = some (r, M')) : CT G l yX9_tieLevels (.code yX9_tieLevels cX9_tieLevels 2 (some .int)) rmX9_tieLevels [.ref a0, .int a1] Z M (.inl (some (.int r))) Z M' := by
  unfold fX9_tieLevels at h
  refine CT.of hl (by decide) (Nat.le_of_ble_eq_true rfl) ?_
  intro p e s m args below meth c C hnm
  refine j_sub (L' := [(0, .ref a0), (1, .int a1)]) [0, 1] rfl ?_
  refine j_aload_n C dX9_tieLevels_0 rfl 0 rfl ?_
  refine j_iload_n C dX9_tieLevels_1 rfl 1 rfl ?_
  refine j_iconst C dX9_tieLevels_2 (v := (0 : Int32)) (by decide) ?_
  refine j_bipush C dX9_tieLevels_3 (v := (12 : Int32)) (by decide) ?_
  obtain ⟨r1, M1, hq1, h⟩ := bnd2_spec h
  refine j_run1 (c_S C (As := [.int a1, .int (0 : Int32), .int (12 : Int32)]) (rest := [.ref a0]) (ctX9_in C.2.2.2.2.2.2.2.2.1 N Z hq1) kcRX9_54 oyX9_in ⟨by decide, by decide⟩ ⟨by decide, by decide⟩ (Nat.le_of_ble_eq_true rfl) rfl dX9_tieLevels_5) ?_
  refine j_if_eq C dX9_tieLevels_8 (tgt := 15) (by decide) (fun hc2 => ?_) (fun hc2 => ?_)
  · rw [if_pos hc2] at h
    refine j_iconst C dX9_tieLevels_15 (v := (1 : Int32)) (by decide) ?_
    obtain ⟨ho3, h⟩ := ck_spec h
    refine j_putI C tyX9 tyX9_ok nmX9 (cn := RX9) (T := TX9) (N := 23) (ci := 9) rfl iX9 ho3 9 (by decide) rfl fwRX9_50 ⟨rfl, rfl⟩ dX9_tieLevels_16 ?_
    refine j_aload_n C dX9_tieLevels_19 rfl 0 rfl ?_
    refine j_getI C (cn := RX9) (T := TX9) (N := 23) (ci := 9) rfl iX9 ho3 9 (by decide) rfl fwRX9_50 dX9_tieLevels_20 ?_
    refine j_if_le C dX9_tieLevels_23 (tgt := 30) (by decide) (fun hc4 => ?_) (fun hc4 => ?_)
    · rw [if_pos hc4] at h
      refine j_aload_n C dX9_tieLevels_30 rfl 0 rfl ?_
      refine j_iload_n C dX9_tieLevels_31 rfl 1 rfl ?_
      obtain ⟨r5, M5, hq5, h⟩ := bnd2_spec h
      refine j_run1 (c_V C (As := [.int a1]) (rest := []) (ctX9_leastTies C.2.2.2.2.2.2.2.2.1 N Z hq5) kcRX9_213 oyX9_leastTies (ci := 9) (T := TX9) (N := 23) rfl (by decide) ho3 ⟨by decide, by decide⟩ ⟨by decide, by decide⟩ (Nat.le_of_ble_eq_true rfl) rfl dX9_tieLevels_32) ?_
      cases h
      exact j_iret C rfl (by decide) (by decide) dX9_tieLevels_35
    · rw [if_neg hc4] at h
      refine j_iconst C dX9_tieLevels_26 (v := (0 : Int32)) (by decide) ?_
      refine j_goto C dX9_tieLevels_27 (tgt := 35) (by decide) ?_
      cases h
      exact j_iret C rfl (by decide) (by decide) dX9_tieLevels_35
  · rw [if_neg hc2] at h
    refine j_iconst C dX9_tieLevels_11 (v := (0 : Int32)) (by decide) ?_
    refine j_goto C dX9_tieLevels_12 (tgt := 16) (by decide) ?_
    obtain ⟨ho6, h⟩ := ck_spec h
    refine j_putI C tyX9 tyX9_ok nmX9 (cn := RX9) (T := TX9) (N := 23) (ci := 9) rfl iX9 ho6 9 (by decide) rfl fwRX9_50 ⟨rfl, rfl⟩ dX9_tieLevels_16 ?_
    refine j_aload_n C dX9_tieLevels_19 rfl 0 rfl ?_
    refine j_getI C (cn := RX9) (T := TX9) (N := 23) (ci := 9) rfl iX9 ho6 9 (by decide) rfl fwRX9_50 dX9_tieLevels_20 ?_
    refine j_if_le C dX9_tieLevels_23 (tgt := 30) (by decide) (fun hc7 => ?_) (fun hc7 => ?_)
    · rw [if_pos hc7] at h
      refine j_aload_n C dX9_tieLevels_30 rfl 0 rfl ?_
      refine j_iload_n C dX9_tieLevels_31 rfl 1 rfl ?_
      obtain ⟨r8, M8, hq8, h⟩ := bnd2_spec h
      refine j_run1 (c_V C (As := [.int a1]) (rest := []) (ctX9_leastTies C.2.2.2.2.2.2.2.2.1 N Z hq8) kcRX9_213 oyX9_leastTies (ci := 9) (T := TX9) (N := 23) rfl (by decide) ho6 ⟨by decide, by decide⟩ ⟨by decide, by decide⟩ (Nat.le_of_ble_eq_true rfl) rfl dX9_tieLevels_32) ?_
      cases h
      exact j_iret C rfl (by decide) (by decide) dX9_tieLevels_35
    · rw [if_neg hc7] at h
      refine j_iconst C dX9_tieLevels_26 (v := (0 : Int32)) (by decide) ?_
      refine j_goto C dX9_tieLevels_27 (tgt := 35) (by decide) ?_
      cases h
      exact j_iret C rfl (by decide) (by decide) dX9_tieLevels_35
-- ScaffoldPlannerModel missing
abbrev rmX9_missing : Room := { frames := 2, cells := 0, slots := 0, locals := 42 }
theorem dX9_missing_0 : decode cX9_missing 0 = .ok (.aload_n 0, 1) := by decide +kernel
theorem dX9_missing_1 : decode cX9_missing 1 = .ok (.iload_n 1, 1) := by decide +kernel
theorem dX9_missing_2 : decode cX9_missing 2 = .ok (.iconst 0, 1) := by decide +kernel
theorem dX9_missing_3 : decode cX9_missing 3 = .ok (.iconst 1, 1) := by decide +kernel
theorem dX9_missing_4 : decode cX9_missing 4 = .ok (.invokestatic 54, 3) := by decide +kernel
theorem dX9_missing_7 : decode cX9_missing 7 = .ok (.ifCond .eq 17, 3) := by decide +kernel
theorem dX9_missing_10 : decode cX9_missing 10 = .ok (.iload_n 2, 1) := by decide +kernel
theorem dX9_missing_11 : decode cX9_missing 11 = .ok (.iconst 0, 1) := by decide +kernel
theorem dX9_missing_12 : decode cX9_missing 12 = .ok (.bipush 6, 2) := by decide +kernel
theorem dX9_missing_14 : decode cX9_missing 14 = .ok (.invokestatic 54, 3) := by decide +kernel
theorem dX9_missing_17 : decode cX9_missing 17 = .ok (.ifCond .eq 7, 3) := by decide +kernel
theorem dX9_missing_20 : decode cX9_missing 20 = .ok (.iconst 0, 1) := by decide +kernel
theorem dX9_missing_21 : decode cX9_missing 21 = .ok (.goto 4, 3) := by decide +kernel
theorem dX9_missing_24 : decode cX9_missing 24 = .ok (.iconst 1, 1) := by decide +kernel
theorem dX9_missing_25 : decode cX9_missing 25 = .ok (.putfield 50, 3) := by decide +kernel
theorem dX9_missing_28 : decode cX9_missing 28 = .ok (.aload_n 0, 1) := by decide +kernel
theorem dX9_missing_29 : decode cX9_missing 29 = .ok (.getfield 50, 3) := by decide +kernel
theorem dX9_missing_32 : decode cX9_missing 32 = .ok (.ifCond .le 5, 3) := by decide +kernel
theorem dX9_missing_35 : decode cX9_missing 35 = .ok (.iconst 0, 1) := by decide +kernel
theorem dX9_missing_36 : decode cX9_missing 36 = .ok (.ireturn, 1) := by decide +kernel
theorem dX9_missing_37 : decode cX9_missing 37 = .ok (.iconst 0, 1) := by decide +kernel
theorem dX9_missing_38 : decode cX9_missing 38 = .ok (.istore_n 3, 1) := by decide +kernel
theorem dX9_missing_39 : decode cX9_missing 39 = .ok (.iconst 0, 1) := by decide +kernel
theorem dX9_missing_40 : decode cX9_missing 40 = .ok (.istore 4, 2) := by decide +kernel
theorem dX9_missing_42 : decode cX9_missing 42 = .ok (.iload 4, 2) := by decide +kernel
theorem dX9_missing_44 : decode cX9_missing 44 = .ok (.aload_n 0, 1) := by decide +kernel
theorem dX9_missing_45 : decode cX9_missing 45 = .ok (.getfield 7, 3) := by decide +kernel
theorem dX9_missing_48 : decode cX9_missing 48 = .ok (.iconst 0, 1) := by decide +kernel
theorem dX9_missing_49 : decode cX9_missing 49 = .ok (.iaload, 1) := by decide +kernel
theorem dX9_missing_50 : decode cX9_missing 50 = .ok (.if_icmp .ge 45, 3) := by decide +kernel
theorem dX9_missing_53 : decode cX9_missing 53 = .ok (.iload_n 3, 1) := by decide +kernel
theorem dX9_missing_54 : decode cX9_missing 54 = .ok (.iload_n 1, 1) := by decide +kernel
theorem dX9_missing_55 : decode cX9_missing 55 = .ok (.ifCond .ne 18, 3) := by decide +kernel
theorem dX9_missing_58 : decode cX9_missing 58 = .ok (.iconst 0, 1) := by decide +kernel
theorem dX9_missing_59 : decode cX9_missing 59 = .ok (.iload_n 2, 1) := by decide +kernel
theorem dX9_missing_60 : decode cX9_missing 60 = .ok (.aload_n 0, 1) := by decide +kernel
theorem dX9_missing_61 : decode cX9_missing 61 = .ok (.iload 4, 2) := by decide +kernel
theorem dX9_missing_63 : decode cX9_missing 63 = .ok (.invokevirtual 80, 3) := by decide +kernel
theorem dX9_missing_66 : decode cX9_missing 66 = .ok (.isub, 1) := by decide +kernel
theorem dX9_missing_67 : decode cX9_missing 67 = .ok (.invokestatic 76, 3) := by decide +kernel
theorem dX9_missing_70 : decode cX9_missing 70 = .ok (.goto 17, 3) := by decide +kernel
theorem dX9_missing_73 : decode cX9_missing 73 = .ok (.iconst 2, 1) := by decide +kernel
theorem dX9_missing_74 : decode cX9_missing 74 = .ok (.iconst 0, 1) := by decide +kernel
theorem dX9_missing_75 : decode cX9_missing 75 = .ok (.iload_n 2, 1) := by decide +kernel
theorem dX9_missing_76 : decode cX9_missing 76 = .ok (.aload_n 0, 1) := by decide +kernel
theorem dX9_missing_77 : decode cX9_missing 77 = .ok (.iload 4, 2) := by decide +kernel
theorem dX9_missing_79 : decode cX9_missing 79 = .ok (.invokevirtual 69, 3) := by decide +kernel
theorem dX9_missing_82 : decode cX9_missing 82 = .ok (.isub, 1) := by decide +kernel
theorem dX9_missing_83 : decode cX9_missing 83 = .ok (.invokestatic 76, 3) := by decide +kernel
theorem dX9_missing_86 : decode cX9_missing 86 = .ok (.imul, 1) := by decide +kernel
theorem dX9_missing_87 : decode cX9_missing 87 = .ok (.iadd, 1) := by decide +kernel
theorem dX9_missing_88 : decode cX9_missing 88 = .ok (.istore_n 3, 1) := by decide +kernel
theorem dX9_missing_89 : decode cX9_missing 89 = .ok (.iinc 4 1, 3) := by decide +kernel
theorem dX9_missing_92 : decode cX9_missing 92 = .ok (.goto (-50), 3) := by decide +kernel
theorem dX9_missing_95 : decode cX9_missing 95 = .ok (.iconst 0, 1) := by decide +kernel
theorem dX9_missing_96 : decode cX9_missing 96 = .ok (.iload_n 3, 1) := by decide +kernel
theorem dX9_missing_97 : decode cX9_missing 97 = .ok (.aload_n 0, 1) := by decide +kernel
theorem dX9_missing_98 : decode cX9_missing 98 = .ok (.getfield 7, 3) := by decide +kernel
theorem dX9_missing_101 : decode cX9_missing 101 = .ok (.iconst 5, 1) := by decide +kernel
theorem dX9_missing_102 : decode cX9_missing 102 = .ok (.iload_n 1, 1) := by decide +kernel
theorem dX9_missing_103 : decode cX9_missing 103 = .ok (.iadd, 1) := by decide +kernel
theorem dX9_missing_104 : decode cX9_missing 104 = .ok (.iaload, 1) := by decide +kernel
theorem dX9_missing_105 : decode cX9_missing 105 = .ok (.isub, 1) := by decide +kernel
theorem dX9_missing_106 : decode cX9_missing 106 = .ok (.invokestatic 76, 3) := by decide +kernel
theorem dX9_missing_109 : decode cX9_missing 109 = .ok (.ireturn, 1) := by decide +kernel
def fX9_missing_42 (N : Nat) (Z : mZ) : Nat → Nat → Int32 → Int32 → Int32 → Int32 → mM → Option (Int32 × mM)
  | 0, _, _, _, _, _, _ => none
  | fu + 1, v0, v1, v2, v3, v4, M => ck (okO Z v0 9) (bnd1 (Z.2.2.2 v0 0) (fun c6 => ck (okI Z c6) (ck (inB (0 : Int32) (Z.2.2.1 c6)) (if (M.1 c6 ((0 : Int32)).toNatClampNeg) ≤ v4 then ck (inB ((5 : Int32) + v1) (Z.2.2.1 c6)) (bnd2 (fX9_greater N Z (0 : Int32) (v3 - (M.1 c6 (((5 : Int32) + v1)).toNatClampNeg)) M) (fun r11 M11 => some (r11, M11))) else if v1 = 0 then bnd2 (fX9_postHigh N Z v0 v4 M) (fun r13 M13 => bnd2 (fX9_greater N Z (0 : Int32) (v2 - r13) M13) (fun r14 M14 => fX9_missing_42 N Z fu v0 v1 v2 (v3 + r14) (v4 + (1 : Int32)) M14)) else bnd2 (fX9_high N Z v0 v4 M) (fun r15 M15 => bnd2 (fX9_greater N Z (0 : Int32) (v2 - r15) M15) (fun r16 M16 => fX9_missing_42 N Z fu v0 v1 v2 (v3 + ((2 : Int32) * r16)) (v4 + (1 : Int32)) M16))))))
set_option maxHeartbeats 4000000 in
set_option maxRecDepth 100000 in
theorem tX9_missing_42 {G : mG} {p : Program} {l : Launch} {e : Env} {s : State} {m : MethodId} {args : Array Value} {below : List Frame} {meth : Method} {c : Code} (C : Cx G p l s m args meth c RX9 cX9_missing 5 (some .int) []) (hnm : meth.name = yX9_missing.name) (N : Nat) (Z : mZ) : ∀ (fu : Nat) (v0 : Nat) (v1 : Int32) (v2 : Int32) (v3 : Int32) (v4 : Int32) (M : mM) (r : Int32) (M' : mM), fX9_missing_42 N Z fu v0 v1 v2 v3 v4 M = some (r, M') → JJ G p l e rmX9_missing s m args below meth c 5 (mEnd G below args s rmX9_missing (.inl (some (.int r))) Z M') 0 0 42 [(0, .ref v0), (1, .int v1), (2, .int v2), (3, .int v3), (4, .int v4)] [] Z M := by
  intro fu
  induction fu with
  | zero =>
    intro v0 v1 v2 v3 v4 M r M' h
    cases h
  | succ fu ih =>
    intro v0 v1 v2 v3 v4 M r M' h
    rw [fX9_missing_42] at h
    refine j_iload C dX9_missing_42 4 rfl ?_
    refine j_aload_n C dX9_missing_44 rfl 0 rfl ?_
    obtain ⟨ho5, h⟩ := ck_spec h
    obtain ⟨c6, hr6, h⟩ := bnd1_spec h
    refine j_getR C (cn := RX9) (T := TX9) (N := 23) (ci := 9) rfl iX9 ho5 0 (by decide) rfl fwRX9_7 dX9_missing_45 hr6 ?_
    refine j_iconst C dX9_missing_48 (v := (0 : Int32)) (by decide) ?_
    obtain ⟨ho7, h⟩ := ck_spec h
    obtain ⟨ho8, h⟩ := ck_spec h
    refine j_iald C ho7 ho8 dX9_missing_49 ?_
    refine j_icmp_ge C dX9_missing_50 (tgt := 95) (by decide) (fun hc9 => ?_) (fun hc9 => ?_)
    · rw [if_pos hc9] at h
      refine j_iconst C dX9_missing_95 (v := (0 : Int32)) (by decide) ?_
      refine j_iload_n C dX9_missing_96 rfl 3 rfl ?_
      refine j_aload_n C dX9_missing_97 rfl 0 rfl ?_
      refine j_getR C (cn := RX9) (T := TX9) (N := 23) (ci := 9) rfl iX9 ho5 0 (by decide) rfl fwRX9_7 dX9_missing_98 hr6 ?_
      refine j_iconst C dX9_missing_101 (v := (5 : Int32)) (by decide) ?_
      refine j_iload_n C dX9_missing_102 rfl 1 rfl ?_
      refine j_iadd C dX9_missing_103 ?_
      obtain ⟨ho10, h⟩ := ck_spec h
      refine j_iald C ho7 ho10 dX9_missing_104 ?_
      refine j_isub C dX9_missing_105 ?_
      obtain ⟨r11, M11, hq11, h⟩ := bnd2_spec h
      refine j_run1 (c_S C (As := [.int (0 : Int32), .int (v3 - (M.1 c6 (((5 : Int32) + v1)).toNatClampNeg))]) (rest := []) (ctX9_greater C.2.2.2.2.2.2.2.2.1 N Z hq11) kcRX9_76 oyX9_greater ⟨by decide, by decide⟩ ⟨by decide, by decide⟩ (Nat.le_of_ble_eq_true rfl) rfl dX9_missing_106) ?_
      cases h
      exact j_iret C rfl (by decide) (by decide) dX9_missing_109
    · rw [if_neg hc9] at h
      refine j_iload_n C dX9_missing_53 rfl 3 rfl ?_
      refine j_iload_n C dX9_missing_54 rfl 1 rfl ?_
      refine j_if_ne C dX9_missing_55 (tgt := 73) (by decide) (fun hc12 => ?_) (fun hc12 => ?_)
      · rw [if_neg hc12] at h
        refine j_iconst C dX9_missing_73 (v := (2 : Int32)) (by decide) ?_
        refine j_iconst C dX9_missing_74 (v := (0 : Int32)) (by decide) ?_
        refine j_iload_n C dX9_missing_75 rfl 2 rfl ?_
        refine j_aload_n C dX9_missing_76 rfl 0 rfl ?_
        refine j_iload C dX9_missing_77 4 rfl ?_
        obtain ⟨r15, M15, hq15, h⟩ := bnd2_spec h
        refine j_run1 (c_V C (As := [.int v4]) (rest := [.int v2, .int (0 : Int32), .int (2 : Int32), .int v3]) (ctX9_high C.2.2.2.2.2.2.2.2.1 N Z hq15) kcRX9_69 oyX9_high (ci := 9) (T := TX9) (N := 23) rfl (by decide) ho5 ⟨by decide, by decide⟩ ⟨by decide, by decide⟩ (Nat.le_of_ble_eq_true rfl) rfl dX9_missing_79) ?_
        refine j_isub C dX9_missing_82 ?_
        obtain ⟨r16, M16, hq16, h⟩ := bnd2_spec h
        refine j_run1 (c_S C (As := [.int (0 : Int32), .int (v2 - r15)]) (rest := [.int (2 : Int32), .int v3]) (ctX9_greater C.2.2.2.2.2.2.2.2.1 N Z hq16) kcRX9_76 oyX9_greater ⟨by decide, by decide⟩ ⟨by decide, by decide⟩ (Nat.le_of_ble_eq_true rfl) rfl dX9_missing_83) ?_
        refine j_imul C dX9_missing_86 ?_
        refine j_iadd C dX9_missing_87 ?_
        refine j_istore_n C dX9_missing_88 rfl (by decide) (L' := [(3, .int (v3 + ((2 : Int32) * r16))), (0, .ref v0), (1, .int v1), (2, .int v2), (4, .int v4)]) rfl ?_
        refine j_iinc C dX9_missing_89 4 rfl (v := (v4 + (1 : Int32))) (by first | rfl | decide) (by decide) (L' := [(4, .int (v4 + (1 : Int32))), (3, .int (v3 + ((2 : Int32) * r16))), (0, .ref v0), (1, .int v1), (2, .int v2)]) rfl ?_
        refine j_goto C dX9_missing_92 (tgt := 42) (by decide) ?_
        refine j_sub (L' := [(0, .ref v0), (1, .int v1), (2, .int v2), (3, .int (v3 + ((2 : Int32) * r16))), (4, .int (v4 + (1 : Int32)))]) [2, 3, 4, 1, 0] rfl ?_
        exact ih v0 v1 v2 (v3 + ((2 : Int32) * r16)) (v4 + (1 : Int32)) M16 r M' h
      · rw [if_pos hc12] at h
        refine j_iconst C dX9_missing_58 (v := (0 : Int32)) (by decide) ?_
        refine j_iload_n C dX9_missing_59 rfl 2 rfl ?_
        refine j_aload_n C dX9_missing_60 rfl 0 rfl ?_
        refine j_iload C dX9_missing_61 4 rfl ?_
        obtain ⟨r13, M13, hq13, h⟩ := bnd2_spec h
        refine j_run1 (c_V C (As := [.int v4]) (rest := [.int v2, .int (0 : Int32), .int v3]) (ctX9_postHigh C.2.2.2.2.2.2.2.2.1 N Z hq13) kcRX9_80 oyX9_postHigh (ci := 9) (T := TX9) (N := 23) rfl (by decide) ho5 ⟨by decide, by decide⟩ ⟨by decide, by decide⟩ (Nat.le_of_ble_eq_true rfl) rfl dX9_missing_63) ?_
        refine j_isub C dX9_missing_66 ?_
        obtain ⟨r14, M14, hq14, h⟩ := bnd2_spec h
        refine j_run1 (c_S C (As := [.int (0 : Int32), .int (v2 - r13)]) (rest := [.int v3]) (ctX9_greater C.2.2.2.2.2.2.2.2.1 N Z hq14) kcRX9_76 oyX9_greater ⟨by decide, by decide⟩ ⟨by decide, by decide⟩ (Nat.le_of_ble_eq_true rfl) rfl dX9_missing_67) ?_
        refine j_goto C dX9_missing_70 (tgt := 87) (by decide) ?_
        refine j_iadd C dX9_missing_87 ?_
        refine j_istore_n C dX9_missing_88 rfl (by decide) (L' := [(3, .int (v3 + r14)), (0, .ref v0), (1, .int v1), (2, .int v2), (4, .int v4)]) rfl ?_
        refine j_iinc C dX9_missing_89 4 rfl (v := (v4 + (1 : Int32))) (by first | rfl | decide) (by decide) (L' := [(4, .int (v4 + (1 : Int32))), (3, .int (v3 + r14)), (0, .ref v0), (1, .int v1), (2, .int v2)]) rfl ?_
        refine j_goto C dX9_missing_92 (tgt := 42) (by decide) ?_
        refine j_sub (L' := [(0, .ref v0), (1, .int v1), (2, .int v2), (3, .int (v3 + r14)), (4, .int (v4 + (1 : Int32)))]) [2, 3, 4, 1, 0] rfl ?_
        exact ih v0 v1 v2 (v3 + r14) (v4 + (1 : Int32)) M14 r M' h
def fX9_missing (N : Nat) (Z : mZ) (a0 : Nat) (a1 : Int32) (a2 : Int32) (M : mM) : Option (Int32 × mM) := bnd2 (fX9_in N Z a1 (0 : Int32) (1 : Int32) M) (fun r1 M1 => if r1 = 0 then ck (okO Z a0 9) (if ((sI M1 a0 9 (1 : Int32)).1 a0 9) ≤ 0 then fX9_missing_42 N Z N a0 a1 a2 (0 : Int32) (0 : Int32) (sI M1 a0 9 (1 : Int32)) else some ((0 : Int32), (sI M1 a0 9 (1 : Int32)))) else bnd2 (fX9_in N Z a2 (0 : Int32) (6 : Int32) M1) (fun r17 M17 => if r17 = 0 then ck (okO Z a0 9) (if ((sI M17 a0 9 (1 : Int32)).1 a0 9) ≤ 0 then fX9_missing_42 N Z N a0 a1 a2 (0 : Int32) (0 : Int32) (sI M17 a0 9 (1 : Int32)) else some ((0 : Int32), (sI M17 a0 9 (1 : Int32)))) else ck (okO Z a0 9) (if ((sI M17 a0 9 (0 : Int32)).1 a0 9) ≤ 0 then fX9_missing_42 N Z N a0 a1 a2 (0 : Int32) (0 : Int32) (sI M17 a0 9 (0 : Int32)) else some ((0 : Int32), (sI M17 a0 9 (0 : Int32))))))
set_option maxHeartbeats 4000000 in
set_option maxRecDepth 100000 in
theorem ctX9_missing {G : mG} {l : Launch} (hl : l.stackTraces = false) (N : Nat) (Z : mZ) {a0 : Nat} {a1 : Int32} {a2 : Int32} {M : mM} {r : Int32} {M' : mM} (h : fX9_missing N Z a0 a1 a2 M = some (r, M')) : CT G l yX9_missing (.code yX9_missing cX9_missing 5 (some .int)) rmX9_missing [.ref a0, .int a1, .int a2] Z M (.inl (some (.int r))) Z M' := by
  unfold fX9_missing at h
  refine CT.of hl (by decide) (Nat.le_of_ble_eq_true rfl) ?_
  intro p e s m args below meth c C hnm
  refine j_sub (L' := [(0, .ref a0), (1, .int a1), (2, .int a2)]) [0, 1, 2] rfl ?_
  refine j_aload_n C dX9_missing_0 rfl 0 rfl ?_
  refine j_iload_n C dX9_missing_1 rfl 1 rfl ?_
  refine j_iconst C dX9_missing_2 (v := (0 : Int32)) (by decide) ?_
  refine j_iconst C dX9_missing_3 (v := (1 : Int32)) (by decide) ?_
  obtain ⟨r1, M1, hq1, h⟩ := bnd2_spec h
  refine j_run1 (c_S C (As := [.int a1, .int (0 : Int32), .int (1 : Int32)]) (rest := [.ref a0]) (ctX9_in C.2.2.2.2.2.2.2.2.1 N Z hq1) kcRX9_54 oyX9_in ⟨by decide, by decide⟩ ⟨by decide, by decide⟩ (Nat.le_of_ble_eq_true rfl) rfl dX9_missing_4) ?_
  refine j_if_eq C dX9_missing_7 (tgt := 24) (by decide) (fun hc2 => ?_) (fun hc2 => ?_)
  · rw [if_pos hc2] at h
    refine j_iconst C dX9_missing_24 (v := (1 : Int32)) (by decide) ?_
    obtain ⟨ho3, h⟩ := ck_spec h
    refine j_putI C tyX9 tyX9_ok nmX9 (cn := RX9) (T := TX9) (N := 23) (ci := 9) rfl iX9 ho3 9 (by decide) rfl fwRX9_50 ⟨rfl, rfl⟩ dX9_missing_25 ?_
    refine j_aload_n C dX9_missing_28 rfl 0 rfl ?_
    refine j_getI C (cn := RX9) (T := TX9) (N := 23) (ci := 9) rfl iX9 ho3 9 (by decide) rfl fwRX9_50 dX9_missing_29 ?_
    refine j_if_le C dX9_missing_32 (tgt := 37) (by decide) (fun hc4 => ?_) (fun hc4 => ?_)
    · rw [if_pos hc4] at h
      refine j_iconst C dX9_missing_37 (v := (0 : Int32)) (by decide) ?_
      refine j_istore_n C dX9_missing_38 rfl (by decide) (L' := [(3, .int (0 : Int32)), (0, .ref a0), (1, .int a1), (2, .int a2)]) rfl ?_
      refine j_iconst C dX9_missing_39 (v := (0 : Int32)) (by decide) ?_
      refine j_istore C dX9_missing_40 (by decide) (L' := [(4, .int (0 : Int32)), (3, .int (0 : Int32)), (0, .ref a0), (1, .int a1), (2, .int a2)]) rfl ?_
      refine j_sub (L' := [(0, .ref a0), (1, .int a1), (2, .int a2), (3, .int (0 : Int32)), (4, .int (0 : Int32))]) [2, 3, 4, 1, 0] rfl ?_
      exact tX9_missing_42 C hnm N Z N a0 a1 a2 (0 : Int32) (0 : Int32) (sI M1 a0 9 (1 : Int32)) _ _ h
    · rw [if_neg hc4] at h
      refine j_iconst C dX9_missing_35 (v := (0 : Int32)) (by decide) ?_
      cases h
      exact j_iret C rfl (by decide) (by decide) dX9_missing_36
  · rw [if_neg hc2] at h
    refine j_iload_n C dX9_missing_10 rfl 2 rfl ?_
    refine j_iconst C dX9_missing_11 (v := (0 : Int32)) (by decide) ?_
    refine j_bipush C dX9_missing_12 (v := (6 : Int32)) (by decide) ?_
    obtain ⟨r17, M17, hq17, h⟩ := bnd2_spec h
    refine j_run1 (c_S C (As := [.int a2, .int (0 : Int32), .int (6 : Int32)]) (rest := [.ref a0]) (ctX9_in C.2.2.2.2.2.2.2.2.1 N Z hq17) kcRX9_54 oyX9_in ⟨by decide, by decide⟩ ⟨by decide, by decide⟩ (Nat.le_of_ble_eq_true rfl) rfl dX9_missing_14) ?_
    refine j_if_eq C dX9_missing_17 (tgt := 24) (by decide) (fun hc18 => ?_) (fun hc18 => ?_)
    · rw [if_pos hc18] at h
      refine j_iconst C dX9_missing_24 (v := (1 : Int32)) (by decide) ?_
      obtain ⟨ho19, h⟩ := ck_spec h
      refine j_putI C tyX9 tyX9_ok nmX9 (cn := RX9) (T := TX9) (N := 23) (ci := 9) rfl iX9 ho19 9 (by decide) rfl fwRX9_50 ⟨rfl, rfl⟩ dX9_missing_25 ?_
      refine j_aload_n C dX9_missing_28 rfl 0 rfl ?_
      refine j_getI C (cn := RX9) (T := TX9) (N := 23) (ci := 9) rfl iX9 ho19 9 (by decide) rfl fwRX9_50 dX9_missing_29 ?_
      refine j_if_le C dX9_missing_32 (tgt := 37) (by decide) (fun hc20 => ?_) (fun hc20 => ?_)
      · rw [if_pos hc20] at h
        refine j_iconst C dX9_missing_37 (v := (0 : Int32)) (by decide) ?_
        refine j_istore_n C dX9_missing_38 rfl (by decide) (L' := [(3, .int (0 : Int32)), (0, .ref a0), (1, .int a1), (2, .int a2)]) rfl ?_
        refine j_iconst C dX9_missing_39 (v := (0 : Int32)) (by decide) ?_
        refine j_istore C dX9_missing_40 (by decide) (L' := [(4, .int (0 : Int32)), (3, .int (0 : Int32)), (0, .ref a0), (1, .int a1), (2, .int a2)]) rfl ?_
        refine j_sub (L' := [(0, .ref a0), (1, .int a1), (2, .int a2), (3, .int (0 : Int32)), (4, .int (0 : Int32))]) [2, 3, 4, 1, 0] rfl ?_
        exact tX9_missing_42 C hnm N Z N a0 a1 a2 (0 : Int32) (0 : Int32) (sI M17 a0 9 (1 : Int32)) _ _ h
      · rw [if_neg hc20] at h
        refine j_iconst C dX9_missing_35 (v := (0 : Int32)) (by decide) ?_
        cases h
        exact j_iret C rfl (by decide) (by decide) dX9_missing_36
    · rw [if_neg hc18] at h
      refine j_iconst C dX9_missing_20 (v := (0 : Int32)) (by decide) ?_
      refine j_goto C dX9_missing_21 (tgt := 25) (by decide) ?_
      obtain ⟨ho21, h⟩ := ck_spec h
      refine j_putI C tyX9 tyX9_ok nmX9 (cn := RX9) (T := TX9) (N := 23) (ci := 9) rfl iX9 ho21 9 (by decide) rfl fwRX9_50 ⟨rfl, rfl⟩ dX9_missing_25 ?_
      refine j_aload_n C dX9_missing_28 rfl 0 rfl ?_
      refine j_getI C (cn := RX9) (T := TX9) (N := 23) (ci := 9) rfl iX9 ho21 9 (by decide) rfl fwRX9_50 dX9_missing_29 ?_
      refine j_if_le C dX9_missing_32 (tgt := 37) (by decide) (fun hc22 => ?_) (fun hc22 => ?_)
      · rw [if_pos hc22] at h
        refine j_iconst C dX9_missing_37 (v := (0 : Int32)) (by decide) ?_
        refine j_istore_n C dX9_missing_38 rfl (by decide) (L' := [(3, .int (0 : Int32)), (0, .ref a0), (1, .int a1), (2, .int a2)]) rfl ?_
        refine j_iconst C dX9_missing_39 (v := (0 : Int32)) (by decide) ?_
        refine j_istore C dX9_missing_40 (by decide) (L' := [(4, .int (0 : Int32)), (3, .int (0 : Int32)), (0, .ref a0), (1, .int a1), (2, .int a2)]) rfl ?_
        refine j_sub (L' := [(0, .ref a0), (1, .int a1), (2, .int a2), (3, .int (0 : Int32)), (4, .int (0 : Int32))]) [2, 3, 4, 1, 0] rfl ?_
        exact tX9_missing_42 C hnm N Z N a0 a1 a2 (0 : Int32) (0 : Int32) (sI M17 a0 9 (0 : Int32)) _ _ h
      · rw [if_neg hc22] at h
        refine j_iconst C dX9_missing_35 (v := (0 : Int32)) (by decide) ?_
        cases h
        exact j_iret C rfl (by decide) (by decide) dX9_missing_36
-- ScaffoldPlannerModel takesFirst
theorem fwRX9_216 : Cond.fieldLink RX9 216 RX9 (TX9 16).2.1 (TX9 16).2.2.1 ∈ gw := by decide +kernel
abbrev rmX9_takesFirst : Room := { frames := 6, cells := 0, slots := 0, locals := 142 }
theorem dX9_takesFirst_0 : decode cX9_takesFirst 0 = .ok (.bipush 6, 2) := by decide +kernel
theorem dX9_takesFirst_2 : decode cX9_takesFirst 2 = .ok (.istore_n 1, 1) := by decide +kernel
theorem dX9_takesFirst_3 : decode cX9_takesFirst 3 = .ok (.iload_n 1, 1) := by decide +kernel
theorem dX9_takesFirst_4 : decode cX9_takesFirst 4 = .ok (.ifCond .le 145, 3) := by decide +kernel
theorem dX9_takesFirst_7 : decode cX9_takesFirst 7 = .ok (.iconst 0, 1) := by decide +kernel
theorem dX9_takesFirst_8 : decode cX9_takesFirst 8 = .ok (.istore_n 2, 1) := by decide +kernel
theorem dX9_takesFirst_9 : decode cX9_takesFirst 9 = .ok (.iload_n 2, 1) := by decide +kernel
theorem dX9_takesFirst_10 : decode cX9_takesFirst 10 = .ok (.iconst 5, 1) := by decide +kernel
theorem dX9_takesFirst_11 : decode cX9_takesFirst 11 = .ok (.if_icmp .ge 132, 3) := by decide +kernel
theorem dX9_takesFirst_14 : decode cX9_takesFirst 14 = .ok (.iload_n 2, 1) := by decide +kernel
theorem dX9_takesFirst_15 : decode cX9_takesFirst 15 = .ok (.iconst 4, 1) := by decide +kernel
theorem dX9_takesFirst_16 : decode cX9_takesFirst 16 = .ok (.if_icmp .ge 9, 3) := by decide +kernel
theorem dX9_takesFirst_19 : decode cX9_takesFirst 19 = .ok (.iconst 5, 1) := by decide +kernel
theorem dX9_takesFirst_20 : decode cX9_takesFirst 20 = .ok (.iload_n 2, 1) := by decide +kernel
theorem dX9_takesFirst_21 : decode cX9_takesFirst 21 = .ok (.isub, 1) := by decide +kernel
theorem dX9_takesFirst_22 : decode cX9_takesFirst 22 = .ok (.goto 4, 3) := by decide +kernel
theorem dX9_takesFirst_25 : decode cX9_takesFirst 25 = .ok (.iconst 0, 1) := by decide +kernel
theorem dX9_takesFirst_26 : decode cX9_takesFirst 26 = .ok (.istore_n 3, 1) := by decide +kernel
theorem dX9_takesFirst_27 : decode cX9_takesFirst 27 = .ok (.iconst 0, 1) := by decide +kernel
theorem dX9_takesFirst_28 : decode cX9_takesFirst 28 = .ok (.istore 4, 2) := by decide +kernel
theorem dX9_takesFirst_30 : decode cX9_takesFirst 30 = .ok (.iload 4, 2) := by decide +kernel
theorem dX9_takesFirst_32 : decode cX9_takesFirst 32 = .ok (.aload_n 0, 1) := by decide +kernel
theorem dX9_takesFirst_33 : decode cX9_takesFirst 33 = .ok (.getfield 7, 3) := by decide +kernel
theorem dX9_takesFirst_36 : decode cX9_takesFirst 36 = .ok (.iconst 0, 1) := by decide +kernel
theorem dX9_takesFirst_37 : decode cX9_takesFirst 37 = .ok (.iaload, 1) := by decide +kernel
theorem dX9_takesFirst_38 : decode cX9_takesFirst 38 = .ok (.if_icmp .ge 99, 3) := by decide +kernel
theorem dX9_takesFirst_41 : decode cX9_takesFirst 41 = .ok (.iload_n 3, 1) := by decide +kernel
theorem dX9_takesFirst_42 : decode cX9_takesFirst 42 = .ok (.ifCond .gt 13, 3) := by decide +kernel
theorem dX9_takesFirst_45 : decode cX9_takesFirst 45 = .ok (.aload_n 0, 1) := by decide +kernel
theorem dX9_takesFirst_46 : decode cX9_takesFirst 46 = .ok (.iload 4, 2) := by decide +kernel
theorem dX9_takesFirst_48 : decode cX9_takesFirst 48 = .ok (.invokevirtual 69, 3) := by decide +kernel
theorem dX9_takesFirst_51 : decode cX9_takesFirst 51 = .ok (.iload_n 1, 1) := by decide +kernel
theorem dX9_takesFirst_52 : decode cX9_takesFirst 52 = .ok (.if_icmp .ne 79, 3) := by decide +kernel
theorem dX9_takesFirst_55 : decode cX9_takesFirst 55 = .ok (.aload_n 0, 1) := by decide +kernel
theorem dX9_takesFirst_56 : decode cX9_takesFirst 56 = .ok (.iload_n 3, 1) := by decide +kernel
theorem dX9_takesFirst_57 : decode cX9_takesFirst 57 = .ok (.iload 4, 2) := by decide +kernel
theorem dX9_takesFirst_59 : decode cX9_takesFirst 59 = .ok (.iload_n 1, 1) := by decide +kernel
theorem dX9_takesFirst_60 : decode cX9_takesFirst 60 = .ok (.iconst 1, 1) := by decide +kernel
theorem dX9_takesFirst_61 : decode cX9_takesFirst 61 = .ok (.iconst 0, 1) := by decide +kernel
theorem dX9_takesFirst_62 : decode cX9_takesFirst 62 = .ok (.invokevirtual 168, 3) := by decide +kernel
theorem dX9_takesFirst_65 : decode cX9_takesFirst 65 = .ok (.ifCond .ne 66, 3) := by decide +kernel
theorem dX9_takesFirst_68 : decode cX9_takesFirst 68 = .ok (.aload_n 0, 1) := by decide +kernel
theorem dX9_takesFirst_69 : decode cX9_takesFirst 69 = .ok (.iload_n 3, 1) := by decide +kernel
theorem dX9_takesFirst_70 : decode cX9_takesFirst 70 = .ok (.iload 4, 2) := by decide +kernel
theorem dX9_takesFirst_72 : decode cX9_takesFirst 72 = .ok (.iload_n 1, 1) := by decide +kernel
theorem dX9_takesFirst_73 : decode cX9_takesFirst 73 = .ok (.iconst 1, 1) := by decide +kernel
theorem dX9_takesFirst_74 : decode cX9_takesFirst 74 = .ok (.iconst 0, 1) := by decide +kernel
theorem dX9_takesFirst_75 : decode cX9_takesFirst 75 = .ok (.invokevirtual 158, 3) := by decide +kernel
theorem dX9_takesFirst_78 : decode cX9_takesFirst 78 = .ok (.aload_n 0, 1) := by decide +kernel
theorem dX9_takesFirst_79 : decode cX9_takesFirst 79 = .ok (.getfield 34, 3) := by decide +kernel
theorem dX9_takesFirst_82 : decode cX9_takesFirst 82 = .ok (.iconst 3, 1) := by decide +kernel
theorem dX9_takesFirst_83 : decode cX9_takesFirst 83 = .ok (.aload_n 0, 1) := by decide +kernel
theorem dX9_takesFirst_84 : decode cX9_takesFirst 84 = .ok (.getfield 216, 3) := by decide +kernel
theorem dX9_takesFirst_87 : decode cX9_takesFirst 87 = .ok (.imul, 1) := by decide +kernel
theorem dX9_takesFirst_88 : decode cX9_takesFirst 88 = .ok (.iload_n 3, 1) := by decide +kernel
theorem dX9_takesFirst_89 : decode cX9_takesFirst 89 = .ok (.iastore, 1) := by decide +kernel
theorem dX9_takesFirst_90 : decode cX9_takesFirst 90 = .ok (.aload_n 0, 1) := by decide +kernel
theorem dX9_takesFirst_91 : decode cX9_takesFirst 91 = .ok (.getfield 34, 3) := by decide +kernel
theorem dX9_takesFirst_94 : decode cX9_takesFirst 94 = .ok (.iconst 3, 1) := by decide +kernel
theorem dX9_takesFirst_95 : decode cX9_takesFirst 95 = .ok (.aload_n 0, 1) := by decide +kernel
theorem dX9_takesFirst_96 : decode cX9_takesFirst 96 = .ok (.getfield 216, 3) := by decide +kernel
theorem dX9_takesFirst_99 : decode cX9_takesFirst 99 = .ok (.imul, 1) := by decide +kernel
theorem dX9_takesFirst_100 : decode cX9_takesFirst 100 = .ok (.iconst 1, 1) := by decide +kernel
theorem dX9_takesFirst_101 : decode cX9_takesFirst 101 = .ok (.iadd, 1) := by decide +kernel
theorem dX9_takesFirst_102 : decode cX9_takesFirst 102 = .ok (.iload 4, 2) := by decide +kernel
theorem dX9_takesFirst_104 : decode cX9_takesFirst 104 = .ok (.iastore, 1) := by decide +kernel
theorem dX9_takesFirst_105 : decode cX9_takesFirst 105 = .ok (.aload_n 0, 1) := by decide +kernel
theorem dX9_takesFirst_106 : decode cX9_takesFirst 106 = .ok (.getfield 34, 3) := by decide +kernel
theorem dX9_takesFirst_109 : decode cX9_takesFirst 109 = .ok (.iconst 3, 1) := by decide +kernel
theorem dX9_takesFirst_110 : decode cX9_takesFirst 110 = .ok (.aload_n 0, 1) := by decide +kernel
theorem dX9_takesFirst_111 : decode cX9_takesFirst 111 = .ok (.getfield 216, 3) := by decide +kernel
theorem dX9_takesFirst_114 : decode cX9_takesFirst 114 = .ok (.imul, 1) := by decide +kernel
theorem dX9_takesFirst_115 : decode cX9_takesFirst 115 = .ok (.iconst 2, 1) := by decide +kernel
theorem dX9_takesFirst_116 : decode cX9_takesFirst 116 = .ok (.iadd, 1) := by decide +kernel
theorem dX9_takesFirst_117 : decode cX9_takesFirst 117 = .ok (.iload_n 1, 1) := by decide +kernel
theorem dX9_takesFirst_118 : decode cX9_takesFirst 118 = .ok (.iastore, 1) := by decide +kernel
theorem dX9_takesFirst_119 : decode cX9_takesFirst 119 = .ok (.aload_n 0, 1) := by decide +kernel
theorem dX9_takesFirst_120 : decode cX9_takesFirst 120 = .ok (.dup, 1) := by decide +kernel
theorem dX9_takesFirst_121 : decode cX9_takesFirst 121 = .ok (.getfield 216, 3) := by decide +kernel
theorem dX9_takesFirst_124 : decode cX9_takesFirst 124 = .ok (.iconst 1, 1) := by decide +kernel
theorem dX9_takesFirst_125 : decode cX9_takesFirst 125 = .ok (.iadd, 1) := by decide +kernel
theorem dX9_takesFirst_126 : decode cX9_takesFirst 126 = .ok (.putfield 216, 3) := by decide +kernel
theorem dX9_takesFirst_129 : decode cX9_takesFirst 129 = .ok (.iconst 1, 1) := by decide +kernel
theorem dX9_takesFirst_130 : decode cX9_takesFirst 130 = .ok (.ireturn, 1) := by decide +kernel
theorem dX9_takesFirst_131 : decode cX9_takesFirst 131 = .ok (.iinc 4 1, 3) := by decide +kernel
theorem dX9_takesFirst_134 : decode cX9_takesFirst 134 = .ok (.goto (-104), 3) := by decide +kernel
theorem dX9_takesFirst_137 : decode cX9_takesFirst 137 = .ok (.iinc 2 1, 3) := by decide +kernel
theorem dX9_takesFirst_140 : decode cX9_takesFirst 140 = .ok (.goto (-131), 3) := by decide +kernel
theorem dX9_takesFirst_143 : decode cX9_takesFirst 143 = .ok (.iinc 1 (-1), 3) := by decide +kernel
theorem dX9_takesFirst_146 : decode cX9_takesFirst 146 = .ok (.goto (-143), 3) := by decide +kernel
theorem dX9_takesFirst_149 : decode cX9_takesFirst 149 = .ok (.iconst 0, 1) := by decide +kernel
theorem dX9_takesFirst_150 : decode cX9_takesFirst 150 = .ok (.ireturn, 1) := by decide +kernel
def fX9_takesFirst_55 (N : Nat) (Z : mZ) (K3 : Nat → Int32 → mM → Option (Int32 × mM)) (K9 : Nat → Int32 → Int32 → mM → Option (Int32 × mM)) (K30 : Nat → Int32 → Int32 → Int32 → Int32 → mM → Option (Int32 × mM)) (v0 : Nat) (v1 : Int32) (v2 : Int32) (v3 : Int32) (v4 : Int32) (M : mM) : Option (Int32 × mM) := ck (okO Z v0 9) (bnd2 (fX9_against N Z v0 v3 v4 v1 (1 : Int32) (0 : Int32) M) (fun r11 M11 => if r11 = 0 then bnd2 (fX9_does N Z v0 v3 v4 v1 (1 : Int32) (0 : Int32) M11) (fun _ M13 => bnd1 (Z.2.2.2 v0 15) (fun c14 => ck (okO Z c14 20) (ck (inB ((3 : Int32) * (M13.1 v0 16)) (Z.2.2.1 c14)) (ck (inB (((3 : Int32) * ((sI M13 c14 (((3 : Int32) * (M13.1 v0 16))).toNatClampNeg v3).1 v0 16)) + (1 : Int32)) (Z.2.2.1 c14)) (ck (inB (((3 : Int32) * ((sI (sI M13 c14 (((3 : Int32) * (M13.1 v0 16))).toNatClampNeg v3) c14 ((((3 : Int32) * ((sI M13 c14 (((3 : Int32) * (M13.1 v0 16))).toNatClampNeg v3).1 v0 16)) + (1 : Int32))).toNatClampNeg v4).1 v0 16)) + (2 : Int32)) (Z.2.2.1 c14)) (some ((1 : Int32), (sI (sI (sI (sI M13 c14 (((3 : Int32) * (M13.1 v0 16))).toNatClampNeg v3) c14 ((((3 : Int32) * ((sI M13 c14 (((3 : Int32) * (M13.1 v0 16))).toNatClampNeg v3).1 v0 16)) + (1 : Int32))).toNatClampNeg v4) c14 ((((3 : Int32) * ((sI (sI M13 c14 (((3 : Int32) * (M13.1 v0 16))).toNatClampNeg v3) c14 ((((3 : Int32) * ((sI M13 c14 (((3 : Int32) * (M13.1 v0 16))).toNatClampNeg v3).1 v0 16)) + (1 : Int32))).toNatClampNeg v4).1 v0 16)) + (2 : Int32))).toNatClampNeg v1) v0 16 (((sI (sI (sI M13 c14 (((3 : Int32) * (M13.1 v0 16))).toNatClampNeg v3) c14 ((((3 : Int32) * ((sI M13 c14 (((3 : Int32) * (M13.1 v0 16))).toNatClampNeg v3).1 v0 16)) + (1 : Int32))).toNatClampNeg v4) c14 ((((3 : Int32) * ((sI (sI M13 c14 (((3 : Int32) * (M13.1 v0 16))).toNatClampNeg v3) c14 ((((3 : Int32) * ((sI M13 c14 (((3 : Int32) * (M13.1 v0 16))).toNatClampNeg v3).1 v0 16)) + (1 : Int32))).toNatClampNeg v4).1 v0 16)) + (2 : Int32))).toNatClampNeg v1).1 v0 16) + (1 : Int32)))))))))) else K30 v0 v1 v2 v3 (v4 + (1 : Int32)) M11))
set_option maxHeartbeats 4000000 in
set_option maxRecDepth 100000 in
theorem tX9_takesFirst_55 {G : mG} {p : Program} {l : Launch} {e : Env} {s : State} {m : MethodId} {args : Array Value} {below : List Frame} {meth : Method} {c : Code} (C : Cx G p l s m args meth c RX9 cX9_takesFirst 5 (some .boolean) []) (hnm : meth.name = yX9_takesFirst.name) (N : Nat) (Z : mZ) (K3 : Nat → Int32 → mM → Option (Int32 × mM)) (K9 : Nat → Int32 → Int32 → mM → Option (Int32 × mM)) (K30 : Nat → Int32 → Int32 → Int32 → Int32 → mM → Option (Int32 × mM)) (hK3 : ∀ (v0 : Nat) (v1 : Int32) (M : mM) (r : Int32) (M' : mM), K3 v0 v1 M = some (r, M') → JJ G p l e rmX9_takesFirst s m args below meth c 5 (mEnd G below args s rmX9_takesFirst (.inl (some (.int r))) Z M') 0 0 3 [(0, .ref v0), (1, .int v1)] [] Z M) (hK9 : ∀ (v0 : Nat) (v1 : Int32) (v2 : Int32) (M : mM) (r : Int32) (M' : mM), K9 v0 v1 v2 M = some (r, M') → JJ G p l e rmX9_takesFirst s m args below meth c 5 (mEnd G below args s rmX9_takesFirst (.inl (some (.int r))) Z M') 0 0 9 [(0, .ref v0), (1, .int v1), (2, .int v2)] [] Z M) (hK30 : ∀ (v0 : Nat) (v1 : Int32) (v2 : Int32) (v3 : Int32) (v4 : Int32) (M : mM) (r : Int32) (M' : mM), K30 v0 v1 v2 v3 v4 M = some (r, M') → JJ G p l e rmX9_takesFirst s m args below meth c 5 (mEnd G below args s rmX9_takesFirst (.inl (some (.int r))) Z M') 0 0 30 [(0, .ref v0), (1, .int v1), (2, .int v2), (3, .int v3), (4, .int v4)] [] Z M) : ∀ (v0 : Nat) (v1 : Int32) (v2 : Int32) (v3 : Int32) (v4 : Int32) (M : mM) (r : Int32) (M' : mM), fX9_takesFirst_55 N Z K3 K9 K30 v0 v1 v2 v3 v4 M = some (r, M') → JJ G p l e rmX9_takesFirst s m args below meth c 5 (mEnd G below args s rmX9_takesFirst (.inl (some (.int r))) Z M') 0 0 55 [(0, .ref v0), (1, .int v1), (2, .int v2), (3, .int v3), (4, .int v4)] [] Z M := by
  intro v0 v1 v2 v3 v4 M r M' h
  unfold fX9_takesFirst_55 at h
  refine j_aload_n C dX9_takesFirst_55 rfl 0 rfl ?_
  refine j_iload_n C dX9_takesFirst_56 rfl 3 rfl ?_
  refine j_iload C dX9_takesFirst_57 4 rfl ?_
  refine j_iload_n C dX9_takesFirst_59 rfl 1 rfl ?_
  refine j_iconst C dX9_takesFirst_60 (v := (1 : Int32)) (by decide) ?_
  refine j_iconst C dX9_takesFirst_61 (v := (0 : Int32)) (by decide) ?_
  obtain ⟨ho10, h⟩ := ck_spec h
  obtain ⟨r11, M11, hq11, h⟩ := bnd2_spec h
  refine j_run1 (c_V C (As := [.int v3, .int v4, .int v1, .int (1 : Int32), .int (0 : Int32)]) (rest := []) (ctX9_against C.2.2.2.2.2.2.2.2.1 N Z hq11) kcRX9_168 oyX9_against (ci := 9) (T := TX9) (N := 23) rfl (by decide) ho10 ⟨by decide, by decide⟩ ⟨by decide, by decide⟩ (Nat.le_of_ble_eq_true rfl) rfl dX9_takesFirst_62) ?_
  refine j_if_ne C dX9_takesFirst_65 (tgt := 131) (by decide) (fun hc12 => ?_) (fun hc12 => ?_)
  · rw [if_neg hc12] at h
    refine j_iinc C dX9_takesFirst_131 4 rfl (v := (v4 + (1 : Int32))) (by first | rfl | decide) (by decide) (L' := [(4, .int (v4 + (1 : Int32))), (0, .ref v0), (1, .int v1), (2, .int v2), (3, .int v3)]) rfl ?_
    refine j_goto C dX9_takesFirst_134 (tgt := 30) (by decide) ?_
    refine j_sub (L' := [(0, .ref v0), (1, .int v1), (2, .int v2), (3, .int v3), (4, .int (v4 + (1 : Int32)))]) [1, 2, 3, 4, 0] rfl ?_
    exact hK30 v0 v1 v2 v3 (v4 + (1 : Int32)) M11 r M' h
  · rw [if_pos hc12] at h
    refine j_aload_n C dX9_takesFirst_68 rfl 0 rfl ?_
    refine j_iload_n C dX9_takesFirst_69 rfl 3 rfl ?_
    refine j_iload C dX9_takesFirst_70 4 rfl ?_
    refine j_iload_n C dX9_takesFirst_72 rfl 1 rfl ?_
    refine j_iconst C dX9_takesFirst_73 (v := (1 : Int32)) (by decide) ?_
    refine j_iconst C dX9_takesFirst_74 (v := (0 : Int32)) (by decide) ?_
    obtain ⟨_, M13, hq13, h⟩ := bnd2_spec h
    refine j_run0 (c_V C (As := [.int v3, .int v4, .int v1, .int (1 : Int32), .int (0 : Int32)]) (rest := []) (ctX9_does C.2.2.2.2.2.2.2.2.1 N Z hq13) kcRX9_158 oyX9_does (ci := 9) (T := TX9) (N := 23) rfl (by decide) ho10 ⟨by decide, by decide⟩ ⟨by decide, by decide⟩ (Nat.le_of_ble_eq_true rfl) rfl dX9_takesFirst_75) ?_
    refine j_aload_n C dX9_takesFirst_78 rfl 0 rfl ?_
    obtain ⟨c14, hr14, h⟩ := bnd1_spec h
    refine j_getR C (cn := RX9) (T := TX9) (N := 23) (ci := 9) rfl iX9 ho10 15 (by decide) rfl fwRX9_34 dX9_takesFirst_79 hr14 ?_
    refine j_iconst C dX9_takesFirst_82 (v := (3 : Int32)) (by decide) ?_
    refine j_aload_n C dX9_takesFirst_83 rfl 0 rfl ?_
    refine j_getI C (cn := RX9) (T := TX9) (N := 23) (ci := 9) rfl iX9 ho10 16 (by decide) rfl fwRX9_216 dX9_takesFirst_84 ?_
    refine j_imul C dX9_takesFirst_87 ?_
    refine j_iload_n C dX9_takesFirst_88 rfl 3 rfl ?_
    obtain ⟨ho15, h⟩ := ck_spec h
    obtain ⟨ho16, h⟩ := ck_spec h
    refine j_iast C ho15 ho16 dX9_takesFirst_89 ?_
    refine j_aload_n C dX9_takesFirst_90 rfl 0 rfl ?_
    refine j_getR C (cn := RX9) (T := TX9) (N := 23) (ci := 9) rfl iX9 ho10 15 (by decide) rfl fwRX9_34 dX9_takesFirst_91 hr14 ?_
    refine j_iconst C dX9_takesFirst_94 (v := (3 : Int32)) (by decide) ?_
    refine j_aload_n C dX9_takesFirst_95 rfl 0 rfl ?_
    refine j_getI C (cn := RX9) (T := TX9) (N := 23) (ci := 9) rfl iX9 ho10 16 (by decide) rfl fwRX9_216 dX9_takesFirst_96 ?_
    refine j_imul C dX9_takesFirst_99 ?_
    refine j_iconst C dX9_takesFirst_100 (v := (1 : Int32)) (by decide) ?_
    refine j_iadd C dX9_takesFirst_101 ?_
    refine j_iload C dX9_takesFirst_102 4 rfl ?_
    obtain ⟨ho17, h⟩ := ck_spec h
    refine j_iast C ho15 ho17 dX9_takesFirst_104 ?_
    refine j_aload_n C dX9_takesFirst_105 rfl 0 rfl ?_
    refine j_getR C (cn := RX9) (T := TX9) (N := 23) (ci := 9) rfl iX9 ho10 15 (by decide) rfl fwRX9_34 dX9_takesFirst_106 hr14 ?_
    refine j_iconst C dX9_takesFirst_109 (v := (3 : Int32)) (by decide) ?_
    refine j_aload_n C dX9_takesFirst_110 rfl 0 rfl ?_
    refine j_getI C (cn := RX9) (T := TX9) (N := 23) (ci := 9) rfl iX9 ho10 16 (by decide) rfl fwRX9_216 dX9_takesFirst_111 ?_
    refine j_imul C dX9_takesFirst_114 ?_
    refine j_iconst C dX9_takesFirst_115 (v := (2 : Int32)) (by decide) ?_
    refine j_iadd C dX9_takesFirst_116 ?_
    refine j_iload_n C dX9_takesFirst_117 rfl 1 rfl ?_
    obtain ⟨ho18, h⟩ := ck_spec h
    refine j_iast C ho15 ho18 dX9_takesFirst_118 ?_
    refine j_aload_n C dX9_takesFirst_119 rfl 0 rfl ?_
    refine j_dup C dX9_takesFirst_120 rfl ?_
    refine j_getI C (cn := RX9) (T := TX9) (N := 23) (ci := 9) rfl iX9 ho10 16 (by decide) rfl fwRX9_216 dX9_takesFirst_121 ?_
    refine j_iconst C dX9_takesFirst_124 (v := (1 : Int32)) (by decide) ?_
    refine j_iadd C dX9_takesFirst_125 ?_
    refine j_putI C tyX9 tyX9_ok nmX9 (cn := RX9) (T := TX9) (N := 23) (ci := 9) rfl iX9 ho10 16 (by decide) rfl fwRX9_216 ⟨rfl, rfl⟩ dX9_takesFirst_126 ?_
    refine j_iconst C dX9_takesFirst_129 (v := (1 : Int32)) (by decide) ?_
    cases h
    exact j_zret C rfl (by decide) (by decide) (by decide) dX9_takesFirst_130
def fX9_takesFirst_30 (N : Nat) (Z : mZ) (K3 : Nat → Int32 → mM → Option (Int32 × mM)) (K9 : Nat → Int32 → Int32 → mM → Option (Int32 × mM)) : Nat → Nat → Int32 → Int32 → Int32 → Int32 → mM → Option (Int32 × mM)
  | 0, _, _, _, _, _, _ => none
  | fu + 1, v0, v1, v2, v3, v4, M => ck (okO Z v0 9) (bnd1 (Z.2.2.2 v0 0) (fun c5 => ck (okI Z c5) (ck (inB (0 : Int32) (Z.2.2.1 c5)) (if (M.1 c5 ((0 : Int32)).toNatClampNeg) ≤ v4 then K9 v0 v1 (v2 + (1 : Int32)) M else if 0 < v3 then fX9_takesFirst_55 N Z K3 K9 (fun w0 w1 w2 w3 w4 M9 => fX9_takesFirst_30 N Z K3 K9 fu w0 w1 w2 w3 w4 M9) v0 v1 v2 v3 v4 M else bnd2 (fX9_high N Z v0 v4 M) (fun r19 M19 => if r19 = v1 then fX9_takesFirst_55 N Z K3 K9 (fun w0 w1 w2 w3 w4 M9 => fX9_takesFirst_30 N Z K3 K9 fu w0 w1 w2 w3 w4 M9) v0 v1 v2 v3 v4 M19 else fX9_takesFirst_30 N Z K3 K9 fu v0 v1 v2 v3 (v4 + (1 : Int32)) M19)))))
set_option maxHeartbeats 4000000 in
set_option maxRecDepth 100000 in
theorem tX9_takesFirst_30 {G : mG} {p : Program} {l : Launch} {e : Env} {s : State} {m : MethodId} {args : Array Value} {below : List Frame} {meth : Method} {c : Code} (C : Cx G p l s m args meth c RX9 cX9_takesFirst 5 (some .boolean) []) (hnm : meth.name = yX9_takesFirst.name) (N : Nat) (Z : mZ) (K3 : Nat → Int32 → mM → Option (Int32 × mM)) (K9 : Nat → Int32 → Int32 → mM → Option (Int32 × mM)) (hK3 : ∀ (v0 : Nat) (v1 : Int32) (M : mM) (r : Int32) (M' : mM), K3 v0 v1 M = some (r, M') → JJ G p l e rmX9_takesFirst s m args below meth c 5 (mEnd G below args s rmX9_takesFirst (.inl (some (.int r))) Z M') 0 0 3 [(0, .ref v0), (1, .int v1)] [] Z M) (hK9 : ∀ (v0 : Nat) (v1 : Int32) (v2 : Int32) (M : mM) (r : Int32) (M' : mM), K9 v0 v1 v2 M = some (r, M') → JJ G p l e rmX9_takesFirst s m args below meth c 5 (mEnd G below args s rmX9_takesFirst (.inl (some (.int r))) Z M') 0 0 9 [(0, .ref v0), (1, .int v1), (2, .int v2)] [] Z M) : ∀ (fu : Nat) (v0 : Nat) (v1 : Int32) (v2 : Int32) (v3 : Int32) (v4 : Int32) (M : mM) (r : Int32) (M' : mM), fX9_takesFirst_30 N Z K3 K9 fu v0 v1 v2 v3 v4 M = some (r, M') → JJ G p l e rmX9_takesFirst s m args below meth c 5 (mEnd G below args s rmX9_takesFirst (.inl (some (.int r))) Z M') 0 0 30 [(0, .ref v0), (1, .int v1), (2, .int v2), (3, .int v3), (4, .int v4)] [] Z M := by
  intro fu
  induction fu with
  | zero =>
    intro v0 v1 v2 v3 v4 M r M' h
    cases h
  | succ fu ih =>
    intro v0 v1 v2 v3 v4 M r M' h
    rw [fX9_takesFirst_30] at h
    refine j_iload C dX9_takesFirst_30 4 rfl ?_
    refine j_aload_n C dX9_takesFirst_32 rfl 0 rfl ?_
    obtain ⟨ho4, h⟩ := ck_spec h
    obtain ⟨c5, hr5, h⟩ := bnd1_spec h
    refine j_getR C (cn := RX9) (T := TX9) (N := 23) (ci := 9) rfl iX9 ho4 0 (by decide) rfl fwRX9_7 dX9_takesFirst_33 hr5 ?_
    refine j_iconst C dX9_takesFirst_36 (v := (0 : Int32)) (by decide) ?_
    obtain ⟨ho6, h⟩ := ck_spec h
    obtain ⟨ho7, h⟩ := ck_spec h
    refine j_iald C ho6 ho7 dX9_takesFirst_37 ?_
    refine j_icmp_ge C dX9_takesFirst_38 (tgt := 137) (by decide) (fun hc8 => ?_) (fun hc8 => ?_)
    · rw [if_pos hc8] at h
      refine j_iinc C dX9_takesFirst_137 2 rfl (v := (v2 + (1 : Int32))) (by first | rfl | decide) (by decide) (L' := [(2, .int (v2 + (1 : Int32))), (0, .ref v0), (1, .int v1), (3, .int v3), (4, .int v4)]) rfl ?_
      refine j_goto C dX9_takesFirst_140 (tgt := 9) (by decide) ?_
      refine j_sub (L' := [(0, .ref v0), (1, .int v1), (2, .int (v2 + (1 : Int32)))]) [1, 2, 0] rfl ?_
      exact hK9 v0 v1 (v2 + (1 : Int32)) M r M' h
    · rw [if_neg hc8] at h
      refine j_iload_n C dX9_takesFirst_41 rfl 3 rfl ?_
      refine j_if_gt C dX9_takesFirst_42 (tgt := 55) (by decide) (fun hc9 => ?_) (fun hc9 => ?_)
      · rw [if_pos hc9] at h
        refine j_sub (L' := [(0, .ref v0), (1, .int v1), (2, .int v2), (3, .int v3), (4, .int v4)]) [0, 1, 2, 3, 4] rfl ?_
        exact tX9_takesFirst_55 C hnm N Z K3 K9 (fun w0 w1 w2 w3 w4 M9 => fX9_takesFirst_30 N Z K3 K9 fu w0 w1 w2 w3 w4 M9) hK3 hK9 (fun w0 w1 w2 w3 w4 M9 r9 M9' h9 => ih w0 w1 w2 w3 w4 M9 r9 M9' h9) v0 v1 v2 v3 v4 M _ _ h
      · rw [if_neg hc9] at h
        refine j_aload_n C dX9_takesFirst_45 rfl 0 rfl ?_
        refine j_iload C dX9_takesFirst_46 4 rfl ?_
        obtain ⟨r19, M19, hq19, h⟩ := bnd2_spec h
        refine j_run1 (c_V C (As := [.int v4]) (rest := []) (ctX9_high C.2.2.2.2.2.2.2.2.1 N Z hq19) kcRX9_69 oyX9_high (ci := 9) (T := TX9) (N := 23) rfl (by decide) ho4 ⟨by decide, by decide⟩ ⟨by decide, by decide⟩ (Nat.le_of_ble_eq_true rfl) rfl dX9_takesFirst_48) ?_
        refine j_iload_n C dX9_takesFirst_51 rfl 1 rfl ?_
        refine j_icmp_ne C dX9_takesFirst_52 (tgt := 131) (by decide) (fun hc20 => ?_) (fun hc20 => ?_)
        · rw [if_neg hc20] at h
          refine j_iinc C dX9_takesFirst_131 4 rfl (v := (v4 + (1 : Int32))) (by first | rfl | decide) (by decide) (L' := [(4, .int (v4 + (1 : Int32))), (0, .ref v0), (1, .int v1), (2, .int v2), (3, .int v3)]) rfl ?_
          refine j_goto C dX9_takesFirst_134 (tgt := 30) (by decide) ?_
          refine j_sub (L' := [(0, .ref v0), (1, .int v1), (2, .int v2), (3, .int v3), (4, .int (v4 + (1 : Int32)))]) [1, 2, 3, 4, 0] rfl ?_
          exact ih v0 v1 v2 v3 (v4 + (1 : Int32)) M19 r M' h
        · rw [if_pos hc20] at h
          refine j_sub (L' := [(0, .ref v0), (1, .int v1), (2, .int v2), (3, .int v3), (4, .int v4)]) [0, 1, 2, 3, 4] rfl ?_
          exact tX9_takesFirst_55 C hnm N Z K3 K9 (fun w0 w1 w2 w3 w4 M9 => fX9_takesFirst_30 N Z K3 K9 fu w0 w1 w2 w3 w4 M9) hK3 hK9 (fun w0 w1 w2 w3 w4 M9 r9 M9' h9 => ih w0 w1 w2 w3 w4 M9 r9 M9' h9) v0 v1 v2 v3 v4 M19 _ _ h
def fX9_takesFirst_9 (N : Nat) (Z : mZ) (K3 : Nat → Int32 → mM → Option (Int32 × mM)) : Nat → Nat → Int32 → Int32 → mM → Option (Int32 × mM)
  | 0, _, _, _, _ => none
  | fu + 1, v0, v1, v2, M => if (5 : Int32) ≤ v2 then K3 v0 (v1 + (-1 : Int32)) M else if (4 : Int32) ≤ v2 then fX9_takesFirst_30 N Z K3 (fun w0 w1 w2 M9 => fX9_takesFirst_9 N Z K3 fu w0 w1 w2 M9) N v0 v1 v2 (0 : Int32) (0 : Int32) M else fX9_takesFirst_30 N Z K3 (fun w0 w1 w2 M9 => fX9_takesFirst_9 N Z K3 fu w0 w1 w2 M9) N v0 v1 v2 ((5 : Int32) - v2) (0 : Int32) M
set_option maxHeartbeats 4000000 in
set_option maxRecDepth 100000 in
theorem tX9_takesFirst_9 {G : mG} {p : Program} {l : Launch} {e : Env} {s : State} {m : MethodId} {args : Array Value} {below : List Frame} {meth : Method} {c : Code} (C : Cx G p l s m args meth c RX9 cX9_takesFirst 5 (some .boolean) []) (hnm : meth.name = yX9_takesFirst.name) (N : Nat) (Z : mZ) (K3 : Nat → Int32 → mM → Option (Int32 × mM)) (hK3 : ∀ (v0 : Nat) (v1 : Int32) (M : mM) (r : Int32) (M' : mM), K3 v0 v1 M = some (r, M') → JJ G p l e rmX9_takesFirst s m args below meth c 5 (mEnd G below args s rmX9_takesFirst (.inl (some (.int r))) Z M') 0 0 3 [(0, .ref v0), (1, .int v1)] [] Z M) : ∀ (fu : Nat) (v0 : Nat) (v1 : Int32) (v2 : Int32) (M : mM) (r : Int32) (M' : mM), fX9_takesFirst_9 N Z K3 fu v0 v1 v2 M = some (r, M') → JJ G p l e rmX9_takesFirst s m args below meth c 5 (mEnd G below args s rmX9_takesFirst (.inl (some (.int r))) Z M') 0 0 9 [(0, .ref v0), (1, .int v1), (2, .int v2)] [] Z M := by
  intro fu
  induction fu with
  | zero =>
    intro v0 v1 v2 M r M' h
    cases h
  | succ fu ih =>
    intro v0 v1 v2 M r M' h
    rw [fX9_takesFirst_9] at h
    refine j_iload_n C dX9_takesFirst_9 rfl 2 rfl ?_
    refine j_iconst C dX9_takesFirst_10 (v := (5 : Int32)) (by decide) ?_
    refine j_icmp_ge C dX9_takesFirst_11 (tgt := 143) (by decide) (fun hc2 => ?_) (fun hc2 => ?_)
    · rw [if_pos hc2] at h
      refine j_iinc C dX9_takesFirst_143 1 rfl (v := (v1 + (-1 : Int32))) (by first | rfl | decide) (by decide) (L' := [(1, .int (v1 + (-1 : Int32))), (0, .ref v0), (2, .int v2)]) rfl ?_
      refine j_goto C dX9_takesFirst_146 (tgt := 3) (by decide) ?_
      refine j_sub (L' := [(0, .ref v0), (1, .int (v1 + (-1 : Int32)))]) [1, 0] rfl ?_
      exact hK3 v0 (v1 + (-1 : Int32)) M r M' h
    · rw [if_neg hc2] at h
      refine j_iload_n C dX9_takesFirst_14 rfl 2 rfl ?_
      refine j_iconst C dX9_takesFirst_15 (v := (4 : Int32)) (by decide) ?_
      refine j_icmp_ge C dX9_takesFirst_16 (tgt := 25) (by decide) (fun hc3 => ?_) (fun hc3 => ?_)
      · rw [if_pos hc3] at h
        refine j_iconst C dX9_takesFirst_25 (v := (0 : Int32)) (by decide) ?_
        refine j_istore_n C dX9_takesFirst_26 rfl (by decide) (L' := [(3, .int (0 : Int32)), (0, .ref v0), (1, .int v1), (2, .int v2)]) rfl ?_
        refine j_iconst C dX9_takesFirst_27 (v := (0 : Int32)) (by decide) ?_
        refine j_istore C dX9_takesFirst_28 (by decide) (L' := [(4, .int (0 : Int32)), (3, .int (0 : Int32)), (0, .ref v0), (1, .int v1), (2, .int v2)]) rfl ?_
        refine j_sub (L' := [(0, .ref v0), (1, .int v1), (2, .int v2), (3, .int (0 : Int32)), (4, .int (0 : Int32))]) [2, 3, 4, 1, 0] rfl ?_
        exact tX9_takesFirst_30 C hnm N Z K3 (fun w0 w1 w2 M9 => fX9_takesFirst_9 N Z K3 fu w0 w1 w2 M9) hK3 (fun w0 w1 w2 M9 r9 M9' h9 => ih w0 w1 w2 M9 r9 M9' h9) N v0 v1 v2 (0 : Int32) (0 : Int32) M _ _ h
      · rw [if_neg hc3] at h
        refine j_iconst C dX9_takesFirst_19 (v := (5 : Int32)) (by decide) ?_
        refine j_iload_n C dX9_takesFirst_20 rfl 2 rfl ?_
        refine j_isub C dX9_takesFirst_21 ?_
        refine j_goto C dX9_takesFirst_22 (tgt := 26) (by decide) ?_
        refine j_istore_n C dX9_takesFirst_26 rfl (by decide) (L' := [(3, .int ((5 : Int32) - v2)), (0, .ref v0), (1, .int v1), (2, .int v2)]) rfl ?_
        refine j_iconst C dX9_takesFirst_27 (v := (0 : Int32)) (by decide) ?_
        refine j_istore C dX9_takesFirst_28 (by decide) (L' := [(4, .int (0 : Int32)), (3, .int ((5 : Int32) - v2)), (0, .ref v0), (1, .int v1), (2, .int v2)]) rfl ?_
        refine j_sub (L' := [(0, .ref v0), (1, .int v1), (2, .int v2), (3, .int ((5 : Int32) - v2)), (4, .int (0 : Int32))]) [2, 3, 4, 1, 0] rfl ?_
        exact tX9_takesFirst_30 C hnm N Z K3 (fun w0 w1 w2 M9 => fX9_takesFirst_9 N Z K3 fu w0 w1 w2 M9) hK3 (fun w0 w1 w2 M9 r9 M9' h9 => ih w0 w1 w2 M9 r9 M9' h9) N v0 v1 v2 ((5 : Int32) - v2) (0 : Int32) M _ _ h
def fX9_takesFirst_3 (N : Nat) (Z : mZ) : Nat → Nat → Int32 → mM → Option (Int32 × mM)
  | 0, _, _, _ => none
  | fu + 1, v0, v1, M => if v1 ≤ 0 then some ((0 : Int32), M) else fX9_takesFirst_9 N Z (fun w0 w1 M9 => fX9_takesFirst_3 N Z fu w0 w1 M9) N v0 v1 (0 : Int32) M
set_option maxHeartbeats 4000000 in
set_option maxRecDepth 100000 in
theorem tX9_takesFirst_3 {G : mG} {p : Program} {l : Launch} {e : Env} {s : State} {m : MethodId} {args : Array Value} {below : List Frame} {meth : Method} {c : Code} (C : Cx G p l s m args meth c RX9 cX9_takesFirst 5 (some .boolean) []) (hnm : meth.name = yX9_takesFirst.name) (N : Nat) (Z : mZ) : ∀ (fu : Nat) (v0 : Nat) (v1 : Int32) (M : mM) (r : Int32) (M' : mM), fX9_takesFirst_3 N Z fu v0 v1 M = some (r, M') → JJ G p l e rmX9_takesFirst s m args below meth c 5 (mEnd G below args s rmX9_takesFirst (.inl (some (.int r))) Z M') 0 0 3 [(0, .ref v0), (1, .int v1)] [] Z M := by
  intro fu
  induction fu with
  | zero =>
    intro v0 v1 M r M' h
    cases h
  | succ fu ih =>
    intro v0 v1 M r M' h
    rw [fX9_takesFirst_3] at h
    refine j_iload_n C dX9_takesFirst_3 rfl 1 rfl ?_
    refine j_if_le C dX9_takesFirst_4 (tgt := 149) (by decide) (fun hc1 => ?_) (fun hc1 => ?_)
    · rw [if_pos hc1] at h
      refine j_iconst C dX9_takesFirst_149 (v := (0 : Int32)) (by decide) ?_
      cases h
      exact j_zret C rfl (by decide) (by decide) (by decide) dX9_takesFirst_150
    · rw [if_neg hc1] at h
      refine j_iconst C dX9_takesFirst_7 (v := (0 : Int32)) (by decide) ?_
      refine j_istore_n C dX9_takesFirst_8 rfl (by decide) (L' := [(2, .int (0 : Int32)), (0, .ref v0), (1, .int v1)]) rfl ?_
      refine j_sub (L' := [(0, .ref v0), (1, .int v1), (2, .int (0 : Int32))]) [1, 2, 0] rfl ?_
      exact tX9_takesFirst_9 C hnm N Z (fun w0 w1 M9 => fX9_takesFirst_3 N Z fu w0 w1 M9) (fun w0 w1 M9 r9 M9' h9 => ih w0 w1 M9 r9 M9' h9) N v0 v1 (0 : Int32) M _ _ h
def fX9_takesFirst (N : Nat) (Z : mZ) (a0 : Nat) (M : mM) : Option (Int32 × mM) := fX9_takesFirst_3 N Z N a0 (6 : Int32) M
set_option maxHeartbeats 4000000 in
set_option maxRecDepth 100000 in
theorem ctX9_takesFirst {G : mG} {l : Launch} (hl : l.stackTraces = false) (N : Nat) (Z : mZ) {a0 : Nat} {M : mM} {r : Int32} {M' : mM} (h : fX9_takesFirst N Z a0 M = some (r, M')) : CT G l yX9_takesFirst (.code yX9_takesFirst cX9_takesFirst 5 (some .boolean)) rmX9_takesFirst [.ref a0] Z M (.inl (some (.int r))) Z M' := by
  unfold fX9_takesFirst at h
  refine CT.of hl (by decide) (Nat.le_of_ble_eq_true rfl) ?_
  intro p e s m args below meth c C hnm
  refine j_sub (L' := [(0, .ref a0)]) [0] rfl ?_
  refine j_bipush C dX9_takesFirst_0 (v := (6 : Int32)) (by decide) ?_
  refine j_istore_n C dX9_takesFirst_2 rfl (by decide) (L' := [(1, .int (6 : Int32)), (0, .ref a0)]) rfl ?_
  refine j_sub (L' := [(0, .ref a0), (1, .int (6 : Int32))]) [1, 0] rfl ?_
  exact tX9_takesFirst_3 C hnm N Z N a0 (6 : Int32) M _ _ h
