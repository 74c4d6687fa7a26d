-- ScaffoldPlannerModel levels
abbrev rmX9_levels : Room := { frames := 1, cells := 0, slots := 0, locals := 21 }
theorem dX9_levels_0 : decode cX9_levels 0 = .ok (.iconst 0, 1) := by decide +kernel
theorem dX9_levels_1 : decode cX9_levels 1 = .ok (.istore_n 1, 1) := by decide +kernel
theorem dX9_levels_2 : decode cX9_levels 2 = .ok (.iconst 0, 1) := by decide +kernel
theorem dX9_levels_3 : decode cX9_levels 3 = .ok (.istore_n 2, 1) := by decide +kernel
theorem dX9_levels_4 : decode cX9_levels 4 = .ok (.iload_n 2, 1) := by decide +kernel
theorem dX9_levels_5 : decode cX9_levels 5 = .ok (.aload_n 0, 1) := by decide +kernel
theorem dX9_levels_6 : decode cX9_levels 6 = .ok (.getfield 7, 3) := by decide +kernel
theorem dX9_levels_9 : decode cX9_levels 9 = .ok (.iconst 0, 1) := by decide +kernel
theorem dX9_levels_10 : decode cX9_levels 10 = .ok (.iaload, 1) := by decide +kernel
theorem dX9_levels_11 : decode cX9_levels 11 = .ok (.if_icmp .ge 17, 3) := by decide +kernel
theorem dX9_levels_14 : decode cX9_levels 14 = .ok (.iload_n 1, 1) := by decide +kernel
theorem dX9_levels_15 : decode cX9_levels 15 = .ok (.aload_n 0, 1) := by decide +kernel
theorem dX9_levels_16 : decode cX9_levels 16 = .ok (.iload_n 2, 1) := by decide +kernel
theorem dX9_levels_17 : decode cX9_levels 17 = .ok (.invokevirtual 69, 3) := by decide +kernel
theorem dX9_levels_20 : decode cX9_levels 20 = .ok (.iadd, 1) := by decide +kernel
theorem dX9_levels_21 : decode cX9_levels 21 = .ok (.istore_n 1, 1) := by decide +kernel
theorem dX9_levels_22 : decode cX9_levels 22 = .ok (.iinc 2 1, 3) := by decide +kernel
theorem dX9_levels_25 : decode cX9_levels 25 = .ok (.goto (-21), 3) := by decide +kernel
theorem dX9_levels_28 : decode cX9_levels 28 = .ok (.iload_n 1, 1) := by decide +kernel
theorem dX9_levels_29 : decode cX9_levels 29 = .ok (.ireturn, 1) := by decide +kernel
def fX9_levels_4 (N : Nat) (Z : mZ) : Nat → Nat → Int32 → Int32 → mM → Option (Int32 × mM)
  | 0, _, _, _, _ => none
  | fu + 1, v0, v1, v2, M => ck (okO Z v0 9) (bnd1 (Z.2.2.2 v0 0) (fun c2 => ck (okI Z c2) (ck (inB (0 : Int32) (Z.2.2.1 c2)) (if (M.1 c2 ((0 : Int32)).toNatClampNeg) ≤ v2 then some (v1, M) else bnd2 (fX9_high N Z v0 v2 M) (fun r6 M6 => fX9_levels_4 N Z fu v0 (v1 + r6) (v2 + (1 : Int32)) M6)))))
set_option maxHeartbeats 4000000 in
set_option maxRecDepth 100000 in
theorem tX9_levels_4 {G : mG} {p : Program} {l : Launch} {e : Env} {s : State} {m : MethodId} {args : Array Value} {below : List Frame} {meth : Method} {c : Code} (C : Cx G p l s m args meth c RX9 cX9_levels 3 (some .int) []) (hnm : meth.name = yX9_levels.name) (N : Nat) (Z : mZ) : ∀ (fu : Nat) (v0 : Nat) (v1 : Int32) (v2 : Int32) (M : mM) (r : Int32) (M' : mM), fX9_levels_4 N Z fu v0 v1 v2 M = some (r, M') → JJ G p l e rmX9_levels s m args below meth c 3 (mEnd G below args s rmX9_levels (.inl (some (.int r))) Z M') 0 0 4 [(0, .ref v0), (1, .int v1), (2, .int v2)] [] Z M := by
  intro fu
  induction fu with
  | zero =>
    intro v0 v1 v2 M r M' h
    cases h
  | succ fu ih =>
    intro v0 v1 v2 M r M' h
    rw [fX9_levels_4] at h
    refine j_iload_n C dX9_levels_4 rfl 2 rfl ?_
    refine j_aload_n C dX9_levels_5 rfl 0 rfl ?_
    obtain ⟨ho1, h⟩ := ck_spec h
    obtain ⟨c2, hr2, h⟩ := bnd1_spec h
    refine j_getR C (cn := RX9) (T := TX9) (N := 23) (ci := 9) rfl iX9 ho1 0 (by decide) rfl fwRX9_7 dX9_levels_6 hr2 ?_
    refine j_iconst C dX9_levels_9 (v := (0 : Int32)) (by decide) ?_
    obtain ⟨ho3, h⟩ := ck_spec h
    obtain ⟨ho4, h⟩ := ck_spec h
    refine j_iald C ho3 ho4 dX9_levels_10 ?_
    refine j_icmp_ge C dX9_levels_11 (tgt := 28) (by decide) (fun hc5 => ?_) (fun hc5 => ?_)
    · rw [if_pos hc5] at h
      refine j_iload_n C dX9_levels_28 rfl 1 rfl ?_
      cases h
      exact j_iret C rfl (by decide) (by decide) dX9_levels_29
    · rw [if_neg hc5] at h
      refine j_iload_n C dX9_levels_14 rfl 1 rfl ?_
      refine j_aload_n C dX9_levels_15 rfl 0 rfl ?_
      refine j_iload_n C dX9_levels_16 rfl 2 rfl ?_
      obtain ⟨r6, M6, hq6, h⟩ := bnd2_spec h
      refine j_run1 (c_V C (As := [.int v2]) (rest := [.int v1]) (ctX9_high C.2.2.2.2.2.2.2.2.1 N Z hq6) kcRX9_69 oyX9_high (ci := 9) (T := TX9) (N := 23) rfl (by decide) ho1 ⟨by decide, by decide⟩ ⟨by decide, by decide⟩ (Nat.le_of_ble_eq_true rfl) rfl dX9_levels_17) ?_
      refine j_iadd C dX9_levels_20 ?_
      refine j_istore_n C dX9_levels_21 rfl (by decide) (L' := [(1, .int (v1 + r6)), (0, .ref v0), (2, .int v2)]) rfl ?_
      refine j_iinc C dX9_levels_22 2 rfl (v := (v2 + (1 : Int32))) (by first | rfl | decide) (by decide) (L' := [(2, .int (v2 + (1 : Int32))), (1, .int (v1 + r6)), (0, .ref v0)]) rfl ?_
      refine j_goto C dX9_levels_25 (tgt := 4) (by decide) ?_
      refine j_sub (L' := [(0, .ref v0), (1, .int (v1 + r6)), (2, .int (v2 + (1 : Int32)))]) [2, 1, 0] rfl ?_
      exact ih v0 (v1 + r6) (v2 + (1 : Int32)) M6 r M' h
def fX9_levels (N : Nat) (Z : mZ) (a0 : Nat) (M : mM) : Option (Int32 × mM) := fX9_levels_4 N Z N a0 (0 : Int32) (0 : Int32) M
set_option maxHeartbeats 4000000 in
set_option maxRecDepth 100000 in
theorem ctX9_levels {G : mG} {l : Launch} (hl : l.stackTraces = false) (N : Nat) (Z : mZ) {a0 : Nat} {M : mM} {r : Int32} {M' : mM} (h : fX9_levels N Z a0 M = some (r, M')) : CT G l yX9_levels (.code yX9_levels cX9_levels 3 (some .int)) rmX9_levels [.ref a0] Z M (.inl (some (.int r))) Z M' := by
  unfold fX9_levels at h
  refine CT.of hl (by decide) (Nat.le_of_ble_eq_true rfl) ?_
  intro p e s m args below meth c C hnm
  refine j_sub (L' := [(0, .ref a0)]) [0] rfl ?_
  refine j_iconst C dX9_levels_0 (v := (0 : Int32)) (by decide) ?_
  refine j_istore_n C dX9_levels_1 rfl (by decide) (L' := [(1, .int (0 : Int32)), (0, .ref a0)]) rfl ?_
  refine j_iconst C dX9_levels_2 (v := (0 : Int32)) (by decide) ?_
  refine j_istore_n C dX9_levels_3 rfl (by decide) (L' := [(2, .int (0 : Int32)), (1, .int (0 : Int32)), (0, .ref a0)]) rfl ?_
  refine j_sub (L' := [(0, .ref a0), (1, .int (0 : Int32)), (2, .int (0 : Int32))]) [2, 1, 0] rfl ?_
  exact tX9_levels_4 C hnm N Z N a0 (0 : Int32) (0 : Int32) M _ _ h
-- ScaffoldPlannerModel dismantles
theorem kcRX9_219 : okV RX9 219 yX9_levels (.code yX9_levels cX9_levels 3 (some .int)) = true := by decide +kernel
theorem oyX9_levels : okY yX9_levels 0 := ⟨by decide +kernel, by decide +kernel, by decide +kernel⟩
theorem kcRX9_222 : okV RX9 222 yX9_takesFirst (.code yX9_takesFirst cX9_takesFirst 5 (some .boolean)) = true := by decide +kernel
theorem oyX9_takesFirst : okY yX9_takesFirst 0 := ⟨by decide +kernel, by decide +kernel, by decide +kernel⟩
abbrev rmX9_dismantles : Room := { frames := 7, cells := 0, slots := 0, locals := 166 }
theorem dX9_dismantles_0 : decode cX9_dismantles 0 = .ok (.aload_n 0, 1) := by decide +kernel
theorem dX9_dismantles_1 : decode cX9_dismantles 1 = .ok (.getfield 7, 3) := by decide +kernel
theorem dX9_dismantles_4 : decode cX9_dismantles 4 = .ok (.aload_n 0, 1) := by decide +kernel
theorem dX9_dismantles_5 : decode cX9_dismantles 5 = .ok (.getfield 19, 3) := by decide +kernel
theorem dX9_dismantles_8 : decode cX9_dismantles 8 = .ok (.invokestatic 65, 3) := by decide +kernel
theorem dX9_dismantles_11 : decode cX9_dismantles 11 = .ok (.aload_n 0, 1) := by decide +kernel
theorem dX9_dismantles_12 : decode cX9_dismantles 12 = .ok (.iconst 0, 1) := by decide +kernel
theorem dX9_dismantles_13 : decode cX9_dismantles 13 = .ok (.putfield 216, 3) := by decide +kernel
theorem dX9_dismantles_16 : decode cX9_dismantles 16 = .ok (.iconst 1, 1) := by decide +kernel
theorem dX9_dismantles_17 : decode cX9_dismantles 17 = .ok (.istore_n 1, 1) := by decide +kernel
theorem dX9_dismantles_18 : decode cX9_dismantles 18 = .ok (.iload_n 1, 1) := by decide +kernel
theorem dX9_dismantles_19 : decode cX9_dismantles 19 = .ok (.ifCond .eq 18, 3) := by decide +kernel
theorem dX9_dismantles_22 : decode cX9_dismantles 22 = .ok (.aload_n 0, 1) := by decide +kernel
theorem dX9_dismantles_23 : decode cX9_dismantles 23 = .ok (.invokevirtual 219, 3) := by decide +kernel
theorem dX9_dismantles_26 : decode cX9_dismantles 26 = .ok (.ifCond .le 11, 3) := by decide +kernel
theorem dX9_dismantles_29 : decode cX9_dismantles 29 = .ok (.aload_n 0, 1) := by decide +kernel
theorem dX9_dismantles_30 : decode cX9_dismantles 30 = .ok (.invokevirtual 222, 3) := by decide +kernel
theorem dX9_dismantles_33 : decode cX9_dismantles 33 = .ok (.istore_n 1, 1) := by decide +kernel
theorem dX9_dismantles_34 : decode cX9_dismantles 34 = .ok (.goto (-16), 3) := by decide +kernel
theorem dX9_dismantles_37 : decode cX9_dismantles 37 = .ok (.aload_n 0, 1) := by decide +kernel
theorem dX9_dismantles_38 : decode cX9_dismantles 38 = .ok (.getfield 19, 3) := by decide +kernel
theorem dX9_dismantles_41 : decode cX9_dismantles 41 = .ok (.aload_n 0, 1) := by decide +kernel
theorem dX9_dismantles_42 : decode cX9_dismantles 42 = .ok (.getfield 7, 3) := by decide +kernel
theorem dX9_dismantles_45 : decode cX9_dismantles 45 = .ok (.invokestatic 65, 3) := by decide +kernel
theorem dX9_dismantles_48 : decode cX9_dismantles 48 = .ok (.iload_n 1, 1) := by decide +kernel
theorem dX9_dismantles_49 : decode cX9_dismantles 49 = .ok (.ireturn, 1) := by decide +kernel
def fX9_dismantles_18 (N : Nat) (Z : mZ) : Nat → Nat → Int32 → mM → Option (Int32 × mM)
  | 0, _, _, _ => none
  | fu + 1, v0, v1, M => if v1 = 0 then ck (okO Z v0 9) (bnd1 (Z.2.2.2 v0 3) (fun c7 => bnd1 (Z.2.2.2 v0 0) (fun c8 => bnd2 (fX9_copies N Z c7 c8 M) (fun _ M9 => ck (isB v1) (some (v1, M9)))))) else ck (okO Z v0 9) (bnd2 (fX9_levels N Z v0 M) (fun r12 M12 => if r12 ≤ 0 then bnd1 (Z.2.2.2 v0 3) (fun c14 => bnd1 (Z.2.2.2 v0 0) (fun c15 => bnd2 (fX9_copies N Z c14 c15 M12) (fun _ M16 => ck (isB v1) (some (v1, M16))))) else bnd2 (fX9_takesFirst N Z v0 M12) (fun r18 M18 => fX9_dismantles_18 N Z fu v0 r18 M18)))
set_option maxHeartbeats 4000000 in
set_option maxRecDepth 100000 in
theorem tX9_dismantles_18 {G : mG} {p : Program} {l : Launch} {e : Env} {s : State} {m : MethodId} {args : Array Value} {below : List Frame} {meth : Method} {c : Code} (C : Cx G p l s m args meth c RX9 cX9_dismantles 2 (some .boolean) []) (hnm : meth.name = yX9_dismantles.name) (N : Nat) (Z : mZ) : ∀ (fu : Nat) (v0 : Nat) (v1 : Int32) (M : mM) (r : Int32) (M' : mM), fX9_dismantles_18 N Z fu v0 v1 M = some (r, M') → JJ G p l e rmX9_dismantles s m args below meth c 2 (mEnd G below args s rmX9_dismantles (.inl (some (.int r))) Z M') 0 0 18 [(0, .ref v0), (1, .int v1)] [] Z M := by
  intro fu
  induction fu with
  | zero =>
    intro v0 v1 M r M' h
    cases h
  | succ fu ih =>
    intro v0 v1 M r M' h
    rw [fX9_dismantles_18] at h
    refine j_iload_n C dX9_dismantles_18 rfl 1 rfl ?_
    refine j_if_eq C dX9_dismantles_19 (tgt := 37) (by decide) (fun hc5 => ?_) (fun hc5 => ?_)
    · rw [if_pos hc5] at h
      refine j_aload_n C dX9_dismantles_37 rfl 0 rfl ?_
      obtain ⟨ho6, h⟩ := ck_spec h
      obtain ⟨c7, hr7, h⟩ := bnd1_spec h
      refine j_getR C (cn := RX9) (T := TX9) (N := 23) (ci := 9) rfl iX9 ho6 3 (by decide) rfl fwRX9_19 dX9_dismantles_38 hr7 ?_
      refine j_aload_n C dX9_dismantles_41 rfl 0 rfl ?_
      obtain ⟨c8, hr8, h⟩ := bnd1_spec h
      refine j_getR C (cn := RX9) (T := TX9) (N := 23) (ci := 9) rfl iX9 ho6 0 (by decide) rfl fwRX9_7 dX9_dismantles_42 hr8 ?_
      obtain ⟨_, M9, hq9, h⟩ := bnd2_spec h
      refine j_run0 (c_S C (As := [.ref c7, .ref c8]) (rest := []) (ctX9_copies C.2.2.2.2.2.2.2.2.1 N Z hq9) kcRX9_65 oyX9_copies ⟨by decide, by decide⟩ ⟨by decide, by decide⟩ (Nat.le_of_ble_eq_true rfl) rfl dX9_dismantles_45) ?_
      refine j_iload_n C dX9_dismantles_48 rfl 1 rfl ?_
      obtain ⟨ho10, h⟩ := ck_spec h
      cases h
      exact j_zret C rfl (isB_spec ho10) (by decide) (by decide) dX9_dismantles_49
    · rw [if_neg hc5] at h
      refine j_aload_n C dX9_dismantles_22 rfl 0 rfl ?_
      obtain ⟨ho11, h⟩ := ck_spec h
      obtain ⟨r12, M12, hq12, h⟩ := bnd2_spec h
      refine j_run1 (c_V C (As := []) (rest := []) (ctX9_levels C.2.2.2.2.2.2.2.2.1 N Z hq12) kcRX9_219 oyX9_levels (ci := 9) (T := TX9) (N := 23) rfl (by decide) ho11 ⟨by decide, by decide⟩ ⟨by decide, by decide⟩ (Nat.le_of_ble_eq_true rfl) rfl dX9_dismantles_23) ?_
      refine j_if_le C dX9_dismantles_26 (tgt := 37) (by decide) (fun hc13 => ?_) (fun hc13 => ?_)
      · rw [if_pos hc13] at h
        refine j_aload_n C dX9_dismantles_37 rfl 0 rfl ?_
        obtain ⟨c14, hr14, h⟩ := bnd1_spec h
        refine j_getR C (cn := RX9) (T := TX9) (N := 23) (ci := 9) rfl iX9 ho11 3 (by decide) rfl fwRX9_19 dX9_dismantles_38 hr14 ?_
        refine j_aload_n C dX9_dismantles_41 rfl 0 rfl ?_
        obtain ⟨c15, hr15, h⟩ := bnd1_spec h
        refine j_getR C (cn := RX9) (T := TX9) (N := 23) (ci := 9) rfl iX9 ho11 0 (by decide) rfl fwRX9_7 dX9_dismantles_42 hr15 ?_
        obtain ⟨_, M16, hq16, h⟩ := bnd2_spec h
        refine j_run0 (c_S C (As := [.ref c14, .ref c15]) (rest := []) (ctX9_copies C.2.2.2.2.2.2.2.2.1 N Z hq16) kcRX9_65 oyX9_copies ⟨by decide, by decide⟩ ⟨by decide, by decide⟩ (Nat.le_of_ble_eq_true rfl) rfl dX9_dismantles_45) ?_
        refine j_iload_n C dX9_dismantles_48 rfl 1 rfl ?_
        obtain ⟨ho17, h⟩ := ck_spec h
        cases h
        exact j_zret C rfl (isB_spec ho17) (by decide) (by decide) dX9_dismantles_49
      · rw [if_neg hc13] at h
        refine j_aload_n C dX9_dismantles_29 rfl 0 rfl ?_
        obtain ⟨r18, M18, hq18, h⟩ := bnd2_spec h
        refine j_run1 (c_V C (As := []) (rest := []) (ctX9_takesFirst C.2.2.2.2.2.2.2.2.1 N Z hq18) kcRX9_222 oyX9_takesFirst (ci := 9) (T := TX9) (N := 23) rfl (by decide) ho11 ⟨by decide, by decide⟩ ⟨by decide, by decide⟩ (Nat.le_of_ble_eq_true rfl) rfl dX9_dismantles_30) ?_
        refine j_istore_n C dX9_dismantles_33 rfl (by decide) (L' := [(1, .int r18), (0, .ref v0)]) rfl ?_
        refine j_goto C dX9_dismantles_34 (tgt := 18) (by decide) ?_
        refine j_sub (L' := [(0, .ref v0), (1, .int r18)]) [1, 0] rfl ?_
        exact ih v0 r18 M18 r M' h
def fX9_dismantles (N : Nat) (Z : mZ) (a0 : Nat) (M : mM) : Option (Int32 × mM) := ck (okO Z a0 9) (bnd1 (Z.2.2.2 a0 0) (fun c2 => bnd1 (Z.2.2.2 a0 3) (fun c3 => bnd2 (fX9_copies N Z c2 c3 M) (fun _ M4 => fX9_dismantles_18 N Z N a0 (1 : Int32) (sI M4 a0 16 (0 : Int32))))))
set_option maxHeartbeats 4000000 in
set_option maxRecDepth 100000 in
theorem ctX9_dismantles {G : mG} {l : Launch} (hl : l.stackTraces = false) (N : Nat) (Z : mZ) {a0 : Nat} {M : mM} {r : Int32} {M' : mM} (h : fX9_dismantles N Z a0 M = some (r, M')) : CT G l yX9_dismantles (.code yX9_dismantles cX9_dismantles 2 (some .boolean)) rmX9_dismantles [.ref a0] Z M (.inl (some (.int r))) Z M' := by
  unfold fX9_dismantles at h
  refine CT.of hl (by decide) (Nat.le_of_ble_eq_true rfl) ?_
  intro p e s m args below meth c C hnm
  refine j_sub (L' := [(0, .ref a0)]) [0] rfl ?_
  refine j_aload_n C dX9_dismantles_0 rfl 0 rfl ?_
  obtain ⟨ho1, h⟩ := ck_spec h
  obtain ⟨c2, hr2, h⟩ := bnd1_spec h
  refine j_getR C (cn := RX9) (T := TX9) (N := 23) (ci := 9) rfl iX9 ho1 0 (by decide) rfl fwRX9_7 dX9_dismantles_1 hr2 ?_
  refine j_aload_n C dX9_dismantles_4 rfl 0 rfl ?_
  obtain ⟨c3, hr3, h⟩ := bnd1_spec h
  refine j_getR C (cn := RX9) (T := TX9) (N := 23) (ci := 9) rfl iX9 ho1 3 (by decide) rfl fwRX9_19 dX9_dismantles_5 hr3 ?_
  obtain ⟨_, M4, hq4, h⟩ := bnd2_spec h
  refine j_run0 (c_S C (As := [.ref c2, .ref c3]) (rest := []) (ctX9_copies C.2.2.2.2.2.2.2.2.1 N Z hq4) kcRX9_65 oyX9_copies ⟨by decide, by decide⟩ ⟨by decide, by decide⟩ (Nat.le_of_ble_eq_true rfl) rfl dX9_dismantles_8) ?_
  refine j_aload_n C dX9_dismantles_11 rfl 0 rfl ?_
  refine j_iconst C dX9_dismantles_12 (v := (0 : Int32)) (by decide) ?_
  refine j_putI C tyX9 tyX9_ok nmX9 (cn := RX9) (T := TX9) (N := 23) (ci := 9) rfl iX9 ho1 16 (by decide) rfl fwRX9_216 ⟨rfl, rfl⟩ dX9_dismantles_13 ?_
  refine j_iconst C dX9_dismantles_16 (v := (1 : Int32)) (by decide) ?_
  refine j_istore_n C dX9_dismantles_17 rfl (by decide) (L' := [(1, .int (1 : Int32)), (0, .ref a0)]) rfl ?_
  refine j_sub (L' := [(0, .ref a0), (1, .int (1 : Int32))]) [1, 0] rfl ?_
  exact tX9_dismantles_18 C hnm N Z N a0 (1 : Int32) (sI M4 a0 16 (0 : Int32)) _ _ h
-- ScaffoldPlannerModel dismantling
theorem kcRX9_226 : okV RX9 226 yX9_dismantles (.code yX9_dismantles cX9_dismantles 2 (some .boolean)) = true := by decide +kernel
theorem oyX9_dismantles : okY yX9_dismantles 0 := ⟨by decide +kernel, by decide +kernel, by decide +kernel⟩
abbrev rmX9_dismantling : Room := { frames := 8, cells := 0, slots := 0, locals := 187 }
theorem dX9_dismantling_0 : decode cX9_dismantling 0 = .ok (.aload_n 0, 1) := by decide +kernel
theorem dX9_dismantling_1 : decode cX9_dismantling 1 = .ok (.aload_n 0, 1) := by decide +kernel
theorem dX9_dismantling_2 : decode cX9_dismantling 2 = .ok (.invokevirtual 226, 3) := by decide +kernel
theorem dX9_dismantling_5 : decode cX9_dismantling 5 = .ok (.ifCond .eq 7, 3) := by decide +kernel
theorem dX9_dismantling_8 : decode cX9_dismantling 8 = .ok (.iconst 0, 1) := by decide +kernel
theorem dX9_dismantling_9 : decode cX9_dismantling 9 = .ok (.goto 4, 3) := by decide +kernel
theorem dX9_dismantling_12 : decode cX9_dismantling 12 = .ok (.iconst 1, 1) := by decide +kernel
theorem dX9_dismantling_13 : decode cX9_dismantling 13 = .ok (.putfield 50, 3) := by decide +kernel
theorem dX9_dismantling_16 : decode cX9_dismantling 16 = .ok (.aload_n 0, 1) := by decide +kernel
theorem dX9_dismantling_17 : decode cX9_dismantling 17 = .ok (.getfield 50, 3) := by decide +kernel
theorem dX9_dismantling_20 : decode cX9_dismantling 20 = .ok (.ifCond .le 7, 3) := by decide +kernel
theorem dX9_dismantling_23 : decode cX9_dismantling 23 = .ok (.iconst 0, 1) := by decide +kernel
theorem dX9_dismantling_24 : decode cX9_dismantling 24 = .ok (.goto 7, 3) := by decide +kernel
theorem dX9_dismantling_27 : decode cX9_dismantling 27 = .ok (.aload_n 0, 1) := by decide +kernel
theorem dX9_dismantling_28 : decode cX9_dismantling 28 = .ok (.getfield 216, 3) := by decide +kernel
theorem dX9_dismantling_31 : decode cX9_dismantling 31 = .ok (.ireturn, 1) := by decide +kernel
def fX9_dismantling (N : Nat) (Z : mZ) (a0 : Nat) (M : mM) : Option (Int32 × mM) := ck (okO Z a0 9) (bnd2 (fX9_dismantles N Z a0 M) (fun r2 M2 => if r2 = 0 then if ((sI M2 a0 9 (1 : Int32)).1 a0 9) ≤ 0 then some (((sI M2 a0 9 (1 : Int32)).1 a0 16), (sI M2 a0 9 (1 : Int32))) else some ((0 : Int32), (sI M2 a0 9 (1 : Int32))) else if ((sI M2 a0 9 (0 : Int32)).1 a0 9) ≤ 0 then some (((sI M2 a0 9 (0 : Int32)).1 a0 16), (sI M2 a0 9 (0 : Int32))) else some ((0 : Int32), (sI M2 a0 9 (0 : Int32)))))
set_option maxHeartbeats 4000000 in
set_option maxRecDepth 100000 in
theorem ctX9_dismantling {G : mG} {l : Launch} (hl : l.stackTraces = false) (N : Nat) (Z : mZ) {a0 : Nat} {M : mM} {r : Int32} {M' : mM} (h : fX9_dismantling N Z a0 M = some (r, M')) : CT G l yX9_dismantling (.code yX9_dismantling cX9_dismantling 1 (some .int)) rmX9_dismantling [.ref a0] Z M (.inl (some (.int r))) Z M' := by
  unfold fX9_dismantling at h
  refine CT.of hl (by decide) (Nat.le_of_ble_eq_true rfl) ?_
  intro p e s m args below meth c C hnm
  refine j_sub (L' := [(0, .ref a0)]) [0] rfl ?_
  refine j_aload_n C dX9_dismantling_0 rfl 0 rfl ?_
  refine j_aload_n C dX9_dismantling_1 rfl 0 rfl ?_
  obtain ⟨ho1, h⟩ := ck_spec h
  obtain ⟨r2, M2, hq2, h⟩ := bnd2_spec h
  refine j_run1 (c_V C (As := []) (rest := [.ref a0]) (ctX9_dismantles C.2.2.2.2.2.2.2.2.1 N Z hq2) kcRX9_226 oyX9_dismantles (ci := 9) (T := TX9) (N := 23) rfl (by decide) ho1 ⟨by decide, by decide⟩ ⟨by decide, by decide⟩ (Nat.le_of_ble_eq_true rfl) rfl dX9_dismantling_2) ?_
  refine j_if_eq C dX9_dismantling_5 (tgt := 12) (by decide) (fun hc3 => ?_) (fun hc3 => ?_)
  · rw [if_pos hc3] at h
    refine j_iconst C dX9_dismantling_12 (v := (1 : Int32)) (by decide) ?_
    refine j_putI C tyX9 tyX9_ok nmX9 (cn := RX9) (T := TX9) (N := 23) (ci := 9) rfl iX9 ho1 9 (by decide) rfl fwRX9_50 ⟨rfl, rfl⟩ dX9_dismantling_13 ?_
    refine j_aload_n C dX9_dismantling_16 rfl 0 rfl ?_
    refine j_getI C (cn := RX9) (T := TX9) (N := 23) (ci := 9) rfl iX9 ho1 9 (by decide) rfl fwRX9_50 dX9_dismantling_17 ?_
    refine j_if_le C dX9_dismantling_20 (tgt := 27) (by decide) (fun hc4 => ?_) (fun hc4 => ?_)
    · rw [if_pos hc4] at h
      refine j_aload_n C dX9_dismantling_27 rfl 0 rfl ?_
      refine j_getI C (cn := RX9) (T := TX9) (N := 23) (ci := 9) rfl iX9 ho1 16 (by decide) rfl fwRX9_216 dX9_dismantling_28 ?_
      cases h
      exact j_iret C rfl (by decide) (by decide) dX9_dismantling_31
    · rw [if_neg hc4] at h
      refine j_iconst C dX9_dismantling_23 (v := (0 : Int32)) (by decide) ?_
      refine j_goto C dX9_dismantling_24 (tgt := 31) (by decide) ?_
      cases h
      exact j_iret C rfl (by decide) (by decide) dX9_dismantling_31
  · rw [if_neg hc3] at h
    refine j_iconst C dX9_dismantling_8 (v := (0 : Int32)) (by decide) ?_
    refine j_goto C dX9_dismantling_9 (tgt := 13) (by decide) ?_
    refine j_putI C tyX9 tyX9_ok nmX9 (cn := RX9) (T := TX9) (N := 23) (ci := 9) rfl iX9 ho1 9 (by decide) rfl fwRX9_50 ⟨rfl, rfl⟩ dX9_dismantling_13 ?_
    refine j_aload_n C dX9_dismantling_16 rfl 0 rfl ?_
    refine j_getI C (cn := RX9) (T := TX9) (N := 23) (ci := 9) rfl iX9 ho1 9 (by decide) rfl fwRX9_50 dX9_dismantling_17 ?_
    refine j_if_le C dX9_dismantling_20 (tgt := 27) (by decide) (fun hc5 => ?_) (fun hc5 => ?_)
    · rw [if_pos hc5] at h
      refine j_aload_n C dX9_dismantling_27 rfl 0 rfl ?_
      refine j_getI C (cn := RX9) (T := TX9) (N := 23) (ci := 9) rfl iX9 ho1 16 (by decide) rfl fwRX9_216 dX9_dismantling_28 ?_
      cases h
      exact j_iret C rfl (by decide) (by decide) dX9_dismantling_31
    · rw [if_neg hc5] at h
      refine j_iconst C dX9_dismantling_23 (v := (0 : Int32)) (by decide) ?_
      refine j_goto C dX9_dismantling_24 (tgt := 31) (by decide) ?_
      cases h
      exact j_iret C rfl (by decide) (by decide) dX9_dismantling_31
-- ScaffoldPlannerModel work
abbrev rmX9_work : Room := { frames := 8, cells := 0, slots := 0, locals := 187 }
theorem dX9_work_0 : decode cX9_work 0 = .ok (.aload_n 0, 1) := by decide +kernel
theorem dX9_work_1 : decode cX9_work 1 = .ok (.iconst 0, 1) := by decide +kernel
theorem dX9_work_2 : decode cX9_work 2 = .ok (.putfield 50, 3) := by decide +kernel
theorem dX9_work_5 : decode cX9_work 5 = .ok (.iload_n 2, 1) := by decide +kernel
theorem dX9_work_6 : decode cX9_work 6 = .ok (.iconst 0, 1) := by decide +kernel
theorem dX9_work_7 : decode cX9_work 7 = .ok (.iconst 2, 1) := by decide +kernel
theorem dX9_work_8 : decode cX9_work 8 = .ok (.invokestatic 54, 3) := by decide +kernel
theorem dX9_work_11 : decode cX9_work 11 = .ok (.ifCond .ne 9, 3) := by decide +kernel
theorem dX9_work_14 : decode cX9_work 14 = .ok (.aload_n 0, 1) := by decide +kernel
theorem dX9_work_15 : decode cX9_work 15 = .ok (.iconst 1, 1) := by decide +kernel
theorem dX9_work_16 : decode cX9_work 16 = .ok (.invokevirtual 181, 3) := by decide +kernel
theorem dX9_work_19 : decode cX9_work 19 = .ok (.ireturn, 1) := by decide +kernel
theorem dX9_work_20 : decode cX9_work 20 = .ok (.aload_n 0, 1) := by decide +kernel
theorem dX9_work_21 : decode cX9_work 21 = .ok (.invokevirtual 226, 3) := by decide +kernel
theorem dX9_work_24 : decode cX9_work 24 = .ok (.pop, 1) := by decide +kernel
theorem dX9_work_25 : decode cX9_work 25 = .ok (.iload_n 1, 1) := by decide +kernel
theorem dX9_work_26 : decode cX9_work 26 = .ok (.iconst 0, 1) := by decide +kernel
theorem dX9_work_27 : decode cX9_work 27 = .ok (.aload_n 0, 1) := by decide +kernel
theorem dX9_work_28 : decode cX9_work 28 = .ok (.getfield 216, 3) := by decide +kernel
theorem dX9_work_31 : decode cX9_work 31 = .ok (.iconst 1, 1) := by decide +kernel
theorem dX9_work_32 : decode cX9_work 32 = .ok (.isub, 1) := by decide +kernel
theorem dX9_work_33 : decode cX9_work 33 = .ok (.invokestatic 54, 3) := by decide +kernel
theorem dX9_work_36 : decode cX9_work 36 = .ok (.ifCond .eq 16, 3) := by decide +kernel
theorem dX9_work_39 : decode cX9_work 39 = .ok (.aload_n 0, 1) := by decide +kernel
theorem dX9_work_40 : decode cX9_work 40 = .ok (.getfield 34, 3) := by decide +kernel
theorem dX9_work_43 : decode cX9_work 43 = .ok (.iconst 3, 1) := by decide +kernel
theorem dX9_work_44 : decode cX9_work 44 = .ok (.iload_n 1, 1) := by decide +kernel
theorem dX9_work_45 : decode cX9_work 45 = .ok (.imul, 1) := by decide +kernel
theorem dX9_work_46 : decode cX9_work 46 = .ok (.iload_n 2, 1) := by decide +kernel
theorem dX9_work_47 : decode cX9_work 47 = .ok (.iadd, 1) := by decide +kernel
theorem dX9_work_48 : decode cX9_work 48 = .ok (.iaload, 1) := by decide +kernel
theorem dX9_work_49 : decode cX9_work 49 = .ok (.goto 8, 3) := by decide +kernel
theorem dX9_work_52 : decode cX9_work 52 = .ok (.aload_n 0, 1) := by decide +kernel
theorem dX9_work_53 : decode cX9_work 53 = .ok (.iconst 2, 1) := by decide +kernel
theorem dX9_work_54 : decode cX9_work 54 = .ok (.invokevirtual 181, 3) := by decide +kernel
theorem dX9_work_57 : decode cX9_work 57 = .ok (.ireturn, 1) := by decide +kernel
def fX9_work (N : Nat) (Z : mZ) (a0 : Nat) (a1 : Int32) (a2 : Int32) (M : mM) : Option (Int32 × mM) := ck (okO Z a0 9) (bnd2 (fX9_in N Z a2 (0 : Int32) (2 : Int32) (sI M a0 9 (0 : Int32))) (fun r2 M2 => if r2 = 0 then bnd2 (fX9_fails N Z a0 (1 : Int32) M2) (fun r4 M4 => some (r4, M4)) else bnd2 (fX9_dismantles N Z a0 M2) (fun r5 M5 => bnd2 (fX9_in N Z a1 (0 : Int32) ((M5.1 a0 16) - (1 : Int32)) M5) (fun r6 M6 => if r6 = 0 then bnd2 (fX9_fails N Z a0 (2 : Int32) M6) (fun r8 M8 => some (r8, M8)) else bnd1 (Z.2.2.2 a0 15) (fun c9 => ck (okI Z c9) (ck (inB (((3 : Int32) * a1) + a2) (Z.2.2.1 c9)) (some ((M6.1 c9 ((((3 : Int32) * a1) + a2)).toNatClampNeg), M6))))))))
set_option maxHeartbeats 4000000 in
set_option maxRecDepth 100000 in
theorem ctX9_work {G : mG} {l : Launch} (hl : l.stackTraces = false) (N : Nat) (Z : mZ) {a0 : Nat} {a1 : Int32} {a2 : Int32} {M : mM} {r : Int32} {M' : mM} (h : fX9_work N Z a0 a1 a2 M = some (r, M')) : CT G l yX9_work (.code yX9_work cX9_work 3 (some .int)) rmX9_work [.ref a0, .int a1, .int a2] Z M (.inl (some (.int r))) Z M' := by
  unfold fX9_work at h
  refine CT.of hl (by decide) (Nat.le_of_ble_eq_true rfl) ?_
  intro p e s m args below meth c C hnm
  refine j_sub (L' := [(0, .ref a0), (1, .int a1), (2, .int a2)]) [0, 1, 2] rfl ?_
  refine j_aload_n C dX9_work_0 rfl 0 rfl ?_
  refine j_iconst C dX9_work_1 (v := (0 : Int32)) (by decide) ?_
  obtain ⟨ho1, h⟩ := ck_spec h
  refine j_putI C tyX9 tyX9_ok nmX9 (cn := RX9) (T := TX9) (N := 23) (ci := 9) rfl iX9 ho1 9 (by decide) rfl fwRX9_50 ⟨rfl, rfl⟩ dX9_work_2 ?_
  refine j_iload_n C dX9_work_5 rfl 2 rfl ?_
  refine j_iconst C dX9_work_6 (v := (0 : Int32)) (by decide) ?_
  refine j_iconst C dX9_work_7 (v := (2 : Int32)) (by decide) ?_
  obtain ⟨r2, M2, hq2, h⟩ := bnd2_spec h
  refine j_run1 (c_S C (As := [.int a2, .int (0 : Int32), .int (2 : Int32)]) (rest := []) (ctX9_in C.2.2.2.2.2.2.2.2.1 N Z hq2) kcRX9_54 oyX9_in ⟨by decide, by decide⟩ ⟨by decide, by decide⟩ (Nat.le_of_ble_eq_true rfl) rfl dX9_work_8) ?_
  refine j_if_ne C dX9_work_11 (tgt := 20) (by decide) (fun hc3 => ?_) (fun hc3 => ?_)
  · rw [if_neg hc3] at h
    refine j_aload_n C dX9_work_20 rfl 0 rfl ?_
    obtain ⟨r5, M5, hq5, h⟩ := bnd2_spec h
    refine j_run1 (c_V C (As := []) (rest := []) (ctX9_dismantles C.2.2.2.2.2.2.2.2.1 N Z hq5) kcRX9_226 oyX9_dismantles (ci := 9) (T := TX9) (N := 23) rfl (by decide) ho1 ⟨by decide, by decide⟩ ⟨by decide, by decide⟩ (Nat.le_of_ble_eq_true rfl) rfl dX9_work_21) ?_
    refine j_pop C dX9_work_24 rfl ?_
    refine j_iload_n C dX9_work_25 rfl 1 rfl ?_
    refine j_iconst C dX9_work_26 (v := (0 : Int32)) (by decide) ?_
    refine j_aload_n C dX9_work_27 rfl 0 rfl ?_
    refine j_getI C (cn := RX9) (T := TX9) (N := 23) (ci := 9) rfl iX9 ho1 16 (by decide) rfl fwRX9_216 dX9_work_28 ?_
    refine j_iconst C dX9_work_31 (v := (1 : Int32)) (by decide) ?_
    refine j_isub C dX9_work_32 ?_
    obtain ⟨r6, M6, hq6, h⟩ := bnd2_spec h
    refine j_run1 (c_S C (As := [.int a1, .int (0 : Int32), .int ((M5.1 a0 16) - (1 : Int32))]) (rest := []) (ctX9_in C.2.2.2.2.2.2.2.2.1 N Z hq6) kcRX9_54 oyX9_in ⟨by decide, by decide⟩ ⟨by decide, by decide⟩ (Nat.le_of_ble_eq_true rfl) rfl dX9_work_33) ?_
    refine j_if_eq C dX9_work_36 (tgt := 52) (by decide) (fun hc7 => ?_) (fun hc7 => ?_)
    · rw [if_pos hc7] at h
      refine j_aload_n C dX9_work_52 rfl 0 rfl ?_
      refine j_iconst C dX9_work_53 (v := (2 : Int32)) (by decide) ?_
      obtain ⟨r8, M8, hq8, h⟩ := bnd2_spec h
      refine j_run1 (c_V C (As := [.int (2 : Int32)]) (rest := []) (ctX9_fails C.2.2.2.2.2.2.2.2.1 N Z hq8) kcRX9_181 oyX9_fails (ci := 9) (T := TX9) (N := 23) rfl (by decide) ho1 ⟨by decide, by decide⟩ ⟨by decide, by decide⟩ (Nat.le_of_ble_eq_true rfl) rfl dX9_work_54) ?_
      cases h
      exact j_iret C rfl (by decide) (by decide) dX9_work_57
    · rw [if_neg hc7] at h
      refine j_aload_n C dX9_work_39 rfl 0 rfl ?_
      obtain ⟨c9, hr9, h⟩ := bnd1_spec h
      refine j_getR C (cn := RX9) (T := TX9) (N := 23) (ci := 9) rfl iX9 ho1 15 (by decide) rfl fwRX9_34 dX9_work_40 hr9 ?_
      refine j_iconst C dX9_work_43 (v := (3 : Int32)) (by decide) ?_
      refine j_iload_n C dX9_work_44 rfl 1 rfl ?_
      refine j_imul C dX9_work_45 ?_
      refine j_iload_n C dX9_work_46 rfl 2 rfl ?_
      refine j_iadd C dX9_work_47 ?_
      obtain ⟨ho10, h⟩ := ck_spec h
      obtain ⟨ho11, h⟩ := ck_spec h
      refine j_iald C ho10 ho11 dX9_work_48 ?_
      refine j_goto C dX9_work_49 (tgt := 57) (by decide) ?_
      cases h
      exact j_iret C rfl (by decide) (by decide) dX9_work_57
  · rw [if_pos hc3] at h
    refine j_aload_n C dX9_work_14 rfl 0 rfl ?_
    refine j_iconst C dX9_work_15 (v := (1 : Int32)) (by decide) ?_
    obtain ⟨r4, M4, hq4, h⟩ := bnd2_spec h
    refine j_run1 (c_V C (As := [.int (1 : Int32)]) (rest := []) (ctX9_fails C.2.2.2.2.2.2.2.2.1 N Z hq4) kcRX9_181 oyX9_fails (ci := 9) (T := TX9) (N := 23) rfl (by decide) ho1 ⟨by decide, by decide⟩ ⟨by decide, by decide⟩ (Nat.le_of_ble_eq_true rfl) rfl dX9_work_16) ?_
    cases h
    exact j_iret C rfl (by decide) (by decide) dX9_work_19
-- ScaffoldPlannerModel reached
abbrev rmX9_reached : Room := { frames := 4, cells := 0, slots := 0, locals := 91 }
theorem dX9_reached_0 : decode cX9_reached 0 = .ok (.aload_n 0, 1) := by decide +kernel
theorem dX9_reached_1 : decode cX9_reached 1 = .ok (.invokevirtual 139, 3) := by decide +kernel
theorem dX9_reached_4 : decode cX9_reached 4 = .ok (.aload_n 0, 1) := by decide +kernel
theorem dX9_reached_5 : decode cX9_reached 5 = .ok (.getfield 113, 3) := by decide +kernel
theorem dX9_reached_8 : decode cX9_reached 8 = .ok (.ireturn, 1) := by decide +kernel
def fX9_reached (N : Nat) (Z : mZ) (a0 : Nat) (M : mM) : Option (Int32 × mM) := ck (okO Z a0 9) (bnd2 (fX9_walks N Z a0 M) (fun _ M2 => some ((M2.1 a0 13), M2)))
set_option maxHeartbeats 4000000 in
set_option maxRecDepth 100000 in
theorem ctX9_reached {G : mG} {l : Launch} (hl : l.stackTraces = false) (N : Nat) (Z : mZ) {a0 : Nat} {M : mM} {r : Int32} {M' : mM} (h : fX9_reached N Z a0 M = some (r, M')) : CT G l yX9_reached (.code yX9_reached cX9_reached 1 (some .int)) rmX9_reached [.ref a0] Z M (.inl (some (.int r))) Z M' := by
  unfold fX9_reached at h
  refine CT.of hl (by decide) (Nat.le_of_ble_eq_true rfl) ?_
  intro p e s m args below meth c C hnm
  refine j_sub (L' := [(0, .ref a0)]) [0] rfl ?_
  refine j_aload_n C dX9_reached_0 rfl 0 rfl ?_
  obtain ⟨ho1, h⟩ := ck_spec h
  obtain ⟨_, M2, hq2, h⟩ := bnd2_spec h
  refine j_run0 (c_V C (As := []) (rest := []) (ctX9_walks C.2.2.2.2.2.2.2.2.1 N Z hq2) kcRX9_139 oyX9_walks (ci := 9) (T := TX9) (N := 23) rfl (by decide) ho1 ⟨by decide, by decide⟩ ⟨by decide, by decide⟩ (Nat.le_of_ble_eq_true rfl) rfl dX9_reached_1) ?_
  refine j_aload_n C dX9_reached_4 rfl 0 rfl ?_
  refine j_getI C (cn := RX9) (T := TX9) (N := 23) (ci := 9) rfl iX9 ho1 13 (by decide) rfl fwRX9_113 dX9_reached_5 ?_
  cases h
  exact j_iret C rfl (by decide) (by decide) dX9_reached_8
-- ScaffoldPlannerModel account
theorem kcRX9_229 : okV RX9 229 yX9_reached (.code yX9_reached cX9_reached 1 (some .int)) = true := by decide +kernel
theorem oyX9_reached : okY yX9_reached 0 := ⟨by decide +kernel, by decide +kernel, by decide +kernel⟩
abbrev rmX9_account : Room := { frames := 5, cells := 0, slots := 0, locals := 111 }
theorem dX9_account_0 : decode cX9_account 0 = .ok (.aload_n 0, 1) := by decide +kernel
theorem dX9_account_1 : decode cX9_account 1 = .ok (.iload_n 1, 1) := by decide +kernel
theorem dX9_account_2 : decode cX9_account 2 = .ok (.iconst 0, 1) := by decide +kernel
theorem dX9_account_3 : decode cX9_account 3 = .ok (.bipush 17, 2) := by decide +kernel
theorem dX9_account_5 : decode cX9_account 5 = .ok (.invokestatic 54, 3) := by decide +kernel
theorem dX9_account_8 : decode cX9_account 8 = .ok (.ifCond .eq 7, 3) := by decide +kernel
theorem dX9_account_11 : decode cX9_account 11 = .ok (.iconst 0, 1) := by decide +kernel
theorem dX9_account_12 : decode cX9_account 12 = .ok (.goto 4, 3) := by decide +kernel
theorem dX9_account_15 : decode cX9_account 15 = .ok (.iconst 1, 1) := by decide +kernel
theorem dX9_account_16 : decode cX9_account 16 = .ok (.putfield 50, 3) := by decide +kernel
theorem dX9_account_19 : decode cX9_account 19 = .ok (.aload_n 0, 1) := by decide +kernel
theorem dX9_account_20 : decode cX9_account 20 = .ok (.getfield 50, 3) := by decide +kernel
theorem dX9_account_23 : decode cX9_account 23 = .ok (.ifCond .le 5, 3) := by decide +kernel
theorem dX9_account_26 : decode cX9_account 26 = .ok (.iconst 0, 1) := by decide +kernel
theorem dX9_account_27 : decode cX9_account 27 = .ok (.ireturn, 1) := by decide +kernel
theorem dX9_account_28 : decode cX9_account 28 = .ok (.iload_n 1, 1) := by decide +kernel
theorem dX9_account_29 : decode cX9_account 29 = .ok (.bipush 6, 2) := by decide +kernel
theorem dX9_account_31 : decode cX9_account 31 = .ok (.if_icmp .ge 9, 3) := by decide +kernel
theorem dX9_account_34 : decode cX9_account 34 = .ok (.aload_n 0, 1) := by decide +kernel
theorem dX9_account_35 : decode cX9_account 35 = .ok (.iload_n 1, 1) := by decide +kernel
theorem dX9_account_36 : decode cX9_account 36 = .ok (.invokevirtual 197, 3) := by decide +kernel
theorem dX9_account_39 : decode cX9_account 39 = .ok (.ireturn, 1) := by decide +kernel
theorem dX9_account_40 : decode cX9_account 40 = .ok (.iload_n 1, 1) := by decide +kernel
theorem dX9_account_41 : decode cX9_account 41 = .ok (.bipush 12, 2) := by decide +kernel
theorem dX9_account_43 : decode cX9_account 43 = .ok (.if_icmp .ge 17, 3) := by decide +kernel
theorem dX9_account_46 : decode cX9_account 46 = .ok (.aload_n 0, 1) := by decide +kernel
theorem dX9_account_47 : decode cX9_account 47 = .ok (.getfield 7, 3) := by decide +kernel
theorem dX9_account_50 : decode cX9_account 50 = .ok (.iconst 5, 1) := by decide +kernel
theorem dX9_account_51 : decode cX9_account 51 = .ok (.iload_n 1, 1) := by decide +kernel
theorem dX9_account_52 : decode cX9_account 52 = .ok (.iadd, 1) := by decide +kernel
theorem dX9_account_53 : decode cX9_account 53 = .ok (.bipush 6, 2) := by decide +kernel
theorem dX9_account_55 : decode cX9_account 55 = .ok (.isub, 1) := by decide +kernel
theorem dX9_account_56 : decode cX9_account 56 = .ok (.iaload, 1) := by decide +kernel
theorem dX9_account_57 : decode cX9_account 57 = .ok (.goto 55, 3) := by decide +kernel
theorem dX9_account_60 : decode cX9_account 60 = .ok (.iload_n 1, 1) := by decide +kernel
theorem dX9_account_61 : decode cX9_account 61 = .ok (.bipush 12, 2) := by decide +kernel
theorem dX9_account_63 : decode cX9_account 63 = .ok (.if_icmp .ne 12, 3) := by decide +kernel
theorem dX9_account_66 : decode cX9_account 66 = .ok (.aload_n 0, 1) := by decide +kernel
theorem dX9_account_67 : decode cX9_account 67 = .ok (.getfield 7, 3) := by decide +kernel
theorem dX9_account_70 : decode cX9_account 70 = .ok (.iconst 0, 1) := by decide +kernel
theorem dX9_account_71 : decode cX9_account 71 = .ok (.iaload, 1) := by decide +kernel
theorem dX9_account_72 : decode cX9_account 72 = .ok (.goto 40, 3) := by decide +kernel
theorem dX9_account_75 : decode cX9_account 75 = .ok (.iload_n 1, 1) := by decide +kernel
theorem dX9_account_76 : decode cX9_account 76 = .ok (.bipush 13, 2) := by decide +kernel
theorem dX9_account_78 : decode cX9_account 78 = .ok (.if_icmp .ne 12, 3) := by decide +kernel
theorem dX9_account_81 : decode cX9_account 81 = .ok (.aload_n 0, 1) := by decide +kernel
theorem dX9_account_82 : decode cX9_account 82 = .ok (.getfield 7, 3) := by decide +kernel
theorem dX9_account_85 : decode cX9_account 85 = .ok (.iconst 4, 1) := by decide +kernel
theorem dX9_account_86 : decode cX9_account 86 = .ok (.iaload, 1) := by decide +kernel
theorem dX9_account_87 : decode cX9_account 87 = .ok (.goto 25, 3) := by decide +kernel
theorem dX9_account_90 : decode cX9_account 90 = .ok (.iload_n 1, 1) := by decide +kernel
theorem dX9_account_91 : decode cX9_account 91 = .ok (.bipush 14, 2) := by decide +kernel
theorem dX9_account_93 : decode cX9_account 93 = .ok (.if_icmp .ne 10, 3) := by decide +kernel
theorem dX9_account_96 : decode cX9_account 96 = .ok (.aload_n 0, 1) := by decide +kernel
theorem dX9_account_97 : decode cX9_account 97 = .ok (.invokevirtual 229, 3) := by decide +kernel
theorem dX9_account_100 : decode cX9_account 100 = .ok (.goto 12, 3) := by decide +kernel
theorem dX9_account_103 : decode cX9_account 103 = .ok (.aload_n 0, 1) := by decide +kernel
theorem dX9_account_104 : decode cX9_account 104 = .ok (.getfield 7, 3) := by decide +kernel
theorem dX9_account_107 : decode cX9_account 107 = .ok (.iload_n 1, 1) := by decide +kernel
theorem dX9_account_108 : decode cX9_account 108 = .ok (.bipush 14, 2) := by decide +kernel
theorem dX9_account_110 : decode cX9_account 110 = .ok (.isub, 1) := by decide +kernel
theorem dX9_account_111 : decode cX9_account 111 = .ok (.iaload, 1) := by decide +kernel
theorem dX9_account_112 : decode cX9_account 112 = .ok (.ireturn, 1) := by decide +kernel
def fX9_account_16 (N : Nat) (Z : mZ) (v0 : Nat) (v1 : Int32) (x0 : Int32) (x1 : Nat) (M : mM) : Option (Int32 × mM) := ck (okO Z x1 9) (ck (okO Z v0 9) (if ((sI M x1 9 x0).1 v0 9) ≤ 0 then if (6 : Int32) ≤ v1 then if (12 : Int32) ≤ v1 then if v1 = (12 : Int32) then bnd1 (Z.2.2.2 v0 0) (fun c9 => ck (okI Z c9) (ck (inB (0 : Int32) (Z.2.2.1 c9)) (some (((sI M x1 9 x0).1 c9 ((0 : Int32)).toNatClampNeg), (sI M x1 9 x0))))) else if v1 = (13 : Int32) then bnd1 (Z.2.2.2 v0 0) (fun c13 => ck (okI Z c13) (ck (inB (4 : Int32) (Z.2.2.1 c13)) (some (((sI M x1 9 x0).1 c13 ((4 : Int32)).toNatClampNeg), (sI M x1 9 x0))))) else if v1 = (14 : Int32) then bnd2 (fX9_reached N Z v0 (sI M x1 9 x0)) (fun r17 M17 => some (r17, M17)) else bnd1 (Z.2.2.2 v0 0) (fun c18 => ck (okI Z c18) (ck (inB (v1 - (14 : Int32)) (Z.2.2.1 c18)) (some (((sI M x1 9 x0).1 c18 ((v1 - (14 : Int32))).toNatClampNeg), (sI M x1 9 x0))))) else bnd1 (Z.2.2.2 v0 0) (fun c21 => ck (okI Z c21) (ck (inB (((5 : Int32) + v1) - (6 : Int32)) (Z.2.2.1 c21)) (some (((sI M x1 9 x0).1 c21 ((((5 : Int32) + v1) - (6 : Int32))).toNatClampNeg), (sI M x1 9 x0))))) else bnd2 (fX9_pieces N Z v0 v1 (sI M x1 9 x0)) (fun r24 M24 => some (r24, M24)) else some ((0 : Int32), (sI M x1 9 x0))))
set_option maxHeartbeats 4000000 in
set_option maxRecDepth 100000 in
theorem tX9_account_16 {G : mG} {p : Program} {l : Launch} {e : Env} {s : State} {m : MethodId} {args : Array Value} {below : List Frame} {meth : Method} {c : Code} (C : Cx G p l s m args meth c RX9 cX9_account 2 (some .int) []) (hnm : meth.name = yX9_account.name) (N : Nat) (Z : mZ) : ∀ (v0 : Nat) (v1 : Int32) (x0 : Int32) (x1 : Nat) (M : mM) (r : Int32) (M' : mM), fX9_account_16 N Z v0 v1 x0 x1 M = some (r, M') → JJ G p l e rmX9_account s m args below meth c 2 (mEnd G below args s rmX9_account (.inl (some (.int r))) Z M') 0 0 16 [(0, .ref v0), (1, .int v1)] [.int x0, .ref x1] Z M := by
  intro v0 v1 x0 x1 M r M' h
  unfold fX9_account_16 at h
  obtain ⟨ho3, h⟩ := ck_spec h
  refine j_putI C tyX9 tyX9_ok nmX9 (cn := RX9) (T := TX9) (N := 23) (ci := 9) rfl iX9 ho3 9 (by decide) rfl fwRX9_50 ⟨rfl, rfl⟩ dX9_account_16 ?_
  refine j_aload_n C dX9_account_19 rfl 0 rfl ?_
  obtain ⟨ho4, h⟩ := ck_spec h
  refine j_getI C (cn := RX9) (T := TX9) (N := 23) (ci := 9) rfl iX9 ho4 9 (by decide) rfl fwRX9_50 dX9_account_20 ?_
  refine j_if_le C dX9_account_23 (tgt := 28) (by decide) (fun hc5 => ?_) (fun hc5 => ?_)
  · rw [if_pos hc5] at h
    refine j_iload_n C dX9_account_28 rfl 1 rfl ?_
    refine j_bipush C dX9_account_29 (v := (6 : Int32)) (by decide) ?_
    refine j_icmp_ge C dX9_account_31 (tgt := 40) (by decide) (fun hc6 => ?_) (fun hc6 => ?_)
    · rw [if_pos hc6] at h
      refine j_iload_n C dX9_account_40 rfl 1 rfl ?_
      refine j_bipush C dX9_account_41 (v := (12 : Int32)) (by decide) ?_
      refine j_icmp_ge C dX9_account_43 (tgt := 60) (by decide) (fun hc7 => ?_) (fun hc7 => ?_)
      · rw [if_pos hc7] at h
        refine j_iload_n C dX9_account_60 rfl 1 rfl ?_
        refine j_bipush C dX9_account_61 (v := (12 : Int32)) (by decide) ?_
        refine j_icmp_ne C dX9_account_63 (tgt := 75) (by decide) (fun hc8 => ?_) (fun hc8 => ?_)
        · rw [if_neg hc8] at h
          refine j_iload_n C dX9_account_75 rfl 1 rfl ?_
          refine j_bipush C dX9_account_76 (v := (13 : Int32)) (by decide) ?_
          refine j_icmp_ne C dX9_account_78 (tgt := 90) (by decide) (fun hc12 => ?_) (fun hc12 => ?_)
          · rw [if_neg hc12] at h
            refine j_iload_n C dX9_account_90 rfl 1 rfl ?_
            refine j_bipush C dX9_account_91 (v := (14 : Int32)) (by decide) ?_
            refine j_icmp_ne C dX9_account_93 (tgt := 103) (by decide) (fun hc16 => ?_) (fun hc16 => ?_)
            · rw [if_neg hc16] at h
              refine j_aload_n C dX9_account_103 rfl 0 rfl ?_
              obtain ⟨c18, hr18, h⟩ := bnd1_spec h
              refine j_getR C (cn := RX9) (T := TX9) (N := 23) (ci := 9) rfl iX9 ho4 0 (by decide) rfl fwRX9_7 dX9_account_104 hr18 ?_
              refine j_iload_n C dX9_account_107 rfl 1 rfl ?_
              refine j_bipush C dX9_account_108 (v := (14 : Int32)) (by decide) ?_
              refine j_isub C dX9_account_110 ?_
              obtain ⟨ho19, h⟩ := ck_spec h
              obtain ⟨ho20, h⟩ := ck_spec h
              refine j_iald C ho19 ho20 dX9_account_111 ?_
              cases h
              exact j_iret C rfl (by decide) (by decide) dX9_account_112
            · rw [if_pos hc16] at h
              refine j_aload_n C dX9_account_96 rfl 0 rfl ?_
              obtain ⟨r17, M17, hq17, h⟩ := bnd2_spec h
              refine j_run1 (c_V C (As := []) (rest := []) (ctX9_reached C.2.2.2.2.2.2.2.2.1 N Z hq17) kcRX9_229 oyX9_reached (ci := 9) (T := TX9) (N := 23) rfl (by decide) ho4 ⟨by decide, by decide⟩ ⟨by decide, by decide⟩ (Nat.le_of_ble_eq_true rfl) rfl dX9_account_97) ?_
              refine j_goto C dX9_account_100 (tgt := 112) (by decide) ?_
              cases h
              exact j_iret C rfl (by decide) (by decide) dX9_account_112
          · rw [if_pos hc12] at h
            refine j_aload_n C dX9_account_81 rfl 0 rfl ?_
            obtain ⟨c13, hr13, h⟩ := bnd1_spec h
            refine j_getR C (cn := RX9) (T := TX9) (N := 23) (ci := 9) rfl iX9 ho4 0 (by decide) rfl fwRX9_7 dX9_account_82 hr13 ?_
            refine j_iconst C dX9_account_85 (v := (4 : Int32)) (by decide) ?_
            obtain ⟨ho14, h⟩ := ck_spec h
            obtain ⟨ho15, h⟩ := ck_spec h
            refine j_iald C ho14 ho15 dX9_account_86 ?_
            refine j_goto C dX9_account_87 (tgt := 112) (by decide) ?_
            cases h
            exact j_iret C rfl (by decide) (by decide) dX9_account_112
        · rw [if_pos hc8] at h
          refine j_aload_n C dX9_account_66 rfl 0 rfl ?_
          obtain ⟨c9, hr9, h⟩ := bnd1_spec h
          refine j_getR C (cn := RX9) (T := TX9) (N := 23) (ci := 9) rfl iX9 ho4 0 (by decide) rfl fwRX9_7 dX9_account_67 hr9 ?_
          refine j_iconst C dX9_account_70 (v := (0 : Int32)) (by decide) ?_
          obtain ⟨ho10, h⟩ := ck_spec h
          obtain ⟨ho11, h⟩ := ck_spec h
          refine j_iald C ho10 ho11 dX9_account_71 ?_
          refine j_goto C dX9_account_72 (tgt := 112) (by decide) ?_
          cases h
          exact j_iret C rfl (by decide) (by decide) dX9_account_112
      · rw [if_neg hc7] at h
        refine j_aload_n C dX9_account_46 rfl 0 rfl ?_
        obtain ⟨c21, hr21, h⟩ := bnd1_spec h
        refine j_getR C (cn := RX9) (T := TX9) (N := 23) (ci := 9) rfl iX9 ho4 0 (by decide) rfl fwRX9_7 dX9_account_47 hr21 ?_
        refine j_iconst C dX9_account_50 (v := (5 : Int32)) (by decide) ?_
        refine j_iload_n C dX9_account_51 rfl 1 rfl ?_
        refine j_iadd C dX9_account_52 ?_
        refine j_bipush C dX9_account_53 (v := (6 : Int32)) (by decide) ?_
        refine j_isub C dX9_account_55 ?_
        obtain ⟨ho22, h⟩ := ck_spec h
        obtain ⟨ho23, h⟩ := ck_spec h
        refine j_iald C ho22 ho23 dX9_account_56 ?_
        refine j_goto C dX9_account_57 (tgt := 112) (by decide) ?_
        cases h
        exact j_iret C rfl (by decide) (by decide) dX9_account_112
    · rw [if_neg hc6] at h
      refine j_aload_n C dX9_account_34 rfl 0 rfl ?_
      refine j_iload_n C dX9_account_35 rfl 1 rfl ?_
      obtain ⟨r24, M24, hq24, h⟩ := bnd2_spec h
      refine j_run1 (c_V C (As := [.int v1]) (rest := []) (ctX9_pieces C.2.2.2.2.2.2.2.2.1 N Z hq24) kcRX9_197 oyX9_pieces (ci := 9) (T := TX9) (N := 23) rfl (by decide) ho4 ⟨by decide, by decide⟩ ⟨by decide, by decide⟩ (Nat.le_of_ble_eq_true rfl) rfl dX9_account_36) ?_
      cases h
      exact j_iret C rfl (by decide) (by decide) dX9_account_39
  · rw [if_neg hc5] at h
    refine j_iconst C dX9_account_26 (v := (0 : Int32)) (by decide) ?_
    cases h
    exact j_iret C rfl (by decide) (by decide) dX9_account_27
def fX9_account (N : Nat) (Z : mZ) (a0 : Nat) (a1 : Int32) (M : mM) : Option (Int32 × mM) := bnd2 (fX9_in N Z a1 (0 : Int32) (17 : Int32) M) (fun r1 M1 => if r1 = 0 then fX9_account_16 N Z a0 a1 (1 : Int32) a0 M1 else fX9_account_16 N Z a0 a1 (0 : Int32) a0 M1)
set_option maxHeartbeats 4000000 in
set_option maxRecDepth 100000 in
theorem ctX9_account {G : mG} {l : Launch} (hl : l.stackTraces = false) (N : Nat) (Z : mZ) {a0 : Nat} {a1 : Int32} {M : mM} {r : Int32} {M' : mM} (h : fX9_account N Z a0 a1 M = some (r, M')) : CT G l yX9_account (.code yX9_account cX9_account 2 (some .int)) rmX9_account [.ref a0, .int a1] Z M (.inl (some (.int r))) Z M' := by
  unfold fX9_account at h
  refine CT.of hl (by decide) (Nat.le_of_ble_eq_true rfl) ?_
  intro p e s m args below meth c C hnm
  refine j_sub (L' := [(0, .ref a0), (1, .int a1)]) [0, 1] rfl ?_
  refine j_aload_n C dX9_account_0 rfl 0 rfl ?_
  refine j_iload_n C dX9_account_1 rfl 1 rfl ?_
  refine j_iconst C dX9_account_2 (v := (0 : Int32)) (by decide) ?_
  refine j_bipush C dX9_account_3 (v := (17 : Int32)) (by decide) ?_
  obtain ⟨r1, M1, hq1, h⟩ := bnd2_spec h
  refine j_run1 (c_S C (As := [.int a1, .int (0 : Int32), .int (17 : Int32)]) (rest := [.ref a0]) (ctX9_in C.2.2.2.2.2.2.2.2.1 N Z hq1) kcRX9_54 oyX9_in ⟨by decide, by decide⟩ ⟨by decide, by decide⟩ (Nat.le_of_ble_eq_true rfl) rfl dX9_account_5) ?_
  refine j_if_eq C dX9_account_8 (tgt := 15) (by decide) (fun hc2 => ?_) (fun hc2 => ?_)
  · rw [if_pos hc2] at h
    refine j_iconst C dX9_account_15 (v := (1 : Int32)) (by decide) ?_
    refine j_sub (L' := [(0, .ref a0), (1, .int a1)]) [0, 1] rfl ?_
    exact tX9_account_16 C hnm N Z a0 a1 (1 : Int32) a0 M1 _ _ h
  · rw [if_neg hc2] at h
    refine j_iconst C dX9_account_11 (v := (0 : Int32)) (by decide) ?_
    refine j_goto C dX9_account_12 (tgt := 16) (by decide) ?_
    refine j_sub (L' := [(0, .ref a0), (1, .int a1)]) [0, 1] rfl ?_
    exact tX9_account_16 C hnm N Z a0 a1 (0 : Int32) a0 M1 _ _ h
-- ScaffoldPlannerModel use
abbrev rmX9_use : Room := { frames := 4, cells := 0, slots := 0, locals := 88 }
theorem dX9_use_0 : decode cX9_use 0 = .ok (.aload_n 0, 1) := by decide +kernel
theorem dX9_use_1 : decode cX9_use 1 = .ok (.aload_n 0, 1) := by decide +kernel
theorem dX9_use_2 : decode cX9_use 2 = .ok (.iload_n 1, 1) := by decide +kernel
theorem dX9_use_3 : decode cX9_use 3 = .ok (.invokevirtual 184, 3) := by decide +kernel
theorem dX9_use_6 : decode cX9_use 6 = .ok (.ifCond .eq 7, 3) := by decide +kernel
theorem dX9_use_9 : decode cX9_use 9 = .ok (.iconst 0, 1) := by decide +kernel
theorem dX9_use_10 : decode cX9_use 10 = .ok (.goto 4, 3) := by decide +kernel
theorem dX9_use_13 : decode cX9_use 13 = .ok (.iconst 1, 1) := by decide +kernel
theorem dX9_use_14 : decode cX9_use 14 = .ok (.putfield 50, 3) := by decide +kernel
theorem dX9_use_17 : decode cX9_use 17 = .ok (.aload_n 0, 1) := by decide +kernel
theorem dX9_use_18 : decode cX9_use 18 = .ok (.getfield 50, 3) := by decide +kernel
theorem dX9_use_21 : decode cX9_use 21 = .ok (.ifCond .le 7, 3) := by decide +kernel
theorem dX9_use_24 : decode cX9_use 24 = .ok (.fconst 0, 1) := by decide +kernel
theorem dX9_use_25 : decode cX9_use 25 = .ok (.goto 17, 3) := by decide +kernel
theorem dX9_use_28 : decode cX9_use 28 = .ok (.aload_n 0, 1) := by decide +kernel
theorem dX9_use_29 : decode cX9_use 29 = .ok (.iload_n 1, 1) := by decide +kernel
theorem dX9_use_30 : decode cX9_use 30 = .ok (.invokevirtual 110, 3) := by decide +kernel
theorem dX9_use_33 : decode cX9_use 33 = .ok (.i2f, 1) := by decide +kernel
theorem dX9_use_34 : decode cX9_use 34 = .ok (.aload_n 0, 1) := by decide +kernel
theorem dX9_use_35 : decode cX9_use 35 = .ok (.getfield 7, 3) := by decide +kernel
theorem dX9_use_38 : decode cX9_use 38 = .ok (.iconst 3, 1) := by decide +kernel
theorem dX9_use_39 : decode cX9_use 39 = .ok (.iaload, 1) := by decide +kernel
theorem dX9_use_40 : decode cX9_use 40 = .ok (.i2f, 1) := by decide +kernel
theorem dX9_use_41 : decode cX9_use 41 = .ok (.fdiv, 1) := by decide +kernel
theorem dX9_use_42 : decode cX9_use 42 = .ok (.freturn, 1) := by decide +kernel
def fX9_use_14 (N : Nat) (Z : mZ) (v0 : Nat) (v1 : Int32) (x0 : Int32) (x1 : Nat) (M : mM) : Option (UInt32 × mM) := ck (okO Z x1 9) (ck (okO Z v0 9) (if ((sI M x1 9 x0).1 v0 9) ≤ 0 then bnd2 (fX9_loadOf N Z v0 v1 (sI M x1 9 x0)) (fun r7 M7 => bnd1 (Z.2.2.2 v0 0) (fun c8 => ck (okI Z c8) (ck (inB (3 : Int32) (Z.2.2.1 c8)) (ck (nn32 (FP.fdiv ((FP.i2f r7)) ((FP.i2f (M7.1 c8 ((3 : Int32)).toNatClampNeg))))) (some ((FP.fdiv ((FP.i2f r7)) ((FP.i2f (M7.1 c8 ((3 : Int32)).toNatClampNeg)))), M7)))))) else some ((0 : UInt32), (sI M x1 9 x0))))
set_option maxHeartbeats 4000000 in
set_option maxRecDepth 100000 in
theorem tX9_use_14 {G : mG} {p : Program} {l : Launch} {e : Env} {s : State} {m : MethodId} {args : Array Value} {below : List Frame} {meth : Method} {c : Code} (C : Cx G p l s m args meth c RX9 cX9_use 2 (some .float) []) (hnm : meth.name = yX9_use.name) (N : Nat) (Z : mZ) : ∀ (v0 : Nat) (v1 : Int32) (x0 : Int32) (x1 : Nat) (M : mM) (r : UInt32) (M' : mM), fX9_use_14 N Z v0 v1 x0 x1 M = some (r, M') → JJ G p l e rmX9_use s m args below meth c 2 (mEnd G below args s rmX9_use (.inl (some (.float r))) Z M') 0 0 14 [(0, .ref v0), (1, .int v1)] [.int x0, .ref x1] Z M := by
  intro v0 v1 x0 x1 M r M' h
  unfold fX9_use_14 at h
  obtain ⟨ho4, h⟩ := ck_spec h
  refine j_putI C tyX9 tyX9_ok nmX9 (cn := RX9) (T := TX9) (N := 23) (ci := 9) rfl iX9 ho4 9 (by decide) rfl fwRX9_50 ⟨rfl, rfl⟩ dX9_use_14 ?_
  refine j_aload_n C dX9_use_17 rfl 0 rfl ?_
  obtain ⟨ho5, h⟩ := ck_spec h
  refine j_getI C (cn := RX9) (T := TX9) (N := 23) (ci := 9) rfl iX9 ho5 9 (by decide) rfl fwRX9_50 dX9_use_18 ?_
  refine j_if_le C dX9_use_21 (tgt := 28) (by decide) (fun hc6 => ?_) (fun hc6 => ?_)
  · rw [if_pos hc6] at h
    refine j_aload_n C dX9_use_28 rfl 0 rfl ?_
    refine j_iload_n C dX9_use_29 rfl 1 rfl ?_
    obtain ⟨r7, M7, hq7, h⟩ := bnd2_spec h
    refine j_run1 (c_V C (As := [.int v1]) (rest := []) (ctX9_loadOf C.2.2.2.2.2.2.2.2.1 N Z hq7) kcRX9_110 oyX9_loadOf (ci := 9) (T := TX9) (N := 23) rfl (by decide) ho5 ⟨by decide, by decide⟩ ⟨by decide, by decide⟩ (Nat.le_of_ble_eq_true rfl) rfl dX9_use_30) ?_
    refine j_i2f C dX9_use_33 ?_
    refine j_aload_n C dX9_use_34 rfl 0 rfl ?_
    obtain ⟨c8, hr8, h⟩ := bnd1_spec h
    refine j_getR C (cn := RX9) (T := TX9) (N := 23) (ci := 9) rfl iX9 ho5 0 (by decide) rfl fwRX9_7 dX9_use_35 hr8 ?_
    refine j_iconst C dX9_use_38 (v := (3 : Int32)) (by decide) ?_
    obtain ⟨ho9, h⟩ := ck_spec h
    obtain ⟨ho10, h⟩ := ck_spec h
    refine j_iald C ho9 ho10 dX9_use_39 ?_
    refine j_i2f C dX9_use_40 ?_
    obtain ⟨ho11, h⟩ := ck_spec h
    refine j_fdiv C dX9_use_41 (nn32_spec ho11) ?_
    cases h
    exact j_fret C rfl (by decide) (by decide) dX9_use_42
  · rw [if_neg hc6] at h
    refine j_fconst0 C dX9_use_24 ?_
    refine j_goto C dX9_use_25 (tgt := 42) (by decide) ?_
    cases h
    exact j_fret C rfl (by decide) (by decide) dX9_use_42
def fX9_use (N : Nat) (Z : mZ) (a0 : Nat) (a1 : Int32) (M : mM) : Option (UInt32 × mM) := ck (okO Z a0 9) (bnd2 (fX9_isPlace N Z a0 a1 M) (fun r2 M2 => if r2 = 0 then fX9_use_14 N Z a0 a1 (1 : Int32) a0 M2 else fX9_use_14 N Z a0 a1 (0 : Int32) a0 M2))
set_option maxHeartbeats 4000000 in
set_option maxRecDepth 100000 in
theorem ctX9_use {G : mG} {l : Launch} (hl : l.stackTraces = false) (N : Nat) (Z : mZ) {a0 : Nat} {a1 : Int32} {M : mM} {r : UInt32} {M' : mM} (h : fX9_use N Z a0 a1 M = some (r, M')) : CT G l yX9_use (.code yX9_use cX9_use 2 (some .float)) rmX9_use [.ref a0, .int a1] Z M (.inl (some (.float r))) Z M' := by
  unfold fX9_use at h
  refine CT.of hl (by decide) (Nat.le_of_ble_eq_true rfl) ?_
  intro p e s m args below meth c C hnm
  refine j_sub (L' := [(0, .ref a0), (1, .int a1)]) [0, 1] rfl ?_
  refine j_aload_n C dX9_use_0 rfl 0 rfl ?_
  refine j_aload_n C dX9_use_1 rfl 0 rfl ?_
  refine j_iload_n C dX9_use_2 rfl 1 rfl ?_
  obtain ⟨ho1, h⟩ := ck_spec h
  obtain ⟨r2, M2, hq2, h⟩ := bnd2_spec h
  refine j_run1 (c_V C (As := [.int a1]) (rest := [.ref a0]) (ctX9_isPlace C.2.2.2.2.2.2.2.2.1 N Z hq2) kcRX9_184 oyX9_isPlace (ci := 9) (T := TX9) (N := 23) rfl (by decide) ho1 ⟨by decide, by decide⟩ ⟨by decide, by decide⟩ (Nat.le_of_ble_eq_true rfl) rfl dX9_use_3) ?_
  refine j_if_eq C dX9_use_6 (tgt := 13) (by decide) (fun hc3 => ?_) (fun hc3 => ?_)
  · rw [if_pos hc3] at h
    refine j_iconst C dX9_use_13 (v := (1 : Int32)) (by decide) ?_
    refine j_sub (L' := [(0, .ref a0), (1, .int a1)]) [0, 1] rfl ?_
    exact tX9_use_14 C hnm N Z a0 a1 (1 : Int32) a0 M2 _ _ h
  · rw [if_neg hc3] at h
    refine j_iconst C dX9_use_9 (v := (0 : Int32)) (by decide) ?_
    refine j_goto C dX9_use_10 (tgt := 14) (by decide) ?_
    refine j_sub (L' := [(0, .ref a0), (1, .int a1)]) [0, 1] rfl ?_
    exact tX9_use_14 C hnm N Z a0 a1 (0 : Int32) a0 M2 _ _ h
-- ScaffoldPlannerModel meanClass
abbrev rmX9_meanClass : Room := { frames := 4, cells := 0, slots := 0, locals := 90 }
theorem dX9_meanClass_0 : decode cX9_meanClass 0 = .ok (.aload_n 0, 1) := by decide +kernel
theorem dX9_meanClass_1 : decode cX9_meanClass 1 = .ok (.iconst 2, 1) := by decide +kernel
theorem dX9_meanClass_2 : decode cX9_meanClass 2 = .ok (.invokevirtual 197, 3) := by decide +kernel
theorem dX9_meanClass_5 : decode cX9_meanClass 5 = .ok (.istore_n 1, 1) := by decide +kernel
theorem dX9_meanClass_6 : decode cX9_meanClass 6 = .ok (.iconst 0, 1) := by decide +kernel
theorem dX9_meanClass_7 : decode cX9_meanClass 7 = .ok (.istore_n 2, 1) := by decide +kernel
theorem dX9_meanClass_8 : decode cX9_meanClass 8 = .ok (.iconst 0, 1) := by decide +kernel
theorem dX9_meanClass_9 : decode cX9_meanClass 9 = .ok (.istore_n 3, 1) := by decide +kernel
theorem dX9_meanClass_10 : decode cX9_meanClass 10 = .ok (.iload_n 3, 1) := by decide +kernel
theorem dX9_meanClass_11 : decode cX9_meanClass 11 = .ok (.aload_n 0, 1) := by decide +kernel
theorem dX9_meanClass_12 : decode cX9_meanClass 12 = .ok (.getfield 7, 3) := by decide +kernel
theorem dX9_meanClass_15 : decode cX9_meanClass 15 = .ok (.iconst 0, 1) := by decide +kernel
theorem dX9_meanClass_16 : decode cX9_meanClass 16 = .ok (.iaload, 1) := by decide +kernel
theorem dX9_meanClass_17 : decode cX9_meanClass 17 = .ok (.if_icmp .ge 17, 3) := by decide +kernel
theorem dX9_meanClass_20 : decode cX9_meanClass 20 = .ok (.iload_n 2, 1) := by decide +kernel
theorem dX9_meanClass_21 : decode cX9_meanClass 21 = .ok (.aload_n 0, 1) := by decide +kernel
theorem dX9_meanClass_22 : decode cX9_meanClass 22 = .ok (.iload_n 3, 1) := by decide +kernel
theorem dX9_meanClass_23 : decode cX9_meanClass 23 = .ok (.invokevirtual 96, 3) := by decide +kernel
theorem dX9_meanClass_26 : decode cX9_meanClass 26 = .ok (.iadd, 1) := by decide +kernel
theorem dX9_meanClass_27 : decode cX9_meanClass 27 = .ok (.istore_n 2, 1) := by decide +kernel
theorem dX9_meanClass_28 : decode cX9_meanClass 28 = .ok (.iinc 3 1, 3) := by decide +kernel
theorem dX9_meanClass_31 : decode cX9_meanClass 31 = .ok (.goto (-21), 3) := by decide +kernel
theorem dX9_meanClass_34 : decode cX9_meanClass 34 = .ok (.aload_n 0, 1) := by decide +kernel
theorem dX9_meanClass_35 : decode cX9_meanClass 35 = .ok (.iload_n 1, 1) := by decide +kernel
theorem dX9_meanClass_36 : decode cX9_meanClass 36 = .ok (.ifCond .ne 7, 3) := by decide +kernel
theorem dX9_meanClass_39 : decode cX9_meanClass 39 = .ok (.iconst 1, 1) := by decide +kernel
theorem dX9_meanClass_40 : decode cX9_meanClass 40 = .ok (.goto 4, 3) := by decide +kernel
theorem dX9_meanClass_43 : decode cX9_meanClass 43 = .ok (.iconst 0, 1) := by decide +kernel
theorem dX9_meanClass_44 : decode cX9_meanClass 44 = .ok (.putfield 50, 3) := by decide +kernel
theorem dX9_meanClass_47 : decode cX9_meanClass 47 = .ok (.iload_n 1, 1) := by decide +kernel
theorem dX9_meanClass_48 : decode cX9_meanClass 48 = .ok (.ifCond .ne 7, 3) := by decide +kernel
theorem dX9_meanClass_51 : decode cX9_meanClass 51 = .ok (.dconst 0, 1) := by decide +kernel
theorem dX9_meanClass_52 : decode cX9_meanClass 52 = .ok (.goto 8, 3) := by decide +kernel
theorem dX9_meanClass_55 : decode cX9_meanClass 55 = .ok (.iload_n 2, 1) := by decide +kernel
theorem dX9_meanClass_56 : decode cX9_meanClass 56 = .ok (.i2d, 1) := by decide +kernel
theorem dX9_meanClass_57 : decode cX9_meanClass 57 = .ok (.iload_n 1, 1) := by decide +kernel
theorem dX9_meanClass_58 : decode cX9_meanClass 58 = .ok (.i2d, 1) := by decide +kernel
theorem dX9_meanClass_59 : decode cX9_meanClass 59 = .ok (.ddiv, 1) := by decide +kernel
theorem dX9_meanClass_60 : decode cX9_meanClass 60 = .ok (.dreturn, 1) := by decide +kernel
def fX9_meanClass_10 (N : Nat) (Z : mZ) : Nat → Nat → Int32 → Int32 → Int32 → mM → Option (UInt64 × mM)
  | 0, _, _, _, _, _ => none
  | fu + 1, v0, v1, v2, v3, M => ck (okO Z v0 9) (bnd1 (Z.2.2.2 v0 0) (fun c4 => ck (okI Z c4) (ck (inB (0 : Int32) (Z.2.2.1 c4)) (if (M.1 c4 ((0 : Int32)).toNatClampNeg) ≤ v3 then if v1 = 0 then if v1 = 0 then some ((0 : UInt64), (sI M v0 9 (1 : Int32))) else ck (nn64 (FP.ddiv ((FP.i2d v2)) ((FP.i2d v1)))) (some ((FP.ddiv ((FP.i2d v2)) ((FP.i2d v1))), (sI M v0 9 (1 : Int32)))) else if v1 = 0 then some ((0 : UInt64), (sI M v0 9 (0 : Int32))) else ck (nn64 (FP.ddiv ((FP.i2d v2)) ((FP.i2d v1)))) (some ((FP.ddiv ((FP.i2d v2)) ((FP.i2d v1))), (sI M v0 9 (0 : Int32)))) else bnd2 (fX9_classes N Z v0 v3 M) (fun r13 M13 => fX9_meanClass_10 N Z fu v0 v1 (v2 + r13) (v3 + (1 : Int32)) M13)))))
set_option maxHeartbeats 4000000 in
set_option maxRecDepth 100000 in
theorem tX9_meanClass_10 {G : mG} {p : Program} {l : Launch} {e : Env} {s : State} {m : MethodId} {args : Array Value} {below : List Frame} {meth : Method} {c : Code} (C : Cx G p l s m args meth c RX9 cX9_meanClass 4 (some .double) []) (hnm : meth.name = yX9_meanClass.name) (N : Nat) (Z : mZ) : ∀ (fu : Nat) (v0 : Nat) (v1 : Int32) (v2 : Int32) (v3 : Int32) (M : mM) (r : UInt64) (M' : mM), fX9_meanClass_10 N Z fu v0 v1 v2 v3 M = some (r, M') → JJ G p l e rmX9_meanClass s m args below meth c 4 (mEnd G below args s rmX9_meanClass (.inl (some (.double r))) Z M') 0 0 10 [(0, .ref v0), (1, .int v1), (2, .int v2), (3, .int v3)] [] Z M := by
  intro fu
  induction fu with
  | zero =>
    intro v0 v1 v2 v3 M r M' h
    cases h
  | succ fu ih =>
    intro v0 v1 v2 v3 M r M' h
    rw [fX9_meanClass_10] at h
    refine j_iload_n C dX9_meanClass_10 rfl 3 rfl ?_
    refine j_aload_n C dX9_meanClass_11 rfl 0 rfl ?_
    obtain ⟨ho3, h⟩ := ck_spec h
    obtain ⟨c4, hr4, h⟩ := bnd1_spec h
    refine j_getR C (cn := RX9) (T := TX9) (N := 23) (ci := 9) rfl iX9 ho3 0 (by decide) rfl fwRX9_7 dX9_meanClass_12 hr4 ?_
    refine j_iconst C dX9_meanClass_15 (v := (0 : Int32)) (by decide) ?_
    obtain ⟨ho5, h⟩ := ck_spec h
    obtain ⟨ho6, h⟩ := ck_spec h
    refine j_iald C ho5 ho6 dX9_meanClass_16 ?_
    refine j_icmp_ge C dX9_meanClass_17 (tgt := 34) (by decide) (fun hc7 => ?_) (fun hc7 => ?_)
    · rw [if_pos hc7] at h
      refine j_aload_n C dX9_meanClass_34 rfl 0 rfl ?_
      refine j_iload_n C dX9_meanClass_35 rfl 1 rfl ?_
      refine j_if_ne C dX9_meanClass_36 (tgt := 43) (by decide) (fun hc8 => ?_) (fun hc8 => ?_)
      · rw [if_neg hc8] at h
        refine j_iconst C dX9_meanClass_43 (v := (0 : Int32)) (by decide) ?_
        refine j_putI C tyX9 tyX9_ok nmX9 (cn := RX9) (T := TX9) (N := 23) (ci := 9) rfl iX9 ho3 9 (by decide) rfl fwRX9_50 ⟨rfl, rfl⟩ dX9_meanClass_44 ?_
        refine j_iload_n C dX9_meanClass_47 rfl 1 rfl ?_
        refine j_if_ne C dX9_meanClass_48 (tgt := 55) (by decide) (fun hc11 => ?_) (fun hc11 => ?_)
        · rw [if_neg hc11] at h
          refine j_iload_n C dX9_meanClass_55 rfl 2 rfl ?_
          refine j_i2d C dX9_meanClass_56 ?_
          refine j_iload_n C dX9_meanClass_57 rfl 1 rfl ?_
          refine j_i2d C dX9_meanClass_58 ?_
          obtain ⟨ho12, h⟩ := ck_spec h
          refine j_ddiv C dX9_meanClass_59 (nn64_spec ho12) ?_
          cases h
          exact j_dret C rfl (by decide) (by decide) dX9_meanClass_60
        · rw [if_pos hc11] at h
          refine j_dconst0 C dX9_meanClass_51 ?_
          refine j_goto C dX9_meanClass_52 (tgt := 60) (by decide) ?_
          cases h
          exact j_dret C rfl (by decide) (by decide) dX9_meanClass_60
      · rw [if_pos hc8] at h
        refine j_iconst C dX9_meanClass_39 (v := (1 : Int32)) (by decide) ?_
        refine j_goto C dX9_meanClass_40 (tgt := 44) (by decide) ?_
        refine j_putI C tyX9 tyX9_ok nmX9 (cn := RX9) (T := TX9) (N := 23) (ci := 9) rfl iX9 ho3 9 (by decide) rfl fwRX9_50 ⟨rfl, rfl⟩ dX9_meanClass_44 ?_
        refine j_iload_n C dX9_meanClass_47 rfl 1 rfl ?_
        refine j_if_ne C dX9_meanClass_48 (tgt := 55) (by decide) (fun hc9 => ?_) (fun hc9 => ?_)
        · rw [if_neg hc9] at h
          refine j_iload_n C dX9_meanClass_55 rfl 2 rfl ?_
          refine j_i2d C dX9_meanClass_56 ?_
          refine j_iload_n C dX9_meanClass_57 rfl 1 rfl ?_
          refine j_i2d C dX9_meanClass_58 ?_
          obtain ⟨ho10, h⟩ := ck_spec h
          refine j_ddiv C dX9_meanClass_59 (nn64_spec ho10) ?_
          cases h
          exact j_dret C rfl (by decide) (by decide) dX9_meanClass_60
        · rw [if_pos hc9] at h
          refine j_dconst0 C dX9_meanClass_51 ?_
          refine j_goto C dX9_meanClass_52 (tgt := 60) (by decide) ?_
          cases h
          exact j_dret C rfl (by decide) (by decide) dX9_meanClass_60
    · rw [if_neg hc7] at h
      refine j_iload_n C dX9_meanClass_20 rfl 2 rfl ?_
      refine j_aload_n C dX9_meanClass_21 rfl 0 rfl ?_
      refine j_iload_n C dX9_meanClass_22 rfl 3 rfl ?_
      obtain ⟨r13, M13, hq13, h⟩ := bnd2_spec h
      refine j_run1 (c_V C (As := [.int v3]) (rest := [.int v2]) (ctX9_classes C.2.2.2.2.2.2.2.2.1 N Z hq13) kcRX9_96 oyX9_classes (ci := 9) (T := TX9) (N := 23) rfl (by decide) ho3 ⟨by decide, by decide⟩ ⟨by decide, by decide⟩ (Nat.le_of_ble_eq_true rfl) rfl dX9_meanClass_23) ?_
      refine j_iadd C dX9_meanClass_26 ?_
      refine j_istore_n C dX9_meanClass_27 rfl (by decide) (L' := [(2, .int (v2 + r13)), (0, .ref v0), (1, .int v1), (3, .int v3)]) rfl ?_
      refine j_iinc C dX9_meanClass_28 3 rfl (v := (v3 + (1 : Int32))) (by first | rfl | decide) (by decide) (L' := [(3, .int (v3 + (1 : Int32))), (2, .int (v2 + r13)), (0, .ref v0), (1, .int v1)]) rfl ?_
      refine j_goto C dX9_meanClass_31 (tgt := 10) (by decide) ?_
      refine j_sub (L' := [(0, .ref v0), (1, .int v1), (2, .int (v2 + r13)), (3, .int (v3 + (1 : Int32)))]) [2, 3, 1, 0] rfl ?_
      exact ih v0 v1 (v2 + r13) (v3 + (1 : Int32)) M13 r M' h
def fX9_meanClass (N : Nat) (Z : mZ) (a0 : Nat) (M : mM) : Option (UInt64 × mM) := ck (okO Z a0 9) (bnd2 (fX9_pieces N Z a0 (2 : Int32) M) (fun r2 M2 => fX9_meanClass_10 N Z N a0 r2 (0 : Int32) (0 : Int32) M2))
set_option maxHeartbeats 4000000 in
set_option maxRecDepth 100000 in
theorem ctX9_meanClass {G : mG} {l : Launch} (hl : l.stackTraces = false) (N : Nat) (Z : mZ) {a0 : Nat} {M : mM} {r : UInt64} {M' : mM} (h : fX9_meanClass N Z a0 M = some (r, M')) : CT G l yX9_meanClass (.code yX9_meanClass cX9_meanClass 4 (some .double)) rmX9_meanClass [.ref a0] Z M (.inl (some (.double r))) Z M' := by
  unfold fX9_meanClass at h
  refine CT.of hl (by decide) (Nat.le_of_ble_eq_true rfl) ?_
  intro p e s m args below meth c C hnm
  refine j_sub (L' := [(0, .ref a0)]) [0] rfl ?_
  refine j_aload_n C dX9_meanClass_0 rfl 0 rfl ?_
  refine j_iconst C dX9_meanClass_1 (v := (2 : Int32)) (by decide) ?_
  obtain ⟨ho1, h⟩ := ck_spec h
  obtain ⟨r2, M2, hq2, h⟩ := bnd2_spec h
  refine j_run1 (c_V C (As := [.int (2 : Int32)]) (rest := []) (ctX9_pieces C.2.2.2.2.2.2.2.2.1 N Z hq2) kcRX9_197 oyX9_pieces (ci := 9) (T := TX9) (N := 23) rfl (by decide) ho1 ⟨by decide, by decide⟩ ⟨by decide, by decide⟩ (Nat.le_of_ble_eq_true rfl) rfl dX9_meanClass_2) ?_
  refine j_istore_n C dX9_meanClass_5 rfl (by decide) (L' := [(1, .int r2), (0, .ref a0)]) rfl ?_
  refine j_iconst C dX9_meanClass_6 (v := (0 : Int32)) (by decide) ?_
  refine j_istore_n C dX9_meanClass_7 rfl (by decide) (L' := [(2, .int (0 : Int32)), (1, .int r2), (0, .ref a0)]) rfl ?_
  refine j_iconst C dX9_meanClass_8 (v := (0 : Int32)) (by decide) ?_
  refine j_istore_n C dX9_meanClass_9 rfl (by decide) (L' := [(3, .int (0 : Int32)), (2, .int (0 : Int32)), (1, .int r2), (0, .ref a0)]) rfl ?_
  refine j_sub (L' := [(0, .ref a0), (1, .int r2), (2, .int (0 : Int32)), (3, .int (0 : Int32))]) [3, 2, 1, 0] rfl ?_
  exact tX9_meanClass_10 C hnm N Z N a0 r2 (0 : Int32) (0 : Int32) M2 _ _ h
-- ScaffoldPlannerModel feed
theorem fwRX9_232 : Cond.fieldLink RX9 232 RX9 (TX9 18).2.1 (TX9 18).2.2.1 ∈ gw := by decide +kernel
abbrev rmX9_feed : Room := { frames := 0, cells := 0, slots := 0, locals := 0 }
theorem dX9_feed_0 : decode cX9_feed 0 = .ok (.aload_n 0, 1) := by decide +kernel
theorem dX9_feed_1 : decode cX9_feed 1 = .ok (.aload_n 0, 1) := by decide +kernel
theorem dX9_feed_2 : decode cX9_feed 2 = .ok (.getfield 232, 3) := by decide +kernel
theorem dX9_feed_5 : decode cX9_feed 5 = .ok (.bipush 80, 2) := by decide +kernel
theorem dX9_feed_7 : decode cX9_feed 7 = .ok (.if_icmp .ne 7, 3) := by decide +kernel
theorem dX9_feed_10 : decode cX9_feed 10 = .ok (.iconst 1, 1) := by decide +kernel
theorem dX9_feed_11 : decode cX9_feed 11 = .ok (.goto 4, 3) := by decide +kernel
theorem dX9_feed_14 : decode cX9_feed 14 = .ok (.iconst 0, 1) := by decide +kernel
theorem dX9_feed_15 : decode cX9_feed 15 = .ok (.putfield 50, 3) := by decide +kernel
theorem dX9_feed_18 : decode cX9_feed 18 = .ok (.aload_n 0, 1) := by decide +kernel
theorem dX9_feed_19 : decode cX9_feed 19 = .ok (.getfield 50, 3) := by decide +kernel
theorem dX9_feed_22 : decode cX9_feed 22 = .ok (.ifCond .le 5, 3) := by decide +kernel
theorem dX9_feed_25 : decode cX9_feed 25 = .ok (.iconst 0, 1) := by decide +kernel
theorem dX9_feed_26 : decode cX9_feed 26 = .ok (.ireturn, 1) := by decide +kernel
theorem dX9_feed_27 : decode cX9_feed 27 = .ok (.aload_n 0, 1) := by decide +kernel
theorem dX9_feed_28 : decode cX9_feed 28 = .ok (.getfield 37, 3) := by decide +kernel
theorem dX9_feed_31 : decode cX9_feed 31 = .ok (.aload_n 0, 1) := by decide +kernel
theorem dX9_feed_32 : decode cX9_feed 32 = .ok (.getfield 232, 3) := by decide +kernel
theorem dX9_feed_35 : decode cX9_feed 35 = .ok (.iload_n 1, 1) := by decide +kernel
theorem dX9_feed_36 : decode cX9_feed 36 = .ok (.iastore, 1) := by decide +kernel
theorem dX9_feed_37 : decode cX9_feed 37 = .ok (.aload_n 0, 1) := by decide +kernel
theorem dX9_feed_38 : decode cX9_feed 38 = .ok (.dup, 1) := by decide +kernel
theorem dX9_feed_39 : decode cX9_feed 39 = .ok (.getfield 232, 3) := by decide +kernel
theorem dX9_feed_42 : decode cX9_feed 42 = .ok (.iconst 1, 1) := by decide +kernel
theorem dX9_feed_43 : decode cX9_feed 43 = .ok (.iadd, 1) := by decide +kernel
theorem dX9_feed_44 : decode cX9_feed 44 = .ok (.putfield 232, 3) := by decide +kernel
theorem dX9_feed_47 : decode cX9_feed 47 = .ok (.aload_n 0, 1) := by decide +kernel
theorem dX9_feed_48 : decode cX9_feed 48 = .ok (.getfield 232, 3) := by decide +kernel
theorem dX9_feed_51 : decode cX9_feed 51 = .ok (.ireturn, 1) := by decide +kernel
def fX9_feed_15 (N : Nat) (Z : mZ) (v0 : Nat) (v1 : Int32) (x0 : Int32) (x1 : Nat) (M : mM) : Option (Int32 × mM) := ck (okO Z x1 9) (ck (okO Z v0 9) (if ((sI M x1 9 x0).1 v0 9) ≤ 0 then bnd1 (Z.2.2.2 v0 17) (fun c6 => ck (okO Z c6 20) (ck (inB ((sI M x1 9 x0).1 v0 18) (Z.2.2.1 c6)) (some (((sI (sI (sI M x1 9 x0) c6 (((sI M x1 9 x0).1 v0 18)).toNatClampNeg v1) v0 18 (((sI (sI M x1 9 x0) c6 (((sI M x1 9 x0).1 v0 18)).toNatClampNeg v1).1 v0 18) + (1 : Int32))).1 v0 18), (sI (sI (sI M x1 9 x0) c6 (((sI M x1 9 x0).1 v0 18)).toNatClampNeg v1) v0 18 (((sI (sI M x1 9 x0) c6 (((sI M x1 9 x0).1 v0 18)).toNatClampNeg v1).1 v0 18) + (1 : Int32))))))) else some ((0 : Int32), (sI M x1 9 x0))))
set_option maxHeartbeats 4000000 in
set_option maxRecDepth 100000 in
theorem tX9_feed_15 {G : mG} {p : Program} {l : Launch} {e : Env} {s : State} {m : MethodId} {args : Array Value} {below : List Frame} {meth : Method} {c : Code} (C : Cx G p l s m args meth c RX9 cX9_feed 2 (some .int) []) (hnm : meth.name = yX9_feed.name) (N : Nat) (Z : mZ) : ∀ (v0 : Nat) (v1 : Int32) (x0 : Int32) (x1 : Nat) (M : mM) (r : Int32) (M' : mM), fX9_feed_15 N Z v0 v1 x0 x1 M = some (r, M') → JJ G p l e rmX9_feed s m args below meth c 2 (mEnd G below args s rmX9_feed (.inl (some (.int r))) Z M') 0 0 15 [(0, .ref v0), (1, .int v1)] [.int x0, .ref x1] Z M := by
  intro v0 v1 x0 x1 M r M' h
  unfold fX9_feed_15 at h
  obtain ⟨ho3, h⟩ := ck_spec h
  refine j_putI C tyX9 tyX9_ok nmX9 (cn := RX9) (T := TX9) (N := 23) (ci := 9) rfl iX9 ho3 9 (by decide) rfl fwRX9_50 ⟨rfl, rfl⟩ dX9_feed_15 ?_
  refine j_aload_n C dX9_feed_18 rfl 0 rfl ?_
  obtain ⟨ho4, h⟩ := ck_spec h
  refine j_getI C (cn := RX9) (T := TX9) (N := 23) (ci := 9) rfl iX9 ho4 9 (by decide) rfl fwRX9_50 dX9_feed_19 ?_
  refine j_if_le C dX9_feed_22 (tgt := 27) (by decide) (fun hc5 => ?_) (fun hc5 => ?_)
  · rw [if_pos hc5] at h
    refine j_aload_n C dX9_feed_27 rfl 0 rfl ?_
    obtain ⟨c6, hr6, h⟩ := bnd1_spec h
    refine j_getR C (cn := RX9) (T := TX9) (N := 23) (ci := 9) rfl iX9 ho4 17 (by decide) rfl fwRX9_37 dX9_feed_28 hr6 ?_
    refine j_aload_n C dX9_feed_31 rfl 0 rfl ?_
    refine j_getI C (cn := RX9) (T := TX9) (N := 23) (ci := 9) rfl iX9 ho4 18 (by decide) rfl fwRX9_232 dX9_feed_32 ?_
    refine j_iload_n C dX9_feed_35 rfl 1 rfl ?_
    obtain ⟨ho7, h⟩ := ck_spec h
    obtain ⟨ho8, h⟩ := ck_spec h
    refine j_iast C ho7 ho8 dX9_feed_36 ?_
    refine j_aload_n C dX9_feed_37 rfl 0 rfl ?_
    refine j_dup C dX9_feed_38 rfl ?_
    refine j_getI C (cn := RX9) (T := TX9) (N := 23) (ci := 9) rfl iX9 ho4 18 (by decide) rfl fwRX9_232 dX9_feed_39 ?_
    refine j_iconst C dX9_feed_42 (v := (1 : Int32)) (by decide) ?_
    refine j_iadd C dX9_feed_43 ?_
    refine j_putI C tyX9 tyX9_ok nmX9 (cn := RX9) (T := TX9) (N := 23) (ci := 9) rfl iX9 ho4 18 (by decide) rfl fwRX9_232 ⟨rfl, rfl⟩ dX9_feed_44 ?_
    refine j_aload_n C dX9_feed_47 rfl 0 rfl ?_
    refine j_getI C (cn := RX9) (T := TX9) (N := 23) (ci := 9) rfl iX9 ho4 18 (by decide) rfl fwRX9_232 dX9_feed_48 ?_
    cases h
    exact j_iret C rfl (by decide) (by decide) dX9_feed_51
  · rw [if_neg hc5] at h
    refine j_iconst C dX9_feed_25 (v := (0 : Int32)) (by decide) ?_
    cases h
    exact j_iret C rfl (by decide) (by decide) dX9_feed_26
def fX9_feed (N : Nat) (Z : mZ) (a0 : Nat) (a1 : Int32) (M : mM) : Option (Int32 × mM) := ck (okO Z a0 9) (if (M.1 a0 18) = (80 : Int32) then fX9_feed_15 N Z a0 a1 (1 : Int32) a0 M else fX9_feed_15 N Z a0 a1 (0 : Int32) a0 M)
set_option maxHeartbeats 4000000 in
set_option maxRecDepth 100000 in
theorem ctX9_feed {G : mG} {l : Launch} (hl : l.stackTraces = false) (N : Nat) (Z : mZ) {a0 : Nat} {a1 : Int32} {M : mM} {r : Int32} {M' : mM} (h : fX9_feed N Z a0 a1 M = some (r, M')) : CT G l yX9_feed (.code yX9_feed cX9_feed 2 (some .int)) rmX9_feed [.ref a0, .int a1] Z M (.inl (some (.int r))) Z M' := by
  unfold fX9_feed at h
  refine CT.of hl (by decide) (Nat.le_of_ble_eq_true rfl) ?_
  intro p e s m args below meth c C hnm
  refine j_sub (L' := [(0, .ref a0), (1, .int a1)]) [0, 1] rfl ?_
  refine j_aload_n C dX9_feed_0 rfl 0 rfl ?_
  refine j_aload_n C dX9_feed_1 rfl 0 rfl ?_
  obtain ⟨ho1, h⟩ := ck_spec h
  refine j_getI C (cn := RX9) (T := TX9) (N := 23) (ci := 9) rfl iX9 ho1 18 (by decide) rfl fwRX9_232 dX9_feed_2 ?_
  refine j_bipush C dX9_feed_5 (v := (80 : Int32)) (by decide) ?_
  refine j_icmp_ne C dX9_feed_7 (tgt := 14) (by decide) (fun hc2 => ?_) (fun hc2 => ?_)
  · rw [if_neg hc2] at h
    refine j_iconst C dX9_feed_14 (v := (0 : Int32)) (by decide) ?_
    refine j_sub (L' := [(0, .ref a0), (1, .int a1)]) [0, 1] rfl ?_
    exact tX9_feed_15 C hnm N Z a0 a1 (0 : Int32) a0 M _ _ h
  · rw [if_pos hc2] at h
    refine j_iconst C dX9_feed_10 (v := (1 : Int32)) (by decide) ?_
    refine j_goto C dX9_feed_11 (tgt := 15) (by decide) ?_
    refine j_sub (L' := [(0, .ref a0), (1, .int a1)]) [0, 1] rfl ?_
    exact tX9_feed_15 C hnm N Z a0 a1 (1 : Int32) a0 M _ _ h
-- ScaffoldPlannerModel here
theorem fwRX9_235 : Cond.fieldLink RX9 235 RX9 (TX9 19).2.1 (TX9 19).2.2.1 ∈ gw := by decide +kernel
abbrev rmX9_here : Room := { frames := 0, cells := 0, slots := 0, locals := 0 }
theorem dX9_here_0 : decode cX9_here 0 = .ok (.aload_n 0, 1) := by decide +kernel
theorem dX9_here_1 : decode cX9_here 1 = .ok (.getfield 235, 3) := by decide +kernel
theorem dX9_here_4 : decode cX9_here 4 = .ok (.aload_n 0, 1) := by decide +kernel
theorem dX9_here_5 : decode cX9_here 5 = .ok (.getfield 232, 3) := by decide +kernel
theorem dX9_here_8 : decode cX9_here 8 = .ok (.if_icmp .ge 15, 3) := by decide +kernel
theorem dX9_here_11 : decode cX9_here 11 = .ok (.aload_n 0, 1) := by decide +kernel
theorem dX9_here_12 : decode cX9_here 12 = .ok (.getfield 37, 3) := by decide +kernel
theorem dX9_here_15 : decode cX9_here 15 = .ok (.aload_n 0, 1) := by decide +kernel
theorem dX9_here_16 : decode cX9_here 16 = .ok (.getfield 235, 3) := by decide +kernel
theorem dX9_here_19 : decode cX9_here 19 = .ok (.iaload, 1) := by decide +kernel
theorem dX9_here_20 : decode cX9_here 20 = .ok (.goto 4, 3) := by decide +kernel
theorem dX9_here_23 : decode cX9_here 23 = .ok (.iconst (-1), 1) := by decide +kernel
theorem dX9_here_24 : decode cX9_here 24 = .ok (.ireturn, 1) := by decide +kernel
def fX9_here (N : Nat) (Z : mZ) (a0 : Nat) (M : mM) : Option (Int32 × mM) := ck (okO Z a0 9) (if (M.1 a0 18) ≤ (M.1 a0 19) then some ((-1 : Int32), M) else bnd1 (Z.2.2.2 a0 17) (fun c3 => ck (okI Z c3) (ck (inB (M.1 a0 19) (Z.2.2.1 c3)) (some ((M.1 c3 ((M.1 a0 19)).toNatClampNeg), M)))))
set_option maxHeartbeats 4000000 in
set_option maxRecDepth 100000 in
theorem ctX9_here {G : mG} {l : Launch} (hl : l.stackTraces = false) (N : Nat) (Z : mZ) {a0 : Nat} {M : mM} {r : Int32} {M' : mM} (h : fX9_here N Z a0 M = some (r, M')) : CT G l yX9_here (.code yX9_here cX9_here 1 (some .int)) rmX9_here [.ref a0] Z M (.inl (some (.int r))) Z M' := by
  unfold fX9_here at h
  refine CT.of hl (by decide) (Nat.le_of_ble_eq_true rfl) ?_
  intro p e s m args below meth c C hnm
  refine j_sub (L' := [(0, .ref a0)]) [0] rfl ?_
  refine j_aload_n C dX9_here_0 rfl 0 rfl ?_
  obtain ⟨ho1, h⟩ := ck_spec h
  refine j_getI C (cn := RX9) (T := TX9) (N := 23) (ci := 9) rfl iX9 ho1 19 (by decide) rfl fwRX9_235 dX9_here_1 ?_
  refine j_aload_n C dX9_here_4 rfl 0 rfl ?_
  refine j_getI C (cn := RX9) (T := TX9) (N := 23) (ci := 9) rfl iX9 ho1 18 (by decide) rfl fwRX9_232 dX9_here_5 ?_
  refine j_icmp_ge C dX9_here_8 (tgt := 23) (by decide) (fun hc2 => ?_) (fun hc2 => ?_)
  · rw [if_pos hc2] at h
    refine j_iconst C dX9_here_23 (v := (-1 : Int32)) (by decide) ?_
    cases h
    exact j_iret C rfl (by decide) (by decide) dX9_here_24
  · rw [if_neg hc2] at h
    refine j_aload_n C dX9_here_11 rfl 0 rfl ?_
    obtain ⟨c3, hr3, h⟩ := bnd1_spec h
    refine j_getR C (cn := RX9) (T := TX9) (N := 23) (ci := 9) rfl iX9 ho1 17 (by decide) rfl fwRX9_37 dX9_here_12 hr3 ?_
    refine j_aload_n C dX9_here_15 rfl 0 rfl ?_
    refine j_getI C (cn := RX9) (T := TX9) (N := 23) (ci := 9) rfl iX9 ho1 19 (by decide) rfl fwRX9_235 dX9_here_16 ?_
    obtain ⟨ho4, h⟩ := ck_spec h
    obtain ⟨ho5, h⟩ := ck_spec h
    refine j_iald C ho4 ho5 dX9_here_19 ?_
    refine j_goto C dX9_here_20 (tgt := 24) (by decide) ?_
    cases h
    exact j_iret C rfl (by decide) (by decide) dX9_here_24
-- ScaffoldPlannerModel skips
theorem kcRX9_238 : okV RX9 238 yX9_here (.code yX9_here cX9_here 1 (some .int)) = true := by decide +kernel
theorem oyX9_here : okY yX9_here 0 := ⟨by decide +kernel, by decide +kernel, by decide +kernel⟩
abbrev rmX9_skips : Room := { frames := 1, cells := 0, slots := 0, locals := 20 }
theorem dX9_skips_0 : decode cX9_skips 0 = .ok (.aload_n 0, 1) := by decide +kernel
theorem dX9_skips_1 : decode cX9_skips 1 = .ok (.invokevirtual 238, 3) := by decide +kernel
theorem dX9_skips_4 : decode cX9_skips 4 = .ok (.iload_n 1, 1) := by decide +kernel
theorem dX9_skips_5 : decode cX9_skips 5 = .ok (.if_icmp .ne 7, 3) := by decide +kernel
theorem dX9_skips_8 : decode cX9_skips 8 = .ok (.iconst 1, 1) := by decide +kernel
theorem dX9_skips_9 : decode cX9_skips 9 = .ok (.goto 4, 3) := by decide +kernel
theorem dX9_skips_12 : decode cX9_skips 12 = .ok (.iconst 0, 1) := by decide +kernel
theorem dX9_skips_13 : decode cX9_skips 13 = .ok (.istore_n 2, 1) := by decide +kernel
theorem dX9_skips_14 : decode cX9_skips 14 = .ok (.aload_n 0, 1) := by decide +kernel
theorem dX9_skips_15 : decode cX9_skips 15 = .ok (.dup, 1) := by decide +kernel
theorem dX9_skips_16 : decode cX9_skips 16 = .ok (.getfield 235, 3) := by decide +kernel
theorem dX9_skips_19 : decode cX9_skips 19 = .ok (.iload_n 2, 1) := by decide +kernel
theorem dX9_skips_20 : decode cX9_skips 20 = .ok (.ifCond .eq 7, 3) := by decide +kernel
theorem dX9_skips_23 : decode cX9_skips 23 = .ok (.iconst 1, 1) := by decide +kernel
theorem dX9_skips_24 : decode cX9_skips 24 = .ok (.goto 4, 3) := by decide +kernel
theorem dX9_skips_27 : decode cX9_skips 27 = .ok (.iconst 0, 1) := by decide +kernel
theorem dX9_skips_28 : decode cX9_skips 28 = .ok (.iadd, 1) := by decide +kernel
theorem dX9_skips_29 : decode cX9_skips 29 = .ok (.putfield 235, 3) := by decide +kernel
theorem dX9_skips_32 : decode cX9_skips 32 = .ok (.iload_n 2, 1) := by decide +kernel
theorem dX9_skips_33 : decode cX9_skips 33 = .ok (.ireturn, 1) := by decide +kernel
def fX9_skips (N : Nat) (Z : mZ) (a0 : Nat) (a1 : Int32) (M : mM) : Option (Int32 × mM) := ck (okO Z a0 9) (bnd2 (fX9_here N Z a0 M) (fun r2 M2 => if r2 = a1 then some ((1 : Int32), (sI M2 a0 19 ((M2.1 a0 19) + (1 : Int32)))) else some ((0 : Int32), (sI M2 a0 19 ((M2.1 a0 19) + (0 : Int32))))))
set_option maxHeartbeats 4000000 in
set_option maxRecDepth 100000 in
theorem ctX9_skips {G : mG} {l : Launch} (hl : l.stackTraces = false) (N : Nat) (Z : mZ) {a0 : Nat} {a1 : Int32} {M : mM} {r : Int32} {M' : mM} (h : fX9_skips N Z a0 a1 M = some (r, M')) : CT G l yX9_skips (.code yX9_skips cX9_skips 3 (some .boolean)) rmX9_skips [.ref a0, .int a1] Z M (.inl (some (.int r))) Z M' := by
  unfold fX9_skips at h
  refine CT.of hl (by decide) (Nat.le_of_ble_eq_true rfl) ?_
  intro p e s m args below meth c C hnm
  refine j_sub (L' := [(0, .ref a0), (1, .int a1)]) [0, 1] rfl ?_
  refine j_aload_n C dX9_skips_0 rfl 0 rfl ?_
  obtain ⟨ho1, h⟩ := ck_spec h
  obtain ⟨r2, M2, hq2, h⟩ := bnd2_spec h
  refine j_run1 (c_V C (As := []) (rest := []) (ctX9_here C.2.2.2.2.2.2.2.2.1 N Z hq2) kcRX9_238 oyX9_here (ci := 9) (T := TX9) (N := 23) rfl (by decide) ho1 ⟨by decide, by decide⟩ ⟨by decide, by decide⟩ (Nat.le_of_ble_eq_true rfl) rfl dX9_skips_1) ?_
  refine j_iload_n C dX9_skips_4 rfl 1 rfl ?_
  refine j_icmp_ne C dX9_skips_5 (tgt := 12) (by decide) (fun hc3 => ?_) (fun hc3 => ?_)
  · rw [if_neg hc3] at h
    refine j_iconst C dX9_skips_12 (v := (0 : Int32)) (by decide) ?_
    refine j_istore_n C dX9_skips_13 rfl (by decide) (L' := [(2, .int (0 : Int32)), (0, .ref a0), (1, .int a1)]) rfl ?_
    refine j_aload_n C dX9_skips_14 rfl 1 rfl ?_
    refine j_dup C dX9_skips_15 rfl ?_
    refine j_getI C (cn := RX9) (T := TX9) (N := 23) (ci := 9) rfl iX9 ho1 19 (by decide) rfl fwRX9_235 dX9_skips_16 ?_
    refine j_iload_n C dX9_skips_19 rfl 0 rfl ?_
    refine j_if_eq C dX9_skips_20 (tgt := 27) (by decide) (fun _ => ?_) (fun hc => absurd hc (by decide))
    refine j_iconst C dX9_skips_27 (v := (0 : Int32)) (by decide) ?_
    refine j_iadd C dX9_skips_28 ?_
    refine j_putI C tyX9 tyX9_ok nmX9 (cn := RX9) (T := TX9) (N := 23) (ci := 9) rfl iX9 ho1 19 (by decide) rfl fwRX9_235 ⟨rfl, rfl⟩ dX9_skips_29 ?_
    refine j_iload_n C dX9_skips_32 rfl 0 rfl ?_
    cases h
    exact j_zret C rfl (by decide) (by decide) (by decide) dX9_skips_33
  · rw [if_pos hc3] at h
    refine j_iconst C dX9_skips_8 (v := (1 : Int32)) (by decide) ?_
    refine j_goto C dX9_skips_9 (tgt := 13) (by decide) ?_
    refine j_istore_n C dX9_skips_13 rfl (by decide) (L' := [(2, .int (1 : Int32)), (0, .ref a0), (1, .int a1)]) rfl ?_
    refine j_aload_n C dX9_skips_14 rfl 1 rfl ?_
    refine j_dup C dX9_skips_15 rfl ?_
    refine j_getI C (cn := RX9) (T := TX9) (N := 23) (ci := 9) rfl iX9 ho1 19 (by decide) rfl fwRX9_235 dX9_skips_16 ?_
    refine j_iload_n C dX9_skips_19 rfl 0 rfl ?_
    refine j_if_eq C dX9_skips_20 (tgt := 27) (by decide) (fun hc => absurd hc (by decide)) (fun _ => ?_)
    refine j_iconst C dX9_skips_23 (v := (1 : Int32)) (by decide) ?_
    refine j_goto C dX9_skips_24 (tgt := 28) (by decide) ?_
    refine j_iadd C dX9_skips_28 ?_
    refine j_putI C tyX9 tyX9_ok nmX9 (cn := RX9) (T := TX9) (N := 23) (ci := 9) rfl iX9 ho1 19 (by decide) rfl fwRX9_235 ⟨rfl, rfl⟩ dX9_skips_29 ?_
    refine j_iload_n C dX9_skips_32 rfl 0 rfl ?_
    cases h
    exact j_zret C rfl (by decide) (by decide) (by decide) dX9_skips_33
-- ScaffoldPlannerModel digit
abbrev rmX9_digit : Room := { frames := 1, cells := 0, slots := 0, locals := 22 }
theorem dX9_digit_0 : decode cX9_digit 0 = .ok (.aload_n 0, 1) := by decide +kernel
theorem dX9_digit_1 : decode cX9_digit 1 = .ok (.invokevirtual 238, 3) := by decide +kernel
theorem dX9_digit_4 : decode cX9_digit 4 = .ok (.bipush 48, 2) := by decide +kernel
theorem dX9_digit_6 : decode cX9_digit 6 = .ok (.bipush 57, 2) := by decide +kernel
theorem dX9_digit_8 : decode cX9_digit 8 = .ok (.invokestatic 54, 3) := by decide +kernel
theorem dX9_digit_11 : decode cX9_digit 11 = .ok (.ifCond .ne 5, 3) := by decide +kernel
theorem dX9_digit_14 : decode cX9_digit 14 = .ok (.iconst 0, 1) := by decide +kernel
theorem dX9_digit_15 : decode cX9_digit 15 = .ok (.ireturn, 1) := by decide +kernel
theorem dX9_digit_16 : decode cX9_digit 16 = .ok (.aload_n 0, 1) := by decide +kernel
theorem dX9_digit_17 : decode cX9_digit 17 = .ok (.getfield 40, 3) := by decide +kernel
theorem dX9_digit_20 : decode cX9_digit 20 = .ok (.iload_n 1, 1) := by decide +kernel
theorem dX9_digit_21 : decode cX9_digit 21 = .ok (.aload_n 0, 1) := by decide +kernel
theorem dX9_digit_22 : decode cX9_digit 22 = .ok (.invokevirtual 238, 3) := by decide +kernel
theorem dX9_digit_25 : decode cX9_digit 25 = .ok (.bipush 48, 2) := by decide +kernel
theorem dX9_digit_27 : decode cX9_digit 27 = .ok (.isub, 1) := by decide +kernel
theorem dX9_digit_28 : decode cX9_digit 28 = .ok (.iastore, 1) := by decide +kernel
theorem dX9_digit_29 : decode cX9_digit 29 = .ok (.aload_n 0, 1) := by decide +kernel
theorem dX9_digit_30 : decode cX9_digit 30 = .ok (.dup, 1) := by decide +kernel
theorem dX9_digit_31 : decode cX9_digit 31 = .ok (.getfield 235, 3) := by decide +kernel
theorem dX9_digit_34 : decode cX9_digit 34 = .ok (.iconst 1, 1) := by decide +kernel
theorem dX9_digit_35 : decode cX9_digit 35 = .ok (.iadd, 1) := by decide +kernel
theorem dX9_digit_36 : decode cX9_digit 36 = .ok (.putfield 235, 3) := by decide +kernel
theorem dX9_digit_39 : decode cX9_digit 39 = .ok (.iconst 1, 1) := by decide +kernel
theorem dX9_digit_40 : decode cX9_digit 40 = .ok (.ireturn, 1) := by decide +kernel
def fX9_digit (N : Nat) (Z : mZ) (a0 : Nat) (a1 : Int32) (M : mM) : Option (Int32 × mM) := ck (okO Z a0 9) (bnd2 (fX9_here N Z a0 M) (fun r2 M2 => bnd2 (fX9_in N Z r2 (48 : Int32) (57 : Int32) M2) (fun r3 M3 => if r3 = 0 then some ((0 : Int32), M3) else bnd1 (Z.2.2.2 a0 20) (fun c5 => bnd2 (fX9_here N Z a0 M3) (fun r6 M6 => ck (okO Z c5 20) (ck (inB a1 (Z.2.2.1 c5)) (some ((1 : Int32), (sI (sI M6 c5 (a1).toNatClampNeg (r6 - (48 : Int32))) a0 19 (((sI M6 c5 (a1).toNatClampNeg (r6 - (48 : Int32))).1 a0 19) + (1 : Int32)))))))))))
set_option maxHeartbeats 4000000 in
set_option maxRecDepth 100000 in
theorem ctX9_digit {G : mG} {l : Launch} (hl : l.stackTraces = false) (N : Nat) (Z : mZ) {a0 : Nat} {a1 : Int32} {M : mM} {r : Int32} {M' : mM} (h : fX9_digit N Z a0 a1 M = some (r, M')) : CT G l yX9_digit (.code yX9_digit cX9_digit 2 (some .boolean)) rmX9_digit [.ref a0, .int a1] Z M (.inl (some (.int r))) Z M' := by
  unfold fX9_digit at h
  refine CT.of hl (by decide) (Nat.le_of_ble_eq_true rfl) ?_
  intro p e s m args below meth c C hnm
  refine j_sub (L' := [(0, .ref a0), (1, .int a1)]) [0, 1] rfl ?_
  refine j_aload_n C dX9_digit_0 rfl 0 rfl ?_
  obtain ⟨ho1, h⟩ := ck_spec h
  obtain ⟨r2, M2, hq2, h⟩ := bnd2_spec h
  refine j_run1 (c_V C (As := []) (rest := []) (ctX9_here C.2.2.2.2.2.2.2.2.1 N Z hq2) kcRX9_238 oyX9_here (ci := 9) (T := TX9) (N := 23) rfl (by decide) ho1 ⟨by decide, by decide⟩ ⟨by decide, by decide⟩ (Nat.le_of_ble_eq_true rfl) rfl dX9_digit_1) ?_
  refine j_bipush C dX9_digit_4 (v := (48 : Int32)) (by decide) ?_
  refine j_bipush C dX9_digit_6 (v := (57 : Int32)) (by decide) ?_
  obtain ⟨r3, M3, hq3, h⟩ := bnd2_spec h
  refine j_run1 (c_S C (As := [.int r2, .int (48 : Int32), .int (57 : Int32)]) (rest := []) (ctX9_in C.2.2.2.2.2.2.2.2.1 N Z hq3) kcRX9_54 oyX9_in ⟨by decide, by decide⟩ ⟨by decide, by decide⟩ (Nat.le_of_ble_eq_true rfl) rfl dX9_digit_8) ?_
  refine j_if_ne C dX9_digit_11 (tgt := 16) (by decide) (fun hc4 => ?_) (fun hc4 => ?_)
  · rw [if_neg hc4] at h
    refine j_aload_n C dX9_digit_16 rfl 0 rfl ?_
    obtain ⟨c5, hr5, h⟩ := bnd1_spec h
    refine j_getR C (cn := RX9) (T := TX9) (N := 23) (ci := 9) rfl iX9 ho1 20 (by decide) rfl fwRX9_40 dX9_digit_17 hr5 ?_
    refine j_iload_n C dX9_digit_20 rfl 1 rfl ?_
    refine j_aload_n C dX9_digit_21 rfl 0 rfl ?_
    obtain ⟨r6, M6, hq6, h⟩ := bnd2_spec h
    refine j_run1 (c_V C (As := []) (rest := [.int a1, .ref c5]) (ctX9_here C.2.2.2.2.2.2.2.2.1 N Z hq6) kcRX9_238 oyX9_here (ci := 9) (T := TX9) (N := 23) rfl (by decide) ho1 ⟨by decide, by decide⟩ ⟨by decide, by decide⟩ (Nat.le_of_ble_eq_true rfl) rfl dX9_digit_22) ?_
    refine j_bipush C dX9_digit_25 (v := (48 : Int32)) (by decide) ?_
    refine j_isub C dX9_digit_27 ?_
    obtain ⟨ho7, h⟩ := ck_spec h
    obtain ⟨ho8, h⟩ := ck_spec h
    refine j_iast C ho7 ho8 dX9_digit_28 ?_
    refine j_aload_n C dX9_digit_29 rfl 0 rfl ?_
    refine j_dup C dX9_digit_30 rfl ?_
    refine j_getI C (cn := RX9) (T := TX9) (N := 23) (ci := 9) rfl iX9 ho1 19 (by decide) rfl fwRX9_235 dX9_digit_31 ?_
    refine j_iconst C dX9_digit_34 (v := (1 : Int32)) (by decide) ?_
    refine j_iadd C dX9_digit_35 ?_
    refine j_putI C tyX9 tyX9_ok nmX9 (cn := RX9) (T := TX9) (N := 23) (ci := 9) rfl iX9 ho1 19 (by decide) rfl fwRX9_235 ⟨rfl, rfl⟩ dX9_digit_36 ?_
    refine j_iconst C dX9_digit_39 (v := (1 : Int32)) (by decide) ?_
    cases h
    exact j_zret C rfl (by decide) (by decide) (by decide) dX9_digit_40
  · rw [if_pos hc4] at h
    refine j_iconst C dX9_digit_14 (v := (0 : Int32)) (by decide) ?_
    cases h
    exact j_zret C rfl (by decide) (by decide) (by decide) dX9_digit_15
-- ScaffoldPlannerModel command
theorem fwRX9_241 : Cond.fieldLink RX9 241 RX9 (TX9 21).2.1 (TX9 21).2.2.1 ∈ gw := by decide +kernel
theorem kcRX9_244 : okV RX9 244 yX9_skips (.code yX9_skips cX9_skips 3 (some .boolean)) = true := by decide +kernel
theorem oyX9_skips : okY yX9_skips 1 := ⟨by decide +kernel, by decide +kernel, by decide +kernel⟩
theorem kcRX9_247 : okV RX9 247 yX9_digit (.code yX9_digit cX9_digit 2 (some .boolean)) = true := by decide +kernel
theorem oyX9_digit : okY yX9_digit 1 := ⟨by decide +kernel, by decide +kernel, by decide +kernel⟩
abbrev rmX9_command : Room := { frames := 2, cells := 0, slots := 0, locals := 43 }
theorem dX9_command_0 : decode cX9_command 0 = .ok (.iconst 5, 1) := by decide +kernel
theorem dX9_command_1 : decode cX9_command 1 = .ok (.aload_n 0, 1) := by decide +kernel
theorem dX9_command_2 : decode cX9_command 2 = .ok (.getfield 241, 3) := by decide +kernel
theorem dX9_command_5 : decode cX9_command 5 = .ok (.imul, 1) := by decide +kernel
theorem dX9_command_6 : decode cX9_command 6 = .ok (.istore_n 1, 1) := by decide +kernel
theorem dX9_command_7 : decode cX9_command 7 = .ok (.aload_n 0, 1) := by decide +kernel
theorem dX9_command_8 : decode cX9_command 8 = .ok (.getfield 40, 3) := by decide +kernel
theorem dX9_command_11 : decode cX9_command 11 = .ok (.iload_n 1, 1) := by decide +kernel
theorem dX9_command_12 : decode cX9_command 12 = .ok (.iconst 2, 1) := by decide +kernel
theorem dX9_command_13 : decode cX9_command 13 = .ok (.iadd, 1) := by decide +kernel
theorem dX9_command_14 : decode cX9_command 14 = .ok (.iconst 0, 1) := by decide +kernel
theorem dX9_command_15 : decode cX9_command 15 = .ok (.iastore, 1) := by decide +kernel
theorem dX9_command_16 : decode cX9_command 16 = .ok (.aload_n 0, 1) := by decide +kernel
theorem dX9_command_17 : decode cX9_command 17 = .ok (.getfield 40, 3) := by decide +kernel
theorem dX9_command_20 : decode cX9_command 20 = .ok (.iload_n 1, 1) := by decide +kernel
theorem dX9_command_21 : decode cX9_command 21 = .ok (.iconst 3, 1) := by decide +kernel
theorem dX9_command_22 : decode cX9_command 22 = .ok (.iadd, 1) := by decide +kernel
theorem dX9_command_23 : decode cX9_command 23 = .ok (.iconst 1, 1) := by decide +kernel
theorem dX9_command_24 : decode cX9_command 24 = .ok (.iastore, 1) := by decide +kernel
theorem dX9_command_25 : decode cX9_command 25 = .ok (.aload_n 0, 1) := by decide +kernel
theorem dX9_command_26 : decode cX9_command 26 = .ok (.getfield 40, 3) := by decide +kernel
theorem dX9_command_29 : decode cX9_command 29 = .ok (.iload_n 1, 1) := by decide +kernel
theorem dX9_command_30 : decode cX9_command 30 = .ok (.iconst 4, 1) := by decide +kernel
theorem dX9_command_31 : decode cX9_command 31 = .ok (.iadd, 1) := by decide +kernel
theorem dX9_command_32 : decode cX9_command 32 = .ok (.aload_n 0, 1) := by decide +kernel
theorem dX9_command_33 : decode cX9_command 33 = .ok (.bipush 45, 2) := by decide +kernel
theorem dX9_command_35 : decode cX9_command 35 = .ok (.invokevirtual 244, 3) := by decide +kernel
theorem dX9_command_38 : decode cX9_command 38 = .ok (.ifCond .eq 7, 3) := by decide +kernel
theorem dX9_command_41 : decode cX9_command 41 = .ok (.iconst 1, 1) := by decide +kernel
theorem dX9_command_42 : decode cX9_command 42 = .ok (.goto 4, 3) := by decide +kernel
theorem dX9_command_45 : decode cX9_command 45 = .ok (.iconst 0, 1) := by decide +kernel
theorem dX9_command_46 : decode cX9_command 46 = .ok (.iastore, 1) := by decide +kernel
theorem dX9_command_47 : decode cX9_command 47 = .ok (.aload_n 0, 1) := by decide +kernel
theorem dX9_command_48 : decode cX9_command 48 = .ok (.invokevirtual 238, 3) := by decide +kernel
theorem dX9_command_51 : decode cX9_command 51 = .ok (.istore_n 2, 1) := by decide +kernel
theorem dX9_command_52 : decode cX9_command 52 = .ok (.aload_n 0, 1) := by decide +kernel
theorem dX9_command_53 : decode cX9_command 53 = .ok (.getfield 40, 3) := by decide +kernel
theorem dX9_command_56 : decode cX9_command 56 = .ok (.iload_n 1, 1) := by decide +kernel
theorem dX9_command_57 : decode cX9_command 57 = .ok (.iload_n 2, 1) := by decide +kernel
theorem dX9_command_58 : decode cX9_command 58 = .ok (.bipush 101, 2) := by decide +kernel
theorem dX9_command_60 : decode cX9_command 60 = .ok (.if_icmp .ne 7, 3) := by decide +kernel
theorem dX9_command_63 : decode cX9_command 63 = .ok (.iconst 0, 1) := by decide +kernel
theorem dX9_command_64 : decode cX9_command 64 = .ok (.goto 44, 3) := by decide +kernel
theorem dX9_command_67 : decode cX9_command 67 = .ok (.iload_n 2, 1) := by decide +kernel
theorem dX9_command_68 : decode cX9_command 68 = .ok (.bipush 100, 2) := by decide +kernel
theorem dX9_command_70 : decode cX9_command 70 = .ok (.if_icmp .ne 7, 3) := by decide +kernel
theorem dX9_command_73 : decode cX9_command 73 = .ok (.iconst 2, 1) := by decide +kernel
theorem dX9_command_74 : decode cX9_command 74 = .ok (.goto 34, 3) := by decide +kernel
theorem dX9_command_77 : decode cX9_command 77 = .ok (.iload_n 2, 1) := by decide +kernel
theorem dX9_command_78 : decode cX9_command 78 = .ok (.bipush 98, 2) := by decide +kernel
theorem dX9_command_80 : decode cX9_command 80 = .ok (.if_icmp .ne 7, 3) := by decide +kernel
theorem dX9_command_83 : decode cX9_command 83 = .ok (.iconst 3, 1) := by decide +kernel
theorem dX9_command_84 : decode cX9_command 84 = .ok (.goto 24, 3) := by decide +kernel
theorem dX9_command_87 : decode cX9_command 87 = .ok (.iload_n 2, 1) := by decide +kernel
theorem dX9_command_88 : decode cX9_command 88 = .ok (.bipush 116, 2) := by decide +kernel
theorem dX9_command_90 : decode cX9_command 90 = .ok (.if_icmp .ne 7, 3) := by decide +kernel
theorem dX9_command_93 : decode cX9_command 93 = .ok (.iconst 4, 1) := by decide +kernel
theorem dX9_command_94 : decode cX9_command 94 = .ok (.goto 14, 3) := by decide +kernel
theorem dX9_command_97 : decode cX9_command 97 = .ok (.iload_n 2, 1) := by decide +kernel
theorem dX9_command_98 : decode cX9_command 98 = .ok (.bipush 108, 2) := by decide +kernel
theorem dX9_command_100 : decode cX9_command 100 = .ok (.if_icmp .ne 7, 3) := by decide +kernel
theorem dX9_command_103 : decode cX9_command 103 = .ok (.iconst 5, 1) := by decide +kernel
theorem dX9_command_104 : decode cX9_command 104 = .ok (.goto 4, 3) := by decide +kernel
theorem dX9_command_107 : decode cX9_command 107 = .ok (.iconst (-1), 1) := by decide +kernel
theorem dX9_command_108 : decode cX9_command 108 = .ok (.iastore, 1) := by decide +kernel
theorem dX9_command_109 : decode cX9_command 109 = .ok (.aload_n 0, 1) := by decide +kernel
theorem dX9_command_110 : decode cX9_command 110 = .ok (.getfield 40, 3) := by decide +kernel
theorem dX9_command_113 : decode cX9_command 113 = .ok (.iload_n 1, 1) := by decide +kernel
theorem dX9_command_114 : decode cX9_command 114 = .ok (.iaload, 1) := by decide +kernel
theorem dX9_command_115 : decode cX9_command 115 = .ok (.ifCond .ge 5, 3) := by decide +kernel
theorem dX9_command_118 : decode cX9_command 118 = .ok (.iconst 0, 1) := by decide +kernel
theorem dX9_command_119 : decode cX9_command 119 = .ok (.ireturn, 1) := by decide +kernel
theorem dX9_command_120 : decode cX9_command 120 = .ok (.aload_n 0, 1) := by decide +kernel
theorem dX9_command_121 : decode cX9_command 121 = .ok (.dup, 1) := by decide +kernel
theorem dX9_command_122 : decode cX9_command 122 = .ok (.getfield 235, 3) := by decide +kernel
theorem dX9_command_125 : decode cX9_command 125 = .ok (.iconst 1, 1) := by decide +kernel
theorem dX9_command_126 : decode cX9_command 126 = .ok (.iadd, 1) := by decide +kernel
theorem dX9_command_127 : decode cX9_command 127 = .ok (.putfield 235, 3) := by decide +kernel
theorem dX9_command_130 : decode cX9_command 130 = .ok (.aload_n 0, 1) := by decide +kernel
theorem dX9_command_131 : decode cX9_command 131 = .ok (.dup, 1) := by decide +kernel
theorem dX9_command_132 : decode cX9_command 132 = .ok (.getfield 241, 3) := by decide +kernel
theorem dX9_command_135 : decode cX9_command 135 = .ok (.iconst 1, 1) := by decide +kernel
theorem dX9_command_136 : decode cX9_command 136 = .ok (.iadd, 1) := by decide +kernel
theorem dX9_command_137 : decode cX9_command 137 = .ok (.putfield 241, 3) := by decide +kernel
theorem dX9_command_140 : decode cX9_command 140 = .ok (.aload_n 0, 1) := by decide +kernel
theorem dX9_command_141 : decode cX9_command 141 = .ok (.iload_n 1, 1) := by decide +kernel
theorem dX9_command_142 : decode cX9_command 142 = .ok (.iconst 1, 1) := by decide +kernel
theorem dX9_command_143 : decode cX9_command 143 = .ok (.iadd, 1) := by decide +kernel
theorem dX9_command_144 : decode cX9_command 144 = .ok (.invokevirtual 247, 3) := by decide +kernel
theorem dX9_command_147 : decode cX9_command 147 = .ok (.ifCond .ne 5, 3) := by decide +kernel
theorem dX9_command_150 : decode cX9_command 150 = .ok (.iconst 0, 1) := by decide +kernel
theorem dX9_command_151 : decode cX9_command 151 = .ok (.ireturn, 1) := by decide +kernel
theorem dX9_command_152 : decode cX9_command 152 = .ok (.aload_n 0, 1) := by decide +kernel
theorem dX9_command_153 : decode cX9_command 153 = .ok (.getfield 40, 3) := by decide +kernel
theorem dX9_command_156 : decode cX9_command 156 = .ok (.iload_n 1, 1) := by decide +kernel
theorem dX9_command_157 : decode cX9_command 157 = .ok (.iaload, 1) := by decide +kernel
theorem dX9_command_158 : decode cX9_command 158 = .ok (.ifCond .eq 51, 3) := by decide +kernel
theorem dX9_command_161 : decode cX9_command 161 = .ok (.aload_n 0, 1) := by decide +kernel
theorem dX9_command_162 : decode cX9_command 162 = .ok (.bipush 46, 2) := by decide +kernel
theorem dX9_command_164 : decode cX9_command 164 = .ok (.invokevirtual 244, 3) := by decide +kernel
theorem dX9_command_167 : decode cX9_command 167 = .ok (.ifCond .eq 46, 3) := by decide +kernel
theorem dX9_command_170 : decode cX9_command 170 = .ok (.aload_n 0, 1) := by decide +kernel
theorem dX9_command_171 : decode cX9_command 171 = .ok (.iload_n 1, 1) := by decide +kernel
theorem dX9_command_172 : decode cX9_command 172 = .ok (.iconst 2, 1) := by decide +kernel
theorem dX9_command_173 : decode cX9_command 173 = .ok (.iadd, 1) := by decide +kernel
theorem dX9_command_174 : decode cX9_command 174 = .ok (.invokevirtual 247, 3) := by decide +kernel
theorem dX9_command_177 : decode cX9_command 177 = .ok (.ifCond .eq 36, 3) := by decide +kernel
theorem dX9_command_180 : decode cX9_command 180 = .ok (.aload_n 0, 1) := by decide +kernel
theorem dX9_command_181 : decode cX9_command 181 = .ok (.getfield 40, 3) := by decide +kernel
theorem dX9_command_184 : decode cX9_command 184 = .ok (.iload_n 1, 1) := by decide +kernel
theorem dX9_command_185 : decode cX9_command 185 = .ok (.iaload, 1) := by decide +kernel
theorem dX9_command_186 : decode cX9_command 186 = .ok (.iconst 2, 1) := by decide +kernel
theorem dX9_command_187 : decode cX9_command 187 = .ok (.if_icmp .ne 22, 3) := by decide +kernel
theorem dX9_command_190 : decode cX9_command 190 = .ok (.aload_n 0, 1) := by decide +kernel
theorem dX9_command_191 : decode cX9_command 191 = .ok (.bipush 42, 2) := by decide +kernel
theorem dX9_command_193 : decode cX9_command 193 = .ok (.invokevirtual 244, 3) := by decide +kernel
theorem dX9_command_196 : decode cX9_command 196 = .ok (.ifCond .eq 13, 3) := by decide +kernel
theorem dX9_command_199 : decode cX9_command 199 = .ok (.aload_n 0, 1) := by decide +kernel
theorem dX9_command_200 : decode cX9_command 200 = .ok (.iload_n 1, 1) := by decide +kernel
theorem dX9_command_201 : decode cX9_command 201 = .ok (.iconst 3, 1) := by decide +kernel
theorem dX9_command_202 : decode cX9_command 202 = .ok (.iadd, 1) := by decide +kernel
theorem dX9_command_203 : decode cX9_command 203 = .ok (.invokevirtual 247, 3) := by decide +kernel
theorem dX9_command_206 : decode cX9_command 206 = .ok (.ifCond .eq 7, 3) := by decide +kernel
theorem dX9_command_209 : decode cX9_command 209 = .ok (.iconst 1, 1) := by decide +kernel
theorem dX9_command_210 : decode cX9_command 210 = .ok (.goto 4, 3) := by decide +kernel
theorem dX9_command_213 : decode cX9_command 213 = .ok (.iconst 0, 1) := by decide +kernel
theorem dX9_command_214 : decode cX9_command 214 = .ok (.ireturn, 1) := by decide +kernel
def fX9_command_108 (N : Nat) (Z : mZ) (v0 : Nat) (v1 : Int32) (x0 : Int32) (x1 : Int32) (x2 : Nat) (M : mM) : Option (Int32 × mM) := ck (okO Z x2 20) (ck (inB x1 (Z.2.2.1 x2)) (ck (okO Z v0 9) (bnd1 (Z.2.2.2 v0 20) (fun c17 => ck (okI Z c17) (ck (inB v1 (Z.2.2.1 c17)) (if 0 ≤ ((sI M x2 (x1).toNatClampNeg x0).1 c17 (v1).toNatClampNeg) then bnd2 (fX9_digit N Z v0 (v1 + (1 : Int32)) (sI (sI (sI M x2 (x1).toNatClampNeg x0) v0 19 (((sI M x2 (x1).toNatClampNeg x0).1 v0 19) + (1 : Int32))) v0 21 (((sI (sI M x2 (x1).toNatClampNeg x0) v0 19 (((sI M x2 (x1).toNatClampNeg x0).1 v0 19) + (1 : Int32))).1 v0 21) + (1 : Int32)))) (fun r21 M21 => if r21 = 0 then some ((0 : Int32), M21) else if (M21.1 c17 (v1).toNatClampNeg) = 0 then some ((1 : Int32), M21) else bnd2 (fX9_skips N Z v0 (46 : Int32) M21) (fun r24 M24 => if r24 = 0 then some ((0 : Int32), M24) else bnd2 (fX9_digit N Z v0 (v1 + (2 : Int32)) M24) (fun r26 M26 => if r26 = 0 then some ((0 : Int32), M26) else if (M26.1 c17 (v1).toNatClampNeg) = (2 : Int32) then bnd2 (fX9_skips N Z v0 (42 : Int32) M26) (fun r29 M29 => if r29 = 0 then some ((1 : Int32), M29) else bnd2 (fX9_digit N Z v0 (v1 + (3 : Int32)) M29) (fun r31 M31 => if r31 = 0 then some ((0 : Int32), M31) else some ((1 : Int32), M31))) else some ((1 : Int32), M26)))) else some ((0 : Int32), (sI M x2 (x1).toNatClampNeg x0))))))))
set_option maxHeartbeats 4000000 in
set_option maxRecDepth 100000 in
theorem tX9_command_108 {G : mG} {p : Program} {l : Launch} {e : Env} {s : State} {m : MethodId} {args : Array Value} {below : List Frame} {meth : Method} {c : Code} (C : Cx G p l s m args meth c RX9 cX9_command 3 (some .boolean) []) (hnm : meth.name = yX9_command.name) (N : Nat) (Z : mZ) : ∀ (v0 : Nat) (v1 : Int32) (x0 : Int32) (x1 : Int32) (x2 : Nat) (M : mM) (r : Int32) (M' : mM), fX9_command_108 N Z v0 v1 x0 x1 x2 M = some (r, M') → JJ G p l e rmX9_command s m args below meth c 3 (mEnd G below args s rmX9_command (.inl (some (.int r))) Z M') 0 0 108 [(0, .ref v0), (1, .int v1)] [.int x0, .int x1, .ref x2] Z M := by
  intro v0 v1 x0 x1 x2 M r M' h
  unfold fX9_command_108 at h
  obtain ⟨ho14, h⟩ := ck_spec h
  obtain ⟨ho15, h⟩ := ck_spec h
  refine j_iast C ho14 ho15 dX9_command_108 ?_
  refine j_aload_n C dX9_command_109 rfl 0 rfl ?_
  obtain ⟨ho16, h⟩ := ck_spec h
  obtain ⟨c17, hr17, h⟩ := bnd1_spec h
  refine j_getR C (cn := RX9) (T := TX9) (N := 23) (ci := 9) rfl iX9 ho16 20 (by decide) rfl fwRX9_40 dX9_command_110 hr17 ?_
  refine j_iload_n C dX9_command_113 rfl 1 rfl ?_
  obtain ⟨ho18, h⟩ := ck_spec h
  obtain ⟨ho19, h⟩ := ck_spec h
  refine j_iald C ho18 ho19 dX9_command_114 ?_
  refine j_if_ge C dX9_command_115 (tgt := 120) (by decide) (fun hc20 => ?_) (fun hc20 => ?_)
  · rw [if_pos hc20] at h
    refine j_aload_n C dX9_command_120 rfl 0 rfl ?_
    refine j_dup C dX9_command_121 rfl ?_
    refine j_getI C (cn := RX9) (T := TX9) (N := 23) (ci := 9) rfl iX9 ho16 19 (by decide) rfl fwRX9_235 dX9_command_122 ?_
    refine j_iconst C dX9_command_125 (v := (1 : Int32)) (by decide) ?_
    refine j_iadd C dX9_command_126 ?_
    refine j_putI C tyX9 tyX9_ok nmX9 (cn := RX9) (T := TX9) (N := 23) (ci := 9) rfl iX9 ho16 19 (by decide) rfl fwRX9_235 ⟨rfl, rfl⟩ dX9_command_127 ?_
    refine j_aload_n C dX9_command_130 rfl 0 rfl ?_
    refine j_dup C dX9_command_131 rfl ?_
    refine j_getI C (cn := RX9) (T := TX9) (N := 23) (ci := 9) rfl iX9 ho16 21 (by decide) rfl fwRX9_241 dX9_command_132 ?_
    refine j_iconst C dX9_command_135 (v := (1 : Int32)) (by decide) ?_
    refine j_iadd C dX9_command_136 ?_
    refine j_putI C tyX9 tyX9_ok nmX9 (cn := RX9) (T := TX9) (N := 23) (ci := 9) rfl iX9 ho16 21 (by decide) rfl fwRX9_241 ⟨rfl, rfl⟩ dX9_command_137 ?_
    refine j_aload_n C dX9_command_140 rfl 0 rfl ?_
    refine j_iload_n C dX9_command_141 rfl 1 rfl ?_
    refine j_iconst C dX9_command_142 (v := (1 : Int32)) (by decide) ?_
    refine j_iadd C dX9_command_143 ?_
    obtain ⟨r21, M21, hq21, h⟩ := bnd2_spec h
    refine j_run1 (c_V C (As := [.int (v1 + (1 : Int32))]) (rest := []) (ctX9_digit C.2.2.2.2.2.2.2.2.1 N Z hq21) kcRX9_247 oyX9_digit (ci := 9) (T := TX9) (N := 23) rfl (by decide) ho16 ⟨by decide, by decide⟩ ⟨by decide, by decide⟩ (Nat.le_of_ble_eq_true rfl) rfl dX9_command_144) ?_
    refine j_if_ne C dX9_command_147 (tgt := 152) (by decide) (fun hc22 => ?_) (fun hc22 => ?_)
    · rw [if_neg hc22] at h
      refine j_aload_n C dX9_command_152 rfl 0 rfl ?_
      refine j_getR C (cn := RX9) (T := TX9) (N := 23) (ci := 9) rfl iX9 ho16 20 (by decide) rfl fwRX9_40 dX9_command_153 hr17 ?_
      refine j_iload_n C dX9_command_156 rfl 1 rfl ?_
      refine j_iald C ho18 ho19 dX9_command_157 ?_
      refine j_if_eq C dX9_command_158 (tgt := 209) (by decide) (fun hc23 => ?_) (fun hc23 => ?_)
      · rw [if_pos hc23] at h
        refine j_iconst C dX9_command_209 (v := (1 : Int32)) (by decide) ?_
        refine j_goto C dX9_command_210 (tgt := 214) (by decide) ?_
        cases h
        exact j_zret C rfl (by decide) (by decide) (by decide) dX9_command_214
      · rw [if_neg hc23] at h
        refine j_aload_n C dX9_command_161 rfl 0 rfl ?_
        refine j_bipush C dX9_command_162 (v := (46 : Int32)) (by decide) ?_
        obtain ⟨r24, M24, hq24, h⟩ := bnd2_spec h
        refine j_run1 (c_V C (As := [.int (46 : Int32)]) (rest := []) (ctX9_skips C.2.2.2.2.2.2.2.2.1 N Z hq24) kcRX9_244 oyX9_skips (ci := 9) (T := TX9) (N := 23) rfl (by decide) ho16 ⟨by decide, by decide⟩ ⟨by decide, by decide⟩ (Nat.le_of_ble_eq_true rfl) rfl dX9_command_164) ?_
        refine j_if_eq C dX9_command_167 (tgt := 213) (by decide) (fun hc25 => ?_) (fun hc25 => ?_)
        · rw [if_pos hc25] at h
          refine j_iconst C dX9_command_213 (v := (0 : Int32)) (by decide) ?_
          cases h
          exact j_zret C rfl (by decide) (by decide) (by decide) dX9_command_214
        · rw [if_neg hc25] at h
          refine j_aload_n C dX9_command_170 rfl 0 rfl ?_
          refine j_iload_n C dX9_command_171 rfl 1 rfl ?_
          refine j_iconst C dX9_command_172 (v := (2 : Int32)) (by decide) ?_
          refine j_iadd C dX9_command_173 ?_
          obtain ⟨r26, M26, hq26, h⟩ := bnd2_spec h
          refine j_run1 (c_V C (As := [.int (v1 + (2 : Int32))]) (rest := []) (ctX9_digit C.2.2.2.2.2.2.2.2.1 N Z hq26) kcRX9_247 oyX9_digit (ci := 9) (T := TX9) (N := 23) rfl (by decide) ho16 ⟨by decide, by decide⟩ ⟨by decide, by decide⟩ (Nat.le_of_ble_eq_true rfl) rfl dX9_command_174) ?_
          refine j_if_eq C dX9_command_177 (tgt := 213) (by decide) (fun hc27 => ?_) (fun hc27 => ?_)
          · rw [if_pos hc27] at h
            refine j_iconst C dX9_command_213 (v := (0 : Int32)) (by decide) ?_
            cases h
            exact j_zret C rfl (by decide) (by decide) (by decide) dX9_command_214
          · rw [if_neg hc27] at h
            refine j_aload_n C dX9_command_180 rfl 0 rfl ?_
            refine j_getR C (cn := RX9) (T := TX9) (N := 23) (ci := 9) rfl iX9 ho16 20 (by decide) rfl fwRX9_40 dX9_command_181 hr17 ?_
            refine j_iload_n C dX9_command_184 rfl 1 rfl ?_
            refine j_iald C ho18 ho19 dX9_command_185 ?_
            refine j_iconst C dX9_command_186 (v := (2 : Int32)) (by decide) ?_
            refine j_icmp_ne C dX9_command_187 (tgt := 209) (by decide) (fun hc28 => ?_) (fun hc28 => ?_)
            · rw [if_neg hc28] at h
              refine j_iconst C dX9_command_209 (v := (1 : Int32)) (by decide) ?_
              refine j_goto C dX9_command_210 (tgt := 214) (by decide) ?_
              cases h
              exact j_zret C rfl (by decide) (by decide) (by decide) dX9_command_214
            · rw [if_pos hc28] at h
              refine j_aload_n C dX9_command_190 rfl 0 rfl ?_
              refine j_bipush C dX9_command_191 (v := (42 : Int32)) (by decide) ?_
              obtain ⟨r29, M29, hq29, h⟩ := bnd2_spec h
              refine j_run1 (c_V C (As := [.int (42 : Int32)]) (rest := []) (ctX9_skips C.2.2.2.2.2.2.2.2.1 N Z hq29) kcRX9_244 oyX9_skips (ci := 9) (T := TX9) (N := 23) rfl (by decide) ho16 ⟨by decide, by decide⟩ ⟨by decide, by decide⟩ (Nat.le_of_ble_eq_true rfl) rfl dX9_command_193) ?_
              refine j_if_eq C dX9_command_196 (tgt := 209) (by decide) (fun hc30 => ?_) (fun hc30 => ?_)
              · rw [if_pos hc30] at h
                refine j_iconst C dX9_command_209 (v := (1 : Int32)) (by decide) ?_
                refine j_goto C dX9_command_210 (tgt := 214) (by decide) ?_
                cases h
                exact j_zret C rfl (by decide) (by decide) (by decide) dX9_command_214
              · rw [if_neg hc30] at h
                refine j_aload_n C dX9_command_199 rfl 0 rfl ?_
                refine j_iload_n C dX9_command_200 rfl 1 rfl ?_
                refine j_iconst C dX9_command_201 (v := (3 : Int32)) (by decide) ?_
                refine j_iadd C dX9_command_202 ?_
                obtain ⟨r31, M31, hq31, h⟩ := bnd2_spec h
                refine j_run1 (c_V C (As := [.int (v1 + (3 : Int32))]) (rest := []) (ctX9_digit C.2.2.2.2.2.2.2.2.1 N Z hq31) kcRX9_247 oyX9_digit (ci := 9) (T := TX9) (N := 23) rfl (by decide) ho16 ⟨by decide, by decide⟩ ⟨by decide, by decide⟩ (Nat.le_of_ble_eq_true rfl) rfl dX9_command_203) ?_
                refine j_if_eq C dX9_command_206 (tgt := 213) (by decide) (fun hc32 => ?_) (fun hc32 => ?_)
                · rw [if_pos hc32] at h
                  refine j_iconst C dX9_command_213 (v := (0 : Int32)) (by decide) ?_
                  cases h
                  exact j_zret C rfl (by decide) (by decide) (by decide) dX9_command_214
                · rw [if_neg hc32] at h
                  refine j_iconst C dX9_command_209 (v := (1 : Int32)) (by decide) ?_
                  refine j_goto C dX9_command_210 (tgt := 214) (by decide) ?_
                  cases h
                  exact j_zret C rfl (by decide) (by decide) (by decide) dX9_command_214
    · rw [if_pos hc22] at h
      refine j_iconst C dX9_command_150 (v := (0 : Int32)) (by decide) ?_
      cases h
      exact j_zret C rfl (by decide) (by decide) (by decide) dX9_command_151
  · rw [if_neg hc20] at h
    refine j_iconst C dX9_command_118 (v := (0 : Int32)) (by decide) ?_
    cases h
    exact j_zret C rfl (by decide) (by decide) (by decide) dX9_command_119
def fX9_command_46 (N : Nat) (Z : mZ) (v0 : Nat) (v1 : Int32) (x0 : Int32) (x1 : Int32) (x2 : Nat) (M : mM) : Option (Int32 × mM) := ck (okO Z x2 20) (ck (inB x1 (Z.2.2.1 x2)) (ck (okO Z v0 9) (bnd2 (fX9_here N Z v0 (sI M x2 (x1).toNatClampNeg x0)) (fun r11 M11 => bnd1 (Z.2.2.2 v0 20) (fun c12 => if r11 = (101 : Int32) then fX9_command_108 N Z v0 v1 (0 : Int32) v1 c12 M11 else if r11 = (100 : Int32) then fX9_command_108 N Z v0 v1 (2 : Int32) v1 c12 M11 else if r11 = (98 : Int32) then fX9_command_108 N Z v0 v1 (3 : Int32) v1 c12 M11 else if r11 = (116 : Int32) then fX9_command_108 N Z v0 v1 (4 : Int32) v1 c12 M11 else if r11 = (108 : Int32) then fX9_command_108 N Z v0 v1 (5 : Int32) v1 c12 M11 else fX9_command_108 N Z v0 v1 (-1 : Int32) v1 c12 M11)))))
set_option maxHeartbeats 4000000 in
set_option maxRecDepth 100000 in
theorem tX9_command_46 {G : mG} {p : Program} {l : Launch} {e : Env} {s : State} {m : MethodId} {args : Array Value} {below : List Frame} {meth : Method} {c : Code} (C : Cx G p l s m args meth c RX9 cX9_command 3 (some .boolean) []) (hnm : meth.name = yX9_command.name) (N : Nat) (Z : mZ) : ∀ (v0 : Nat) (v1 : Int32) (x0 : Int32) (x1 : Int32) (x2 : Nat) (M : mM) (r : Int32) (M' : mM), fX9_command_46 N Z v0 v1 x0 x1 x2 M = some (r, M') → JJ G p l e rmX9_command s m args below meth c 3 (mEnd G below args s rmX9_command (.inl (some (.int r))) Z M') 0 0 46 [(0, .ref v0), (1, .int v1)] [.int x0, .int x1, .ref x2] Z M := by
  intro v0 v1 x0 x1 x2 M r M' h
  unfold fX9_command_46 at h
  obtain ⟨ho8, h⟩ := ck_spec h
  obtain ⟨ho9, h⟩ := ck_spec h
  refine j_iast C ho8 ho9 dX9_command_46 ?_
  refine j_aload_n C dX9_command_47 rfl 0 rfl ?_
  obtain ⟨ho10, h⟩ := ck_spec h
  obtain ⟨r11, M11, hq11, h⟩ := bnd2_spec h
  refine j_run1 (c_V C (As := []) (rest := []) (ctX9_here C.2.2.2.2.2.2.2.2.1 N Z hq11) kcRX9_238 oyX9_here (ci := 9) (T := TX9) (N := 23) rfl (by decide) ho10 ⟨by decide, by decide⟩ ⟨by decide, by decide⟩ (Nat.le_of_ble_eq_true rfl) rfl dX9_command_48) ?_
  refine j_istore_n C dX9_command_51 rfl (by decide) (L' := [(2, .int r11), (0, .ref v0), (1, .int v1)]) rfl ?_
  refine j_aload_n C dX9_command_52 rfl 1 rfl ?_
  obtain ⟨c12, hr12, h⟩ := bnd1_spec h
  refine j_getR C (cn := RX9) (T := TX9) (N := 23) (ci := 9) rfl iX9 ho10 20 (by decide) rfl fwRX9_40 dX9_command_53 hr12 ?_
  refine j_iload_n C dX9_command_56 rfl 2 rfl ?_
  refine j_iload_n C dX9_command_57 rfl 0 rfl ?_
  refine j_bipush C dX9_command_58 (v := (101 : Int32)) (by decide) ?_
  refine j_icmp_ne C dX9_command_60 (tgt := 67) (by decide) (fun hc13 => ?_) (fun hc13 => ?_)
  · rw [if_neg hc13] at h
    refine j_iload_n C dX9_command_67 rfl 0 rfl ?_
    refine j_bipush C dX9_command_68 (v := (100 : Int32)) (by decide) ?_
    refine j_icmp_ne C dX9_command_70 (tgt := 77) (by decide) (fun hc33 => ?_) (fun hc33 => ?_)
    · rw [if_neg hc33] at h
      refine j_iload_n C dX9_command_77 rfl 0 rfl ?_
      refine j_bipush C dX9_command_78 (v := (98 : Int32)) (by decide) ?_
      refine j_icmp_ne C dX9_command_80 (tgt := 87) (by decide) (fun hc34 => ?_) (fun hc34 => ?_)
      · rw [if_neg hc34] at h
        refine j_iload_n C dX9_command_87 rfl 0 rfl ?_
        refine j_bipush C dX9_command_88 (v := (116 : Int32)) (by decide) ?_
        refine j_icmp_ne C dX9_command_90 (tgt := 97) (by decide) (fun hc35 => ?_) (fun hc35 => ?_)
        · rw [if_neg hc35] at h
          refine j_iload_n C dX9_command_97 rfl 0 rfl ?_
          refine j_bipush C dX9_command_98 (v := (108 : Int32)) (by decide) ?_
          refine j_icmp_ne C dX9_command_100 (tgt := 107) (by decide) (fun hc36 => ?_) (fun hc36 => ?_)
          · rw [if_neg hc36] at h
            refine j_iconst C dX9_command_107 (v := (-1 : Int32)) (by decide) ?_
            refine j_sub (L' := [(0, .ref v0), (1, .int v1)]) [1, 2] rfl ?_
            exact tX9_command_108 C hnm N Z v0 v1 (-1 : Int32) v1 c12 M11 _ _ h
          · rw [if_pos hc36] at h
            refine j_iconst C dX9_command_103 (v := (5 : Int32)) (by decide) ?_
            refine j_goto C dX9_command_104 (tgt := 108) (by decide) ?_
            refine j_sub (L' := [(0, .ref v0), (1, .int v1)]) [1, 2] rfl ?_
            exact tX9_command_108 C hnm N Z v0 v1 (5 : Int32) v1 c12 M11 _ _ h
        · rw [if_pos hc35] at h
          refine j_iconst C dX9_command_93 (v := (4 : Int32)) (by decide) ?_
          refine j_goto C dX9_command_94 (tgt := 108) (by decide) ?_
          refine j_sub (L' := [(0, .ref v0), (1, .int v1)]) [1, 2] rfl ?_
          exact tX9_command_108 C hnm N Z v0 v1 (4 : Int32) v1 c12 M11 _ _ h
      · rw [if_pos hc34] at h
        refine j_iconst C dX9_command_83 (v := (3 : Int32)) (by decide) ?_
        refine j_goto C dX9_command_84 (tgt := 108) (by decide) ?_
        refine j_sub (L' := [(0, .ref v0), (1, .int v1)]) [1, 2] rfl ?_
        exact tX9_command_108 C hnm N Z v0 v1 (3 : Int32) v1 c12 M11 _ _ h
    · rw [if_pos hc33] at h
      refine j_iconst C dX9_command_73 (v := (2 : Int32)) (by decide) ?_
      refine j_goto C dX9_command_74 (tgt := 108) (by decide) ?_
      refine j_sub (L' := [(0, .ref v0), (1, .int v1)]) [1, 2] rfl ?_
      exact tX9_command_108 C hnm N Z v0 v1 (2 : Int32) v1 c12 M11 _ _ h
  · rw [if_pos hc13] at h
    refine j_iconst C dX9_command_63 (v := (0 : Int32)) (by decide) ?_
    refine j_goto C dX9_command_64 (tgt := 108) (by decide) ?_
    refine j_sub (L' := [(0, .ref v0), (1, .int v1)]) [1, 2] rfl ?_
    exact tX9_command_108 C hnm N Z v0 v1 (0 : Int32) v1 c12 M11 _ _ h
def fX9_command (N : Nat) (Z : mZ) (a0 : Nat) (M : mM) : Option (Int32 × mM) := ck (okO Z a0 9) (bnd1 (Z.2.2.2 a0 20) (fun c2 => ck (okO Z c2 20) (ck (inB (((5 : Int32) * (M.1 a0 21)) + (2 : Int32)) (Z.2.2.1 c2)) (ck (inB (((5 : Int32) * (M.1 a0 21)) + (3 : Int32)) (Z.2.2.1 c2)) (bnd2 (fX9_skips N Z a0 (45 : Int32) (sI (sI M c2 ((((5 : Int32) * (M.1 a0 21)) + (2 : Int32))).toNatClampNeg (0 : Int32)) c2 ((((5 : Int32) * (M.1 a0 21)) + (3 : Int32))).toNatClampNeg (1 : Int32))) (fun r6 M6 => if r6 = 0 then fX9_command_46 N Z a0 ((5 : Int32) * (M.1 a0 21)) (0 : Int32) (((5 : Int32) * (M.1 a0 21)) + (4 : Int32)) c2 M6 else fX9_command_46 N Z a0 ((5 : Int32) * (M.1 a0 21)) (1 : Int32) (((5 : Int32) * (M.1 a0 21)) + (4 : Int32)) c2 M6))))))
set_option maxHeartbeats 4000000 in
set_option maxRecDepth 100000 in
theorem ctX9_command {G : mG} {l : Launch} (hl : l.stackTraces = false) (N : Nat) (Z : mZ) {a0 : Nat} {M : mM} {r : Int32} {M' : mM} (h : fX9_command N Z a0 M = some (r, M')) : CT G l yX9_command (.code yX9_command cX9_command 3 (some .boolean)) rmX9_command [.ref a0] Z M (.inl (some (.int r))) Z M' := by
  unfold fX9_command at h
  refine CT.of hl (by decide) (Nat.le_of_ble_eq_true rfl) ?_
  intro p e s m args below meth c C hnm
  refine j_sub (L' := [(0, .ref a0)]) [0] rfl ?_
  refine j_iconst C dX9_command_0 (v := (5 : Int32)) (by decide) ?_
  refine j_aload_n C dX9_command_1 rfl 0 rfl ?_
  obtain ⟨ho1, h⟩ := ck_spec h
  refine j_getI C (cn := RX9) (T := TX9) (N := 23) (ci := 9) rfl iX9 ho1 21 (by decide) rfl fwRX9_241 dX9_command_2 ?_
  refine j_imul C dX9_command_5 ?_
  refine j_istore_n C dX9_command_6 rfl (by decide) (L' := [(1, .int ((5 : Int32) * (M.1 a0 21))), (0, .ref a0)]) rfl ?_
  refine j_aload_n C dX9_command_7 rfl 1 rfl ?_
  obtain ⟨c2, hr2, h⟩ := bnd1_spec h
  refine j_getR C (cn := RX9) (T := TX9) (N := 23) (ci := 9) rfl iX9 ho1 20 (by decide) rfl fwRX9_40 dX9_command_8 hr2 ?_
  refine j_iload_n C dX9_command_11 rfl 0 rfl ?_
  refine j_iconst C dX9_command_12 (v := (2 : Int32)) (by decide) ?_
  refine j_iadd C dX9_command_13 ?_
  refine j_iconst C dX9_command_14 (v := (0 : Int32)) (by decide) ?_
  obtain ⟨ho3, h⟩ := ck_spec h
  obtain ⟨ho4, h⟩ := ck_spec h
  refine j_iast C ho3 ho4 dX9_command_15 ?_
  refine j_aload_n C dX9_command_16 rfl 1 rfl ?_
  refine j_getR C (cn := RX9) (T := TX9) (N := 23) (ci := 9) rfl iX9 ho1 20 (by decide) rfl fwRX9_40 dX9_command_17 hr2 ?_
  refine j_iload_n C dX9_command_20 rfl 0 rfl ?_
  refine j_iconst C dX9_command_21 (v := (3 : Int32)) (by decide) ?_
  refine j_iadd C dX9_command_22 ?_
  refine j_iconst C dX9_command_23 (v := (1 : Int32)) (by decide) ?_
  obtain ⟨ho5, h⟩ := ck_spec h
  refine j_iast C ho3 ho5 dX9_command_24 ?_
  refine j_aload_n C dX9_command_25 rfl 1 rfl ?_
  refine j_getR C (cn := RX9) (T := TX9) (N := 23) (ci := 9) rfl iX9 ho1 20 (by decide) rfl fwRX9_40 dX9_command_26 hr2 ?_
  refine j_iload_n C dX9_command_29 rfl 0 rfl ?_
  refine j_iconst C dX9_command_30 (v := (4 : Int32)) (by decide) ?_
  refine j_iadd C dX9_command_31 ?_
  refine j_aload_n C dX9_command_32 rfl 1 rfl ?_
  refine j_bipush C dX9_command_33 (v := (45 : Int32)) (by decide) ?_
  obtain ⟨r6, M6, hq6, h⟩ := bnd2_spec h
  refine j_run1 (c_V C (As := [.int (45 : Int32)]) (rest := [.int (((5 : Int32) * (M.1 a0 21)) + (4 : Int32)), .ref c2]) (ctX9_skips C.2.2.2.2.2.2.2.2.1 N Z hq6) kcRX9_244 oyX9_skips (ci := 9) (T := TX9) (N := 23) rfl (by decide) ho1 ⟨by decide, by decide⟩ ⟨by decide, by decide⟩ (Nat.le_of_ble_eq_true rfl) rfl dX9_command_35) ?_
  refine j_if_eq C dX9_command_38 (tgt := 45) (by decide) (fun hc7 => ?_) (fun hc7 => ?_)
  · rw [if_pos hc7] at h
    refine j_iconst C dX9_command_45 (v := (0 : Int32)) (by decide) ?_
    refine j_sub (L' := [(0, .ref a0), (1, .int ((5 : Int32) * (M.1 a0 21)))]) [1, 0] rfl ?_
    exact tX9_command_46 C hnm N Z a0 ((5 : Int32) * (M.1 a0 21)) (0 : Int32) (((5 : Int32) * (M.1 a0 21)) + (4 : Int32)) c2 M6 _ _ h
  · rw [if_neg hc7] at h
    refine j_iconst C dX9_command_41 (v := (1 : Int32)) (by decide) ?_
    refine j_goto C dX9_command_42 (tgt := 46) (by decide) ?_
    refine j_sub (L' := [(0, .ref a0), (1, .int ((5 : Int32) * (M.1 a0 21)))]) [1, 0] rfl ?_
    exact tX9_command_46 C hnm N Z a0 ((5 : Int32) * (M.1 a0 21)) (1 : Int32) (((5 : Int32) * (M.1 a0 21)) + (4 : Int32)) c2 M6 _ _ h
-- ScaffoldPlannerModel isText
theorem kcRX9_250 : okV RX9 250 yX9_command (.code yX9_command cX9_command 3 (some .boolean)) = true := by decide +kernel
theorem oyX9_command : okY yX9_command 0 := ⟨by decide +kernel, by decide +kernel, by decide +kernel⟩
abbrev rmX9_isText : Room := { frames := 3, cells := 0, slots := 0, locals := 65 }
theorem dX9_isText_0 : decode cX9_isText 0 = .ok (.aload_n 0, 1) := by decide +kernel
theorem dX9_isText_1 : decode cX9_isText 1 = .ok (.iconst 0, 1) := by decide +kernel
theorem dX9_isText_2 : decode cX9_isText 2 = .ok (.putfield 235, 3) := by decide +kernel
theorem dX9_isText_5 : decode cX9_isText 5 = .ok (.aload_n 0, 1) := by decide +kernel
theorem dX9_isText_6 : decode cX9_isText 6 = .ok (.iconst 0, 1) := by decide +kernel
theorem dX9_isText_7 : decode cX9_isText 7 = .ok (.putfield 241, 3) := by decide +kernel
theorem dX9_isText_10 : decode cX9_isText 10 = .ok (.aload_n 0, 1) := by decide +kernel
theorem dX9_isText_11 : decode cX9_isText 11 = .ok (.invokevirtual 250, 3) := by decide +kernel
theorem dX9_isText_14 : decode cX9_isText 14 = .ok (.ifCond .ne 5, 3) := by decide +kernel
theorem dX9_isText_17 : decode cX9_isText 17 = .ok (.iconst 0, 1) := by decide +kernel
theorem dX9_isText_18 : decode cX9_isText 18 = .ok (.ireturn, 1) := by decide +kernel
theorem dX9_isText_19 : decode cX9_isText 19 = .ok (.aload_n 0, 1) := by decide +kernel
theorem dX9_isText_20 : decode cX9_isText 20 = .ok (.bipush 59, 2) := by decide +kernel
theorem dX9_isText_22 : decode cX9_isText 22 = .ok (.invokevirtual 244, 3) := by decide +kernel
theorem dX9_isText_25 : decode cX9_isText 25 = .ok (.ifCond .ne (-15), 3) := by decide +kernel
theorem dX9_isText_28 : decode cX9_isText 28 = .ok (.aload_n 0, 1) := by decide +kernel
theorem dX9_isText_29 : decode cX9_isText 29 = .ok (.getfield 235, 3) := by decide +kernel
theorem dX9_isText_32 : decode cX9_isText 32 = .ok (.aload_n 0, 1) := by decide +kernel
theorem dX9_isText_33 : decode cX9_isText 33 = .ok (.getfield 232, 3) := by decide +kernel
theorem dX9_isText_36 : decode cX9_isText 36 = .ok (.if_icmp .ne 7, 3) := by decide +kernel
theorem dX9_isText_39 : decode cX9_isText 39 = .ok (.iconst 1, 1) := by decide +kernel
theorem dX9_isText_40 : decode cX9_isText 40 = .ok (.goto 4, 3) := by decide +kernel
theorem dX9_isText_43 : decode cX9_isText 43 = .ok (.iconst 0, 1) := by decide +kernel
theorem dX9_isText_44 : decode cX9_isText 44 = .ok (.ireturn, 1) := by decide +kernel
def fX9_isText_10 (N : Nat) (Z : mZ) : Nat → Nat → mM → Option (Int32 × mM)
  | 0, _, _ => none
  | fu + 1, v0, M => ck (okO Z v0 9) (bnd2 (fX9_command N Z v0 M) (fun r3 M3 => if r3 = 0 then some ((0 : Int32), M3) else bnd2 (fX9_skips N Z v0 (59 : Int32) M3) (fun r5 M5 => if r5 = 0 then if (M5.1 v0 19) = (M5.1 v0 18) then some ((1 : Int32), M5) else some ((0 : Int32), M5) else fX9_isText_10 N Z fu v0 M5)))
set_option maxHeartbeats 4000000 in
set_option maxRecDepth 100000 in
theorem tX9_isText_10 {G : mG} {p : Program} {l : Launch} {e : Env} {s : State} {m : MethodId} {args : Array Value} {below : List Frame} {meth : Method} {c : Code} (C : Cx G p l s m args meth c RX9 cX9_isText 1 (some .boolean) []) (hnm : meth.name = yX9_isText.name) (N : Nat) (Z : mZ) : ∀ (fu : Nat) (v0 : Nat) (M : mM) (r : Int32) (M' : mM), fX9_isText_10 N Z fu v0 M = some (r, M') → JJ G p l e rmX9_isText s m args below meth c 1 (mEnd G below args s rmX9_isText (.inl (some (.int r))) Z M') 0 0 10 [(0, .ref v0)] [] Z M := by
  intro fu
  induction fu with
  | zero =>
    intro v0 M r M' h
    cases h
  | succ fu ih =>
    intro v0 M r M' h
    rw [fX9_isText_10] at h
    refine j_aload_n C dX9_isText_10 rfl 0 rfl ?_
    obtain ⟨ho2, h⟩ := ck_spec h
    obtain ⟨r3, M3, hq3, h⟩ := bnd2_spec h
    refine j_run1 (c_V C (As := []) (rest := []) (ctX9_command C.2.2.2.2.2.2.2.2.1 N Z hq3) kcRX9_250 oyX9_command (ci := 9) (T := TX9) (N := 23) rfl (by decide) ho2 ⟨by decide, by decide⟩ ⟨by decide, by decide⟩ (Nat.le_of_ble_eq_true rfl) rfl dX9_isText_11) ?_
    refine j_if_ne C dX9_isText_14 (tgt := 19) (by decide) (fun hc4 => ?_) (fun hc4 => ?_)
    · rw [if_neg hc4] at h
      refine j_aload_n C dX9_isText_19 rfl 0 rfl ?_
      refine j_bipush C dX9_isText_20 (v := (59 : Int32)) (by decide) ?_
      obtain ⟨r5, M5, hq5, h⟩ := bnd2_spec h
      refine j_run1 (c_V C (As := [.int (59 : Int32)]) (rest := []) (ctX9_skips C.2.2.2.2.2.2.2.2.1 N Z hq5) kcRX9_244 oyX9_skips (ci := 9) (T := TX9) (N := 23) rfl (by decide) ho2 ⟨by decide, by decide⟩ ⟨by decide, by decide⟩ (Nat.le_of_ble_eq_true rfl) rfl dX9_isText_22) ?_
      refine j_if_ne C dX9_isText_25 (tgt := 10) (by decide) (fun hc6 => ?_) (fun hc6 => ?_)
      · rw [if_neg hc6] at h
        refine j_sub (L' := [(0, .ref v0)]) [0] rfl ?_
        exact ih v0 M5 r M' h
      · rw [if_pos hc6] at h
        refine j_aload_n C dX9_isText_28 rfl 0 rfl ?_
        refine j_getI C (cn := RX9) (T := TX9) (N := 23) (ci := 9) rfl iX9 ho2 19 (by decide) rfl fwRX9_235 dX9_isText_29 ?_
        refine j_aload_n C dX9_isText_32 rfl 0 rfl ?_
        refine j_getI C (cn := RX9) (T := TX9) (N := 23) (ci := 9) rfl iX9 ho2 18 (by decide) rfl fwRX9_232 dX9_isText_33 ?_
        refine j_icmp_ne C dX9_isText_36 (tgt := 43) (by decide) (fun hc7 => ?_) (fun hc7 => ?_)
        · rw [if_neg hc7] at h
          refine j_iconst C dX9_isText_43 (v := (0 : Int32)) (by decide) ?_
          cases h
          exact j_zret C rfl (by decide) (by decide) (by decide) dX9_isText_44
        · rw [if_pos hc7] at h
          refine j_iconst C dX9_isText_39 (v := (1 : Int32)) (by decide) ?_
          refine j_goto C dX9_isText_40 (tgt := 44) (by decide) ?_
          cases h
          exact j_zret C rfl (by decide) (by decide) (by decide) dX9_isText_44
    · rw [if_pos hc4] at h
      refine j_iconst C dX9_isText_17 (v := (0 : Int32)) (by decide) ?_
      cases h
      exact j_zret C rfl (by decide) (by decide) (by decide) dX9_isText_18
def fX9_isText (N : Nat) (Z : mZ) (a0 : Nat) (M : mM) : Option (Int32 × mM) := ck (okO Z a0 9) (fX9_isText_10 N Z N a0 (sI (sI M a0 19 (0 : Int32)) a0 21 (0 : Int32)))
set_option maxHeartbeats 4000000 in
set_option maxRecDepth 100000 in
theorem ctX9_isText {G : mG} {l : Launch} (hl : l.stackTraces = false) (N : Nat) (Z : mZ) {a0 : Nat} {M : mM} {r : Int32} {M' : mM} (h : fX9_isText N Z a0 M = some (r, M')) : CT G l yX9_isText (.code yX9_isText cX9_isText 1 (some .boolean)) rmX9_isText [.ref a0] Z M (.inl (some (.int r))) Z M' := by
  unfold fX9_isText at h
  refine CT.of hl (by decide) (Nat.le_of_ble_eq_true rfl) ?_
  intro p e s m args below meth c C hnm
  refine j_sub (L' := [(0, .ref a0)]) [0] rfl ?_
  refine j_aload_n C dX9_isText_0 rfl 0 rfl ?_
  refine j_iconst C dX9_isText_1 (v := (0 : Int32)) (by decide) ?_
  obtain ⟨ho1, h⟩ := ck_spec h
  refine j_putI C tyX9 tyX9_ok nmX9 (cn := RX9) (T := TX9) (N := 23) (ci := 9) rfl iX9 ho1 19 (by decide) rfl fwRX9_235 ⟨rfl, rfl⟩ dX9_isText_2 ?_
  refine j_aload_n C dX9_isText_5 rfl 0 rfl ?_
  refine j_iconst C dX9_isText_6 (v := (0 : Int32)) (by decide) ?_
  refine j_putI C tyX9 tyX9_ok nmX9 (cn := RX9) (T := TX9) (N := 23) (ci := 9) rfl iX9 ho1 21 (by decide) rfl fwRX9_241 ⟨rfl, rfl⟩ dX9_isText_7 ?_
  refine j_sub (L' := [(0, .ref a0)]) [0] rfl ?_
  exact tX9_isText_10 C hnm N Z N a0 (sI (sI M a0 19 (0 : Int32)) a0 21 (0 : Int32)) _ _ h
