-- ScaffoldPlanner$Dismantler update
theorem kcRX1_54 : okV RX1 54 yX4_copyFrom (.code yX4_copyFrom cX4_copyFrom 3 none) = true := by decide +kernel
theorem kcRX1_71 : okV RX1 71 yX4_piecesPlaced (.code yX4_piecesPlaced cX4_piecesPlaced 4 (some .int)) = true := by decide +kernel
theorem oyX4_piecesPlaced : okY yX4_piecesPlaced 1 := ⟨by decide +kernel, by decide +kernel, by decide +kernel⟩
theorem kcRX1_64 : okV RX1 64 yX6_explore (.code yX6_explore cX6_explore 4 none) = true := by decide +kernel
theorem oyX6_explore : okY yX6_explore 1 := ⟨by decide +kernel, by decide +kernel, by decide +kernel⟩
theorem kcRX1_67 : okV RX1 67 yX1_isDone (.code yX1_isDone cX1_isDone 7 (some .boolean)) = true := by decide +kernel
theorem oyX1_isDone : okY yX1_isDone 1 := ⟨by decide +kernel, by decide +kernel, by decide +kernel⟩
abbrev rmX1_update : Room := { frames := 6, cells := 0, slots := 0, locals := 142 }
theorem dX1_update_0 : decode cX1_update 0 = .ok (.aload_n 0, 1) := by decide +kernel
theorem dX1_update_1 : decode cX1_update 1 = .ok (.getfield 19, 3) := by decide +kernel
theorem dX1_update_4 : decode cX1_update 4 = .ok (.ifCond .eq 4, 3) := by decide +kernel
theorem dX1_update_7 : decode cX1_update 7 = .ok (.return_, 1) := by decide +kernel
theorem dX1_update_8 : decode cX1_update 8 = .ok (.aload_n 0, 1) := by decide +kernel
theorem dX1_update_9 : decode cX1_update 9 = .ok (.getfield 29, 3) := by decide +kernel
theorem dX1_update_12 : decode cX1_update 12 = .ok (.aload_n 1, 1) := by decide +kernel
theorem dX1_update_13 : decode cX1_update 13 = .ok (.invokevirtual 54, 3) := by decide +kernel
theorem dX1_update_16 : decode cX1_update 16 = .ok (.bipush 6, 2) := by decide +kernel
theorem dX1_update_18 : decode cX1_update 18 = .ok (.getstatic 58, 3) := by decide +kernel
theorem dX1_update_21 : decode cX1_update 21 = .ok (.arraylength, 1) := by decide +kernel
theorem dX1_update_22 : decode cX1_update 22 = .ok (.imul, 1) := by decide +kernel
theorem dX1_update_23 : decode cX1_update 23 = .ok (.aload_n 0, 1) := by decide +kernel
theorem dX1_update_24 : decode cX1_update 24 = .ok (.getfield 29, 3) := by decide +kernel
theorem dX1_update_27 : decode cX1_update 27 = .ok (.getfield 61, 3) := by decide +kernel
theorem dX1_update_30 : decode cX1_update 30 = .ok (.imul, 1) := by decide +kernel
theorem dX1_update_31 : decode cX1_update 31 = .ok (.istore_n 2, 1) := by decide +kernel
theorem dX1_update_32 : decode cX1_update 32 = .ok (.aload_n 0, 1) := by decide +kernel
theorem dX1_update_33 : decode cX1_update 33 = .ok (.iconst 0, 1) := by decide +kernel
theorem dX1_update_34 : decode cX1_update 34 = .ok (.putfield 9, 3) := by decide +kernel
theorem dX1_update_37 : decode cX1_update 37 = .ok (.aload_n 0, 1) := by decide +kernel
theorem dX1_update_38 : decode cX1_update 38 = .ok (.getfield 9, 3) := by decide +kernel
theorem dX1_update_41 : decode cX1_update 41 = .ok (.sipush 300, 3) := by decide +kernel
theorem dX1_update_44 : decode cX1_update 44 = .ok (.if_icmp .ge 56, 3) := by decide +kernel
theorem dX1_update_47 : decode cX1_update 47 = .ok (.aload_n 0, 1) := by decide +kernel
theorem dX1_update_48 : decode cX1_update 48 = .ok (.getfield 36, 3) := by decide +kernel
theorem dX1_update_51 : decode cX1_update 51 = .ok (.aload_n 0, 1) := by decide +kernel
theorem dX1_update_52 : decode cX1_update 52 = .ok (.getfield 29, 3) := by decide +kernel
theorem dX1_update_55 : decode cX1_update 55 = .ok (.invokevirtual 64, 3) := by decide +kernel
theorem dX1_update_58 : decode cX1_update 58 = .ok (.iconst 0, 1) := by decide +kernel
theorem dX1_update_59 : decode cX1_update 59 = .ok (.istore_n 3, 1) := by decide +kernel
theorem dX1_update_60 : decode cX1_update 60 = .ok (.iload_n 3, 1) := by decide +kernel
theorem dX1_update_61 : decode cX1_update 61 = .ok (.iload_n 2, 1) := by decide +kernel
theorem dX1_update_62 : decode cX1_update 62 = .ok (.if_icmp .ge 17, 3) := by decide +kernel
theorem dX1_update_65 : decode cX1_update 65 = .ok (.aload_n 0, 1) := by decide +kernel
theorem dX1_update_66 : decode cX1_update 66 = .ok (.iload_n 3, 1) := by decide +kernel
theorem dX1_update_67 : decode cX1_update 67 = .ok (.invokevirtual 67, 3) := by decide +kernel
theorem dX1_update_70 : decode cX1_update 70 = .ok (.ifCond .ne 9, 3) := by decide +kernel
theorem dX1_update_73 : decode cX1_update 73 = .ok (.iinc 3 1, 3) := by decide +kernel
theorem dX1_update_76 : decode cX1_update 76 = .ok (.goto (-16), 3) := by decide +kernel
theorem dX1_update_79 : decode cX1_update 79 = .ok (.iload_n 3, 1) := by decide +kernel
theorem dX1_update_80 : decode cX1_update 80 = .ok (.iload_n 2, 1) := by decide +kernel
theorem dX1_update_81 : decode cX1_update 81 = .ok (.if_icmp .ne 6, 3) := by decide +kernel
theorem dX1_update_84 : decode cX1_update 84 = .ok (.goto 16, 3) := by decide +kernel
theorem dX1_update_87 : decode cX1_update 87 = .ok (.aload_n 0, 1) := by decide +kernel
theorem dX1_update_88 : decode cX1_update 88 = .ok (.dup, 1) := by decide +kernel
theorem dX1_update_89 : decode cX1_update 89 = .ok (.getfield 9, 3) := by decide +kernel
theorem dX1_update_92 : decode cX1_update 92 = .ok (.iconst 1, 1) := by decide +kernel
theorem dX1_update_93 : decode cX1_update 93 = .ok (.iadd, 1) := by decide +kernel
theorem dX1_update_94 : decode cX1_update 94 = .ok (.putfield 9, 3) := by decide +kernel
theorem dX1_update_97 : decode cX1_update 97 = .ok (.goto (-60), 3) := by decide +kernel
theorem dX1_update_100 : decode cX1_update 100 = .ok (.aload_n 0, 1) := by decide +kernel
theorem dX1_update_101 : decode cX1_update 101 = .ok (.aload_n 0, 1) := by decide +kernel
theorem dX1_update_102 : decode cX1_update 102 = .ok (.getfield 29, 3) := by decide +kernel
theorem dX1_update_105 : decode cX1_update 105 = .ok (.iconst 1, 1) := by decide +kernel
theorem dX1_update_106 : decode cX1_update 106 = .ok (.invokevirtual 71, 3) := by decide +kernel
theorem dX1_update_109 : decode cX1_update 109 = .ok (.ifCond .ne 7, 3) := by decide +kernel
theorem dX1_update_112 : decode cX1_update 112 = .ok (.iconst 1, 1) := by decide +kernel
theorem dX1_update_113 : decode cX1_update 113 = .ok (.goto 4, 3) := by decide +kernel
theorem dX1_update_116 : decode cX1_update 116 = .ok (.iconst 0, 1) := by decide +kernel
theorem dX1_update_117 : decode cX1_update 117 = .ok (.putfield 15, 3) := by decide +kernel
theorem dX1_update_120 : decode cX1_update 120 = .ok (.aload_n 0, 1) := by decide +kernel
theorem dX1_update_121 : decode cX1_update 121 = .ok (.iconst 1, 1) := by decide +kernel
theorem dX1_update_122 : decode cX1_update 122 = .ok (.putfield 19, 3) := by decide +kernel
theorem dX1_update_125 : decode cX1_update 125 = .ok (.return_, 1) := by decide +kernel
def fX1_update_79 (N : Nat) (Z : mZ) (K37 : Nat → Int32 → mM → Option (Unit × mM)) (v0 : Nat) (v2 : Int32) (v3 : Int32) (M : mM) : Option (Unit × mM) := if v3 = v2 then ck (okO Z v0 1) (bnd1 (Z.2.2.2 v0 4) (fun c20 => ck (okO Z c20 4) (bnd2 (fX4_piecesPlaced N Z c20 (1 : Int32) M) (fun r22 M22 => if r22 = 0 then some ((), (sI (sI M22 v0 1 (1 : Int32)) v0 2 (1 : Int32))) else some ((), (sI (sI M22 v0 1 (0 : Int32)) v0 2 (1 : Int32))))))) else ck (okO Z v0 1) (K37 v0 v2 (sI M v0 0 ((M.1 v0 0) + (1 : Int32))))
set_option maxHeartbeats 4000000 in
set_option maxRecDepth 100000 in
theorem tX1_update_79 {G : mG} {p : Program} {l : Launch} {e : Env} {s : State} {m : MethodId} {args : Array Value} {below : List Frame} {meth : Method} {c : Code} (C : Cx G p l s m args meth c RX1 cX1_update 4 none []) (hnm : meth.name = yX1_update.name) (N : Nat) (Z : mZ) (K37 : Nat → Int32 → mM → Option (Unit × mM)) (hK37 : ∀ (v0 : Nat) (v2 : Int32) (M : mM) (r : Unit) (M' : mM), K37 v0 v2 M = some (r, M') → JJ G p l e rmX1_update s m args below meth c 4 (mEnd G below args s rmX1_update (.inl none) Z M') 0 0 37 [(0, .ref v0), (2, .int v2)] [] Z M) : ∀ (v0 : Nat) (v2 : Int32) (v3 : Int32) (M : mM) (r : Unit) (M' : mM), fX1_update_79 N Z K37 v0 v2 v3 M = some (r, M') → JJ G p l e rmX1_update s m args below meth c 4 (mEnd G below args s rmX1_update (.inl none) Z M') 0 0 79 [(0, .ref v0), (2, .int v2), (3, .int v3)] [] Z M := by
  intro v0 v2 v3 M r M' h
  unfold fX1_update_79 at h
  refine j_iload_n C dX1_update_79 rfl 2 rfl ?_
  refine j_iload_n C dX1_update_80 rfl 1 rfl ?_
  refine j_icmp_ne C dX1_update_81 (tgt := 87) (by decide) (fun hc18 => ?_) (fun hc18 => ?_)
  · rw [if_neg hc18] at h
    refine j_aload_n C dX1_update_87 rfl 0 rfl ?_
    refine j_dup C dX1_update_88 rfl ?_
    obtain ⟨ho24, h⟩ := ck_spec h
    refine j_getI C (cn := RX1) (T := TX1) (N := 8) (ci := 1) rfl iX1 ho24 0 (by decide) rfl fwRX1_9 dX1_update_89 ?_
    refine j_iconst C dX1_update_92 (v := (1 : Int32)) (by decide) ?_
    refine j_iadd C dX1_update_93 ?_
    refine j_putI C tyX1 tyX1_ok nmX1 (cn := RX1) (T := TX1) (N := 8) (ci := 1) rfl iX1 ho24 0 (by decide) rfl fwRX1_9 ⟨rfl, rfl⟩ dX1_update_94 ?_
    refine j_goto C dX1_update_97 (tgt := 37) (by decide) ?_
    refine j_sub (L' := [(0, .ref v0), (2, .int v2)]) [0, 1] rfl ?_
    exact hK37 v0 v2 (sI M v0 0 ((M.1 v0 0) + (1 : Int32))) r M' h
  · rw [if_pos hc18] at h
    refine j_goto C dX1_update_84 (tgt := 100) (by decide) ?_
    refine j_aload_n C dX1_update_100 rfl 0 rfl ?_
    refine j_aload_n C dX1_update_101 rfl 0 rfl ?_
    obtain ⟨ho19, h⟩ := ck_spec h
    obtain ⟨c20, hr20, h⟩ := bnd1_spec h
    refine j_getR C (cn := RX1) (T := TX1) (N := 8) (ci := 1) rfl iX1 ho19 4 (by decide) rfl fwRX1_29 dX1_update_102 hr20 ?_
    refine j_iconst C dX1_update_105 (v := (1 : Int32)) (by decide) ?_
    obtain ⟨ho21, h⟩ := ck_spec h
    obtain ⟨r22, M22, hq22, h⟩ := bnd2_spec h
    refine j_run1 (c_V C (As := [.int (1 : Int32)]) (rest := [.ref v0]) (ctX4_piecesPlaced C.2.2.2.2.2.2.2.2.1 N Z hq22) kcRX1_71 oyX4_piecesPlaced (ci := 4) (T := TX4) (N := 7) rfl (by decide) ho21 ⟨by decide, by decide⟩ ⟨by decide, by decide⟩ (Nat.le_of_ble_eq_true rfl) rfl dX1_update_106) ?_
    refine j_if_ne C dX1_update_109 (tgt := 116) (by decide) (fun hc23 => ?_) (fun hc23 => ?_)
    · rw [if_neg hc23] at h
      refine j_iconst C dX1_update_116 (v := (0 : Int32)) (by decide) ?_
      refine j_putI C tyX1 tyX1_ok nmX1 (cn := RX1) (T := TX1) (N := 8) (ci := 1) rfl iX1 ho19 1 (by decide) rfl fwRX1_15 ⟨rfl, rfl⟩ dX1_update_117 ?_
      refine j_aload_n C dX1_update_120 rfl 0 rfl ?_
      refine j_iconst C dX1_update_121 (v := (1 : Int32)) (by decide) ?_
      refine j_putI C tyX1 tyX1_ok nmX1 (cn := RX1) (T := TX1) (N := 8) (ci := 1) rfl iX1 ho19 2 (by decide) rfl fwRX1_19 ⟨rfl, rfl⟩ dX1_update_122 ?_
      cases h
      exact j_vret C rfl (by decide) (by decide) dX1_update_125
    · rw [if_pos hc23] at h
      refine j_iconst C dX1_update_112 (v := (1 : Int32)) (by decide) ?_
      refine j_goto C dX1_update_113 (tgt := 117) (by decide) ?_
      refine j_putI C tyX1 tyX1_ok nmX1 (cn := RX1) (T := TX1) (N := 8) (ci := 1) rfl iX1 ho19 1 (by decide) rfl fwRX1_15 ⟨rfl, rfl⟩ dX1_update_117 ?_
      refine j_aload_n C dX1_update_120 rfl 0 rfl ?_
      refine j_iconst C dX1_update_121 (v := (1 : Int32)) (by decide) ?_
      refine j_putI C tyX1 tyX1_ok nmX1 (cn := RX1) (T := TX1) (N := 8) (ci := 1) rfl iX1 ho19 2 (by decide) rfl fwRX1_19 ⟨rfl, rfl⟩ dX1_update_122 ?_
      cases h
      exact j_vret C rfl (by decide) (by decide) dX1_update_125
def fX1_update_60 (N : Nat) (Z : mZ) (K37 : Nat → Int32 → mM → Option (Unit × mM)) : Nat → Nat → Int32 → Int32 → mM → Option (Unit × mM)
  | 0, _, _, _, _ => none
  | fu + 1, v0, v2, v3, M => if v2 ≤ v3 then fX1_update_79 N Z K37 v0 v2 v3 M else ck (okO Z v0 1) (bnd2 (fX1_isDone N Z v0 v3 M) (fun r26 M26 => if r26 = 0 then fX1_update_60 N Z K37 fu v0 v2 (v3 + (1 : Int32)) M26 else fX1_update_79 N Z K37 v0 v2 v3 M26))
set_option maxHeartbeats 4000000 in
set_option maxRecDepth 100000 in
theorem tX1_update_60 {G : mG} {p : Program} {l : Launch} {e : Env} {s : State} {m : MethodId} {args : Array Value} {below : List Frame} {meth : Method} {c : Code} (C : Cx G p l s m args meth c RX1 cX1_update 4 none []) (hnm : meth.name = yX1_update.name) (N : Nat) (Z : mZ) (K37 : Nat → Int32 → mM → Option (Unit × mM)) (hK37 : ∀ (v0 : Nat) (v2 : Int32) (M : mM) (r : Unit) (M' : mM), K37 v0 v2 M = some (r, M') → JJ G p l e rmX1_update s m args below meth c 4 (mEnd G below args s rmX1_update (.inl none) Z M') 0 0 37 [(0, .ref v0), (2, .int v2)] [] Z M) : ∀ (fu : Nat) (v0 : Nat) (v2 : Int32) (v3 : Int32) (M : mM) (r : Unit) (M' : mM), fX1_update_60 N Z K37 fu v0 v2 v3 M = some (r, M') → JJ G p l e rmX1_update s m args below meth c 4 (mEnd G below args s rmX1_update (.inl none) Z M') 0 0 60 [(0, .ref v0), (2, .int v2), (3, .int v3)] [] Z M := by
  intro fu
  induction fu with
  | zero =>
    intro v0 v2 v3 M r M' h
    cases h
  | succ fu ih =>
    intro v0 v2 v3 M r M' h
    rw [fX1_update_60] at h
    refine j_iload_n C dX1_update_60 rfl 2 rfl ?_
    refine j_iload_n C dX1_update_61 rfl 1 rfl ?_
    refine j_icmp_ge C dX1_update_62 (tgt := 79) (by decide) (fun hc17 => ?_) (fun hc17 => ?_)
    · rw [if_pos hc17] at h
      refine j_sub (L' := [(0, .ref v0), (2, .int v2), (3, .int v3)]) [0, 1, 2] rfl ?_
      exact tX1_update_79 C hnm N Z K37 hK37 v0 v2 v3 M _ _ h
    · rw [if_neg hc17] at h
      refine j_aload_n C dX1_update_65 rfl 0 rfl ?_
      refine j_iload_n C dX1_update_66 rfl 2 rfl ?_
      obtain ⟨ho25, h⟩ := ck_spec h
      obtain ⟨r26, M26, hq26, h⟩ := bnd2_spec h
      refine j_run1 (c_V C (As := [.int v3]) (rest := []) (ctX1_isDone C.2.2.2.2.2.2.2.2.1 N Z hq26) kcRX1_67 oyX1_isDone (ci := 1) (T := TX1) (N := 8) rfl (by decide) ho25 ⟨by decide, by decide⟩ ⟨by decide, by decide⟩ (Nat.le_of_ble_eq_true rfl) rfl dX1_update_67) ?_
      refine j_if_ne C dX1_update_70 (tgt := 79) (by decide) (fun hc27 => ?_) (fun hc27 => ?_)
      · rw [if_neg hc27] at h
        refine j_sub (L' := [(0, .ref v0), (2, .int v2), (3, .int v3)]) [0, 1, 2] rfl ?_
        exact tX1_update_79 C hnm N Z K37 hK37 v0 v2 v3 M26 _ _ h
      · rw [if_pos hc27] at h
        refine j_iinc C dX1_update_73 2 rfl (v := (v3 + (1 : Int32))) (by first | rfl | decide) (by decide) (L' := [(3, .int (v3 + (1 : Int32))), (0, .ref v0), (2, .int v2)]) rfl ?_
        refine j_goto C dX1_update_76 (tgt := 60) (by decide) ?_
        refine j_sub (L' := [(0, .ref v0), (2, .int v2), (3, .int (v3 + (1 : Int32)))]) [1, 2, 0] rfl ?_
        exact ih v0 v2 (v3 + (1 : Int32)) M26 r M' h
def fX1_update_37 (N : Nat) (Z : mZ) : Nat → Nat → Int32 → mM → Option (Unit × mM)
  | 0, _, _, _ => none
  | fu + 1, v0, v2, M => ck (okO Z v0 1) (if (300 : Int32) ≤ (M.1 v0 0) then bnd1 (Z.2.2.2 v0 4) (fun c9 => ck (okO Z c9 4) (bnd2 (fX4_piecesPlaced N Z c9 (1 : Int32) M) (fun r11 M11 => if r11 = 0 then some ((), (sI (sI M11 v0 1 (1 : Int32)) v0 2 (1 : Int32))) else some ((), (sI (sI M11 v0 1 (0 : Int32)) v0 2 (1 : Int32)))))) else bnd1 (Z.2.2.2 v0 5) (fun c13 => bnd1 (Z.2.2.2 v0 4) (fun c14 => ck (okO Z c13 6) (bnd2 (fX6_explore N Z c13 c14 M) (fun _ M16 => fX1_update_60 N Z (fun w0 w2 M9 => fX1_update_37 N Z fu w0 w2 M9) N v0 v2 (0 : Int32) M16)))))
set_option maxHeartbeats 4000000 in
set_option maxRecDepth 100000 in
theorem tX1_update_37 {G : mG} {p : Program} {l : Launch} {e : Env} {s : State} {m : MethodId} {args : Array Value} {below : List Frame} {meth : Method} {c : Code} (C : Cx G p l s m args meth c RX1 cX1_update 4 none []) (hnm : meth.name = yX1_update.name) (N : Nat) (Z : mZ) : ∀ (fu : Nat) (v0 : Nat) (v2 : Int32) (M : mM) (r : Unit) (M' : mM), fX1_update_37 N Z fu v0 v2 M = some (r, M') → JJ G p l e rmX1_update s m args below meth c 4 (mEnd G below args s rmX1_update (.inl none) Z M') 0 0 37 [(0, .ref v0), (2, .int v2)] [] Z M := by
  intro fu
  induction fu with
  | zero =>
    intro v0 v2 M r M' h
    cases h
  | succ fu ih =>
    intro v0 v2 M r M' h
    rw [fX1_update_37] at h
    refine j_aload_n C dX1_update_37 rfl 0 rfl ?_
    obtain ⟨ho7, h⟩ := ck_spec h
    refine j_getI C (cn := RX1) (T := TX1) (N := 8) (ci := 1) rfl iX1 ho7 0 (by decide) rfl fwRX1_9 dX1_update_38 ?_
    refine j_sipush C dX1_update_41 (v := (300 : Int32)) (by decide) ?_
    refine j_icmp_ge C dX1_update_44 (tgt := 100) (by decide) (fun hc8 => ?_) (fun hc8 => ?_)
    · rw [if_pos hc8] at h
      refine j_aload_n C dX1_update_100 rfl 0 rfl ?_
      refine j_aload_n C dX1_update_101 rfl 0 rfl ?_
      obtain ⟨c9, hr9, h⟩ := bnd1_spec h
      refine j_getR C (cn := RX1) (T := TX1) (N := 8) (ci := 1) rfl iX1 ho7 4 (by decide) rfl fwRX1_29 dX1_update_102 hr9 ?_
      refine j_iconst C dX1_update_105 (v := (1 : Int32)) (by decide) ?_
      obtain ⟨ho10, h⟩ := ck_spec h
      obtain ⟨r11, M11, hq11, h⟩ := bnd2_spec h
      refine j_run1 (c_V C (As := [.int (1 : Int32)]) (rest := [.ref v0]) (ctX4_piecesPlaced C.2.2.2.2.2.2.2.2.1 N Z hq11) kcRX1_71 oyX4_piecesPlaced (ci := 4) (T := TX4) (N := 7) rfl (by decide) ho10 ⟨by decide, by decide⟩ ⟨by decide, by decide⟩ (Nat.le_of_ble_eq_true rfl) rfl dX1_update_106) ?_
      refine j_if_ne C dX1_update_109 (tgt := 116) (by decide) (fun hc12 => ?_) (fun hc12 => ?_)
      · rw [if_neg hc12] at h
        refine j_iconst C dX1_update_116 (v := (0 : Int32)) (by decide) ?_
        refine j_putI C tyX1 tyX1_ok nmX1 (cn := RX1) (T := TX1) (N := 8) (ci := 1) rfl iX1 ho7 1 (by decide) rfl fwRX1_15 ⟨rfl, rfl⟩ dX1_update_117 ?_
        refine j_aload_n C dX1_update_120 rfl 0 rfl ?_
        refine j_iconst C dX1_update_121 (v := (1 : Int32)) (by decide) ?_
        refine j_putI C tyX1 tyX1_ok nmX1 (cn := RX1) (T := TX1) (N := 8) (ci := 1) rfl iX1 ho7 2 (by decide) rfl fwRX1_19 ⟨rfl, rfl⟩ dX1_update_122 ?_
        cases h
        exact j_vret C rfl (by decide) (by decide) dX1_update_125
      · rw [if_pos hc12] at h
        refine j_iconst C dX1_update_112 (v := (1 : Int32)) (by decide) ?_
        refine j_goto C dX1_update_113 (tgt := 117) (by decide) ?_
        refine j_putI C tyX1 tyX1_ok nmX1 (cn := RX1) (T := TX1) (N := 8) (ci := 1) rfl iX1 ho7 1 (by decide) rfl fwRX1_15 ⟨rfl, rfl⟩ dX1_update_117 ?_
        refine j_aload_n C dX1_update_120 rfl 0 rfl ?_
        refine j_iconst C dX1_update_121 (v := (1 : Int32)) (by decide) ?_
        refine j_putI C tyX1 tyX1_ok nmX1 (cn := RX1) (T := TX1) (N := 8) (ci := 1) rfl iX1 ho7 2 (by decide) rfl fwRX1_19 ⟨rfl, rfl⟩ dX1_update_122 ?_
        cases h
        exact j_vret C rfl (by decide) (by decide) dX1_update_125
    · rw [if_neg hc8] at h
      refine j_aload_n C dX1_update_47 rfl 0 rfl ?_
      obtain ⟨c13, hr13, h⟩ := bnd1_spec h
      refine j_getR C (cn := RX1) (T := TX1) (N := 8) (ci := 1) rfl iX1 ho7 5 (by decide) rfl fwRX1_36 dX1_update_48 hr13 ?_
      refine j_aload_n C dX1_update_51 rfl 0 rfl ?_
      obtain ⟨c14, hr14, h⟩ := bnd1_spec h
      refine j_getR C (cn := RX1) (T := TX1) (N := 8) (ci := 1) rfl iX1 ho7 4 (by decide) rfl fwRX1_29 dX1_update_52 hr14 ?_
      obtain ⟨ho15, h⟩ := ck_spec h
      obtain ⟨_, M16, hq16, h⟩ := bnd2_spec h
      refine j_run0 (c_V C (As := [.ref c14]) (rest := []) (ctX6_explore C.2.2.2.2.2.2.2.2.1 N Z hq16) kcRX1_64 oyX6_explore (ci := 6) (T := TX6) (N := 4) rfl (by decide) ho15 ⟨by decide, by decide⟩ ⟨by decide, by decide⟩ (Nat.le_of_ble_eq_true rfl) rfl dX1_update_55) ?_
      refine j_iconst C dX1_update_58 (v := (0 : Int32)) (by decide) ?_
      refine j_istore_n C dX1_update_59 rfl (by decide) (L' := [(3, .int (0 : Int32)), (0, .ref v0), (2, .int v2)]) rfl ?_
      refine j_sub (L' := [(0, .ref v0), (2, .int v2), (3, .int (0 : Int32))]) [1, 2, 0] rfl ?_
      exact tX1_update_60 C hnm N Z (fun w0 w2 M9 => fX1_update_37 N Z fu w0 w2 M9) (fun w0 w2 M9 r9 M9' h9 => ih w0 w2 M9 r9 M9' h9) N v0 v2 (0 : Int32) M16 _ _ h
def fX1_update (N : Nat) (Z : mZ) (a0 : Nat) (a1 : Nat) (M : mM) : Option (Unit × mM) := ck (okO Z a0 1) (if (M.1 a0 2) = 0 then bnd1 (Z.2.2.2 a0 4) (fun c3 => ck (okO Z c3 4) (bnd2 (fX4_copyFrom N Z c3 a1 M) (fun _ M5 => ck (okI Z 4) (fX1_update_37 N Z N a0 (((6 : Int32) * (Int32.ofNat (Z.2.2.1 4))) * (M5.1 c3 0)) (sI M5 a0 0 (0 : Int32)))))) else some ((), M))
set_option maxHeartbeats 4000000 in
set_option maxRecDepth 100000 in
theorem ctX1_update {G : mG} {l : Launch} (hl : l.stackTraces = false) (N : Nat) (Z : mZ) {a0 : Nat} {a1 : Nat} {M : mM} {r : Unit} {M' : mM} (h : fX1_update N Z a0 a1 M = some (r, M')) : CT G l yX1_update (.code yX1_update cX1_update 4 none) rmX1_update [.ref a0, .ref a1] Z M (.inl none) Z M' := by
  unfold fX1_update at h
  refine CT.of hl (by decide) (Nat.le_of_ble_eq_true rfl) ?_
  intro p e s m args below meth c C hnm
  refine j_sub (L' := [(0, .ref a0), (1, .ref a1)]) [0, 1] rfl ?_
  refine j_aload_n C dX1_update_0 rfl 0 rfl ?_
  obtain ⟨ho1, h⟩ := ck_spec h
  refine j_getI C (cn := RX1) (T := TX1) (N := 8) (ci := 1) rfl iX1 ho1 2 (by decide) rfl fwRX1_19 dX1_update_1 ?_
  refine j_if_eq C dX1_update_4 (tgt := 8) (by decide) (fun hc2 => ?_) (fun hc2 => ?_)
  · rw [if_pos hc2] at h
    refine j_aload_n C dX1_update_8 rfl 0 rfl ?_
    obtain ⟨c3, hr3, h⟩ := bnd1_spec h
    refine j_getR C (cn := RX1) (T := TX1) (N := 8) (ci := 1) rfl iX1 ho1 4 (by decide) rfl fwRX1_29 dX1_update_9 hr3 ?_
    refine j_aload_n C dX1_update_12 rfl 1 rfl ?_
    obtain ⟨ho4, h⟩ := ck_spec h
    obtain ⟨_, M5, hq5, h⟩ := bnd2_spec h
    refine j_run0 (c_V C (As := [.ref a1]) (rest := []) (ctX4_copyFrom C.2.2.2.2.2.2.2.2.1 N Z hq5) kcRX1_54 oyX4_copyFrom (ci := 4) (T := TX4) (N := 7) rfl (by decide) ho4 ⟨by decide, by decide⟩ ⟨by decide, by decide⟩ (Nat.le_of_ble_eq_true rfl) rfl dX1_update_13) ?_
    refine j_bipush C dX1_update_16 (v := (6 : Int32)) (by decide) ?_
    refine j_getsN C (r := 4) (by decide) C.2.2.2.2.2.2.1.2.2.1.2.2.2 fwRX1_58 dX1_update_18 ?_
    obtain ⟨ho6, h⟩ := ck_spec h
    refine j_alen C ho6 dX1_update_21 ?_
    refine j_imul C dX1_update_22 ?_
    refine j_aload_n C dX1_update_23 rfl 0 rfl ?_
    refine j_getR C (cn := RX1) (T := TX1) (N := 8) (ci := 1) rfl iX1 ho1 4 (by decide) rfl fwRX1_29 dX1_update_24 hr3 ?_
    refine j_getI C (cn := RX4) (T := TX4) (N := 7) (ci := 4) rfl iX4 ho4 0 (by decide) rfl fwRX1_61 dX1_update_27 ?_
    refine j_imul C dX1_update_30 ?_
    refine j_istore_n C dX1_update_31 rfl (by decide) (L' := [(2, .int (((6 : Int32) * (Int32.ofNat (Z.2.2.1 4))) * (M5.1 c3 0))), (0, .ref a0), (1, .ref a1)]) rfl ?_
    refine j_aload_n C dX1_update_32 rfl 1 rfl ?_
    refine j_iconst C dX1_update_33 (v := (0 : Int32)) (by decide) ?_
    refine j_putI C tyX1 tyX1_ok nmX1 (cn := RX1) (T := TX1) (N := 8) (ci := 1) rfl iX1 ho1 0 (by decide) rfl fwRX1_9 ⟨rfl, rfl⟩ dX1_update_34 ?_
    refine j_sub (L' := [(0, .ref a0), (2, .int (((6 : Int32) * (Int32.ofNat (Z.2.2.1 4))) * (M5.1 c3 0)))]) [1, 0] rfl ?_
    exact tX1_update_37 C hnm N Z N a0 (((6 : Int32) * (Int32.ofNat (Z.2.2.1 4))) * (M5.1 c3 0)) (sI M5 a0 0 (0 : Int32)) _ _ h
  · rw [if_neg hc2] at h
    cases h
    exact j_vret C rfl (by decide) (by decide) dX1_update_7
-- ScaffoldPlanner$History <init>
theorem ojRX2_3 : Cond.methodLink RX2 3 Lib.objectInit ∈ gw ∧ Cond.instanceMethod Lib.objectInit ∈ gw ∧ Cond.code Lib.objectInit ⟨#[0xb1]⟩ 1 none ∈ gw := ⟨by decide +kernel, by decide +kernel, by decide +kernel⟩
theorem fwRX2_9 : Cond.fieldLink RX2 9 RX2 (TX2 0).2.1 (TX2 0).2.2.1 ∈ gw := by decide +kernel
theorem fwRX2_15 : Cond.fieldLink RX2 15 RX2 (TX2 1).2.1 (TX2 1).2.2.1 ∈ gw := by decide +kernel
theorem cwRX2_18 : Cond.classLink RX2 18 RX4 ∈ gw ∧ Cond.instantiable RX4 7 ∈ gw ∧ Cond.initialized RX4 ∈ gw := ⟨by decide +kernel, by decide +kernel, by decide +kernel⟩
theorem fwRX2_20 : Cond.fieldLink RX2 20 RX2 (TX2 2).2.1 (TX2 2).2.2.1 ∈ gw := by decide +kernel
theorem kcRX2_24 : okN RX2 24 yX4_init (.code yX4_init cX4_init 1 none) = true := by decide +kernel
abbrev rmX2_init : Room := { frames := 3, cells := 49, slots := 1256, locals := 63 }
theorem dX2_init_0 : decode cX2_init 0 = .ok (.aload_n 0, 1) := by decide +kernel
theorem dX2_init_1 : decode cX2_init 1 = .ok (.invokespecial 3, 3) := by decide +kernel
theorem dX2_init_4 : decode cX2_init 4 = .ok (.aload_n 0, 1) := by decide +kernel
theorem dX2_init_5 : decode cX2_init 5 = .ok (.iconst 0, 1) := by decide +kernel
theorem dX2_init_6 : decode cX2_init 6 = .ok (.putfield 9, 3) := by decide +kernel
theorem dX2_init_9 : decode cX2_init 9 = .ok (.aload_n 0, 1) := by decide +kernel
theorem dX2_init_10 : decode cX2_init 10 = .ok (.iconst 0, 1) := by decide +kernel
theorem dX2_init_11 : decode cX2_init 11 = .ok (.putfield 15, 3) := by decide +kernel
theorem dX2_init_14 : decode cX2_init 14 = .ok (.aload_n 0, 1) := by decide +kernel
theorem dX2_init_15 : decode cX2_init 15 = .ok (.bipush 8, 2) := by decide +kernel
theorem dX2_init_17 : decode cX2_init 17 = .ok (.anewarray 18, 3) := by decide +kernel
theorem dX2_init_20 : decode cX2_init 20 = .ok (.putfield 20, 3) := by decide +kernel
theorem dX2_init_23 : decode cX2_init 23 = .ok (.iconst 0, 1) := by decide +kernel
theorem dX2_init_24 : decode cX2_init 24 = .ok (.istore_n 1, 1) := by decide +kernel
theorem dX2_init_25 : decode cX2_init 25 = .ok (.iload_n 1, 1) := by decide +kernel
theorem dX2_init_26 : decode cX2_init 26 = .ok (.aload_n 0, 1) := by decide +kernel
theorem dX2_init_27 : decode cX2_init 27 = .ok (.getfield 20, 3) := by decide +kernel
theorem dX2_init_30 : decode cX2_init 30 = .ok (.arraylength, 1) := by decide +kernel
theorem dX2_init_31 : decode cX2_init 31 = .ok (.if_icmp .ge 22, 3) := by decide +kernel
theorem dX2_init_34 : decode cX2_init 34 = .ok (.aload_n 0, 1) := by decide +kernel
theorem dX2_init_35 : decode cX2_init 35 = .ok (.getfield 20, 3) := by decide +kernel
theorem dX2_init_38 : decode cX2_init 38 = .ok (.iload_n 1, 1) := by decide +kernel
theorem dX2_init_39 : decode cX2_init 39 = .ok (.new 18, 3) := by decide +kernel
theorem dX2_init_42 : decode cX2_init 42 = .ok (.dup, 1) := by decide +kernel
theorem dX2_init_43 : decode cX2_init 43 = .ok (.invokespecial 24, 3) := by decide +kernel
theorem dX2_init_46 : decode cX2_init 46 = .ok (.aastore, 1) := by decide +kernel
theorem dX2_init_47 : decode cX2_init 47 = .ok (.iinc 1 1, 3) := by decide +kernel
theorem dX2_init_50 : decode cX2_init 50 = .ok (.goto (-25), 3) := by decide +kernel
theorem dX2_init_53 : decode cX2_init 53 = .ok (.return_, 1) := by decide +kernel
def fX2_init (N : Nat) (Z : mZ) (a0 : Nat) (M : mM) : Option (Unit × (mZ × mM)) := ck (okO Z a0 2) (nameZ Z (sI M a0 0 (0 : Int32)) (fun Z2 M2 => ck (okO Z2 a0 2) (nameZ Z2 (sI M2 a0 1 (0 : Int32)) (fun Z4 M4 => ck (decide (M4.2.2.2 = 0)) (nameZ (zNew Z4 24 8) (mNew M4 (Z4.1)) (fun Z6 M6 => ck (okO Z6 a0 2) (nameZ (sR Z6 a0 2 (Z4.1)) M6 (fun Z8 M8 => ck (okO Z8 a0 2) (bnd1 (Z8.2.2.2 a0 2) (fun c10 => ck (okO Z8 c10 24) (ck (decide (Int32.ofNat (Z8.2.2.1 c10) = (8 : Int32))) (ck (decide (M8.2.2.2 = 0)) (nameZ (zNew Z8 4 0) (mNew M8 (Z8.1)) (fun Z14 M14 => bnd2 (fX4_init N Z14 (Z8.1) M14) (fun _ M15 => nameZ M15.1 M15.2 (fun Z16 M16 => ck (okO Z16 c10 24) (ck (inB (0 : Int32) (Z16.2.2.1 c10)) (ck (okO Z16 (Z8.1) 4) (nameZ (sR Z16 c10 ((0 : Int32)).toNatClampNeg (Z8.1)) M16 (fun Z20 M20 => ck (okO Z20 a0 2) (bnd1 (Z20.2.2.2 a0 2) (fun c22 => ck (okO Z20 c22 24) (ck (decide (Int32.ofNat (Z20.2.2.1 c22) = (8 : Int32))) (ck (decide (M20.2.2.2 = 0)) (nameZ (zNew Z20 4 0) (mNew M20 (Z20.1)) (fun Z26 M26 => bnd2 (fX4_init N Z26 (Z20.1) M26) (fun _ M27 => nameZ M27.1 M27.2 (fun Z28 M28 => ck (okO Z28 c22 24) (ck (inB (1 : Int32) (Z28.2.2.1 c22)) (ck (okO Z28 (Z20.1) 4) (nameZ (sR Z28 c22 ((1 : Int32)).toNatClampNeg (Z20.1)) M28 (fun Z32 M32 => ck (okO Z32 a0 2) (bnd1 (Z32.2.2.2 a0 2) (fun c34 => ck (okO Z32 c34 24) (ck (decide (Int32.ofNat (Z32.2.2.1 c34) = (8 : Int32))) (ck (decide (M32.2.2.2 = 0)) (nameZ (zNew Z32 4 0) (mNew M32 (Z32.1)) (fun Z38 M38 => bnd2 (fX4_init N Z38 (Z32.1) M38) (fun _ M39 => nameZ M39.1 M39.2 (fun Z40 M40 => ck (okO Z40 c34 24) (ck (inB (2 : Int32) (Z40.2.2.1 c34)) (ck (okO Z40 (Z32.1) 4) (nameZ (sR Z40 c34 ((2 : Int32)).toNatClampNeg (Z32.1)) M40 (fun Z44 M44 => ck (okO Z44 a0 2) (bnd1 (Z44.2.2.2 a0 2) (fun c46 => ck (okO Z44 c46 24) (ck (decide (Int32.ofNat (Z44.2.2.1 c46) = (8 : Int32))) (ck (decide (M44.2.2.2 = 0)) (nameZ (zNew Z44 4 0) (mNew M44 (Z44.1)) (fun Z50 M50 => bnd2 (fX4_init N Z50 (Z44.1) M50) (fun _ M51 => nameZ M51.1 M51.2 (fun Z52 M52 => ck (okO Z52 c46 24) (ck (inB (3 : Int32) (Z52.2.2.1 c46)) (ck (okO Z52 (Z44.1) 4) (nameZ (sR Z52 c46 ((3 : Int32)).toNatClampNeg (Z44.1)) M52 (fun Z56 M56 => ck (okO Z56 a0 2) (bnd1 (Z56.2.2.2 a0 2) (fun c58 => ck (okO Z56 c58 24) (ck (decide (Int32.ofNat (Z56.2.2.1 c58) = (8 : Int32))) (ck (decide (M56.2.2.2 = 0)) (nameZ (zNew Z56 4 0) (mNew M56 (Z56.1)) (fun Z62 M62 => bnd2 (fX4_init N Z62 (Z56.1) M62) (fun _ M63 => nameZ M63.1 M63.2 (fun Z64 M64 => ck (okO Z64 c58 24) (ck (inB (4 : Int32) (Z64.2.2.1 c58)) (ck (okO Z64 (Z56.1) 4) (nameZ (sR Z64 c58 ((4 : Int32)).toNatClampNeg (Z56.1)) M64 (fun Z68 M68 => ck (okO Z68 a0 2) (bnd1 (Z68.2.2.2 a0 2) (fun c70 => ck (okO Z68 c70 24) (ck (decide (Int32.ofNat (Z68.2.2.1 c70) = (8 : Int32))) (ck (decide (M68.2.2.2 = 0)) (nameZ (zNew Z68 4 0) (mNew M68 (Z68.1)) (fun Z74 M74 => bnd2 (fX4_init N Z74 (Z68.1) M74) (fun _ M75 => nameZ M75.1 M75.2 (fun Z76 M76 => ck (okO Z76 c70 24) (ck (inB (5 : Int32) (Z76.2.2.1 c70)) (ck (okO Z76 (Z68.1) 4) (nameZ (sR Z76 c70 ((5 : Int32)).toNatClampNeg (Z68.1)) M76 (fun Z80 M80 => ck (okO Z80 a0 2) (bnd1 (Z80.2.2.2 a0 2) (fun c82 => ck (okO Z80 c82 24) (ck (decide (Int32.ofNat (Z80.2.2.1 c82) = (8 : Int32))) (ck (decide (M80.2.2.2 = 0)) (nameZ (zNew Z80 4 0) (mNew M80 (Z80.1)) (fun Z86 M86 => bnd2 (fX4_init N Z86 (Z80.1) M86) (fun _ M87 => nameZ M87.1 M87.2 (fun Z88 M88 => ck (okO Z88 c82 24) (ck (inB (6 : Int32) (Z88.2.2.1 c82)) (ck (okO Z88 (Z80.1) 4) (nameZ (sR Z88 c82 ((6 : Int32)).toNatClampNeg (Z80.1)) M88 (fun Z92 M92 => ck (okO Z92 a0 2) (bnd1 (Z92.2.2.2 a0 2) (fun c94 => ck (okO Z92 c94 24) (ck (decide (Int32.ofNat (Z92.2.2.1 c94) = (8 : Int32))) (ck (decide (M92.2.2.2 = 0)) (nameZ (zNew Z92 4 0) (mNew M92 (Z92.1)) (fun Z98 M98 => bnd2 (fX4_init N Z98 (Z92.1) M98) (fun _ M99 => nameZ M99.1 M99.2 (fun Z100 M100 => ck (okO Z100 c94 24) (ck (inB (7 : Int32) (Z100.2.2.1 c94)) (ck (okO Z100 (Z92.1) 4) (nameZ (sR Z100 c94 ((7 : Int32)).toNatClampNeg (Z92.1)) M100 (fun Z104 M104 => ck (okO Z104 a0 2) (bnd1 (Z104.2.2.2 a0 2) (fun c106 => ck (okO Z104 c106 24) (ck (decide (Int32.ofNat (Z104.2.2.1 c106) = (8 : Int32))) (some ((), (Z104, M104))))))))))))))))))))))))))))))))))))))))))))))))))))))))))))))))))))))))))))))))))))))))))))))))))))))))))))))
set_option maxHeartbeats 4000000 in
set_option maxRecDepth 100000 in
theorem ctX2_init {G : mG} {l : Launch} (hl : l.stackTraces = false) (N : Nat) (Z : mZ) {a0 : Nat} {M : mM} {r : Unit} {ZM' : (mZ × mM)} (h : fX2_init N Z a0 M = some (r, ZM')) : CT G l yX2_init (.code yX2_init cX2_init 2 none) rmX2_init [.ref a0] Z M (.inl none) ZM'.1 ZM'.2 := by
  unfold fX2_init at h
  refine CT.of hl (by decide) (Nat.le_of_ble_eq_true rfl) ?_
  intro p e s m args below meth c C hnm
  refine j_sub (L' := [(0, .ref a0)]) [0] rfl ?_
  refine j_aload_n C dX2_init_0 rfl 0 rfl ?_
  refine j_objInit C ojRX2_3 (by decide) (Nat.le_of_ble_eq_true rfl) dX2_init_1 ?_
  refine j_aload_n C dX2_init_4 rfl 0 rfl ?_
  refine j_iconst C dX2_init_5 (v := (0 : Int32)) (by decide) ?_
  obtain ⟨ho1, h⟩ := ck_spec h
  refine j_putI C tyX2 tyX2_ok nmX2 (cn := RX2) (T := TX2) (N := 3) (ci := 2) rfl iX2 ho1 0 (by decide) rfl fwRX2_9 ⟨rfl, rfl⟩ dX2_init_6 ?_
  obtain ⟨Z2, M2, eZ2, eM2, h⟩ := nameZ_spec h
  refine j_nm eZ2 eM2 ?_
  refine j_aload_n C dX2_init_9 rfl 0 rfl ?_
  refine j_iconst C dX2_init_10 (v := (0 : Int32)) (by decide) ?_
  obtain ⟨ho3, h⟩ := ck_spec h
  refine j_putI C tyX2 tyX2_ok nmX2 (cn := RX2) (T := TX2) (N := 3) (ci := 2) rfl iX2 ho3 1 (by decide) rfl fwRX2_15 ⟨rfl, rfl⟩ dX2_init_11 ?_
  obtain ⟨Z4, M4, eZ4, eM4, h⟩ := nameZ_spec h
  refine j_nm eZ4 eM4 ?_
  refine j_aload_n C dX2_init_14 rfl 0 rfl ?_
  refine j_bipush C dX2_init_15 (v := (8 : Int32)) (by decide) ?_
  obtain ⟨ho5, h⟩ := ck_spec h
  refine j_anew C (ln := 8) cwRX2_18.1 (nw_ao C) (by decide) (by decide) (by decide) (of_decide_eq_true ho5) ⟨by decide, by decide⟩ dX2_init_17 ?_
  obtain ⟨Z6, M6, eZ6, eM6, h⟩ := nameZ_spec h
  refine j_nm eZ6 eM6 ?_
  obtain ⟨ho7, h⟩ := ck_spec h
  refine j_putR C hnm tyX2 tyX2_ok nmX2 (T := TX2) (N := 3) (ci := 2) rfl iX2 ho7 2 (by decide) rfl fwRX2_20 (fun _ => ⟨rfl, rfl⟩) dX2_init_20 ?_
  obtain ⟨Z8, M8, eZ8, eM8, h⟩ := nameZ_spec h
  refine j_nm eZ8 eM8 ?_
  refine j_iconst C dX2_init_23 (v := (0 : Int32)) (by decide) ?_
  refine j_istore_n C dX2_init_24 rfl (by decide) (L' := [(1, .int (0 : Int32)), (0, .ref a0)]) rfl ?_
  refine j_iload_n C dX2_init_25 rfl 0 rfl ?_
  refine j_aload_n C dX2_init_26 rfl 1 rfl ?_
  obtain ⟨ho9, h⟩ := ck_spec h
  obtain ⟨c10, hr10, h⟩ := bnd1_spec h
  refine j_getR C (cn := RX2) (T := TX2) (N := 3) (ci := 2) rfl iX2 ho9 2 (by decide) rfl fwRX2_20 dX2_init_27 hr10 ?_
  obtain ⟨ho11, h⟩ := ck_spec h
  obtain ⟨ho12, h⟩ := ck_spec h
  refine j_qlen C ho11 dX2_init_30 ?_
  rw [of_decide_eq_true ho12]
  refine j_icmp_ge C dX2_init_31 (tgt := 53) (by decide) (fun hc => absurd hc (by decide)) (fun _ => ?_)
  refine j_aload_n C dX2_init_34 rfl 1 rfl ?_
  refine j_getR C (cn := RX2) (T := TX2) (N := 3) (ci := 2) rfl iX2 ho9 2 (by decide) rfl fwRX2_20 dX2_init_35 hr10 ?_
  refine j_iload_n C dX2_init_38 rfl 0 rfl ?_
  obtain ⟨ho13, h⟩ := ck_spec h
  refine j_new C (cn := RX4) (T := TX4) (N := 7) (ci := 4) tyX4 tyX4_ok rfl iX4 (by decide) ntX4 cwRX2_18 (of_decide_eq_true ho13) ⟨by decide, by decide⟩ dX2_init_39 ?_
  obtain ⟨Z14, M14, eZ14, eM14, h⟩ := nameZ_spec h
  refine j_nm eZ14 eM14 ?_
  refine j_dup C dX2_init_42 rfl ?_
  obtain ⟨_, M15, hq15, h⟩ := bnd2_spec h
  refine j_run0 (c_I C (As := []) (rest := [.ref (Z8.1), .int (0 : Int32), .ref c10]) (ctX4_init C.2.2.2.2.2.2.2.2.1 N Z14 hq15) kcRX2_24 oyX4_init ⟨by decide, by decide⟩ ⟨by decide, by decide⟩ (Nat.le_of_ble_eq_true rfl) rfl dX2_init_43) ?_
  obtain ⟨Z16, M16, eZ16, eM16, h⟩ := nameZ_spec h
  refine j_nm eZ16 eM16 ?_
  obtain ⟨ho17, h⟩ := ck_spec h
  obtain ⟨ho18, h⟩ := ck_spec h
  obtain ⟨ho19, h⟩ := ck_spec h
  refine j_aast C ho17 ho18 ho19 dX2_init_46 ?_
  obtain ⟨Z20, M20, eZ20, eM20, h⟩ := nameZ_spec h
  refine j_nm eZ20 eM20 ?_
  refine j_iinc C dX2_init_47 0 rfl (v := (1 : Int32)) (by first | rfl | decide) (by decide) (L' := [(1, .int (1 : Int32)), (0, .ref a0)]) rfl ?_
  refine j_goto C dX2_init_50 (tgt := 25) (by decide) ?_
  refine j_iload_n C dX2_init_25 rfl 0 rfl ?_
  refine j_aload_n C dX2_init_26 rfl 1 rfl ?_
  obtain ⟨ho21, h⟩ := ck_spec h
  obtain ⟨c22, hr22, h⟩ := bnd1_spec h
  refine j_getR C (cn := RX2) (T := TX2) (N := 3) (ci := 2) rfl iX2 ho21 2 (by decide) rfl fwRX2_20 dX2_init_27 hr22 ?_
  obtain ⟨ho23, h⟩ := ck_spec h
  obtain ⟨ho24, h⟩ := ck_spec h
  refine j_qlen C ho23 dX2_init_30 ?_
  rw [of_decide_eq_true ho24]
  refine j_icmp_ge C dX2_init_31 (tgt := 53) (by decide) (fun hc => absurd hc (by decide)) (fun _ => ?_)
  refine j_aload_n C dX2_init_34 rfl 1 rfl ?_
  refine j_getR C (cn := RX2) (T := TX2) (N := 3) (ci := 2) rfl iX2 ho21 2 (by decide) rfl fwRX2_20 dX2_init_35 hr22 ?_
  refine j_iload_n C dX2_init_38 rfl 0 rfl ?_
  obtain ⟨ho25, h⟩ := ck_spec h
  refine j_new C (cn := RX4) (T := TX4) (N := 7) (ci := 4) tyX4 tyX4_ok rfl iX4 (by decide) ntX4 cwRX2_18 (of_decide_eq_true ho25) ⟨by decide, by decide⟩ dX2_init_39 ?_
  obtain ⟨Z26, M26, eZ26, eM26, h⟩ := nameZ_spec h
  refine j_nm eZ26 eM26 ?_
  refine j_dup C dX2_init_42 rfl ?_
  obtain ⟨_, M27, hq27, h⟩ := bnd2_spec h
  refine j_run0 (c_I C (As := []) (rest := [.ref (Z20.1), .int (1 : Int32), .ref c22]) (ctX4_init C.2.2.2.2.2.2.2.2.1 N Z26 hq27) kcRX2_24 oyX4_init ⟨by decide, by decide⟩ ⟨by decide, by decide⟩ (Nat.le_of_ble_eq_true rfl) rfl dX2_init_43) ?_
  obtain ⟨Z28, M28, eZ28, eM28, h⟩ := nameZ_spec h
  refine j_nm eZ28 eM28 ?_
  obtain ⟨ho29, h⟩ := ck_spec h
  obtain ⟨ho30, h⟩ := ck_spec h
  obtain ⟨ho31, h⟩ := ck_spec h
  refine j_aast C ho29 ho30 ho31 dX2_init_46 ?_
  obtain ⟨Z32, M32, eZ32, eM32, h⟩ := nameZ_spec h
  refine j_nm eZ32 eM32 ?_
  refine j_iinc C dX2_init_47 0 rfl (v := (2 : Int32)) (by first | rfl | decide) (by decide) (L' := [(1, .int (2 : Int32)), (0, .ref a0)]) rfl ?_
  refine j_goto C dX2_init_50 (tgt := 25) (by decide) ?_
  refine j_iload_n C dX2_init_25 rfl 0 rfl ?_
  refine j_aload_n C dX2_init_26 rfl 1 rfl ?_
  obtain ⟨ho33, h⟩ := ck_spec h
  obtain ⟨c34, hr34, h⟩ := bnd1_spec h
  refine j_getR C (cn := RX2) (T := TX2) (N := 3) (ci := 2) rfl iX2 ho33 2 (by decide) rfl fwRX2_20 dX2_init_27 hr34 ?_
  obtain ⟨ho35, h⟩ := ck_spec h
  obtain ⟨ho36, h⟩ := ck_spec h
  refine j_qlen C ho35 dX2_init_30 ?_
  rw [of_decide_eq_true ho36]
  refine j_icmp_ge C dX2_init_31 (tgt := 53) (by decide) (fun hc => absurd hc (by decide)) (fun _ => ?_)
  refine j_aload_n C dX2_init_34 rfl 1 rfl ?_
  refine j_getR C (cn := RX2) (T := TX2) (N := 3) (ci := 2) rfl iX2 ho33 2 (by decide) rfl fwRX2_20 dX2_init_35 hr34 ?_
  refine j_iload_n C dX2_init_38 rfl 0 rfl ?_
  obtain ⟨ho37, h⟩ := ck_spec h
  refine j_new C (cn := RX4) (T := TX4) (N := 7) (ci := 4) tyX4 tyX4_ok rfl iX4 (by decide) ntX4 cwRX2_18 (of_decide_eq_true ho37) ⟨by decide, by decide⟩ dX2_init_39 ?_
  obtain ⟨Z38, M38, eZ38, eM38, h⟩ := nameZ_spec h
  refine j_nm eZ38 eM38 ?_
  refine j_dup C dX2_init_42 rfl ?_
  obtain ⟨_, M39, hq39, h⟩ := bnd2_spec h
  refine j_run0 (c_I C (As := []) (rest := [.ref (Z32.1), .int (2 : Int32), .ref c34]) (ctX4_init C.2.2.2.2.2.2.2.2.1 N Z38 hq39) kcRX2_24 oyX4_init ⟨by decide, by decide⟩ ⟨by decide, by decide⟩ (Nat.le_of_ble_eq_true rfl) rfl dX2_init_43) ?_
  obtain ⟨Z40, M40, eZ40, eM40, h⟩ := nameZ_spec h
  refine j_nm eZ40 eM40 ?_
  obtain ⟨ho41, h⟩ := ck_spec h
  obtain ⟨ho42, h⟩ := ck_spec h
  obtain ⟨ho43, h⟩ := ck_spec h
  refine j_aast C ho41 ho42 ho43 dX2_init_46 ?_
  obtain ⟨Z44, M44, eZ44, eM44, h⟩ := nameZ_spec h
  refine j_nm eZ44 eM44 ?_
  refine j_iinc C dX2_init_47 0 rfl (v := (3 : Int32)) (by first | rfl | decide) (by decide) (L' := [(1, .int (3 : Int32)), (0, .ref a0)]) rfl ?_
  refine j_goto C dX2_init_50 (tgt := 25) (by decide) ?_
  refine j_iload_n C dX2_init_25 rfl 0 rfl ?_
  refine j_aload_n C dX2_init_26 rfl 1 rfl ?_
  obtain ⟨ho45, h⟩ := ck_spec h
  obtain ⟨c46, hr46, h⟩ := bnd1_spec h
  refine j_getR C (cn := RX2) (T := TX2) (N := 3) (ci := 2) rfl iX2 ho45 2 (by decide) rfl fwRX2_20 dX2_init_27 hr46 ?_
  obtain ⟨ho47, h⟩ := ck_spec h
  obtain ⟨ho48, h⟩ := ck_spec h
  refine j_qlen C ho47 dX2_init_30 ?_
  rw [of_decide_eq_true ho48]
  refine j_icmp_ge C dX2_init_31 (tgt := 53) (by decide) (fun hc => absurd hc (by decide)) (fun _ => ?_)
  refine j_aload_n C dX2_init_34 rfl 1 rfl ?_
  refine j_getR C (cn := RX2) (T := TX2) (N := 3) (ci := 2) rfl iX2 ho45 2 (by decide) rfl fwRX2_20 dX2_init_35 hr46 ?_
  refine j_iload_n C dX2_init_38 rfl 0 rfl ?_
  obtain ⟨ho49, h⟩ := ck_spec h
  refine j_new C (cn := RX4) (T := TX4) (N := 7) (ci := 4) tyX4 tyX4_ok rfl iX4 (by decide) ntX4 cwRX2_18 (of_decide_eq_true ho49) ⟨by decide, by decide⟩ dX2_init_39 ?_
  obtain ⟨Z50, M50, eZ50, eM50, h⟩ := nameZ_spec h
  refine j_nm eZ50 eM50 ?_
  refine j_dup C dX2_init_42 rfl ?_
  obtain ⟨_, M51, hq51, h⟩ := bnd2_spec h
  refine j_run0 (c_I C (As := []) (rest := [.ref (Z44.1), .int (3 : Int32), .ref c46]) (ctX4_init C.2.2.2.2.2.2.2.2.1 N Z50 hq51) kcRX2_24 oyX4_init ⟨by decide, by decide⟩ ⟨by decide, by decide⟩ (Nat.le_of_ble_eq_true rfl) rfl dX2_init_43) ?_
  obtain ⟨Z52, M52, eZ52, eM52, h⟩ := nameZ_spec h
  refine j_nm eZ52 eM52 ?_
  obtain ⟨ho53, h⟩ := ck_spec h
  obtain ⟨ho54, h⟩ := ck_spec h
  obtain ⟨ho55, h⟩ := ck_spec h
  refine j_aast C ho53 ho54 ho55 dX2_init_46 ?_
  obtain ⟨Z56, M56, eZ56, eM56, h⟩ := nameZ_spec h
  refine j_nm eZ56 eM56 ?_
  refine j_iinc C dX2_init_47 0 rfl (v := (4 : Int32)) (by first | rfl | decide) (by decide) (L' := [(1, .int (4 : Int32)), (0, .ref a0)]) rfl ?_
  refine j_goto C dX2_init_50 (tgt := 25) (by decide) ?_
  refine j_iload_n C dX2_init_25 rfl 0 rfl ?_
  refine j_aload_n C dX2_init_26 rfl 1 rfl ?_
  obtain ⟨ho57, h⟩ := ck_spec h
  obtain ⟨c58, hr58, h⟩ := bnd1_spec h
  refine j_getR C (cn := RX2) (T := TX2) (N := 3) (ci := 2) rfl iX2 ho57 2 (by decide) rfl fwRX2_20 dX2_init_27 hr58 ?_
  obtain ⟨ho59, h⟩ := ck_spec h
  obtain ⟨ho60, h⟩ := ck_spec h
  refine j_qlen C ho59 dX2_init_30 ?_
  rw [of_decide_eq_true ho60]
  refine j_icmp_ge C dX2_init_31 (tgt := 53) (by decide) (fun hc => absurd hc (by decide)) (fun _ => ?_)
  refine j_aload_n C dX2_init_34 rfl 1 rfl ?_
  refine j_getR C (cn := RX2) (T := TX2) (N := 3) (ci := 2) rfl iX2 ho57 2 (by decide) rfl fwRX2_20 dX2_init_35 hr58 ?_
  refine j_iload_n C dX2_init_38 rfl 0 rfl ?_
  obtain ⟨ho61, h⟩ := ck_spec h
  refine j_new C (cn := RX4) (T := TX4) (N := 7) (ci := 4) tyX4 tyX4_ok rfl iX4 (by decide) ntX4 cwRX2_18 (of_decide_eq_true ho61) ⟨by decide, by decide⟩ dX2_init_39 ?_
  obtain ⟨Z62, M62, eZ62, eM62, h⟩ := nameZ_spec h
  refine j_nm eZ62 eM62 ?_
  refine j_dup C dX2_init_42 rfl ?_
  obtain ⟨_, M63, hq63, h⟩ := bnd2_spec h
  refine j_run0 (c_I C (As := []) (rest := [.ref (Z56.1), .int (4 : Int32), .ref c58]) (ctX4_init C.2.2.2.2.2.2.2.2.1 N Z62 hq63) kcRX2_24 oyX4_init ⟨by decide, by decide⟩ ⟨by decide, by decide⟩ (Nat.le_of_ble_eq_true rfl) rfl dX2_init_43) ?_
  obtain ⟨Z64, M64, eZ64, eM64, h⟩ := nameZ_spec h
  refine j_nm eZ64 eM64 ?_
  obtain ⟨ho65, h⟩ := ck_spec h
  obtain ⟨ho66, h⟩ := ck_spec h
  obtain ⟨ho67, h⟩ := ck_spec h
  refine j_aast C ho65 ho66 ho67 dX2_init_46 ?_
  obtain ⟨Z68, M68, eZ68, eM68, h⟩ := nameZ_spec h
  refine j_nm eZ68 eM68 ?_
  refine j_iinc C dX2_init_47 0 rfl (v := (5 : Int32)) (by first | rfl | decide) (by decide) (L' := [(1, .int (5 : Int32)), (0, .ref a0)]) rfl ?_
  refine j_goto C dX2_init_50 (tgt := 25) (by decide) ?_
  refine j_iload_n C dX2_init_25 rfl 0 rfl ?_
  refine j_aload_n C dX2_init_26 rfl 1 rfl ?_
  obtain ⟨ho69, h⟩ := ck_spec h
  obtain ⟨c70, hr70, h⟩ := bnd1_spec h
  refine j_getR C (cn := RX2) (T := TX2) (N := 3) (ci := 2) rfl iX2 ho69 2 (by decide) rfl fwRX2_20 dX2_init_27 hr70 ?_
  obtain ⟨ho71, h⟩ := ck_spec h
  obtain ⟨ho72, h⟩ := ck_spec h
  refine j_qlen C ho71 dX2_init_30 ?_
  rw [of_decide_eq_true ho72]
  refine j_icmp_ge C dX2_init_31 (tgt := 53) (by decide) (fun hc => absurd hc (by decide)) (fun _ => ?_)
  refine j_aload_n C dX2_init_34 rfl 1 rfl ?_
  refine j_getR C (cn := RX2) (T := TX2) (N := 3) (ci := 2) rfl iX2 ho69 2 (by decide) rfl fwRX2_20 dX2_init_35 hr70 ?_
  refine j_iload_n C dX2_init_38 rfl 0 rfl ?_
  obtain ⟨ho73, h⟩ := ck_spec h
  refine j_new C (cn := RX4) (T := TX4) (N := 7) (ci := 4) tyX4 tyX4_ok rfl iX4 (by decide) ntX4 cwRX2_18 (of_decide_eq_true ho73) ⟨by decide, by decide⟩ dX2_init_39 ?_
  obtain ⟨Z74, M74, eZ74, eM74, h⟩ := nameZ_spec h
  refine j_nm eZ74 eM74 ?_
  refine j_dup C dX2_init_42 rfl ?_
  obtain ⟨_, M75, hq75, h⟩ := bnd2_spec h
  refine j_run0 (c_I C (As := []) (rest := [.ref (Z68.1), .int (5 : Int32), .ref c70]) (ctX4_init C.2.2.2.2.2.2.2.2.1 N Z74 hq75) kcRX2_24 oyX4_init ⟨by decide, by decide⟩ ⟨by decide, by decide⟩ (Nat.le_of_ble_eq_true rfl) rfl dX2_init_43) ?_
  obtain ⟨Z76, M76, eZ76, eM76, h⟩ := nameZ_spec h
  refine j_nm eZ76 eM76 ?_
  obtain ⟨ho77, h⟩ := ck_spec h
  obtain ⟨ho78, h⟩ := ck_spec h
  obtain ⟨ho79, h⟩ := ck_spec h
  refine j_aast C ho77 ho78 ho79 dX2_init_46 ?_
  obtain ⟨Z80, M80, eZ80, eM80, h⟩ := nameZ_spec h
  refine j_nm eZ80 eM80 ?_
  refine j_iinc C dX2_init_47 0 rfl (v := (6 : Int32)) (by first | rfl | decide) (by decide) (L' := [(1, .int (6 : Int32)), (0, .ref a0)]) rfl ?_
  refine j_goto C dX2_init_50 (tgt := 25) (by decide) ?_
  refine j_iload_n C dX2_init_25 rfl 0 rfl ?_
  refine j_aload_n C dX2_init_26 rfl 1 rfl ?_
  obtain ⟨ho81, h⟩ := ck_spec h
  obtain ⟨c82, hr82, h⟩ := bnd1_spec h
  refine j_getR C (cn := RX2) (T := TX2) (N := 3) (ci := 2) rfl iX2 ho81 2 (by decide) rfl fwRX2_20 dX2_init_27 hr82 ?_
  obtain ⟨ho83, h⟩ := ck_spec h
  obtain ⟨ho84, h⟩ := ck_spec h
  refine j_qlen C ho83 dX2_init_30 ?_
  rw [of_decide_eq_true ho84]
  refine j_icmp_ge C dX2_init_31 (tgt := 53) (by decide) (fun hc => absurd hc (by decide)) (fun _ => ?_)
  refine j_aload_n C dX2_init_34 rfl 1 rfl ?_
  refine j_getR C (cn := RX2) (T := TX2) (N := 3) (ci := 2) rfl iX2 ho81 2 (by decide) rfl fwRX2_20 dX2_init_35 hr82 ?_
  refine j_iload_n C dX2_init_38 rfl 0 rfl ?_
  obtain ⟨ho85, h⟩ := ck_spec h
  refine j_new C (cn := RX4) (T := TX4) (N := 7) (ci := 4) tyX4 tyX4_ok rfl iX4 (by decide) ntX4 cwRX2_18 (of_decide_eq_true ho85) ⟨by decide, by decide⟩ dX2_init_39 ?_
  obtain ⟨Z86, M86, eZ86, eM86, h⟩ := nameZ_spec h
  refine j_nm eZ86 eM86 ?_
  refine j_dup C dX2_init_42 rfl ?_
  obtain ⟨_, M87, hq87, h⟩ := bnd2_spec h
  refine j_run0 (c_I C (As := []) (rest := [.ref (Z80.1), .int (6 : Int32), .ref c82]) (ctX4_init C.2.2.2.2.2.2.2.2.1 N Z86 hq87) kcRX2_24 oyX4_init ⟨by decide, by decide⟩ ⟨by decide, by decide⟩ (Nat.le_of_ble_eq_true rfl) rfl dX2_init_43) ?_
  obtain ⟨Z88, M88, eZ88, eM88, h⟩ := nameZ_spec h
  refine j_nm eZ88 eM88 ?_
  obtain ⟨ho89, h⟩ := ck_spec h
  obtain ⟨ho90, h⟩ := ck_spec h
  obtain ⟨ho91, h⟩ := ck_spec h
  refine j_aast C ho89 ho90 ho91 dX2_init_46 ?_
  obtain ⟨Z92, M92, eZ92, eM92, h⟩ := nameZ_spec h
  refine j_nm eZ92 eM92 ?_
  refine j_iinc C dX2_init_47 0 rfl (v := (7 : Int32)) (by first | rfl | decide) (by decide) (L' := [(1, .int (7 : Int32)), (0, .ref a0)]) rfl ?_
  refine j_goto C dX2_init_50 (tgt := 25) (by decide) ?_
  refine j_iload_n C dX2_init_25 rfl 0 rfl ?_
  refine j_aload_n C dX2_init_26 rfl 1 rfl ?_
  obtain ⟨ho93, h⟩ := ck_spec h
  obtain ⟨c94, hr94, h⟩ := bnd1_spec h
  refine j_getR C (cn := RX2) (T := TX2) (N := 3) (ci := 2) rfl iX2 ho93 2 (by decide) rfl fwRX2_20 dX2_init_27 hr94 ?_
  obtain ⟨ho95, h⟩ := ck_spec h
  obtain ⟨ho96, h⟩ := ck_spec h
  refine j_qlen C ho95 dX2_init_30 ?_
  rw [of_decide_eq_true ho96]
  refine j_icmp_ge C dX2_init_31 (tgt := 53) (by decide) (fun hc => absurd hc (by decide)) (fun _ => ?_)
  refine j_aload_n C dX2_init_34 rfl 1 rfl ?_
  refine j_getR C (cn := RX2) (T := TX2) (N := 3) (ci := 2) rfl iX2 ho93 2 (by decide) rfl fwRX2_20 dX2_init_35 hr94 ?_
  refine j_iload_n C dX2_init_38 rfl 0 rfl ?_
  obtain ⟨ho97, h⟩ := ck_spec h
  refine j_new C (cn := RX4) (T := TX4) (N := 7) (ci := 4) tyX4 tyX4_ok rfl iX4 (by decide) ntX4 cwRX2_18 (of_decide_eq_true ho97) ⟨by decide, by decide⟩ dX2_init_39 ?_
  obtain ⟨Z98, M98, eZ98, eM98, h⟩ := nameZ_spec h
  refine j_nm eZ98 eM98 ?_
  refine j_dup C dX2_init_42 rfl ?_
  obtain ⟨_, M99, hq99, h⟩ := bnd2_spec h
  refine j_run0 (c_I C (As := []) (rest := [.ref (Z92.1), .int (7 : Int32), .ref c94]) (ctX4_init C.2.2.2.2.2.2.2.2.1 N Z98 hq99) kcRX2_24 oyX4_init ⟨by decide, by decide⟩ ⟨by decide, by decide⟩ (Nat.le_of_ble_eq_true rfl) rfl dX2_init_43) ?_
  obtain ⟨Z100, M100, eZ100, eM100, h⟩ := nameZ_spec h
  refine j_nm eZ100 eM100 ?_
  obtain ⟨ho101, h⟩ := ck_spec h
  obtain ⟨ho102, h⟩ := ck_spec h
  obtain ⟨ho103, h⟩ := ck_spec h
  refine j_aast C ho101 ho102 ho103 dX2_init_46 ?_
  obtain ⟨Z104, M104, eZ104, eM104, h⟩ := nameZ_spec h
  refine j_nm eZ104 eM104 ?_
  refine j_iinc C dX2_init_47 0 rfl (v := (8 : Int32)) (by first | rfl | decide) (by decide) (L' := [(1, .int (8 : Int32)), (0, .ref a0)]) rfl ?_
  refine j_goto C dX2_init_50 (tgt := 25) (by decide) ?_
  refine j_iload_n C dX2_init_25 rfl 0 rfl ?_
  refine j_aload_n C dX2_init_26 rfl 1 rfl ?_
  obtain ⟨ho105, h⟩ := ck_spec h
  obtain ⟨c106, hr106, h⟩ := bnd1_spec h
  refine j_getR C (cn := RX2) (T := TX2) (N := 3) (ci := 2) rfl iX2 ho105 2 (by decide) rfl fwRX2_20 dX2_init_27 hr106 ?_
  obtain ⟨ho107, h⟩ := ck_spec h
  obtain ⟨ho108, h⟩ := ck_spec h
  refine j_qlen C ho107 dX2_init_30 ?_
  rw [of_decide_eq_true ho108]
  refine j_icmp_ge C dX2_init_31 (tgt := 53) (by decide) (fun _ => ?_) (fun hc => absurd hc (by decide))
  cases h
  exact j_vret C rfl (by decide) (by decide) dX2_init_53
-- ScaffoldPlanner$History forget
abbrev rmX2_forget : Room := { frames := 0, cells := 0, slots := 0, locals := 0 }
theorem dX2_forget_0 : decode cX2_forget 0 = .ok (.aload_n 0, 1) := by decide +kernel
theorem dX2_forget_1 : decode cX2_forget 1 = .ok (.iconst 0, 1) := by decide +kernel
theorem dX2_forget_2 : decode cX2_forget 2 = .ok (.putfield 9, 3) := by decide +kernel
theorem dX2_forget_5 : decode cX2_forget 5 = .ok (.return_, 1) := by decide +kernel
def fX2_forget (N : Nat) (Z : mZ) (a0 : Nat) (M : mM) : Option (Unit × mM) := ck (okO Z a0 2) (some ((), (sI M a0 0 (0 : Int32))))
set_option maxHeartbeats 4000000 in
set_option maxRecDepth 100000 in
theorem ctX2_forget {G : mG} {l : Launch} (hl : l.stackTraces = false) (N : Nat) (Z : mZ) {a0 : Nat} {M : mM} {r : Unit} {M' : mM} (h : fX2_forget N Z a0 M = some (r, M')) : CT G l yX2_forget (.code yX2_forget cX2_forget 1 none) rmX2_forget [.ref a0] Z M (.inl none) Z M' := by
  unfold fX2_forget at h
  refine CT.of hl (by decide) (Nat.le_of_ble_eq_true rfl) ?_
  intro p e s m args below meth c C hnm
  refine j_sub (L' := [(0, .ref a0)]) [0] rfl ?_
  refine j_aload_n C dX2_forget_0 rfl 0 rfl ?_
  refine j_iconst C dX2_forget_1 (v := (0 : Int32)) (by decide) ?_
  obtain ⟨ho1, h⟩ := ck_spec h
  refine j_putI C tyX2 tyX2_ok nmX2 (cn := RX2) (T := TX2) (N := 3) (ci := 2) rfl iX2 ho1 0 (by decide) rfl fwRX2_9 ⟨rfl, rfl⟩ dX2_forget_2 ?_
  cases h
  exact j_vret C rfl (by decide) (by decide) dX2_forget_5
-- ScaffoldPlanner$History planAt
abbrev rmX2_planAt : Room := { frames := 0, cells := 0, slots := 0, locals := 0 }
theorem dX2_planAt_0 : decode cX2_planAt 0 = .ok (.iload_n 1, 1) := by decide +kernel
theorem dX2_planAt_1 : decode cX2_planAt 1 = .ok (.ifCond .lt 21, 3) := by decide +kernel
theorem dX2_planAt_4 : decode cX2_planAt 4 = .ok (.iload_n 1, 1) := by decide +kernel
theorem dX2_planAt_5 : decode cX2_planAt 5 = .ok (.aload_n 0, 1) := by decide +kernel
theorem dX2_planAt_6 : decode cX2_planAt 6 = .ok (.getfield 20, 3) := by decide +kernel
theorem dX2_planAt_9 : decode cX2_planAt 9 = .ok (.arraylength, 1) := by decide +kernel
theorem dX2_planAt_10 : decode cX2_planAt 10 = .ok (.if_icmp .ge 12, 3) := by decide +kernel
theorem dX2_planAt_13 : decode cX2_planAt 13 = .ok (.aload_n 0, 1) := by decide +kernel
theorem dX2_planAt_14 : decode cX2_planAt 14 = .ok (.getfield 20, 3) := by decide +kernel
theorem dX2_planAt_17 : decode cX2_planAt 17 = .ok (.iload_n 1, 1) := by decide +kernel
theorem dX2_planAt_18 : decode cX2_planAt 18 = .ok (.aaload, 1) := by decide +kernel
theorem dX2_planAt_19 : decode cX2_planAt 19 = .ok (.goto 4, 3) := by decide +kernel
theorem dX2_planAt_22 : decode cX2_planAt 22 = .ok (.aconst_null, 1) := by decide +kernel
theorem dX2_planAt_23 : decode cX2_planAt 23 = .ok (.areturn, 1) := by decide +kernel
def fX2_planAt (N : Nat) (Z : mZ) (a0 : Nat) (a1 : Int32) (M : mM) : Option (Option Nat × mM) := if a1 < 0 then some (none, M) else ck (okO Z a0 2) (bnd1 (Z.2.2.2 a0 2) (fun c3 => ck (okO Z c3 24) (if (Int32.ofNat (Z.2.2.1 c3)) ≤ a1 then some (none, M) else ck (inB a1 (Z.2.2.1 c3)) (bnd1 (Z.2.2.2 c3 (a1).toNatClampNeg) (fun c7 => some (some c7, M))))))
set_option maxHeartbeats 4000000 in
set_option maxRecDepth 100000 in
theorem ctX2_planAt {G : mG} {l : Launch} (hl : l.stackTraces = false) (N : Nat) (Z : mZ) {a0 : Nat} {a1 : Int32} {M : mM} {r : Option Nat} {M' : mM} (h : fX2_planAt N Z a0 a1 M = some (r, M')) : CT G l yX2_planAt (.code yX2_planAt cX2_planAt 2 (some (.object "ScaffoldPlanner$Plan"))) rmX2_planAt [.ref a0, .int a1] Z M (.inl (some (va_rf r))) Z M' := by
  unfold fX2_planAt at h
  refine CT.of hl (by decide) (Nat.le_of_ble_eq_true rfl) ?_
  intro p e s m args below meth c C hnm
  refine j_sub (L' := [(0, .ref a0), (1, .int a1)]) [0, 1] rfl ?_
  refine j_iload_n C dX2_planAt_0 rfl 1 rfl ?_
  refine j_if_lt C dX2_planAt_1 (tgt := 22) (by decide) (fun hc1 => ?_) (fun hc1 => ?_)
  · rw [if_pos hc1] at h
    refine j_null C dX2_planAt_22 ?_
    cases h
    exact j_aretN C rfl (by decide) (by decide) dX2_planAt_23
  · rw [if_neg hc1] at h
    refine j_iload_n C dX2_planAt_4 rfl 1 rfl ?_
    refine j_aload_n C dX2_planAt_5 rfl 0 rfl ?_
    obtain ⟨ho2, h⟩ := ck_spec h
    obtain ⟨c3, hr3, h⟩ := bnd1_spec h
    refine j_getR C (cn := RX2) (T := TX2) (N := 3) (ci := 2) rfl iX2 ho2 2 (by decide) rfl fwRX2_20 dX2_planAt_6 hr3 ?_
    obtain ⟨ho4, h⟩ := ck_spec h
    refine j_qlen C ho4 dX2_planAt_9 ?_
    refine j_icmp_ge C dX2_planAt_10 (tgt := 22) (by decide) (fun hc5 => ?_) (fun hc5 => ?_)
    · rw [if_pos hc5] at h
      refine j_null C dX2_planAt_22 ?_
      cases h
      exact j_aretN C rfl (by decide) (by decide) dX2_planAt_23
    · rw [if_neg hc5] at h
      refine j_aload_n C dX2_planAt_13 rfl 0 rfl ?_
      refine j_getR C (cn := RX2) (T := TX2) (N := 3) (ci := 2) rfl iX2 ho2 2 (by decide) rfl fwRX2_20 dX2_planAt_14 hr3 ?_
      refine j_iload_n C dX2_planAt_17 rfl 1 rfl ?_
      obtain ⟨ho6, h⟩ := ck_spec h
      obtain ⟨c7, hr7, h⟩ := bnd1_spec h
      refine j_aald C ho4 ho6 hr7 dX2_planAt_18 ?_
      refine j_goto C dX2_planAt_19 (tgt := 23) (by decide) ?_
      cases h
      exact j_aret C rfl (by decide) (by decide) dX2_planAt_23
-- ScaffoldPlanner$History keep
theorem kcRX2_25 : okV RX2 25 yX2_planAt (.code yX2_planAt cX2_planAt 2 (some (.object "ScaffoldPlanner$Plan"))) = true := by decide +kernel
theorem oyX2_planAt : okY yX2_planAt 1 := ⟨by decide +kernel, by decide +kernel, by decide +kernel⟩
theorem kcRX2_29 : okV RX2 29 yX4_copyFrom (.code yX4_copyFrom cX4_copyFrom 3 none) = true := by decide +kernel
theorem mmRX2_33 : okM RX2 33 Lib.Math.min.name Lib.Math.min.code = true := by decide +kernel
abbrev rmX2_keep : Room := { frames := 2, cells := 0, slots := 0, locals := 43 }
theorem dX2_keep_0 : decode cX2_keep 0 = .ok (.aload_n 0, 1) := by decide +kernel
theorem dX2_keep_1 : decode cX2_keep 1 = .ok (.aload_n 0, 1) := by decide +kernel
theorem dX2_keep_2 : decode cX2_keep 2 = .ok (.getfield 15, 3) := by decide +kernel
theorem dX2_keep_5 : decode cX2_keep 5 = .ok (.invokevirtual 25, 3) := by decide +kernel
theorem dX2_keep_8 : decode cX2_keep 8 = .ok (.astore_n 2, 1) := by decide +kernel
theorem dX2_keep_9 : decode cX2_keep 9 = .ok (.aload_n 2, 1) := by decide +kernel
theorem dX2_keep_10 : decode cX2_keep 10 = .ok (.ifnonnull 4, 3) := by decide +kernel
theorem dX2_keep_13 : decode cX2_keep 13 = .ok (.return_, 1) := by decide +kernel
theorem dX2_keep_14 : decode cX2_keep 14 = .ok (.aload_n 2, 1) := by decide +kernel
theorem dX2_keep_15 : decode cX2_keep 15 = .ok (.aload_n 1, 1) := by decide +kernel
theorem dX2_keep_16 : decode cX2_keep 16 = .ok (.invokevirtual 29, 3) := by decide +kernel
theorem dX2_keep_19 : decode cX2_keep 19 = .ok (.aload_n 0, 1) := by decide +kernel
theorem dX2_keep_20 : decode cX2_keep 20 = .ok (.aload_n 0, 1) := by decide +kernel
theorem dX2_keep_21 : decode cX2_keep 21 = .ok (.getfield 15, 3) := by decide +kernel
theorem dX2_keep_24 : decode cX2_keep 24 = .ok (.bipush 7, 2) := by decide +kernel
theorem dX2_keep_26 : decode cX2_keep 26 = .ok (.if_icmp .ne 7, 3) := by decide +kernel
theorem dX2_keep_29 : decode cX2_keep 29 = .ok (.iconst 0, 1) := by decide +kernel
theorem dX2_keep_30 : decode cX2_keep 30 = .ok (.goto 9, 3) := by decide +kernel
theorem dX2_keep_33 : decode cX2_keep 33 = .ok (.aload_n 0, 1) := by decide +kernel
theorem dX2_keep_34 : decode cX2_keep 34 = .ok (.getfield 15, 3) := by decide +kernel
theorem dX2_keep_37 : decode cX2_keep 37 = .ok (.iconst 1, 1) := by decide +kernel
theorem dX2_keep_38 : decode cX2_keep 38 = .ok (.iadd, 1) := by decide +kernel
theorem dX2_keep_39 : decode cX2_keep 39 = .ok (.putfield 15, 3) := by decide +kernel
theorem dX2_keep_42 : decode cX2_keep 42 = .ok (.aload_n 0, 1) := by decide +kernel
theorem dX2_keep_43 : decode cX2_keep 43 = .ok (.aload_n 0, 1) := by decide +kernel
theorem dX2_keep_44 : decode cX2_keep 44 = .ok (.getfield 9, 3) := by decide +kernel
theorem dX2_keep_47 : decode cX2_keep 47 = .ok (.iconst 1, 1) := by decide +kernel
theorem dX2_keep_48 : decode cX2_keep 48 = .ok (.iadd, 1) := by decide +kernel
theorem dX2_keep_49 : decode cX2_keep 49 = .ok (.bipush 8, 2) := by decide +kernel
theorem dX2_keep_51 : decode cX2_keep 51 = .ok (.invokestatic 33, 3) := by decide +kernel
theorem dX2_keep_54 : decode cX2_keep 54 = .ok (.putfield 9, 3) := by decide +kernel
theorem dX2_keep_57 : decode cX2_keep 57 = .ok (.return_, 1) := by decide +kernel
def fX2_keep (N : Nat) (Z : mZ) (a0 : Nat) (a1 : Nat) (M : mM) : Option (Unit × mM) := ck (okO Z a0 2) (bndR (fX2_planAt N Z a0 (M.1 a0 1) M) (fun M2 => some ((), M2)) (fun r2 M2 => ck (okO Z r2 4) (bnd2 (fX4_copyFrom N Z r2 a1 M2) (fun _ M4 => if (M4.1 a0 1) = (7 : Int32) then some ((), (sI (sI M4 a0 1 (0 : Int32)) a0 0 (if (8 : Int32) < (((sI M4 a0 1 (0 : Int32)).1 a0 0) + (1 : Int32)) then (8 : Int32) else (((sI M4 a0 1 (0 : Int32)).1 a0 0) + (1 : Int32))))) else some ((), (sI (sI M4 a0 1 ((M4.1 a0 1) + (1 : Int32))) a0 0 (if (8 : Int32) < (((sI M4 a0 1 ((M4.1 a0 1) + (1 : Int32))).1 a0 0) + (1 : Int32)) then (8 : Int32) else (((sI M4 a0 1 ((M4.1 a0 1) + (1 : Int32))).1 a0 0) + (1 : Int32)))))))))
set_option maxHeartbeats 4000000 in
set_option maxRecDepth 100000 in
theorem ctX2_keep {G : mG} {l : Launch} (hl : l.stackTraces = false) (N : Nat) (Z : mZ) {a0 : Nat} {a1 : Nat} {M : mM} {r : Unit} {M' : mM} (h : fX2_keep N Z a0 a1 M = some (r, M')) : CT G l yX2_keep (.code yX2_keep cX2_keep 3 none) rmX2_keep [.ref a0, .ref a1] Z M (.inl none) Z M' := by
  unfold fX2_keep at h
  refine CT.of hl (by decide) (Nat.le_of_ble_eq_true rfl) ?_
  intro p e s m args below meth c C hnm
  refine j_sub (L' := [(0, .ref a0), (1, .ref a1)]) [0, 1] rfl ?_
  refine j_aload_n C dX2_keep_0 rfl 0 rfl ?_
  refine j_aload_n C dX2_keep_1 rfl 0 rfl ?_
  obtain ⟨ho1, h⟩ := ck_spec h
  refine j_getI C (cn := RX2) (T := TX2) (N := 3) (ci := 2) rfl iX2 ho1 1 (by decide) rfl fwRX2_15 dX2_keep_2 ?_
  rcases bndR_spec h with ⟨M2, hq2, h⟩ | ⟨r2, M2, hq2, h⟩
  · refine j_run1 (c_V C (As := [.int (M.1 a0 1)]) (rest := []) (ctX2_planAt C.2.2.2.2.2.2.2.2.1 N Z hq2) kcRX2_25 oyX2_planAt (ci := 2) (T := TX2) (N := 3) rfl (by decide) ho1 ⟨by decide, by decide⟩ ⟨by decide, by decide⟩ (Nat.le_of_ble_eq_true rfl) rfl dX2_keep_5) ?_
    refine j_astore_nN C dX2_keep_8 rfl (by decide) (L' := [(2, .null), (0, .ref a0), (1, .ref a1)]) rfl ?_
    refine j_aload_nN C dX2_keep_9 rfl 0 rfl ?_
    refine j_ifnonnullN C dX2_keep_10 ?_
    cases h
    exact j_vret C rfl (by decide) (by decide) dX2_keep_13
  · refine j_run1 (c_V C (As := [.int (M.1 a0 1)]) (rest := []) (ctX2_planAt C.2.2.2.2.2.2.2.2.1 N Z hq2) kcRX2_25 oyX2_planAt (ci := 2) (T := TX2) (N := 3) rfl (by decide) ho1 ⟨by decide, by decide⟩ ⟨by decide, by decide⟩ (Nat.le_of_ble_eq_true rfl) rfl dX2_keep_5) ?_
    refine j_astore_n C dX2_keep_8 rfl (by decide) (L' := [(2, .ref r2), (0, .ref a0), (1, .ref a1)]) rfl ?_
    refine j_aload_n C dX2_keep_9 rfl 0 rfl ?_
    refine j_ifnonnull C dX2_keep_10 (tgt := 14) (by decide) ?_
    refine j_aload_n C dX2_keep_14 rfl 0 rfl ?_
    refine j_aload_n C dX2_keep_15 rfl 2 rfl ?_
    obtain ⟨ho3, h⟩ := ck_spec h
    obtain ⟨_, M4, hq4, h⟩ := bnd2_spec h
    refine j_run0 (c_V C (As := [.ref a1]) (rest := []) (ctX4_copyFrom C.2.2.2.2.2.2.2.2.1 N Z hq4) kcRX2_29 oyX4_copyFrom (ci := 4) (T := TX4) (N := 7) rfl (by decide) ho3 ⟨by decide, by decide⟩ ⟨by decide, by decide⟩ (Nat.le_of_ble_eq_true rfl) rfl dX2_keep_16) ?_
    refine j_aload_n C dX2_keep_19 rfl 1 rfl ?_
    refine j_aload_n C dX2_keep_20 rfl 1 rfl ?_
    refine j_getI C (cn := RX2) (T := TX2) (N := 3) (ci := 2) rfl iX2 ho1 1 (by decide) rfl fwRX2_15 dX2_keep_21 ?_
    refine j_bipush C dX2_keep_24 (v := (7 : Int32)) (by decide) ?_
    refine j_icmp_ne C dX2_keep_26 (tgt := 33) (by decide) (fun hc5 => ?_) (fun hc5 => ?_)
    · rw [if_neg hc5] at h
      refine j_aload_n C dX2_keep_33 rfl 1 rfl ?_
      refine j_getI C (cn := RX2) (T := TX2) (N := 3) (ci := 2) rfl iX2 ho1 1 (by decide) rfl fwRX2_15 dX2_keep_34 ?_
      refine j_iconst C dX2_keep_37 (v := (1 : Int32)) (by decide) ?_
      refine j_iadd C dX2_keep_38 ?_
      refine j_putI C tyX2 tyX2_ok nmX2 (cn := RX2) (T := TX2) (N := 3) (ci := 2) rfl iX2 ho1 1 (by decide) rfl fwRX2_15 ⟨rfl, rfl⟩ dX2_keep_39 ?_
      refine j_aload_n C dX2_keep_42 rfl 1 rfl ?_
      refine j_aload_n C dX2_keep_43 rfl 1 rfl ?_
      refine j_getI C (cn := RX2) (T := TX2) (N := 3) (ci := 2) rfl iX2 ho1 0 (by decide) rfl fwRX2_9 dX2_keep_44 ?_
      refine j_iconst C dX2_keep_47 (v := (1 : Int32)) (by decide) ?_
      refine j_iadd C dX2_keep_48 ?_
      refine j_bipush C dX2_keep_49 (v := (8 : Int32)) (by decide) ?_
      refine j_mmin C mmRX2_33 (by decide) (Nat.le_of_ble_eq_true rfl) (by decide) (by decide) dX2_keep_51 ?_
      refine j_putI C tyX2 tyX2_ok nmX2 (cn := RX2) (T := TX2) (N := 3) (ci := 2) rfl iX2 ho1 0 (by decide) rfl fwRX2_9 ⟨rfl, rfl⟩ dX2_keep_54 ?_
      cases h
      exact j_vret C rfl (by decide) (by decide) dX2_keep_57
    · rw [if_pos hc5] at h
      refine j_iconst C dX2_keep_29 (v := (0 : Int32)) (by decide) ?_
      refine j_goto C dX2_keep_30 (tgt := 39) (by decide) ?_
      refine j_putI C tyX2 tyX2_ok nmX2 (cn := RX2) (T := TX2) (N := 3) (ci := 2) rfl iX2 ho1 1 (by decide) rfl fwRX2_15 ⟨rfl, rfl⟩ dX2_keep_39 ?_
      refine j_aload_n C dX2_keep_42 rfl 1 rfl ?_
      refine j_aload_n C dX2_keep_43 rfl 1 rfl ?_
      refine j_getI C (cn := RX2) (T := TX2) (N := 3) (ci := 2) rfl iX2 ho1 0 (by decide) rfl fwRX2_9 dX2_keep_44 ?_
      refine j_iconst C dX2_keep_47 (v := (1 : Int32)) (by decide) ?_
      refine j_iadd C dX2_keep_48 ?_
      refine j_bipush C dX2_keep_49 (v := (8 : Int32)) (by decide) ?_
      refine j_mmin C mmRX2_33 (by decide) (Nat.le_of_ble_eq_true rfl) (by decide) (by decide) dX2_keep_51 ?_
      refine j_putI C tyX2 tyX2_ok nmX2 (cn := RX2) (T := TX2) (N := 3) (ci := 2) rfl iX2 ho1 0 (by decide) rfl fwRX2_9 ⟨rfl, rfl⟩ dX2_keep_54 ?_
      cases h
      exact j_vret C rfl (by decide) (by decide) dX2_keep_57
-- ScaffoldPlanner$History takeBack
abbrev rmX2_takeBack : Room := { frames := 2, cells := 0, slots := 0, locals := 43 }
theorem dX2_takeBack_0 : decode cX2_takeBack 0 = .ok (.aload_n 0, 1) := by decide +kernel
theorem dX2_takeBack_1 : decode cX2_takeBack 1 = .ok (.getfield 15, 3) := by decide +kernel
theorem dX2_takeBack_4 : decode cX2_takeBack 4 = .ok (.ifCond .ne 8, 3) := by decide +kernel
theorem dX2_takeBack_7 : decode cX2_takeBack 7 = .ok (.bipush 7, 2) := by decide +kernel
theorem dX2_takeBack_9 : decode cX2_takeBack 9 = .ok (.goto 9, 3) := by decide +kernel
theorem dX2_takeBack_12 : decode cX2_takeBack 12 = .ok (.aload_n 0, 1) := by decide +kernel
theorem dX2_takeBack_13 : decode cX2_takeBack 13 = .ok (.getfield 15, 3) := by decide +kernel
theorem dX2_takeBack_16 : decode cX2_takeBack 16 = .ok (.iconst 1, 1) := by decide +kernel
theorem dX2_takeBack_17 : decode cX2_takeBack 17 = .ok (.isub, 1) := by decide +kernel
theorem dX2_takeBack_18 : decode cX2_takeBack 18 = .ok (.istore_n 2, 1) := by decide +kernel
theorem dX2_takeBack_19 : decode cX2_takeBack 19 = .ok (.aload_n 0, 1) := by decide +kernel
theorem dX2_takeBack_20 : decode cX2_takeBack 20 = .ok (.iload_n 2, 1) := by decide +kernel
theorem dX2_takeBack_21 : decode cX2_takeBack 21 = .ok (.invokevirtual 25, 3) := by decide +kernel
theorem dX2_takeBack_24 : decode cX2_takeBack 24 = .ok (.astore_n 3, 1) := by decide +kernel
theorem dX2_takeBack_25 : decode cX2_takeBack 25 = .ok (.aload_n 3, 1) := by decide +kernel
theorem dX2_takeBack_26 : decode cX2_takeBack 26 = .ok (.ifnull 10, 3) := by decide +kernel
theorem dX2_takeBack_29 : decode cX2_takeBack 29 = .ok (.aload_n 0, 1) := by decide +kernel
theorem dX2_takeBack_30 : decode cX2_takeBack 30 = .ok (.getfield 9, 3) := by decide +kernel
theorem dX2_takeBack_33 : decode cX2_takeBack 33 = .ok (.ifCond .ne 4, 3) := by decide +kernel
theorem dX2_takeBack_36 : decode cX2_takeBack 36 = .ok (.return_, 1) := by decide +kernel
theorem dX2_takeBack_37 : decode cX2_takeBack 37 = .ok (.aload_n 1, 1) := by decide +kernel
theorem dX2_takeBack_38 : decode cX2_takeBack 38 = .ok (.aload_n 3, 1) := by decide +kernel
theorem dX2_takeBack_39 : decode cX2_takeBack 39 = .ok (.invokevirtual 29, 3) := by decide +kernel
theorem dX2_takeBack_42 : decode cX2_takeBack 42 = .ok (.aload_n 0, 1) := by decide +kernel
theorem dX2_takeBack_43 : decode cX2_takeBack 43 = .ok (.iload_n 2, 1) := by decide +kernel
theorem dX2_takeBack_44 : decode cX2_takeBack 44 = .ok (.putfield 15, 3) := by decide +kernel
theorem dX2_takeBack_47 : decode cX2_takeBack 47 = .ok (.aload_n 0, 1) := by decide +kernel
theorem dX2_takeBack_48 : decode cX2_takeBack 48 = .ok (.dup, 1) := by decide +kernel
theorem dX2_takeBack_49 : decode cX2_takeBack 49 = .ok (.getfield 9, 3) := by decide +kernel
theorem dX2_takeBack_52 : decode cX2_takeBack 52 = .ok (.iconst 1, 1) := by decide +kernel
theorem dX2_takeBack_53 : decode cX2_takeBack 53 = .ok (.isub, 1) := by decide +kernel
theorem dX2_takeBack_54 : decode cX2_takeBack 54 = .ok (.putfield 9, 3) := by decide +kernel
theorem dX2_takeBack_57 : decode cX2_takeBack 57 = .ok (.return_, 1) := by decide +kernel
def fX2_takeBack_18 (N : Nat) (Z : mZ) (v0 : Nat) (v1 : Nat) (x0 : Int32) (M : mM) : Option (Unit × mM) := ck (okO Z v0 2) (bndR (fX2_planAt N Z v0 x0 M) (fun M4 => some ((), M4)) (fun r4 M4 => if (M4.1 v0 0) = 0 then some ((), M4) else ck (okO Z v1 4) (bnd2 (fX4_copyFrom N Z v1 r4 M4) (fun _ M7 => some ((), (sI (sI M7 v0 1 x0) v0 0 (((sI M7 v0 1 x0).1 v0 0) - (1 : Int32))))))))
set_option maxHeartbeats 4000000 in
set_option maxRecDepth 100000 in
theorem tX2_takeBack_18 {G : mG} {p : Program} {l : Launch} {e : Env} {s : State} {m : MethodId} {args : Array Value} {below : List Frame} {meth : Method} {c : Code} (C : Cx G p l s m args meth c RX2 cX2_takeBack 4 none []) (hnm : meth.name = yX2_takeBack.name) (N : Nat) (Z : mZ) : ∀ (v0 : Nat) (v1 : Nat) (x0 : Int32) (M : mM) (r : Unit) (M' : mM), fX2_takeBack_18 N Z v0 v1 x0 M = some (r, M') → JJ G p l e rmX2_takeBack s m args below meth c 4 (mEnd G below args s rmX2_takeBack (.inl none) Z M') 0 0 18 [(0, .ref v0), (1, .ref v1)] [.int x0] Z M := by
  intro v0 v1 x0 M r M' h
  unfold fX2_takeBack_18 at h
  refine j_istore_n C dX2_takeBack_18 rfl (by decide) (L' := [(2, .int x0), (0, .ref v0), (1, .ref v1)]) rfl ?_
  refine j_aload_n C dX2_takeBack_19 rfl 1 rfl ?_
  refine j_iload_n C dX2_takeBack_20 rfl 0 rfl ?_
  obtain ⟨ho3, h⟩ := ck_spec h
  rcases bndR_spec h with ⟨M4, hq4, h⟩ | ⟨r4, M4, hq4, h⟩
  · refine j_run1 (c_V C (As := [.int x0]) (rest := []) (ctX2_planAt C.2.2.2.2.2.2.2.2.1 N Z hq4) kcRX2_25 oyX2_planAt (ci := 2) (T := TX2) (N := 3) rfl (by decide) ho3 ⟨by decide, by decide⟩ ⟨by decide, by decide⟩ (Nat.le_of_ble_eq_true rfl) rfl dX2_takeBack_21) ?_
    refine j_astore_nN C dX2_takeBack_24 rfl (by decide) (L' := [(3, .null), (2, .int x0), (0, .ref v0), (1, .ref v1)]) rfl ?_
    refine j_aload_nN C dX2_takeBack_25 rfl 0 rfl ?_
    refine j_ifnullN C dX2_takeBack_26 (tgt := 36) (by decide) ?_
    cases h
    exact j_vret C rfl (by decide) (by decide) dX2_takeBack_36
  · refine j_run1 (c_V C (As := [.int x0]) (rest := []) (ctX2_planAt C.2.2.2.2.2.2.2.2.1 N Z hq4) kcRX2_25 oyX2_planAt (ci := 2) (T := TX2) (N := 3) rfl (by decide) ho3 ⟨by decide, by decide⟩ ⟨by decide, by decide⟩ (Nat.le_of_ble_eq_true rfl) rfl dX2_takeBack_21) ?_
    refine j_astore_n C dX2_takeBack_24 rfl (by decide) (L' := [(3, .ref r4), (2, .int x0), (0, .ref v0), (1, .ref v1)]) rfl ?_
    refine j_aload_n C dX2_takeBack_25 rfl 0 rfl ?_
    refine j_ifnull C dX2_takeBack_26 ?_
    refine j_aload_n C dX2_takeBack_29 rfl 2 rfl ?_
    refine j_getI C (cn := RX2) (T := TX2) (N := 3) (ci := 2) rfl iX2 ho3 0 (by decide) rfl fwRX2_9 dX2_takeBack_30 ?_
    refine j_if_ne C dX2_takeBack_33 (tgt := 37) (by decide) (fun hc5 => ?_) (fun hc5 => ?_)
    · rw [if_neg hc5] at h
      refine j_aload_n C dX2_takeBack_37 rfl 3 rfl ?_
      refine j_aload_n C dX2_takeBack_38 rfl 0 rfl ?_
      obtain ⟨ho6, h⟩ := ck_spec h
      obtain ⟨_, M7, hq7, h⟩ := bnd2_spec h
      refine j_run0 (c_V C (As := [.ref r4]) (rest := []) (ctX4_copyFrom C.2.2.2.2.2.2.2.2.1 N Z hq7) kcRX2_29 oyX4_copyFrom (ci := 4) (T := TX4) (N := 7) rfl (by decide) ho6 ⟨by decide, by decide⟩ ⟨by decide, by decide⟩ (Nat.le_of_ble_eq_true rfl) rfl dX2_takeBack_39) ?_
      refine j_aload_n C dX2_takeBack_42 rfl 2 rfl ?_
      refine j_iload_n C dX2_takeBack_43 rfl 1 rfl ?_
      refine j_putI C tyX2 tyX2_ok nmX2 (cn := RX2) (T := TX2) (N := 3) (ci := 2) rfl iX2 ho3 1 (by decide) rfl fwRX2_15 ⟨rfl, rfl⟩ dX2_takeBack_44 ?_
      refine j_aload_n C dX2_takeBack_47 rfl 2 rfl ?_
      refine j_dup C dX2_takeBack_48 rfl ?_
      refine j_getI C (cn := RX2) (T := TX2) (N := 3) (ci := 2) rfl iX2 ho3 0 (by decide) rfl fwRX2_9 dX2_takeBack_49 ?_
      refine j_iconst C dX2_takeBack_52 (v := (1 : Int32)) (by decide) ?_
      refine j_isub C dX2_takeBack_53 ?_
      refine j_putI C tyX2 tyX2_ok nmX2 (cn := RX2) (T := TX2) (N := 3) (ci := 2) rfl iX2 ho3 0 (by decide) rfl fwRX2_9 ⟨rfl, rfl⟩ dX2_takeBack_54 ?_
      cases h
      exact j_vret C rfl (by decide) (by decide) dX2_takeBack_57
    · rw [if_pos hc5] at h
      cases h
      exact j_vret C rfl (by decide) (by decide) dX2_takeBack_36
def fX2_takeBack (N : Nat) (Z : mZ) (a0 : Nat) (a1 : Nat) (M : mM) : Option (Unit × mM) := ck (okO Z a0 2) (if (M.1 a0 1) = 0 then fX2_takeBack_18 N Z a0 a1 (7 : Int32) M else fX2_takeBack_18 N Z a0 a1 ((M.1 a0 1) - (1 : Int32)) M)
set_option maxHeartbeats 4000000 in
set_option maxRecDepth 100000 in
theorem ctX2_takeBack {G : mG} {l : Launch} (hl : l.stackTraces = false) (N : Nat) (Z : mZ) {a0 : Nat} {a1 : Nat} {M : mM} {r : Unit} {M' : mM} (h : fX2_takeBack N Z a0 a1 M = some (r, M')) : CT G l yX2_takeBack (.code yX2_takeBack cX2_takeBack 4 none) rmX2_takeBack [.ref a0, .ref a1] Z M (.inl none) Z M' := by
  unfold fX2_takeBack at h
  refine CT.of hl (by decide) (Nat.le_of_ble_eq_true rfl) ?_
  intro p e s m args below meth c C hnm
  refine j_sub (L' := [(0, .ref a0), (1, .ref a1)]) [0, 1] rfl ?_
  refine j_aload_n C dX2_takeBack_0 rfl 0 rfl ?_
  obtain ⟨ho1, h⟩ := ck_spec h
  refine j_getI C (cn := RX2) (T := TX2) (N := 3) (ci := 2) rfl iX2 ho1 1 (by decide) rfl fwRX2_15 dX2_takeBack_1 ?_
  refine j_if_ne C dX2_takeBack_4 (tgt := 12) (by decide) (fun hc2 => ?_) (fun hc2 => ?_)
  · rw [if_neg hc2] at h
    refine j_aload_n C dX2_takeBack_12 rfl 0 rfl ?_
    refine j_getI C (cn := RX2) (T := TX2) (N := 3) (ci := 2) rfl iX2 ho1 1 (by decide) rfl fwRX2_15 dX2_takeBack_13 ?_
    refine j_iconst C dX2_takeBack_16 (v := (1 : Int32)) (by decide) ?_
    refine j_isub C dX2_takeBack_17 ?_
    refine j_sub (L' := [(0, .ref a0), (1, .ref a1)]) [0, 1] rfl ?_
    exact tX2_takeBack_18 C hnm N Z a0 a1 ((M.1 a0 1) - (1 : Int32)) M _ _ h
  · rw [if_pos hc2] at h
    refine j_bipush C dX2_takeBack_7 (v := (7 : Int32)) (by decide) ?_
    refine j_goto C dX2_takeBack_9 (tgt := 18) (by decide) ?_
    refine j_sub (L' := [(0, .ref a0), (1, .ref a1)]) [0, 1] rfl ?_
    exact tX2_takeBack_18 C hnm N Z a0 a1 (7 : Int32) M _ _ h
-- ScaffoldPlanner$Plan hasPlace
abbrev rmX4_hasPlace : Room := { frames := 0, cells := 0, slots := 0, locals := 0 }
theorem dX4_hasPlace_0 : decode cX4_hasPlace 0 = .ok (.iload_n 1, 1) := by decide +kernel
theorem dX4_hasPlace_1 : decode cX4_hasPlace 1 = .ok (.ifCond .lt 15, 3) := by decide +kernel
theorem dX4_hasPlace_4 : decode cX4_hasPlace 4 = .ok (.iload_n 1, 1) := by decide +kernel
theorem dX4_hasPlace_5 : decode cX4_hasPlace 5 = .ok (.aload_n 0, 1) := by decide +kernel
theorem dX4_hasPlace_6 : decode cX4_hasPlace 6 = .ok (.getfield 9, 3) := by decide +kernel
theorem dX4_hasPlace_9 : decode cX4_hasPlace 9 = .ok (.if_icmp .ge 7, 3) := by decide +kernel
theorem dX4_hasPlace_12 : decode cX4_hasPlace 12 = .ok (.iconst 1, 1) := by decide +kernel
theorem dX4_hasPlace_13 : decode cX4_hasPlace 13 = .ok (.goto 4, 3) := by decide +kernel
theorem dX4_hasPlace_16 : decode cX4_hasPlace 16 = .ok (.iconst 0, 1) := by decide +kernel
theorem dX4_hasPlace_17 : decode cX4_hasPlace 17 = .ok (.ireturn, 1) := by decide +kernel
def fX4_hasPlace (N : Nat) (Z : mZ) (a0 : Nat) (a1 : Int32) (M : mM) : Option (Int32 × mM) := if a1 < 0 then some ((0 : Int32), M) else ck (okO Z a0 4) (if (M.1 a0 0) ≤ a1 then some ((0 : Int32), M) else some ((1 : Int32), M))
set_option maxHeartbeats 4000000 in
set_option maxRecDepth 100000 in
theorem ctX4_hasPlace {G : mG} {l : Launch} (hl : l.stackTraces = false) (N : Nat) (Z : mZ) {a0 : Nat} {a1 : Int32} {M : mM} {r : Int32} {M' : mM} (h : fX4_hasPlace N Z a0 a1 M = some (r, M')) : CT G l yX4_hasPlace (.code yX4_hasPlace cX4_hasPlace 2 (some .boolean)) rmX4_hasPlace [.ref a0, .int a1] Z M (.inl (some (.int r))) Z M' := by
  unfold fX4_hasPlace at h
  refine CT.of hl (by decide) (Nat.le_of_ble_eq_true rfl) ?_
  intro p e s m args below meth c C hnm
  refine j_sub (L' := [(0, .ref a0), (1, .int a1)]) [0, 1] rfl ?_
  refine j_iload_n C dX4_hasPlace_0 rfl 1 rfl ?_
  refine j_if_lt C dX4_hasPlace_1 (tgt := 16) (by decide) (fun hc1 => ?_) (fun hc1 => ?_)
  · rw [if_pos hc1] at h
    refine j_iconst C dX4_hasPlace_16 (v := (0 : Int32)) (by decide) ?_
    cases h
    exact j_zret C rfl (by decide) (by decide) (by decide) dX4_hasPlace_17
  · rw [if_neg hc1] at h
    refine j_iload_n C dX4_hasPlace_4 rfl 1 rfl ?_
    refine j_aload_n C dX4_hasPlace_5 rfl 0 rfl ?_
    obtain ⟨ho2, h⟩ := ck_spec h
    refine j_getI C (cn := RX4) (T := TX4) (N := 7) (ci := 4) rfl iX4 ho2 0 (by decide) rfl fwRX4_9 dX4_hasPlace_6 ?_
    refine j_icmp_ge C dX4_hasPlace_9 (tgt := 16) (by decide) (fun hc3 => ?_) (fun hc3 => ?_)
    · rw [if_pos hc3] at h
      refine j_iconst C dX4_hasPlace_16 (v := (0 : Int32)) (by decide) ?_
      cases h
      exact j_zret C rfl (by decide) (by decide) (by decide) dX4_hasPlace_17
    · rw [if_neg hc3] at h
      refine j_iconst C dX4_hasPlace_12 (v := (1 : Int32)) (by decide) ?_
      refine j_goto C dX4_hasPlace_13 (tgt := 17) (by decide) ?_
      cases h
      exact j_zret C rfl (by decide) (by decide) (by decide) dX4_hasPlace_17
-- ScaffoldPlanner$Plan raiseAllTo
abbrev rmX4_raiseAllTo : Room := { frames := 1, cells := 0, slots := 0, locals := 22 }
theorem dX4_raiseAllTo_0 : decode cX4_raiseAllTo 0 = .ok (.iconst 0, 1) := by decide +kernel
theorem dX4_raiseAllTo_1 : decode cX4_raiseAllTo 1 = .ok (.istore_n 2, 1) := by decide +kernel
theorem dX4_raiseAllTo_2 : decode cX4_raiseAllTo 2 = .ok (.iload_n 2, 1) := by decide +kernel
theorem dX4_raiseAllTo_3 : decode cX4_raiseAllTo 3 = .ok (.aload_n 0, 1) := by decide +kernel
theorem dX4_raiseAllTo_4 : decode cX4_raiseAllTo 4 = .ok (.getfield 9, 3) := by decide +kernel
theorem dX4_raiseAllTo_7 : decode cX4_raiseAllTo 7 = .ok (.if_icmp .ge 29, 3) := by decide +kernel
theorem dX4_raiseAllTo_10 : decode cX4_raiseAllTo 10 = .ok (.aload_n 0, 1) := by decide +kernel
theorem dX4_raiseAllTo_11 : decode cX4_raiseAllTo 11 = .ok (.getfield 18, 3) := by decide +kernel
theorem dX4_raiseAllTo_14 : decode cX4_raiseAllTo 14 = .ok (.iload_n 2, 1) := by decide +kernel
theorem dX4_raiseAllTo_15 : decode cX4_raiseAllTo 15 = .ok (.iload_n 1, 1) := by decide +kernel
theorem dX4_raiseAllTo_16 : decode cX4_raiseAllTo 16 = .ok (.aload_n 0, 1) := by decide +kernel
theorem dX4_raiseAllTo_17 : decode cX4_raiseAllTo 17 = .ok (.getfield 18, 3) := by decide +kernel
theorem dX4_raiseAllTo_20 : decode cX4_raiseAllTo 20 = .ok (.iload_n 2, 1) := by decide +kernel
theorem dX4_raiseAllTo_21 : decode cX4_raiseAllTo 21 = .ok (.invokestatic 41, 3) := by decide +kernel
theorem dX4_raiseAllTo_24 : decode cX4_raiseAllTo 24 = .ok (.invokestatic 53, 3) := by decide +kernel
theorem dX4_raiseAllTo_27 : decode cX4_raiseAllTo 27 = .ok (.invokestatic 86, 3) := by decide +kernel
theorem dX4_raiseAllTo_30 : decode cX4_raiseAllTo 30 = .ok (.iinc 2 1, 3) := by decide +kernel
theorem dX4_raiseAllTo_33 : decode cX4_raiseAllTo 33 = .ok (.goto (-31), 3) := by decide +kernel
theorem dX4_raiseAllTo_36 : decode cX4_raiseAllTo 36 = .ok (.return_, 1) := by decide +kernel
def fX4_raiseAllTo_2 (N : Nat) (Z : mZ) : Nat → Nat → Int32 → Int32 → mM → Option (Unit × mM)
  | 0, _, _, _, _ => none
  | fu + 1, v0, v1, v2, M => ck (okO Z v0 4) (if (M.1 v0 0) ≤ v2 then some ((), M) else bnd1 (Z.2.2.2 v0 2) (fun c3 => bnd2 (fX8_at N Z c3 v2 M) (fun r4 M4 => bnd2 (fX8_write N Z c3 v2 (if v1 < r4 then r4 else v1) M4) (fun _ M5 => fX4_raiseAllTo_2 N Z fu v0 v1 (v2 + (1 : Int32)) M5))))
set_option maxHeartbeats 4000000 in
set_option maxRecDepth 100000 in
theorem tX4_raiseAllTo_2 {G : mG} {p : Program} {l : Launch} {e : Env} {s : State} {m : MethodId} {args : Array Value} {below : List Frame} {meth : Method} {c : Code} (C : Cx G p l s m args meth c RX4 cX4_raiseAllTo 3 none []) (hnm : meth.name = yX4_raiseAllTo.name) (N : Nat) (Z : mZ) : ∀ (fu : Nat) (v0 : Nat) (v1 : Int32) (v2 : Int32) (M : mM) (r : Unit) (M' : mM), fX4_raiseAllTo_2 N Z fu v0 v1 v2 M = some (r, M') → JJ G p l e rmX4_raiseAllTo s m args below meth c 3 (mEnd G below args s rmX4_raiseAllTo (.inl none) Z M') 0 0 2 [(0, .ref v0), (1, .int v1), (2, .int v2)] [] Z M := by
  intro fu
  induction fu with
  | zero =>
    intro v0 v1 v2 M r M' h
    cases h
  | succ fu ih =>
    intro v0 v1 v2 M r M' h
    rw [fX4_raiseAllTo_2] at h
    refine j_iload_n C dX4_raiseAllTo_2 rfl 2 rfl ?_
    refine j_aload_n C dX4_raiseAllTo_3 rfl 0 rfl ?_
    obtain ⟨ho1, h⟩ := ck_spec h
    refine j_getI C (cn := RX4) (T := TX4) (N := 7) (ci := 4) rfl iX4 ho1 0 (by decide) rfl fwRX4_9 dX4_raiseAllTo_4 ?_
    refine j_icmp_ge C dX4_raiseAllTo_7 (tgt := 36) (by decide) (fun hc2 => ?_) (fun hc2 => ?_)
    · rw [if_pos hc2] at h
      cases h
      exact j_vret C rfl (by decide) (by decide) dX4_raiseAllTo_36
    · rw [if_neg hc2] at h
      refine j_aload_n C dX4_raiseAllTo_10 rfl 0 rfl ?_
      obtain ⟨c3, hr3, h⟩ := bnd1_spec h
      refine j_getR C (cn := RX4) (T := TX4) (N := 7) (ci := 4) rfl iX4 ho1 2 (by decide) rfl fwRX4_18 dX4_raiseAllTo_11 hr3 ?_
      refine j_iload_n C dX4_raiseAllTo_14 rfl 2 rfl ?_
      refine j_iload_n C dX4_raiseAllTo_15 rfl 1 rfl ?_
      refine j_aload_n C dX4_raiseAllTo_16 rfl 0 rfl ?_
      refine j_getR C (cn := RX4) (T := TX4) (N := 7) (ci := 4) rfl iX4 ho1 2 (by decide) rfl fwRX4_18 dX4_raiseAllTo_17 hr3 ?_
      refine j_iload_n C dX4_raiseAllTo_20 rfl 2 rfl ?_
      obtain ⟨r4, M4, hq4, h⟩ := bnd2_spec h
      refine j_run1 (c_SN C (As := [.ref c3, .int v2]) (rest := [.int v1, .int v2, .ref c3]) (ctX8_at C.2.2.2.2.2.2.2.2.1 N Z hq4) kcRX4_41 oyX8_at ⟨by decide, by decide⟩ ⟨by decide, by decide⟩ (Nat.le_of_ble_eq_true rfl) rfl dX4_raiseAllTo_21) ?_
      refine j_mmax C mmRX4_53 (by decide) (Nat.le_of_ble_eq_true rfl) (by decide) (by decide) dX4_raiseAllTo_24 ?_
      obtain ⟨_, M5, hq5, h⟩ := bnd2_spec h
      refine j_run0 (c_SN C (As := [.ref c3, .int v2, .int (if v1 < r4 then r4 else v1)]) (rest := []) (ctX8_write C.2.2.2.2.2.2.2.2.1 N Z hq5) kcRX4_86 oyX8_write ⟨by decide, by decide⟩ ⟨by decide, by decide⟩ (Nat.le_of_ble_eq_true rfl) rfl dX4_raiseAllTo_27) ?_
      refine j_iinc C dX4_raiseAllTo_30 2 rfl (v := (v2 + (1 : Int32))) (by first | rfl | decide) (by decide) (L' := [(2, .int (v2 + (1 : Int32))), (0, .ref v0), (1, .int v1)]) rfl ?_
      refine j_goto C dX4_raiseAllTo_33 (tgt := 2) (by decide) ?_
      refine j_sub (L' := [(0, .ref v0), (1, .int v1), (2, .int (v2 + (1 : Int32)))]) [1, 2, 0] rfl ?_
      exact ih v0 v1 (v2 + (1 : Int32)) M5 r M' h
def fX4_raiseAllTo (N : Nat) (Z : mZ) (a0 : Nat) (a1 : Int32) (M : mM) : Option (Unit × mM) := fX4_raiseAllTo_2 N Z N a0 a1 (0 : Int32) M
set_option maxHeartbeats 4000000 in
set_option maxRecDepth 100000 in
theorem ctX4_raiseAllTo {G : mG} {l : Launch} (hl : l.stackTraces = false) (N : Nat) (Z : mZ) {a0 : Nat} {a1 : Int32} {M : mM} {r : Unit} {M' : mM} (h : fX4_raiseAllTo N Z a0 a1 M = some (r, M')) : CT G l yX4_raiseAllTo (.code yX4_raiseAllTo cX4_raiseAllTo 3 none) rmX4_raiseAllTo [.ref a0, .int a1] Z M (.inl none) Z M' := by
  unfold fX4_raiseAllTo at h
  refine CT.of hl (by decide) (Nat.le_of_ble_eq_true rfl) ?_
  intro p e s m args below meth c C hnm
  refine j_sub (L' := [(0, .ref a0), (1, .int a1)]) [0, 1] rfl ?_
  refine j_iconst C dX4_raiseAllTo_0 (v := (0 : Int32)) (by decide) ?_
  refine j_istore_n C dX4_raiseAllTo_1 rfl (by decide) (L' := [(2, .int (0 : Int32)), (0, .ref a0), (1, .int a1)]) rfl ?_
  refine j_sub (L' := [(0, .ref a0), (1, .int a1), (2, .int (0 : Int32))]) [1, 2, 0] rfl ?_
  exact tX4_raiseAllTo_2 C hnm N Z N a0 a1 (0 : Int32) M _ _ h
-- ScaffoldPlanner$Plan sumOfClasses
abbrev rmX4_sumOfClasses : Room := { frames := 0, cells := 0, slots := 0, locals := 0 }
theorem dX4_sumOfClasses_0 : decode cX4_sumOfClasses 0 = .ok (.iconst 0, 1) := by decide +kernel
theorem dX4_sumOfClasses_1 : decode cX4_sumOfClasses 1 = .ok (.istore_n 1, 1) := by decide +kernel
theorem dX4_sumOfClasses_2 : decode cX4_sumOfClasses 2 = .ok (.iconst 0, 1) := by decide +kernel
theorem dX4_sumOfClasses_3 : decode cX4_sumOfClasses 3 = .ok (.istore_n 2, 1) := by decide +kernel
theorem dX4_sumOfClasses_4 : decode cX4_sumOfClasses 4 = .ok (.iload_n 2, 1) := by decide +kernel
theorem dX4_sumOfClasses_5 : decode cX4_sumOfClasses 5 = .ok (.aload_n 0, 1) := by decide +kernel
theorem dX4_sumOfClasses_6 : decode cX4_sumOfClasses 6 = .ok (.getfield 25, 3) := by decide +kernel
theorem dX4_sumOfClasses_9 : decode cX4_sumOfClasses 9 = .ok (.arraylength, 1) := by decide +kernel
theorem dX4_sumOfClasses_10 : decode cX4_sumOfClasses 10 = .ok (.if_icmp .ge 18, 3) := by decide +kernel
theorem dX4_sumOfClasses_13 : decode cX4_sumOfClasses 13 = .ok (.iload_n 1, 1) := by decide +kernel
theorem dX4_sumOfClasses_14 : decode cX4_sumOfClasses 14 = .ok (.aload_n 0, 1) := by decide +kernel
theorem dX4_sumOfClasses_15 : decode cX4_sumOfClasses 15 = .ok (.getfield 25, 3) := by decide +kernel
theorem dX4_sumOfClasses_18 : decode cX4_sumOfClasses 18 = .ok (.iload_n 2, 1) := by decide +kernel
theorem dX4_sumOfClasses_19 : decode cX4_sumOfClasses 19 = .ok (.iaload, 1) := by decide +kernel
theorem dX4_sumOfClasses_20 : decode cX4_sumOfClasses 20 = .ok (.iadd, 1) := by decide +kernel
theorem dX4_sumOfClasses_21 : decode cX4_sumOfClasses 21 = .ok (.istore_n 1, 1) := by decide +kernel
theorem dX4_sumOfClasses_22 : decode cX4_sumOfClasses 22 = .ok (.iinc 2 1, 3) := by decide +kernel
theorem dX4_sumOfClasses_25 : decode cX4_sumOfClasses 25 = .ok (.goto (-21), 3) := by decide +kernel
theorem dX4_sumOfClasses_28 : decode cX4_sumOfClasses 28 = .ok (.iload_n 1, 1) := by decide +kernel
theorem dX4_sumOfClasses_29 : decode cX4_sumOfClasses 29 = .ok (.ireturn, 1) := by decide +kernel
def fX4_sumOfClasses_4 (N : Nat) (Z : mZ) : Nat → Nat → Int32 → Int32 → mM → Option (Int32 × mM)
  | 0, _, _, _, _ => none
  | fu + 1, v0, v1, v2, M => ck (okO Z v0 4) (bnd1 (Z.2.2.2 v0 4) (fun c2 => ck (okI Z c2) (if (Int32.ofNat (Z.2.2.1 c2)) ≤ v2 then some (v1, M) else ck (inB v2 (Z.2.2.1 c2)) (fX4_sumOfClasses_4 N Z fu v0 (v1 + (M.1 c2 (v2).toNatClampNeg)) (v2 + (1 : Int32)) M))))
set_option maxHeartbeats 4000000 in
set_option maxRecDepth 100000 in
theorem tX4_sumOfClasses_4 {G : mG} {p : Program} {l : Launch} {e : Env} {s : State} {m : MethodId} {args : Array Value} {below : List Frame} {meth : Method} {c : Code} (C : Cx G p l s m args meth c RX4 cX4_sumOfClasses 3 (some .int) []) (hnm : meth.name = yX4_sumOfClasses.name) (N : Nat) (Z : mZ) : ∀ (fu : Nat) (v0 : Nat) (v1 : Int32) (v2 : Int32) (M : mM) (r : Int32) (M' : mM), fX4_sumOfClasses_4 N Z fu v0 v1 v2 M = some (r, M') → JJ G p l e rmX4_sumOfClasses s m args below meth c 3 (mEnd G below args s rmX4_sumOfClasses (.inl (some (.int r))) Z M') 0 0 4 [(0, .ref v0), (1, .int v1), (2, .int v2)] [] Z M := by
  intro fu
  induction fu with
  | zero =>
    intro v0 v1 v2 M r M' h
    cases h
  | succ fu ih =>
    intro v0 v1 v2 M r M' h
    rw [fX4_sumOfClasses_4] at h
    refine j_iload_n C dX4_sumOfClasses_4 rfl 2 rfl ?_
    refine j_aload_n C dX4_sumOfClasses_5 rfl 0 rfl ?_
    obtain ⟨ho1, h⟩ := ck_spec h
    obtain ⟨c2, hr2, h⟩ := bnd1_spec h
    refine j_getR C (cn := RX4) (T := TX4) (N := 7) (ci := 4) rfl iX4 ho1 4 (by decide) rfl fwRX4_25 dX4_sumOfClasses_6 hr2 ?_
    obtain ⟨ho3, h⟩ := ck_spec h
    refine j_alen C ho3 dX4_sumOfClasses_9 ?_
    refine j_icmp_ge C dX4_sumOfClasses_10 (tgt := 28) (by decide) (fun hc4 => ?_) (fun hc4 => ?_)
    · rw [if_pos hc4] at h
      refine j_iload_n C dX4_sumOfClasses_28 rfl 1 rfl ?_
      cases h
      exact j_iret C rfl (by decide) (by decide) dX4_sumOfClasses_29
    · rw [if_neg hc4] at h
      refine j_iload_n C dX4_sumOfClasses_13 rfl 1 rfl ?_
      refine j_aload_n C dX4_sumOfClasses_14 rfl 0 rfl ?_
      refine j_getR C (cn := RX4) (T := TX4) (N := 7) (ci := 4) rfl iX4 ho1 4 (by decide) rfl fwRX4_25 dX4_sumOfClasses_15 hr2 ?_
      refine j_iload_n C dX4_sumOfClasses_18 rfl 2 rfl ?_
      obtain ⟨ho5, h⟩ := ck_spec h
      refine j_iald C ho3 ho5 dX4_sumOfClasses_19 ?_
      refine j_iadd C dX4_sumOfClasses_20 ?_
      refine j_istore_n C dX4_sumOfClasses_21 rfl (by decide) (L' := [(1, .int (v1 + (M.1 c2 (v2).toNatClampNeg))), (0, .ref v0), (2, .int v2)]) rfl ?_
      refine j_iinc C dX4_sumOfClasses_22 2 rfl (v := (v2 + (1 : Int32))) (by first | rfl | decide) (by decide) (L' := [(2, .int (v2 + (1 : Int32))), (1, .int (v1 + (M.1 c2 (v2).toNatClampNeg))), (0, .ref v0)]) rfl ?_
      refine j_goto C dX4_sumOfClasses_25 (tgt := 4) (by decide) ?_
      refine j_sub (L' := [(0, .ref v0), (1, .int (v1 + (M.1 c2 (v2).toNatClampNeg))), (2, .int (v2 + (1 : Int32)))]) [2, 1, 0] rfl ?_
      exact ih v0 (v1 + (M.1 c2 (v2).toNatClampNeg)) (v2 + (1 : Int32)) M r M' h
def fX4_sumOfClasses (N : Nat) (Z : mZ) (a0 : Nat) (M : mM) : Option (Int32 × mM) := fX4_sumOfClasses_4 N Z N a0 (0 : Int32) (0 : Int32) M
set_option maxHeartbeats 4000000 in
set_option maxRecDepth 100000 in
theorem ctX4_sumOfClasses {G : mG} {l : Launch} (hl : l.stackTraces = false) (N : Nat) (Z : mZ) {a0 : Nat} {M : mM} {r : Int32} {M' : mM} (h : fX4_sumOfClasses N Z a0 M = some (r, M')) : CT G l yX4_sumOfClasses (.code yX4_sumOfClasses cX4_sumOfClasses 3 (some .int)) rmX4_sumOfClasses [.ref a0] Z M (.inl (some (.int r))) Z M' := by
  unfold fX4_sumOfClasses at h
  refine CT.of hl (by decide) (Nat.le_of_ble_eq_true rfl) ?_
  intro p e s m args below meth c C hnm
  refine j_sub (L' := [(0, .ref a0)]) [0] rfl ?_
  refine j_iconst C dX4_sumOfClasses_0 (v := (0 : Int32)) (by decide) ?_
  refine j_istore_n C dX4_sumOfClasses_1 rfl (by decide) (L' := [(1, .int (0 : Int32)), (0, .ref a0)]) rfl ?_
  refine j_iconst C dX4_sumOfClasses_2 (v := (0 : Int32)) (by decide) ?_
  refine j_istore_n C dX4_sumOfClasses_3 rfl (by decide) (L' := [(2, .int (0 : Int32)), (1, .int (0 : Int32)), (0, .ref a0)]) rfl ?_
  refine j_sub (L' := [(0, .ref a0), (1, .int (0 : Int32)), (2, .int (0 : Int32))]) [2, 1, 0] rfl ?_
  exact tX4_sumOfClasses_4 C hnm N Z N a0 (0 : Int32) (0 : Int32) M _ _ h
-- ScaffoldPlanner$Plan neededTies
abbrev rmX4_neededTies : Room := { frames := 2, cells := 0, slots := 0, locals := 47 }
theorem dX4_neededTies_0 : decode cX4_neededTies 0 = .ok (.aload_n 0, 1) := by decide +kernel
theorem dX4_neededTies_1 : decode cX4_neededTies 1 = .ok (.iconst 4, 1) := by decide +kernel
theorem dX4_neededTies_2 : decode cX4_neededTies 2 = .ok (.iload_n 1, 1) := by decide +kernel
theorem dX4_neededTies_3 : decode cX4_neededTies 3 = .ok (.invokevirtual 45, 3) := by decide +kernel
theorem dX4_neededTies_6 : decode cX4_neededTies 6 = .ok (.istore_n 2, 1) := by decide +kernel
theorem dX4_neededTies_7 : decode cX4_neededTies 7 = .ok (.aload_n 0, 1) := by decide +kernel
theorem dX4_neededTies_8 : decode cX4_neededTies 8 = .ok (.iload_n 1, 1) := by decide +kernel
theorem dX4_neededTies_9 : decode cX4_neededTies 9 = .ok (.invokevirtual 66, 3) := by decide +kernel
theorem dX4_neededTies_12 : decode cX4_neededTies 12 = .ok (.istore_n 3, 1) := by decide +kernel
theorem dX4_neededTies_13 : decode cX4_neededTies 13 = .ok (.iconst 0, 1) := by decide +kernel
theorem dX4_neededTies_14 : decode cX4_neededTies 14 = .ok (.istore 4, 2) := by decide +kernel
theorem dX4_neededTies_16 : decode cX4_neededTies 16 = .ok (.iconst 1, 1) := by decide +kernel
theorem dX4_neededTies_17 : decode cX4_neededTies 17 = .ok (.istore 5, 2) := by decide +kernel
theorem dX4_neededTies_19 : decode cX4_neededTies 19 = .ok (.iload 5, 2) := by decide +kernel
theorem dX4_neededTies_21 : decode cX4_neededTies 21 = .ok (.iload_n 3, 1) := by decide +kernel
theorem dX4_neededTies_22 : decode cX4_neededTies 22 = .ok (.if_icmp .gt 41, 3) := by decide +kernel
theorem dX4_neededTies_25 : decode cX4_neededTies 25 = .ok (.iconst 1, 1) := by decide +kernel
theorem dX4_neededTies_26 : decode cX4_neededTies 26 = .ok (.iload 5, 2) := by decide +kernel
theorem dX4_neededTies_28 : decode cX4_neededTies 28 = .ok (.ishl, 1) := by decide +kernel
theorem dX4_neededTies_29 : decode cX4_neededTies 29 = .ok (.istore 6, 2) := by decide +kernel
theorem dX4_neededTies_31 : decode cX4_neededTies 31 = .ok (.iload_n 2, 1) := by decide +kernel
theorem dX4_neededTies_32 : decode cX4_neededTies 32 = .ok (.iload 6, 2) := by decide +kernel
theorem dX4_neededTies_34 : decode cX4_neededTies 34 = .ok (.iand, 1) := by decide +kernel
theorem dX4_neededTies_35 : decode cX4_neededTies 35 = .ok (.ifCond .eq 22, 3) := by decide +kernel
theorem dX4_neededTies_38 : decode cX4_neededTies 38 = .ok (.aload_n 0, 1) := by decide +kernel
theorem dX4_neededTies_39 : decode cX4_neededTies 39 = .ok (.iload_n 2, 1) := by decide +kernel
theorem dX4_neededTies_40 : decode cX4_neededTies 40 = .ok (.iload 6, 2) := by decide +kernel
theorem dX4_neededTies_42 : decode cX4_neededTies 42 = .ok (.ixor, 1) := by decide +kernel
theorem dX4_neededTies_43 : decode cX4_neededTies 43 = .ok (.iload_n 3, 1) := by decide +kernel
theorem dX4_neededTies_44 : decode cX4_neededTies 44 = .ok (.invokevirtual 106, 3) := by decide +kernel
theorem dX4_neededTies_47 : decode cX4_neededTies 47 = .ok (.ifCond .ne 10, 3) := by decide +kernel
theorem dX4_neededTies_50 : decode cX4_neededTies 50 = .ok (.iload 4, 2) := by decide +kernel
theorem dX4_neededTies_52 : decode cX4_neededTies 52 = .ok (.iload 6, 2) := by decide +kernel
theorem dX4_neededTies_54 : decode cX4_neededTies 54 = .ok (.ior, 1) := by decide +kernel
theorem dX4_neededTies_55 : decode cX4_neededTies 55 = .ok (.istore 4, 2) := by decide +kernel
theorem dX4_neededTies_57 : decode cX4_neededTies 57 = .ok (.iinc 5 1, 3) := by decide +kernel
theorem dX4_neededTies_60 : decode cX4_neededTies 60 = .ok (.goto (-41), 3) := by decide +kernel
theorem dX4_neededTies_63 : decode cX4_neededTies 63 = .ok (.iload 4, 2) := by decide +kernel
theorem dX4_neededTies_65 : decode cX4_neededTies 65 = .ok (.ireturn, 1) := by decide +kernel
def fX4_neededTies_19 (N : Nat) (Z : mZ) : Nat → Nat → Int32 → Int32 → Int32 → Int32 → mM → Option (Int32 × mM)
  | 0, _, _, _, _, _, _ => none
  | fu + 1, v0, v2, v3, v4, v5, M => if v3 < v5 then some (v4, M) else if (v2 &&& ((1 : Int32) <<< (v5 &&& 31))) = 0 then fX4_neededTies_19 N Z fu v0 v2 v3 v4 (v5 + (1 : Int32)) M else ck (okO Z v0 4) (bnd2 (fX4_isHeldBy N Z v0 (v2 ^^^ ((1 : Int32) <<< (v5 &&& 31))) v3 M) (fun r7 M7 => if r7 = 0 then fX4_neededTies_19 N Z fu v0 v2 v3 (v4 ||| ((1 : Int32) <<< (v5 &&& 31))) (v5 + (1 : Int32)) M7 else fX4_neededTies_19 N Z fu v0 v2 v3 v4 (v5 + (1 : Int32)) M7))
set_option maxHeartbeats 4000000 in
set_option maxRecDepth 100000 in
theorem tX4_neededTies_19 {G : mG} {p : Program} {l : Launch} {e : Env} {s : State} {m : MethodId} {args : Array Value} {below : List Frame} {meth : Method} {c : Code} (C : Cx G p l s m args meth c RX4 cX4_neededTies 7 (some .int) []) (hnm : meth.name = yX4_neededTies.name) (N : Nat) (Z : mZ) : ∀ (fu : Nat) (v0 : Nat) (v2 : Int32) (v3 : Int32) (v4 : Int32) (v5 : Int32) (M : mM) (r : Int32) (M' : mM), fX4_neededTies_19 N Z fu v0 v2 v3 v4 v5 M = some (r, M') → JJ G p l e rmX4_neededTies s m args below meth c 7 (mEnd G below args s rmX4_neededTies (.inl (some (.int r))) Z M') 0 0 19 [(0, .ref v0), (2, .int v2), (3, .int v3), (4, .int v4), (5, .int v5)] [] Z M := by
  intro fu
  induction fu with
  | zero =>
    intro v0 v2 v3 v4 v5 M r M' h
    cases h
  | succ fu ih =>
    intro v0 v2 v3 v4 v5 M r M' h
    rw [fX4_neededTies_19] at h
    refine j_iload C dX4_neededTies_19 4 rfl ?_
    refine j_iload_n C dX4_neededTies_21 rfl 2 rfl ?_
    refine j_icmp_gt C dX4_neededTies_22 (tgt := 63) (by decide) (fun hc4 => ?_) (fun hc4 => ?_)
    · rw [if_pos hc4] at h
      refine j_iload C dX4_neededTies_63 3 rfl ?_
      cases h
      exact j_iret C rfl (by decide) (by decide) dX4_neededTies_65
    · rw [if_neg hc4] at h
      refine j_iconst C dX4_neededTies_25 (v := (1 : Int32)) (by decide) ?_
      refine j_iload C dX4_neededTies_26 4 rfl ?_
      refine j_ishl C dX4_neededTies_28 ?_
      refine j_istore C dX4_neededTies_29 (by decide) (L' := [(6, .int ((1 : Int32) <<< (v5 &&& 31))), (0, .ref v0), (2, .int v2), (3, .int v3), (4, .int v4), (5, .int v5)]) rfl ?_
      refine j_iload_n C dX4_neededTies_31 rfl 2 rfl ?_
      refine j_iload C dX4_neededTies_32 0 rfl ?_
      refine j_iand C dX4_neededTies_34 ?_
      refine j_if_eq C dX4_neededTies_35 (tgt := 57) (by decide) (fun hc5 => ?_) (fun hc5 => ?_)
      · rw [if_pos hc5] at h
        refine j_iinc C dX4_neededTies_57 5 rfl (v := (v5 + (1 : Int32))) (by first | rfl | decide) (by decide) (L' := [(5, .int (v5 + (1 : Int32))), (6, .int ((1 : Int32) <<< (v5 &&& 31))), (0, .ref v0), (2, .int v2), (3, .int v3), (4, .int v4)]) rfl ?_
        refine j_goto C dX4_neededTies_60 (tgt := 19) (by decide) ?_
        refine j_sub (L' := [(0, .ref v0), (2, .int v2), (3, .int v3), (4, .int v4), (5, .int (v5 + (1 : Int32)))]) [2, 3, 4, 5, 0] rfl ?_
        exact ih v0 v2 v3 v4 (v5 + (1 : Int32)) M r M' h
      · rw [if_neg hc5] at h
        refine j_aload_n C dX4_neededTies_38 rfl 1 rfl ?_
        refine j_iload_n C dX4_neededTies_39 rfl 2 rfl ?_
        refine j_iload C dX4_neededTies_40 0 rfl ?_
        refine j_ixor C dX4_neededTies_42 ?_
        refine j_iload_n C dX4_neededTies_43 rfl 3 rfl ?_
        obtain ⟨ho6, h⟩ := ck_spec h
        obtain ⟨r7, M7, hq7, h⟩ := bnd2_spec h
        refine j_run1 (c_V C (As := [.int (v2 ^^^ ((1 : Int32) <<< (v5 &&& 31))), .int v3]) (rest := []) (ctX4_isHeldBy C.2.2.2.2.2.2.2.2.1 N Z hq7) kcRX4_106 oyX4_isHeldBy (ci := 4) (T := TX4) (N := 7) rfl (by decide) ho6 ⟨by decide, by decide⟩ ⟨by decide, by decide⟩ (Nat.le_of_ble_eq_true rfl) rfl dX4_neededTies_44) ?_
        refine j_if_ne C dX4_neededTies_47 (tgt := 57) (by decide) (fun hc8 => ?_) (fun hc8 => ?_)
        · rw [if_neg hc8] at h
          refine j_iinc C dX4_neededTies_57 5 rfl (v := (v5 + (1 : Int32))) (by first | rfl | decide) (by decide) (L' := [(5, .int (v5 + (1 : Int32))), (6, .int ((1 : Int32) <<< (v5 &&& 31))), (0, .ref v0), (2, .int v2), (3, .int v3), (4, .int v4)]) rfl ?_
          refine j_goto C dX4_neededTies_60 (tgt := 19) (by decide) ?_
          refine j_sub (L' := [(0, .ref v0), (2, .int v2), (3, .int v3), (4, .int v4), (5, .int (v5 + (1 : Int32)))]) [2, 3, 4, 5, 0] rfl ?_
          exact ih v0 v2 v3 v4 (v5 + (1 : Int32)) M7 r M' h
        · rw [if_pos hc8] at h
          refine j_iload C dX4_neededTies_50 4 rfl ?_
          refine j_iload C dX4_neededTies_52 0 rfl ?_
          refine j_ior C dX4_neededTies_54 ?_
          refine j_istore C dX4_neededTies_55 (by decide) (L' := [(4, .int (v4 ||| ((1 : Int32) <<< (v5 &&& 31)))), (6, .int ((1 : Int32) <<< (v5 &&& 31))), (0, .ref v0), (2, .int v2), (3, .int v3), (5, .int v5)]) rfl ?_
          refine j_iinc C dX4_neededTies_57 5 rfl (v := (v5 + (1 : Int32))) (by first | rfl | decide) (by decide) (L' := [(5, .int (v5 + (1 : Int32))), (4, .int (v4 ||| ((1 : Int32) <<< (v5 &&& 31)))), (6, .int ((1 : Int32) <<< (v5 &&& 31))), (0, .ref v0), (2, .int v2), (3, .int v3)]) rfl ?_
          refine j_goto C dX4_neededTies_60 (tgt := 19) (by decide) ?_
          refine j_sub (L' := [(0, .ref v0), (2, .int v2), (3, .int v3), (4, .int (v4 ||| ((1 : Int32) <<< (v5 &&& 31)))), (5, .int (v5 + (1 : Int32)))]) [3, 4, 5, 1, 0] rfl ?_
          exact ih v0 v2 v3 (v4 ||| ((1 : Int32) <<< (v5 &&& 31))) (v5 + (1 : Int32)) M7 r M' h
def fX4_neededTies (N : Nat) (Z : mZ) (a0 : Nat) (a1 : Int32) (M : mM) : Option (Int32 × mM) := ck (okO Z a0 4) (bnd2 (fX4_levelsWith N Z a0 (4 : Int32) a1 M) (fun r2 M2 => bnd2 (fX4_postHeight N Z a0 a1 M2) (fun r3 M3 => fX4_neededTies_19 N Z N a0 r2 r3 (0 : Int32) (1 : Int32) M3)))
set_option maxHeartbeats 4000000 in
set_option maxRecDepth 100000 in
theorem ctX4_neededTies {G : mG} {l : Launch} (hl : l.stackTraces = false) (N : Nat) (Z : mZ) {a0 : Nat} {a1 : Int32} {M : mM} {r : Int32} {M' : mM} (h : fX4_neededTies N Z a0 a1 M = some (r, M')) : CT G l yX4_neededTies (.code yX4_neededTies cX4_neededTies 7 (some .int)) rmX4_neededTies [.ref a0, .int a1] Z M (.inl (some (.int r))) Z M' := by
  unfold fX4_neededTies at h
  refine CT.of hl (by decide) (Nat.le_of_ble_eq_true rfl) ?_
  intro p e s m args below meth c C hnm
  refine j_sub (L' := [(0, .ref a0), (1, .int a1)]) [0, 1] rfl ?_
  refine j_aload_n C dX4_neededTies_0 rfl 0 rfl ?_
  refine j_iconst C dX4_neededTies_1 (v := (4 : Int32)) (by decide) ?_
  refine j_iload_n C dX4_neededTies_2 rfl 1 rfl ?_
  obtain ⟨ho1, h⟩ := ck_spec h
  obtain ⟨r2, M2, hq2, h⟩ := bnd2_spec h
  refine j_run1 (c_V C (As := [.int (4 : Int32), .int a1]) (rest := []) (ctX4_levelsWith C.2.2.2.2.2.2.2.2.1 N Z hq2) kcRX4_45 oyX4_levelsWith (ci := 4) (T := TX4) (N := 7) rfl (by decide) ho1 ⟨by decide, by decide⟩ ⟨by decide, by decide⟩ (Nat.le_of_ble_eq_true rfl) rfl dX4_neededTies_3) ?_
  refine j_istore_n C dX4_neededTies_6 rfl (by decide) (L' := [(2, .int r2), (0, .ref a0), (1, .int a1)]) rfl ?_
  refine j_aload_n C dX4_neededTies_7 rfl 1 rfl ?_
  refine j_iload_n C dX4_neededTies_8 rfl 2 rfl ?_
  obtain ⟨r3, M3, hq3, h⟩ := bnd2_spec h
  refine j_run1 (c_V C (As := [.int a1]) (rest := []) (ctX4_postHeight C.2.2.2.2.2.2.2.2.1 N Z hq3) kcRX4_66 oyX4_postHeight (ci := 4) (T := TX4) (N := 7) rfl (by decide) ho1 ⟨by decide, by decide⟩ ⟨by decide, by decide⟩ (Nat.le_of_ble_eq_true rfl) rfl dX4_neededTies_9) ?_
  refine j_istore_n C dX4_neededTies_12 rfl (by decide) (L' := [(3, .int r3), (2, .int r2), (0, .ref a0), (1, .int a1)]) rfl ?_
  refine j_iconst C dX4_neededTies_13 (v := (0 : Int32)) (by decide) ?_
  refine j_istore C dX4_neededTies_14 (by decide) (L' := [(4, .int (0 : Int32)), (3, .int r3), (2, .int r2), (0, .ref a0), (1, .int a1)]) rfl ?_
  refine j_iconst C dX4_neededTies_16 (v := (1 : Int32)) (by decide) ?_
  refine j_istore C dX4_neededTies_17 (by decide) (L' := [(5, .int (1 : Int32)), (4, .int (0 : Int32)), (3, .int r3), (2, .int r2), (0, .ref a0), (1, .int a1)]) rfl ?_
  refine j_sub (L' := [(0, .ref a0), (2, .int r2), (3, .int r3), (4, .int (0 : Int32)), (5, .int (1 : Int32))]) [4, 3, 2, 1, 0] rfl ?_
  exact tX4_neededTies_19 C hnm N Z N a0 r2 r3 (0 : Int32) (1 : Int32) M3 _ _ h
-- ScaffoldPlanner$Plan tiesForOneLevelMore
abbrev rmX4_tiesForOneLevelMore : Room := { frames := 2, cells := 0, slots := 0, locals := 47 }
theorem dX4_tiesForOneLevelMore_0 : decode cX4_tiesForOneLevelMore 0 = .ok (.aload_n 0, 1) := by decide +kernel
theorem dX4_tiesForOneLevelMore_1 : decode cX4_tiesForOneLevelMore 1 = .ok (.iconst 4, 1) := by decide +kernel
theorem dX4_tiesForOneLevelMore_2 : decode cX4_tiesForOneLevelMore 2 = .ok (.iload_n 1, 1) := by decide +kernel
theorem dX4_tiesForOneLevelMore_3 : decode cX4_tiesForOneLevelMore 3 = .ok (.invokevirtual 45, 3) := by decide +kernel
theorem dX4_tiesForOneLevelMore_6 : decode cX4_tiesForOneLevelMore 6 = .ok (.istore_n 2, 1) := by decide +kernel
theorem dX4_tiesForOneLevelMore_7 : decode cX4_tiesForOneLevelMore 7 = .ok (.aload_n 0, 1) := by decide +kernel
theorem dX4_tiesForOneLevelMore_8 : decode cX4_tiesForOneLevelMore 8 = .ok (.iload_n 1, 1) := by decide +kernel
theorem dX4_tiesForOneLevelMore_9 : decode cX4_tiesForOneLevelMore 9 = .ok (.invokevirtual 66, 3) := by decide +kernel
theorem dX4_tiesForOneLevelMore_12 : decode cX4_tiesForOneLevelMore 12 = .ok (.istore_n 3, 1) := by decide +kernel
theorem dX4_tiesForOneLevelMore_13 : decode cX4_tiesForOneLevelMore 13 = .ok (.iconst 0, 1) := by decide +kernel
theorem dX4_tiesForOneLevelMore_14 : decode cX4_tiesForOneLevelMore 14 = .ok (.istore 4, 2) := by decide +kernel
theorem dX4_tiesForOneLevelMore_16 : decode cX4_tiesForOneLevelMore 16 = .ok (.iconst 1, 1) := by decide +kernel
theorem dX4_tiesForOneLevelMore_17 : decode cX4_tiesForOneLevelMore 17 = .ok (.istore 5, 2) := by decide +kernel
theorem dX4_tiesForOneLevelMore_19 : decode cX4_tiesForOneLevelMore 19 = .ok (.iload 5, 2) := by decide +kernel
theorem dX4_tiesForOneLevelMore_21 : decode cX4_tiesForOneLevelMore 21 = .ok (.iload_n 3, 1) := by decide +kernel
theorem dX4_tiesForOneLevelMore_22 : decode cX4_tiesForOneLevelMore 22 = .ok (.if_icmp .gt 43, 3) := by decide +kernel
theorem dX4_tiesForOneLevelMore_25 : decode cX4_tiesForOneLevelMore 25 = .ok (.iconst 1, 1) := by decide +kernel
theorem dX4_tiesForOneLevelMore_26 : decode cX4_tiesForOneLevelMore 26 = .ok (.iload 5, 2) := by decide +kernel
theorem dX4_tiesForOneLevelMore_28 : decode cX4_tiesForOneLevelMore 28 = .ok (.ishl, 1) := by decide +kernel
theorem dX4_tiesForOneLevelMore_29 : decode cX4_tiesForOneLevelMore 29 = .ok (.istore 6, 2) := by decide +kernel
theorem dX4_tiesForOneLevelMore_31 : decode cX4_tiesForOneLevelMore 31 = .ok (.iload_n 2, 1) := by decide +kernel
theorem dX4_tiesForOneLevelMore_32 : decode cX4_tiesForOneLevelMore 32 = .ok (.iload 6, 2) := by decide +kernel
theorem dX4_tiesForOneLevelMore_34 : decode cX4_tiesForOneLevelMore 34 = .ok (.iand, 1) := by decide +kernel
theorem dX4_tiesForOneLevelMore_35 : decode cX4_tiesForOneLevelMore 35 = .ok (.ifCond .ne 24, 3) := by decide +kernel
theorem dX4_tiesForOneLevelMore_38 : decode cX4_tiesForOneLevelMore 38 = .ok (.aload_n 0, 1) := by decide +kernel
theorem dX4_tiesForOneLevelMore_39 : decode cX4_tiesForOneLevelMore 39 = .ok (.iload_n 2, 1) := by decide +kernel
theorem dX4_tiesForOneLevelMore_40 : decode cX4_tiesForOneLevelMore 40 = .ok (.iload 6, 2) := by decide +kernel
theorem dX4_tiesForOneLevelMore_42 : decode cX4_tiesForOneLevelMore 42 = .ok (.ior, 1) := by decide +kernel
theorem dX4_tiesForOneLevelMore_43 : decode cX4_tiesForOneLevelMore 43 = .ok (.iload_n 3, 1) := by decide +kernel
theorem dX4_tiesForOneLevelMore_44 : decode cX4_tiesForOneLevelMore 44 = .ok (.iconst 1, 1) := by decide +kernel
theorem dX4_tiesForOneLevelMore_45 : decode cX4_tiesForOneLevelMore 45 = .ok (.iadd, 1) := by decide +kernel
theorem dX4_tiesForOneLevelMore_46 : decode cX4_tiesForOneLevelMore 46 = .ok (.invokevirtual 106, 3) := by decide +kernel
theorem dX4_tiesForOneLevelMore_49 : decode cX4_tiesForOneLevelMore 49 = .ok (.ifCond .eq 10, 3) := by decide +kernel
theorem dX4_tiesForOneLevelMore_52 : decode cX4_tiesForOneLevelMore 52 = .ok (.iload 4, 2) := by decide +kernel
theorem dX4_tiesForOneLevelMore_54 : decode cX4_tiesForOneLevelMore 54 = .ok (.iload 6, 2) := by decide +kernel
theorem dX4_tiesForOneLevelMore_56 : decode cX4_tiesForOneLevelMore 56 = .ok (.ior, 1) := by decide +kernel
theorem dX4_tiesForOneLevelMore_57 : decode cX4_tiesForOneLevelMore 57 = .ok (.istore 4, 2) := by decide +kernel
theorem dX4_tiesForOneLevelMore_59 : decode cX4_tiesForOneLevelMore 59 = .ok (.iinc 5 1, 3) := by decide +kernel
theorem dX4_tiesForOneLevelMore_62 : decode cX4_tiesForOneLevelMore 62 = .ok (.goto (-43), 3) := by decide +kernel
theorem dX4_tiesForOneLevelMore_65 : decode cX4_tiesForOneLevelMore 65 = .ok (.iload 4, 2) := by decide +kernel
theorem dX4_tiesForOneLevelMore_67 : decode cX4_tiesForOneLevelMore 67 = .ok (.ireturn, 1) := by decide +kernel
def fX4_tiesForOneLevelMore_19 (N : Nat) (Z : mZ) : Nat → Nat → Int32 → Int32 → Int32 → Int32 → mM → Option (Int32 × mM)
  | 0, _, _, _, _, _, _ => none
  | fu + 1, v0, v2, v3, v4, v5, M => if v3 < v5 then some (v4, M) else if (v2 &&& ((1 : Int32) <<< (v5 &&& 31))) = 0 then ck (okO Z v0 4) (bnd2 (fX4_isHeldBy N Z v0 (v2 ||| ((1 : Int32) <<< (v5 &&& 31))) (v3 + (1 : Int32)) M) (fun r7 M7 => if r7 = 0 then fX4_tiesForOneLevelMore_19 N Z fu v0 v2 v3 v4 (v5 + (1 : Int32)) M7 else fX4_tiesForOneLevelMore_19 N Z fu v0 v2 v3 (v4 ||| ((1 : Int32) <<< (v5 &&& 31))) (v5 + (1 : Int32)) M7)) else fX4_tiesForOneLevelMore_19 N Z fu v0 v2 v3 v4 (v5 + (1 : Int32)) M
set_option maxHeartbeats 4000000 in
set_option maxRecDepth 100000 in
theorem tX4_tiesForOneLevelMore_19 {G : mG} {p : Program} {l : Launch} {e : Env} {s : State} {m : MethodId} {args : Array Value} {below : List Frame} {meth : Method} {c : Code} (C : Cx G p l s m args meth c RX4 cX4_tiesForOneLevelMore 7 (some .int) []) (hnm : meth.name = yX4_tiesForOneLevelMore.name) (N : Nat) (Z : mZ) : ∀ (fu : Nat) (v0 : Nat) (v2 : Int32) (v3 : Int32) (v4 : Int32) (v5 : Int32) (M : mM) (r : Int32) (M' : mM), fX4_tiesForOneLevelMore_19 N Z fu v0 v2 v3 v4 v5 M = some (r, M') → JJ G p l e rmX4_tiesForOneLevelMore s m args below meth c 7 (mEnd G below args s rmX4_tiesForOneLevelMore (.inl (some (.int r))) Z M') 0 0 19 [(0, .ref v0), (2, .int v2), (3, .int v3), (4, .int v4), (5, .int v5)] [] Z M := by
  intro fu
  induction fu with
  | zero =>
    intro v0 v2 v3 v4 v5 M r M' h
    cases h
  | succ fu ih =>
    intro v0 v2 v3 v4 v5 M r M' h
    rw [fX4_tiesForOneLevelMore_19] at h
    refine j_iload C dX4_tiesForOneLevelMore_19 4 rfl ?_
    refine j_iload_n C dX4_tiesForOneLevelMore_21 rfl 2 rfl ?_
    refine j_icmp_gt C dX4_tiesForOneLevelMore_22 (tgt := 65) (by decide) (fun hc4 => ?_) (fun hc4 => ?_)
    · rw [if_pos hc4] at h
      refine j_iload C dX4_tiesForOneLevelMore_65 3 rfl ?_
      cases h
      exact j_iret C rfl (by decide) (by decide) dX4_tiesForOneLevelMore_67
    · rw [if_neg hc4] at h
      refine j_iconst C dX4_tiesForOneLevelMore_25 (v := (1 : Int32)) (by decide) ?_
      refine j_iload C dX4_tiesForOneLevelMore_26 4 rfl ?_
      refine j_ishl C dX4_tiesForOneLevelMore_28 ?_
      refine j_istore C dX4_tiesForOneLevelMore_29 (by decide) (L' := [(6, .int ((1 : Int32) <<< (v5 &&& 31))), (0, .ref v0), (2, .int v2), (3, .int v3), (4, .int v4), (5, .int v5)]) rfl ?_
      refine j_iload_n C dX4_tiesForOneLevelMore_31 rfl 2 rfl ?_
      refine j_iload C dX4_tiesForOneLevelMore_32 0 rfl ?_
      refine j_iand C dX4_tiesForOneLevelMore_34 ?_
      refine j_if_ne C dX4_tiesForOneLevelMore_35 (tgt := 59) (by decide) (fun hc5 => ?_) (fun hc5 => ?_)
      · rw [if_neg hc5] at h
        refine j_iinc C dX4_tiesForOneLevelMore_59 5 rfl (v := (v5 + (1 : Int32))) (by first | rfl | decide) (by decide) (L' := [(5, .int (v5 + (1 : Int32))), (6, .int ((1 : Int32) <<< (v5 &&& 31))), (0, .ref v0), (2, .int v2), (3, .int v3), (4, .int v4)]) rfl ?_
        refine j_goto C dX4_tiesForOneLevelMore_62 (tgt := 19) (by decide) ?_
        refine j_sub (L' := [(0, .ref v0), (2, .int v2), (3, .int v3), (4, .int v4), (5, .int (v5 + (1 : Int32)))]) [2, 3, 4, 5, 0] rfl ?_
        exact ih v0 v2 v3 v4 (v5 + (1 : Int32)) M r M' h
      · rw [if_pos hc5] at h
        refine j_aload_n C dX4_tiesForOneLevelMore_38 rfl 1 rfl ?_
        refine j_iload_n C dX4_tiesForOneLevelMore_39 rfl 2 rfl ?_
        refine j_iload C dX4_tiesForOneLevelMore_40 0 rfl ?_
        refine j_ior C dX4_tiesForOneLevelMore_42 ?_
        refine j_iload_n C dX4_tiesForOneLevelMore_43 rfl 3 rfl ?_
        refine j_iconst C dX4_tiesForOneLevelMore_44 (v := (1 : Int32)) (by decide) ?_
        refine j_iadd C dX4_tiesForOneLevelMore_45 ?_
        obtain ⟨ho6, h⟩ := ck_spec h
        obtain ⟨r7, M7, hq7, h⟩ := bnd2_spec h
        refine j_run1 (c_V C (As := [.int (v2 ||| ((1 : Int32) <<< (v5 &&& 31))), .int (v3 + (1 : Int32))]) (rest := []) (ctX4_isHeldBy C.2.2.2.2.2.2.2.2.1 N Z hq7) kcRX4_106 oyX4_isHeldBy (ci := 4) (T := TX4) (N := 7) rfl (by decide) ho6 ⟨by decide, by decide⟩ ⟨by decide, by decide⟩ (Nat.le_of_ble_eq_true rfl) rfl dX4_tiesForOneLevelMore_46) ?_
        refine j_if_eq C dX4_tiesForOneLevelMore_49 (tgt := 59) (by decide) (fun hc8 => ?_) (fun hc8 => ?_)
        · rw [if_pos hc8] at h
          refine j_iinc C dX4_tiesForOneLevelMore_59 5 rfl (v := (v5 + (1 : Int32))) (by first | rfl | decide) (by decide) (L' := [(5, .int (v5 + (1 : Int32))), (6, .int ((1 : Int32) <<< (v5 &&& 31))), (0, .ref v0), (2, .int v2), (3, .int v3), (4, .int v4)]) rfl ?_
          refine j_goto C dX4_tiesForOneLevelMore_62 (tgt := 19) (by decide) ?_
          refine j_sub (L' := [(0, .ref v0), (2, .int v2), (3, .int v3), (4, .int v4), (5, .int (v5 + (1 : Int32)))]) [2, 3, 4, 5, 0] rfl ?_
          exact ih v0 v2 v3 v4 (v5 + (1 : Int32)) M7 r M' h
        · rw [if_neg hc8] at h
          refine j_iload C dX4_tiesForOneLevelMore_52 4 rfl ?_
          refine j_iload C dX4_tiesForOneLevelMore_54 0 rfl ?_
          refine j_ior C dX4_tiesForOneLevelMore_56 ?_
          refine j_istore C dX4_tiesForOneLevelMore_57 (by decide) (L' := [(4, .int (v4 ||| ((1 : Int32) <<< (v5 &&& 31)))), (6, .int ((1 : Int32) <<< (v5 &&& 31))), (0, .ref v0), (2, .int v2), (3, .int v3), (5, .int v5)]) rfl ?_
          refine j_iinc C dX4_tiesForOneLevelMore_59 5 rfl (v := (v5 + (1 : Int32))) (by first | rfl | decide) (by decide) (L' := [(5, .int (v5 + (1 : Int32))), (4, .int (v4 ||| ((1 : Int32) <<< (v5 &&& 31)))), (6, .int ((1 : Int32) <<< (v5 &&& 31))), (0, .ref v0), (2, .int v2), (3, .int v3)]) rfl ?_
          refine j_goto C dX4_tiesForOneLevelMore_62 (tgt := 19) (by decide) ?_
          refine j_sub (L' := [(0, .ref v0), (2, .int v2), (3, .int v3), (4, .int (v4 ||| ((1 : Int32) <<< (v5 &&& 31)))), (5, .int (v5 + (1 : Int32)))]) [3, 4, 5, 1, 0] rfl ?_
          exact ih v0 v2 v3 (v4 ||| ((1 : Int32) <<< (v5 &&& 31))) (v5 + (1 : Int32)) M7 r M' h
def fX4_tiesForOneLevelMore (N : Nat) (Z : mZ) (a0 : Nat) (a1 : Int32) (M : mM) : Option (Int32 × mM) := ck (okO Z a0 4) (bnd2 (fX4_levelsWith N Z a0 (4 : Int32) a1 M) (fun r2 M2 => bnd2 (fX4_postHeight N Z a0 a1 M2) (fun r3 M3 => fX4_tiesForOneLevelMore_19 N Z N a0 r2 r3 (0 : Int32) (1 : Int32) M3)))
set_option maxHeartbeats 4000000 in
set_option maxRecDepth 100000 in
theorem ctX4_tiesForOneLevelMore {G : mG} {l : Launch} (hl : l.stackTraces = false) (N : Nat) (Z : mZ) {a0 : Nat} {a1 : Int32} {M : mM} {r : Int32} {M' : mM} (h : fX4_tiesForOneLevelMore N Z a0 a1 M = some (r, M')) : CT G l yX4_tiesForOneLevelMore (.code yX4_tiesForOneLevelMore cX4_tiesForOneLevelMore 7 (some .int)) rmX4_tiesForOneLevelMore [.ref a0, .int a1] Z M (.inl (some (.int r))) Z M' := by
  unfold fX4_tiesForOneLevelMore at h
  refine CT.of hl (by decide) (Nat.le_of_ble_eq_true rfl) ?_
  intro p e s m args below meth c C hnm
  refine j_sub (L' := [(0, .ref a0), (1, .int a1)]) [0, 1] rfl ?_
  refine j_aload_n C dX4_tiesForOneLevelMore_0 rfl 0 rfl ?_
  refine j_iconst C dX4_tiesForOneLevelMore_1 (v := (4 : Int32)) (by decide) ?_
  refine j_iload_n C dX4_tiesForOneLevelMore_2 rfl 1 rfl ?_
  obtain ⟨ho1, h⟩ := ck_spec h
  obtain ⟨r2, M2, hq2, h⟩ := bnd2_spec h
  refine j_run1 (c_V C (As := [.int (4 : Int32), .int a1]) (rest := []) (ctX4_levelsWith C.2.2.2.2.2.2.2.2.1 N Z hq2) kcRX4_45 oyX4_levelsWith (ci := 4) (T := TX4) (N := 7) rfl (by decide) ho1 ⟨by decide, by decide⟩ ⟨by decide, by decide⟩ (Nat.le_of_ble_eq_true rfl) rfl dX4_tiesForOneLevelMore_3) ?_
  refine j_istore_n C dX4_tiesForOneLevelMore_6 rfl (by decide) (L' := [(2, .int r2), (0, .ref a0), (1, .int a1)]) rfl ?_
  refine j_aload_n C dX4_tiesForOneLevelMore_7 rfl 1 rfl ?_
  refine j_iload_n C dX4_tiesForOneLevelMore_8 rfl 2 rfl ?_
  obtain ⟨r3, M3, hq3, h⟩ := bnd2_spec h
  refine j_run1 (c_V C (As := [.int a1]) (rest := []) (ctX4_postHeight C.2.2.2.2.2.2.2.2.1 N Z hq3) kcRX4_66 oyX4_postHeight (ci := 4) (T := TX4) (N := 7) rfl (by decide) ho1 ⟨by decide, by decide⟩ ⟨by decide, by decide⟩ (Nat.le_of_ble_eq_true rfl) rfl dX4_tiesForOneLevelMore_9) ?_
  refine j_istore_n C dX4_tiesForOneLevelMore_12 rfl (by decide) (L' := [(3, .int r3), (2, .int r2), (0, .ref a0), (1, .int a1)]) rfl ?_
  refine j_iconst C dX4_tiesForOneLevelMore_13 (v := (0 : Int32)) (by decide) ?_
  refine j_istore C dX4_tiesForOneLevelMore_14 (by decide) (L' := [(4, .int (0 : Int32)), (3, .int r3), (2, .int r2), (0, .ref a0), (1, .int a1)]) rfl ?_
  refine j_iconst C dX4_tiesForOneLevelMore_16 (v := (1 : Int32)) (by decide) ?_
  refine j_istore C dX4_tiesForOneLevelMore_17 (by decide) (L' := [(5, .int (1 : Int32)), (4, .int (0 : Int32)), (3, .int r3), (2, .int r2), (0, .ref a0), (1, .int a1)]) rfl ?_
  refine j_sub (L' := [(0, .ref a0), (2, .int r2), (3, .int r3), (4, .int (0 : Int32)), (5, .int (1 : Int32))]) [4, 3, 2, 1, 0] rfl ?_
  exact tX4_tiesForOneLevelMore_19 C hnm N Z N a0 r2 r3 (0 : Int32) (1 : Int32) M3 _ _ h
-- ScaffoldPlanner$Plan isStable
theorem kcRX4_116 : okV RX4 116 yX4_lowestUnheldPost (.code yX4_lowestUnheldPost cX4_lowestUnheldPost 2 (some .int)) = true := by decide +kernel
theorem kcRX4_120 : okV RX4 120 yX4_lowestUnbracedBay (.code yX4_lowestUnbracedBay cX4_lowestUnbracedBay 3 (some .int)) = true := by decide +kernel
theorem kcRX4_123 : okV RX4 123 yX4_lowestOverloadedPost (.code yX4_lowestOverloadedPost cX4_lowestOverloadedPost 3 (some .int)) = true := by decide +kernel
abbrev rmX4_isStable : Room := { frames := 4, cells := 0, slots := 0, locals := 89 }
theorem dX4_isStable_0 : decode cX4_isStable 0 = .ok (.aload_n 0, 1) := by decide +kernel
theorem dX4_isStable_1 : decode cX4_isStable 1 = .ok (.invokevirtual 116, 3) := by decide +kernel
theorem dX4_isStable_4 : decode cX4_isStable 4 = .ok (.iconst (-1), 1) := by decide +kernel
theorem dX4_isStable_5 : decode cX4_isStable 5 = .ok (.if_icmp .ne 23, 3) := by decide +kernel
theorem dX4_isStable_8 : decode cX4_isStable 8 = .ok (.aload_n 0, 1) := by decide +kernel
theorem dX4_isStable_9 : decode cX4_isStable 9 = .ok (.invokevirtual 120, 3) := by decide +kernel
theorem dX4_isStable_12 : decode cX4_isStable 12 = .ok (.iconst (-1), 1) := by decide +kernel
theorem dX4_isStable_13 : decode cX4_isStable 13 = .ok (.if_icmp .ne 15, 3) := by decide +kernel
theorem dX4_isStable_16 : decode cX4_isStable 16 = .ok (.aload_n 0, 1) := by decide +kernel
theorem dX4_isStable_17 : decode cX4_isStable 17 = .ok (.invokevirtual 123, 3) := by decide +kernel
theorem dX4_isStable_20 : decode cX4_isStable 20 = .ok (.iconst (-1), 1) := by decide +kernel
theorem dX4_isStable_21 : decode cX4_isStable 21 = .ok (.if_icmp .ne 7, 3) := by decide +kernel
theorem dX4_isStable_24 : decode cX4_isStable 24 = .ok (.iconst 1, 1) := by decide +kernel
theorem dX4_isStable_25 : decode cX4_isStable 25 = .ok (.goto 4, 3) := by decide +kernel
theorem dX4_isStable_28 : decode cX4_isStable 28 = .ok (.iconst 0, 1) := by decide +kernel
theorem dX4_isStable_29 : decode cX4_isStable 29 = .ok (.ireturn, 1) := by decide +kernel
def fX4_isStable (N : Nat) (Z : mZ) (a0 : Nat) (M : mM) : Option (Int32 × mM) := ck (okO Z a0 4) (bnd2 (fX4_lowestUnheldPost N Z a0 M) (fun r2 M2 => if r2 = (-1 : Int32) then bnd2 (fX4_lowestUnbracedBay N Z a0 M2) (fun r4 M4 => if r4 = (-1 : Int32) then bnd2 (fX4_lowestOverloadedPost N Z a0 M4) (fun r6 M6 => if r6 = (-1 : Int32) then some ((1 : Int32), M6) else some ((0 : Int32), M6)) else some ((0 : Int32), M4)) else some ((0 : Int32), M2)))
set_option maxHeartbeats 4000000 in
set_option maxRecDepth 100000 in
theorem ctX4_isStable {G : mG} {l : Launch} (hl : l.stackTraces = false) (N : Nat) (Z : mZ) {a0 : Nat} {M : mM} {r : Int32} {M' : mM} (h : fX4_isStable N Z a0 M = some (r, M')) : CT G l yX4_isStable (.code yX4_isStable cX4_isStable 1 (some .boolean)) rmX4_isStable [.ref a0] Z M (.inl (some (.int r))) Z M' := by
  unfold fX4_isStable at h
  refine CT.of hl (by decide) (Nat.le_of_ble_eq_true rfl) ?_
  intro p e s m args below meth c C hnm
  refine j_sub (L' := [(0, .ref a0)]) [0] rfl ?_
  refine j_aload_n C dX4_isStable_0 rfl 0 rfl ?_
  obtain ⟨ho1, h⟩ := ck_spec h
  obtain ⟨r2, M2, hq2, h⟩ := bnd2_spec h
  refine j_run1 (c_V C (As := []) (rest := []) (ctX4_lowestUnheldPost C.2.2.2.2.2.2.2.2.1 N Z hq2) kcRX4_116 oyX4_lowestUnheldPost (ci := 4) (T := TX4) (N := 7) rfl (by decide) ho1 ⟨by decide, by decide⟩ ⟨by decide, by decide⟩ (Nat.le_of_ble_eq_true rfl) rfl dX4_isStable_1) ?_
  refine j_iconst C dX4_isStable_4 (v := (-1 : Int32)) (by decide) ?_
  refine j_icmp_ne C dX4_isStable_5 (tgt := 28) (by decide) (fun hc3 => ?_) (fun hc3 => ?_)
  · rw [if_neg hc3] at h
    refine j_iconst C dX4_isStable_28 (v := (0 : Int32)) (by decide) ?_
    cases h
    exact j_zret C rfl (by decide) (by decide) (by decide) dX4_isStable_29
  · rw [if_pos hc3] at h
    refine j_aload_n C dX4_isStable_8 rfl 0 rfl ?_
    obtain ⟨r4, M4, hq4, h⟩ := bnd2_spec h
    refine j_run1 (c_V C (As := []) (rest := []) (ctX4_lowestUnbracedBay C.2.2.2.2.2.2.2.2.1 N Z hq4) kcRX4_120 oyX4_lowestUnbracedBay (ci := 4) (T := TX4) (N := 7) rfl (by decide) ho1 ⟨by decide, by decide⟩ ⟨by decide, by decide⟩ (Nat.le_of_ble_eq_true rfl) rfl dX4_isStable_9) ?_
    refine j_iconst C dX4_isStable_12 (v := (-1 : Int32)) (by decide) ?_
    refine j_icmp_ne C dX4_isStable_13 (tgt := 28) (by decide) (fun hc5 => ?_) (fun hc5 => ?_)
    · rw [if_neg hc5] at h
      refine j_iconst C dX4_isStable_28 (v := (0 : Int32)) (by decide) ?_
      cases h
      exact j_zret C rfl (by decide) (by decide) (by decide) dX4_isStable_29
    · rw [if_pos hc5] at h
      refine j_aload_n C dX4_isStable_16 rfl 0 rfl ?_
      obtain ⟨r6, M6, hq6, h⟩ := bnd2_spec h
      refine j_run1 (c_V C (As := []) (rest := []) (ctX4_lowestOverloadedPost C.2.2.2.2.2.2.2.2.1 N Z hq6) kcRX4_123 oyX4_lowestOverloadedPost (ci := 4) (T := TX4) (N := 7) rfl (by decide) ho1 ⟨by decide, by decide⟩ ⟨by decide, by decide⟩ (Nat.le_of_ble_eq_true rfl) rfl dX4_isStable_17) ?_
      refine j_iconst C dX4_isStable_20 (v := (-1 : Int32)) (by decide) ?_
      refine j_icmp_ne C dX4_isStable_21 (tgt := 28) (by decide) (fun hc7 => ?_) (fun hc7 => ?_)
      · rw [if_neg hc7] at h
        refine j_iconst C dX4_isStable_28 (v := (0 : Int32)) (by decide) ?_
        cases h
        exact j_zret C rfl (by decide) (by decide) (by decide) dX4_isStable_29
      · rw [if_pos hc7] at h
        refine j_iconst C dX4_isStable_24 (v := (1 : Int32)) (by decide) ?_
        refine j_goto C dX4_isStable_25 (tgt := 29) (by decide) ?_
        cases h
        exact j_zret C rfl (by decide) (by decide) (by decide) dX4_isStable_29
-- ScaffoldPlanner$Report <init>
theorem ojRX5_1 : Cond.methodLink RX5 1 Lib.objectInit ∈ gw ∧ Cond.instanceMethod Lib.objectInit ∈ gw ∧ Cond.code Lib.objectInit ⟨#[0xb1]⟩ 1 none ∈ gw := ⟨by decide +kernel, by decide +kernel, by decide +kernel⟩
theorem fwRX5_7 : Cond.fieldLink RX5 7 RX5 (TX5 0).2.1 (TX5 0).2.2.1 ∈ gw := by decide +kernel
theorem fwRX5_13 : Cond.fieldLink RX5 13 RX5 (TX5 1).2.1 (TX5 1).2.2.1 ∈ gw := by decide +kernel
theorem fwRX5_17 : Cond.fieldLink RX5 17 RX5 (TX5 2).2.1 (TX5 2).2.2.1 ∈ gw := by decide +kernel
abbrev rmX5_init : Room := { frames := 1, cells := 2, slots := 6, locals := 20 }
theorem dX5_init_0 : decode cX5_init 0 = .ok (.aload_n 0, 1) := by decide +kernel
theorem dX5_init_1 : decode cX5_init 1 = .ok (.invokespecial 1, 3) := by decide +kernel
theorem dX5_init_4 : decode cX5_init 4 = .ok (.aload_n 0, 1) := by decide +kernel
theorem dX5_init_5 : decode cX5_init 5 = .ok (.iconst 0, 1) := by decide +kernel
theorem dX5_init_6 : decode cX5_init 6 = .ok (.putfield 7, 3) := by decide +kernel
theorem dX5_init_9 : decode cX5_init 9 = .ok (.aload_n 0, 1) := by decide +kernel
theorem dX5_init_10 : decode cX5_init 10 = .ok (.iconst 3, 1) := by decide +kernel
theorem dX5_init_11 : decode cX5_init 11 = .ok (.newarray .int, 2) := by decide +kernel
theorem dX5_init_13 : decode cX5_init 13 = .ok (.putfield 13, 3) := by decide +kernel
theorem dX5_init_16 : decode cX5_init 16 = .ok (.aload_n 0, 1) := by decide +kernel
theorem dX5_init_17 : decode cX5_init 17 = .ok (.iconst 3, 1) := by decide +kernel
theorem dX5_init_18 : decode cX5_init 18 = .ok (.newarray .int, 2) := by decide +kernel
theorem dX5_init_20 : decode cX5_init 20 = .ok (.putfield 17, 3) := by decide +kernel
theorem dX5_init_23 : decode cX5_init 23 = .ok (.return_, 1) := by decide +kernel
def fX5_init (N : Nat) (Z : mZ) (a0 : Nat) (M : mM) : Option (Unit × (mZ × mM)) := ck (okO Z a0 5) (nameZ Z (sI M a0 0 (0 : Int32)) (fun Z2 M2 => ck (decide (M2.2.2.2 = 0)) (nameZ (zNew Z2 20 3) (mNew M2 (Z2.1)) (fun Z4 M4 => ck (okO Z4 a0 5) (nameZ (sR Z4 a0 1 (Z2.1)) M4 (fun Z6 M6 => ck (decide (M6.2.2.2 = 0)) (nameZ (zNew Z6 20 3) (mNew M6 (Z6.1)) (fun Z8 M8 => ck (okO Z8 a0 5) (nameZ (sR Z8 a0 2 (Z6.1)) M8 (fun Z10 M10 => some ((), (Z10, M10))))))))))))
set_option maxHeartbeats 4000000 in
set_option maxRecDepth 100000 in
theorem ctX5_init {G : mG} {l : Launch} (hl : l.stackTraces = false) (N : Nat) (Z : mZ) {a0 : Nat} {M : mM} {r : Unit} {ZM' : (mZ × mM)} (h : fX5_init N Z a0 M = some (r, ZM')) : CT G l yX5_init (.code yX5_init cX5_init 1 none) rmX5_init [.ref a0] Z M (.inl none) ZM'.1 ZM'.2 := by
  unfold fX5_init at h
  refine CT.of hl (by decide) (Nat.le_of_ble_eq_true rfl) ?_
  intro p e s m args below meth c C hnm
  refine j_sub (L' := [(0, .ref a0)]) [0] rfl ?_
  refine j_aload_n C dX5_init_0 rfl 0 rfl ?_
  refine j_objInit C ojRX5_1 (by decide) (Nat.le_of_ble_eq_true rfl) dX5_init_1 ?_
  refine j_aload_n C dX5_init_4 rfl 0 rfl ?_
  refine j_iconst C dX5_init_5 (v := (0 : Int32)) (by decide) ?_
  obtain ⟨ho1, h⟩ := ck_spec h
  refine j_putI C tyX5 tyX5_ok nmX5 (cn := RX5) (T := TX5) (N := 3) (ci := 5) rfl iX5 ho1 0 (by decide) rfl fwRX5_7 ⟨rfl, rfl⟩ dX5_init_6 ?_
  obtain ⟨Z2, M2, eZ2, eM2, h⟩ := nameZ_spec h
  refine j_nm eZ2 eM2 ?_
  refine j_aload_n C dX5_init_9 rfl 0 rfl ?_
  refine j_iconst C dX5_init_10 (v := (3 : Int32)) (by decide) ?_
  obtain ⟨ho3, h⟩ := ck_spec h
  refine j_newa C (ln := 3) (t := 20) (Or.inl ⟨rfl, rfl⟩) aw_20 (by decide) (by decide) (by decide) (of_decide_eq_true ho3) ⟨by decide, by decide⟩ dX5_init_11 ?_
  obtain ⟨Z4, M4, eZ4, eM4, h⟩ := nameZ_spec h
  refine j_nm eZ4 eM4 ?_
  obtain ⟨ho5, h⟩ := ck_spec h
  refine j_putR C hnm tyX5 tyX5_ok nmX5 (T := TX5) (N := 3) (ci := 5) rfl iX5 ho5 1 (by decide) rfl fwRX5_13 (fun _ => ⟨rfl, rfl⟩) dX5_init_13 ?_
  obtain ⟨Z6, M6, eZ6, eM6, h⟩ := nameZ_spec h
  refine j_nm eZ6 eM6 ?_
  refine j_aload_n C dX5_init_16 rfl 0 rfl ?_
  refine j_iconst C dX5_init_17 (v := (3 : Int32)) (by decide) ?_
  obtain ⟨ho7, h⟩ := ck_spec h
  refine j_newa C (ln := 3) (t := 20) (Or.inl ⟨rfl, rfl⟩) aw_20 (by decide) (by decide) (by decide) (of_decide_eq_true ho7) ⟨by decide, by decide⟩ dX5_init_18 ?_
  obtain ⟨Z8, M8, eZ8, eM8, h⟩ := nameZ_spec h
  refine j_nm eZ8 eM8 ?_
  obtain ⟨ho9, h⟩ := ck_spec h
  refine j_putR C hnm tyX5 tyX5_ok nmX5 (T := TX5) (N := 3) (ci := 5) rfl iX5 ho9 2 (by decide) rfl fwRX5_17 (fun _ => ⟨rfl, rfl⟩) dX5_init_20 ?_
  obtain ⟨Z10, M10, eZ10, eM10, h⟩ := nameZ_spec h
  refine j_nm eZ10 eM10 ?_
  cases h
  exact j_vret C rfl (by decide) (by decide) dX5_init_23
-- ScaffoldPlanner$Report clear
abbrev rmX5_clear : Room := { frames := 0, cells := 0, slots := 0, locals := 0 }
theorem dX5_clear_0 : decode cX5_clear 0 = .ok (.aload_n 0, 1) := by decide +kernel
theorem dX5_clear_1 : decode cX5_clear 1 = .ok (.iconst 0, 1) := by decide +kernel
theorem dX5_clear_2 : decode cX5_clear 2 = .ok (.putfield 7, 3) := by decide +kernel
theorem dX5_clear_5 : decode cX5_clear 5 = .ok (.return_, 1) := by decide +kernel
def fX5_clear (N : Nat) (Z : mZ) (a0 : Nat) (M : mM) : Option (Unit × mM) := ck (okO Z a0 5) (some ((), (sI M a0 0 (0 : Int32))))
set_option maxHeartbeats 4000000 in
set_option maxRecDepth 100000 in
theorem ctX5_clear {G : mG} {l : Launch} (hl : l.stackTraces = false) (N : Nat) (Z : mZ) {a0 : Nat} {M : mM} {r : Unit} {M' : mM} (h : fX5_clear N Z a0 M = some (r, M')) : CT G l yX5_clear (.code yX5_clear cX5_clear 1 none) rmX5_clear [.ref a0] Z M (.inl none) Z M' := by
  unfold fX5_clear at h
  refine CT.of hl (by decide) (Nat.le_of_ble_eq_true rfl) ?_
  intro p e s m args below meth c C hnm
  refine j_sub (L' := [(0, .ref a0)]) [0] rfl ?_
  refine j_aload_n C dX5_clear_0 rfl 0 rfl ?_
  refine j_iconst C dX5_clear_1 (v := (0 : Int32)) (by decide) ?_
  obtain ⟨ho1, h⟩ := ck_spec h
  refine j_putI C tyX5 tyX5_ok nmX5 (cn := RX5) (T := TX5) (N := 3) (ci := 5) rfl iX5 ho1 0 (by decide) rfl fwRX5_7 ⟨rfl, rfl⟩ dX5_clear_2 ?_
  cases h
  exact j_vret C rfl (by decide) (by decide) dX5_clear_5
-- ScaffoldPlanner$Report add
theorem kcRX5_20 : okSN RX5 20 yX8_write "ScaffoldPlanner" (.code yX8_write cX8_write 3 none) = true := by decide +kernel
abbrev rmX5_add : Room := { frames := 1, cells := 0, slots := 0, locals := 22 }
theorem dX5_add_0 : decode cX5_add 0 = .ok (.aload_n 0, 1) := by decide +kernel
theorem dX5_add_1 : decode cX5_add 1 = .ok (.getfield 13, 3) := by decide +kernel
theorem dX5_add_4 : decode cX5_add 4 = .ok (.aload_n 0, 1) := by decide +kernel
theorem dX5_add_5 : decode cX5_add 5 = .ok (.getfield 7, 3) := by decide +kernel
theorem dX5_add_8 : decode cX5_add 8 = .ok (.iload_n 1, 1) := by decide +kernel
theorem dX5_add_9 : decode cX5_add 9 = .ok (.invokestatic 20, 3) := by decide +kernel
theorem dX5_add_12 : decode cX5_add 12 = .ok (.aload_n 0, 1) := by decide +kernel
theorem dX5_add_13 : decode cX5_add 13 = .ok (.getfield 17, 3) := by decide +kernel
theorem dX5_add_16 : decode cX5_add 16 = .ok (.aload_n 0, 1) := by decide +kernel
theorem dX5_add_17 : decode cX5_add 17 = .ok (.getfield 7, 3) := by decide +kernel
theorem dX5_add_20 : decode cX5_add 20 = .ok (.iload_n 2, 1) := by decide +kernel
theorem dX5_add_21 : decode cX5_add 21 = .ok (.invokestatic 20, 3) := by decide +kernel
theorem dX5_add_24 : decode cX5_add 24 = .ok (.aload_n 0, 1) := by decide +kernel
theorem dX5_add_25 : decode cX5_add 25 = .ok (.dup, 1) := by decide +kernel
theorem dX5_add_26 : decode cX5_add 26 = .ok (.getfield 7, 3) := by decide +kernel
theorem dX5_add_29 : decode cX5_add 29 = .ok (.iconst 1, 1) := by decide +kernel
theorem dX5_add_30 : decode cX5_add 30 = .ok (.iadd, 1) := by decide +kernel
theorem dX5_add_31 : decode cX5_add 31 = .ok (.putfield 7, 3) := by decide +kernel
theorem dX5_add_34 : decode cX5_add 34 = .ok (.return_, 1) := by decide +kernel
def fX5_add (N : Nat) (Z : mZ) (a0 : Nat) (a1 : Int32) (a2 : Int32) (M : mM) : Option (Unit × mM) := ck (okO Z a0 5) (bnd1 (Z.2.2.2 a0 1) (fun c2 => bnd2 (fX8_write N Z c2 (M.1 a0 0) a1 M) (fun _ M3 => bnd1 (Z.2.2.2 a0 2) (fun c4 => bnd2 (fX8_write N Z c4 (M3.1 a0 0) a2 M3) (fun _ M5 => some ((), (sI M5 a0 0 ((M5.1 a0 0) + (1 : Int32)))))))))
set_option maxHeartbeats 4000000 in
set_option maxRecDepth 100000 in
theorem ctX5_add {G : mG} {l : Launch} (hl : l.stackTraces = false) (N : Nat) (Z : mZ) {a0 : Nat} {a1 : Int32} {a2 : Int32} {M : mM} {r : Unit} {M' : mM} (h : fX5_add N Z a0 a1 a2 M = some (r, M')) : CT G l yX5_add (.code yX5_add cX5_add 3 none) rmX5_add [.ref a0, .int a1, .int a2] Z M (.inl none) Z M' := by
  unfold fX5_add at h
  refine CT.of hl (by decide) (Nat.le_of_ble_eq_true rfl) ?_
  intro p e s m args below meth c C hnm
  refine j_sub (L' := [(0, .ref a0), (1, .int a1), (2, .int a2)]) [0, 1, 2] rfl ?_
  refine j_aload_n C dX5_add_0 rfl 0 rfl ?_
  obtain ⟨ho1, h⟩ := ck_spec h
  obtain ⟨c2, hr2, h⟩ := bnd1_spec h
  refine j_getR C (cn := RX5) (T := TX5) (N := 3) (ci := 5) rfl iX5 ho1 1 (by decide) rfl fwRX5_13 dX5_add_1 hr2 ?_
  refine j_aload_n C dX5_add_4 rfl 0 rfl ?_
  refine j_getI C (cn := RX5) (T := TX5) (N := 3) (ci := 5) rfl iX5 ho1 0 (by decide) rfl fwRX5_7 dX5_add_5 ?_
  refine j_iload_n C dX5_add_8 rfl 1 rfl ?_
  obtain ⟨_, M3, hq3, h⟩ := bnd2_spec h
  refine j_run0 (c_SN C (As := [.ref c2, .int (M.1 a0 0), .int a1]) (rest := []) (ctX8_write C.2.2.2.2.2.2.2.2.1 N Z hq3) kcRX5_20 oyX8_write ⟨by decide, by decide⟩ ⟨by decide, by decide⟩ (Nat.le_of_ble_eq_true rfl) rfl dX5_add_9) ?_
  refine j_aload_n C dX5_add_12 rfl 0 rfl ?_
  obtain ⟨c4, hr4, h⟩ := bnd1_spec h
  refine j_getR C (cn := RX5) (T := TX5) (N := 3) (ci := 5) rfl iX5 ho1 2 (by decide) rfl fwRX5_17 dX5_add_13 hr4 ?_
  refine j_aload_n C dX5_add_16 rfl 0 rfl ?_
  refine j_getI C (cn := RX5) (T := TX5) (N := 3) (ci := 5) rfl iX5 ho1 0 (by decide) rfl fwRX5_7 dX5_add_17 ?_
  refine j_iload_n C dX5_add_20 rfl 2 rfl ?_
  obtain ⟨_, M5, hq5, h⟩ := bnd2_spec h
  refine j_run0 (c_SN C (As := [.ref c4, .int (M3.1 a0 0), .int a2]) (rest := []) (ctX8_write C.2.2.2.2.2.2.2.2.1 N Z hq5) kcRX5_20 oyX8_write ⟨by decide, by decide⟩ ⟨by decide, by decide⟩ (Nat.le_of_ble_eq_true rfl) rfl dX5_add_21) ?_
  refine j_aload_n C dX5_add_24 rfl 0 rfl ?_
  refine j_dup C dX5_add_25 rfl ?_
  refine j_getI C (cn := RX5) (T := TX5) (N := 3) (ci := 5) rfl iX5 ho1 0 (by decide) rfl fwRX5_7 dX5_add_26 ?_
  refine j_iconst C dX5_add_29 (v := (1 : Int32)) (by decide) ?_
  refine j_iadd C dX5_add_30 ?_
  refine j_putI C tyX5 tyX5_ok nmX5 (cn := RX5) (T := TX5) (N := 3) (ci := 5) rfl iX5 ho1 0 (by decide) rfl fwRX5_7 ⟨rfl, rfl⟩ dX5_add_31 ?_
  cases h
  exact j_vret C rfl (by decide) (by decide) dX5_add_34
-- ScaffoldPlanner$Ways countReached
theorem kcRX6_57 : okS RX6 57 yJ6_bitCount_0f7a4 (.code yJ6_bitCount_0f7a4 cJ6_bitCount_0f7a4 1 (some .int)) = true := by decide +kernel
abbrev rmX6_countReached : Room := { frames := 1, cells := 0, slots := 0, locals := 21 }
theorem dX6_countReached_0 : decode cX6_countReached 0 = .ok (.iconst 0, 1) := by decide +kernel
theorem dX6_countReached_1 : decode cX6_countReached 1 = .ok (.istore_n 1, 1) := by decide +kernel
theorem dX6_countReached_2 : decode cX6_countReached 2 = .ok (.iconst 0, 1) := by decide +kernel
theorem dX6_countReached_3 : decode cX6_countReached 3 = .ok (.istore_n 2, 1) := by decide +kernel
theorem dX6_countReached_4 : decode cX6_countReached 4 = .ok (.iload_n 2, 1) := by decide +kernel
theorem dX6_countReached_5 : decode cX6_countReached 5 = .ok (.bipush 10, 2) := by decide +kernel
theorem dX6_countReached_7 : decode cX6_countReached 7 = .ok (.if_icmp .ge 23, 3) := by decide +kernel
theorem dX6_countReached_10 : decode cX6_countReached 10 = .ok (.iload_n 1, 1) := by decide +kernel
theorem dX6_countReached_11 : decode cX6_countReached 11 = .ok (.aload_n 0, 1) := by decide +kernel
theorem dX6_countReached_12 : decode cX6_countReached 12 = .ok (.getfield 9, 3) := by decide +kernel
theorem dX6_countReached_15 : decode cX6_countReached 15 = .ok (.iload_n 2, 1) := by decide +kernel
theorem dX6_countReached_16 : decode cX6_countReached 16 = .ok (.invokestatic 46, 3) := by decide +kernel
theorem dX6_countReached_19 : decode cX6_countReached 19 = .ok (.invokestatic 57, 3) := by decide +kernel
theorem dX6_countReached_22 : decode cX6_countReached 22 = .ok (.iadd, 1) := by decide +kernel
theorem dX6_countReached_23 : decode cX6_countReached 23 = .ok (.istore_n 1, 1) := by decide +kernel
theorem dX6_countReached_24 : decode cX6_countReached 24 = .ok (.iinc 2 1, 3) := by decide +kernel
theorem dX6_countReached_27 : decode cX6_countReached 27 = .ok (.goto (-23), 3) := by decide +kernel
theorem dX6_countReached_30 : decode cX6_countReached 30 = .ok (.iload_n 1, 1) := by decide +kernel
theorem dX6_countReached_31 : decode cX6_countReached 31 = .ok (.ireturn, 1) := by decide +kernel
def fX6_countReached_4 (N : Nat) (Z : mZ) : Nat → Nat → Int32 → Int32 → mM → Option (Int32 × mM)
  | 0, _, _, _, _ => none
  | fu + 1, v0, v1, v2, M => if (10 : Int32) ≤ v2 then some (v1, M) else ck (okO Z v0 6) (bnd1 (Z.2.2.2 v0 0) (fun c3 => bnd2 (fX8_at N Z c3 v2 M) (fun r4 M4 => bnd2 (fJ6_bitCount_0f7a4 N Z r4 M4) (fun r5 M5 => fX6_countReached_4 N Z fu v0 (v1 + r5) (v2 + (1 : Int32)) M5))))
set_option maxHeartbeats 4000000 in
set_option maxRecDepth 100000 in
theorem tX6_countReached_4 {G : mG} {p : Program} {l : Launch} {e : Env} {s : State} {m : MethodId} {args : Array Value} {below : List Frame} {meth : Method} {c : Code} (C : Cx G p l s m args meth c RX6 cX6_countReached 3 (some .int) []) (hnm : meth.name = yX6_countReached.name) (N : Nat) (Z : mZ) : ∀ (fu : Nat) (v0 : Nat) (v1 : Int32) (v2 : Int32) (M : mM) (r : Int32) (M' : mM), fX6_countReached_4 N Z fu v0 v1 v2 M = some (r, M') → JJ G p l e rmX6_countReached s m args below meth c 3 (mEnd G below args s rmX6_countReached (.inl (some (.int r))) Z M') 0 0 4 [(0, .ref v0), (1, .int v1), (2, .int v2)] [] Z M := by
  intro fu
  induction fu with
  | zero =>
    intro v0 v1 v2 M r M' h
    cases h
  | succ fu ih =>
    intro v0 v1 v2 M r M' h
    rw [fX6_countReached_4] at h
    refine j_iload_n C dX6_countReached_4 rfl 2 rfl ?_
    refine j_bipush C dX6_countReached_5 (v := (10 : Int32)) (by decide) ?_
    refine j_icmp_ge C dX6_countReached_7 (tgt := 30) (by decide) (fun hc1 => ?_) (fun hc1 => ?_)
    · rw [if_pos hc1] at h
      refine j_iload_n C dX6_countReached_30 rfl 1 rfl ?_
      cases h
      exact j_iret C rfl (by decide) (by decide) dX6_countReached_31
    · rw [if_neg hc1] at h
      refine j_iload_n C dX6_countReached_10 rfl 1 rfl ?_
      refine j_aload_n C dX6_countReached_11 rfl 0 rfl ?_
      obtain ⟨ho2, h⟩ := ck_spec h
      obtain ⟨c3, hr3, h⟩ := bnd1_spec h
      refine j_getR C (cn := RX6) (T := TX6) (N := 4) (ci := 6) rfl iX6 ho2 0 (by decide) rfl fwRX6_9 dX6_countReached_12 hr3 ?_
      refine j_iload_n C dX6_countReached_15 rfl 2 rfl ?_
      obtain ⟨r4, M4, hq4, h⟩ := bnd2_spec h
      refine j_run1 (c_SN C (As := [.ref c3, .int v2]) (rest := [.int v1]) (ctX8_at C.2.2.2.2.2.2.2.2.1 N Z hq4) kcRX6_46 oyX8_at ⟨by decide, by decide⟩ ⟨by decide, by decide⟩ (Nat.le_of_ble_eq_true rfl) rfl dX6_countReached_16) ?_
      obtain ⟨r5, M5, hq5, h⟩ := bnd2_spec h
      refine j_run1 (c_S C (As := [.int r4]) (rest := [.int v1]) (ctJ6_bitCount_0f7a4 C.2.2.2.2.2.2.2.2.1 N Z hq5) kcRX6_57 oyJ6_bitCount_0f7a4 ⟨by decide, by decide⟩ ⟨by decide, by decide⟩ (Nat.le_of_ble_eq_true rfl) rfl dX6_countReached_19) ?_
      refine j_iadd C dX6_countReached_22 ?_
      refine j_istore_n C dX6_countReached_23 rfl (by decide) (L' := [(1, .int (v1 + r5)), (0, .ref v0), (2, .int v2)]) rfl ?_
      refine j_iinc C dX6_countReached_24 2 rfl (v := (v2 + (1 : Int32))) (by first | rfl | decide) (by decide) (L' := [(2, .int (v2 + (1 : Int32))), (1, .int (v1 + r5)), (0, .ref v0)]) rfl ?_
      refine j_goto C dX6_countReached_27 (tgt := 4) (by decide) ?_
      refine j_sub (L' := [(0, .ref v0), (1, .int (v1 + r5)), (2, .int (v2 + (1 : Int32)))]) [2, 1, 0] rfl ?_
      exact ih v0 (v1 + r5) (v2 + (1 : Int32)) M5 r M' h
def fX6_countReached (N : Nat) (Z : mZ) (a0 : Nat) (M : mM) : Option (Int32 × mM) := fX6_countReached_4 N Z N a0 (0 : Int32) (0 : Int32) M
set_option maxHeartbeats 4000000 in
set_option maxRecDepth 100000 in
theorem ctX6_countReached {G : mG} {l : Launch} (hl : l.stackTraces = false) (N : Nat) (Z : mZ) {a0 : Nat} {M : mM} {r : Int32} {M' : mM} (h : fX6_countReached N Z a0 M = some (r, M')) : CT G l yX6_countReached (.code yX6_countReached cX6_countReached 3 (some .int)) rmX6_countReached [.ref a0] Z M (.inl (some (.int r))) Z M' := by
  unfold fX6_countReached at h
  refine CT.of hl (by decide) (Nat.le_of_ble_eq_true rfl) ?_
  intro p e s m args below meth c C hnm
  refine j_sub (L' := [(0, .ref a0)]) [0] rfl ?_
  refine j_iconst C dX6_countReached_0 (v := (0 : Int32)) (by decide) ?_
  refine j_istore_n C dX6_countReached_1 rfl (by decide) (L' := [(1, .int (0 : Int32)), (0, .ref a0)]) rfl ?_
  refine j_iconst C dX6_countReached_2 (v := (0 : Int32)) (by decide) ?_
  refine j_istore_n C dX6_countReached_3 rfl (by decide) (L' := [(2, .int (0 : Int32)), (1, .int (0 : Int32)), (0, .ref a0)]) rfl ?_
  refine j_sub (L' := [(0, .ref a0), (1, .int (0 : Int32)), (2, .int (0 : Int32))]) [2, 1, 0] rfl ?_
  exact tX6_countReached_4 C hnm N Z N a0 (0 : Int32) (0 : Int32) M _ _ h
