-- ScaffoldPlanner$CommandText <init>
theorem ojRX0_3 : Cond.methodLink RX0 3 Lib.objectInit ∈ gw ∧ Cond.instanceMethod Lib.objectInit ∈ gw ∧ Cond.code Lib.objectInit ⟨#[0xb1]⟩ 1 none ∈ gw := ⟨by decide +kernel, by decide +kernel, by decide +kernel⟩
theorem fwRX0_9 : Cond.fieldLink RX0 9 RX0 (TX0 0).2.1 (TX0 0).2.2.1 ∈ gw := by decide +kernel
theorem fwRX0_15 : Cond.fieldLink RX0 15 RX0 (TX0 1).2.1 (TX0 1).2.2.1 ∈ gw := by decide +kernel
theorem fwRX0_18 : Cond.fieldLink RX0 18 RX0 (TX0 2).2.1 (TX0 2).2.2.1 ∈ gw := by decide +kernel
abbrev rmX0_init : Room := { frames := 1, cells := 1, slots := 80, locals := 20 }
theorem dX0_init_0 : decode cX0_init 0 = .ok (.aload_n 0, 1) := by decide +kernel
theorem dX0_init_1 : decode cX0_init 1 = .ok (.invokespecial 3, 3) := by decide +kernel
theorem dX0_init_4 : decode cX0_init 4 = .ok (.aload_n 0, 1) := by decide +kernel
theorem dX0_init_5 : decode cX0_init 5 = .ok (.iconst 0, 1) := by decide +kernel
theorem dX0_init_6 : decode cX0_init 6 = .ok (.putfield 9, 3) := by decide +kernel
theorem dX0_init_9 : decode cX0_init 9 = .ok (.aload_n 0, 1) := by decide +kernel
theorem dX0_init_10 : decode cX0_init 10 = .ok (.iconst 0, 1) := by decide +kernel
theorem dX0_init_11 : decode cX0_init 11 = .ok (.putfield 15, 3) := by decide +kernel
theorem dX0_init_14 : decode cX0_init 14 = .ok (.aload_n 0, 1) := by decide +kernel
theorem dX0_init_15 : decode cX0_init 15 = .ok (.bipush 80, 2) := by decide +kernel
theorem dX0_init_17 : decode cX0_init 17 = .ok (.newarray .char, 2) := by decide +kernel
theorem dX0_init_19 : decode cX0_init 19 = .ok (.putfield 18, 3) := by decide +kernel
theorem dX0_init_22 : decode cX0_init 22 = .ok (.return_, 1) := by decide +kernel
def fX0_init (N : Nat) (Z : mZ) (a0 : Nat) (M : mM) : Option (Unit × (mZ × mM)) := ck (okO Z a0 0) (ck (decide ((sI (sI M a0 0 (0 : Int32)) a0 1 (0 : Int32)).2.2.2 = 0)) (ck (okO (zNew Z 21 80) a0 0) (some ((), ((sR (zNew Z 21 80) a0 2 (Z.1)), (mNew (sI (sI M a0 0 (0 : Int32)) a0 1 (0 : Int32)) (Z.1)))))))
set_option maxHeartbeats 4000000 in
set_option maxRecDepth 100000 in
theorem ctX0_init {G : mG} {l : Launch} (hl : l.stackTraces = false) (N : Nat) (Z : mZ) {a0 : Nat} {M : mM} {r : Unit} {ZM' : (mZ × mM)} (h : fX0_init N Z a0 M = some (r, ZM')) : CT G l yX0_init (.code yX0_init cX0_init 1 none) rmX0_init [.ref a0] Z M (.inl none) ZM'.1 ZM'.2 := by
  unfold fX0_init at h
  refine CT.of hl (by decide) (Nat.le_of_ble_eq_true rfl) ?_
  intro p e s m args below meth c C hnm
  refine j_sub (L' := [(0, .ref a0)]) [0] rfl ?_
  refine j_aload_n C dX0_init_0 rfl 0 rfl ?_
  refine j_objInit C ojRX0_3 (by decide) (Nat.le_of_ble_eq_true rfl) dX0_init_1 ?_
  refine j_aload_n C dX0_init_4 rfl 0 rfl ?_
  refine j_iconst C dX0_init_5 (v := (0 : Int32)) (by decide) ?_
  obtain ⟨ho1, h⟩ := ck_spec h
  refine j_putI C tyX0 tyX0_ok nmX0 (cn := RX0) (T := TX0) (N := 3) (ci := 0) rfl iX0 ho1 0 (by decide) rfl fwRX0_9 ⟨rfl, rfl⟩ dX0_init_6 ?_
  refine j_aload_n C dX0_init_9 rfl 0 rfl ?_
  refine j_iconst C dX0_init_10 (v := (0 : Int32)) (by decide) ?_
  refine j_putI C tyX0 tyX0_ok nmX0 (cn := RX0) (T := TX0) (N := 3) (ci := 0) rfl iX0 ho1 1 (by decide) rfl fwRX0_15 ⟨rfl, rfl⟩ dX0_init_11 ?_
  refine j_aload_n C dX0_init_14 rfl 0 rfl ?_
  refine j_bipush C dX0_init_15 (v := (80 : Int32)) (by decide) ?_
  obtain ⟨ho2, h⟩ := ck_spec h
  refine j_newa C (ln := 80) (t := 21) (Or.inr (Or.inl ⟨rfl, rfl⟩)) aw_21 (by decide) (by decide) (by decide) (of_decide_eq_true ho2) ⟨by decide, by decide⟩ dX0_init_17 ?_
  obtain ⟨ho3, h⟩ := ck_spec h
  refine j_putR C hnm tyX0 tyX0_ok nmX0 (T := TX0) (N := 3) (ci := 0) rfl iX0 ho3 2 (by decide) rfl fwRX0_18 (fun _ => ⟨rfl, rfl⟩) dX0_init_19 ?_
  cases h
  exact j_vret C rfl (by decide) (by decide) dX0_init_22
-- ScaffoldPlanner$CommandText append
abbrev rmX0_append : Room := { frames := 0, cells := 0, slots := 0, locals := 0 }
theorem dX0_append_0 : decode cX0_append 0 = .ok (.aload_n 0, 1) := by decide +kernel
theorem dX0_append_1 : decode cX0_append 1 = .ok (.getfield 9, 3) := by decide +kernel
theorem dX0_append_4 : decode cX0_append 4 = .ok (.ifCond .lt 15, 3) := by decide +kernel
theorem dX0_append_7 : decode cX0_append 7 = .ok (.aload_n 0, 1) := by decide +kernel
theorem dX0_append_8 : decode cX0_append 8 = .ok (.getfield 9, 3) := by decide +kernel
theorem dX0_append_11 : decode cX0_append 11 = .ok (.aload_n 0, 1) := by decide +kernel
theorem dX0_append_12 : decode cX0_append 12 = .ok (.getfield 18, 3) := by decide +kernel
theorem dX0_append_15 : decode cX0_append 15 = .ok (.arraylength, 1) := by decide +kernel
theorem dX0_append_16 : decode cX0_append 16 = .ok (.if_icmp .lt 4, 3) := by decide +kernel
theorem dX0_append_19 : decode cX0_append 19 = .ok (.return_, 1) := by decide +kernel
theorem dX0_append_20 : decode cX0_append 20 = .ok (.aload_n 0, 1) := by decide +kernel
theorem dX0_append_21 : decode cX0_append 21 = .ok (.getfield 18, 3) := by decide +kernel
theorem dX0_append_24 : decode cX0_append 24 = .ok (.aload_n 0, 1) := by decide +kernel
theorem dX0_append_25 : decode cX0_append 25 = .ok (.getfield 9, 3) := by decide +kernel
theorem dX0_append_28 : decode cX0_append 28 = .ok (.iload_n 1, 1) := by decide +kernel
theorem dX0_append_29 : decode cX0_append 29 = .ok (.castore, 1) := by decide +kernel
theorem dX0_append_30 : decode cX0_append 30 = .ok (.aload_n 0, 1) := by decide +kernel
theorem dX0_append_31 : decode cX0_append 31 = .ok (.dup, 1) := by decide +kernel
theorem dX0_append_32 : decode cX0_append 32 = .ok (.getfield 9, 3) := by decide +kernel
theorem dX0_append_35 : decode cX0_append 35 = .ok (.iconst 1, 1) := by decide +kernel
theorem dX0_append_36 : decode cX0_append 36 = .ok (.iadd, 1) := by decide +kernel
theorem dX0_append_37 : decode cX0_append 37 = .ok (.putfield 9, 3) := by decide +kernel
theorem dX0_append_40 : decode cX0_append 40 = .ok (.return_, 1) := by decide +kernel
def fX0_append (N : Nat) (Z : mZ) (a0 : Nat) (a1 : Int32) (M : mM) : Option (Unit × mM) := ck (okO Z a0 0) (if (M.1 a0 0) < 0 then some ((), M) else bnd1 (Z.2.2.2 a0 2) (fun c3 => ck (okO Z c3 21) (if (M.1 a0 0) < (Int32.ofNat (Z.2.2.1 c3)) then ck (inB (M.1 a0 0) (Z.2.2.1 c3)) (some ((), (sI (sI M c3 ((M.1 a0 0)).toNatClampNeg (chN a1)) a0 0 (((sI M c3 ((M.1 a0 0)).toNatClampNeg (chN a1)).1 a0 0) + (1 : Int32))))) else some ((), M))))
set_option maxHeartbeats 4000000 in
set_option maxRecDepth 100000 in
theorem ctX0_append {G : mG} {l : Launch} (hl : l.stackTraces = false) (N : Nat) (Z : mZ) {a0 : Nat} {a1 : Int32} {M : mM} {r : Unit} {M' : mM} (h : fX0_append N Z a0 a1 M = some (r, M')) : CT G l yX0_append (.code yX0_append cX0_append 2 none) rmX0_append [.ref a0, .int a1] Z M (.inl none) Z M' := by
  unfold fX0_append at h
  refine CT.of hl (by decide) (Nat.le_of_ble_eq_true rfl) ?_
  intro p e s m args below meth c C hnm
  refine j_sub (L' := [(0, .ref a0), (1, .int a1)]) [0, 1] rfl ?_
  refine j_aload_n C dX0_append_0 rfl 0 rfl ?_
  obtain ⟨ho1, h⟩ := ck_spec h
  refine j_getI C (cn := RX0) (T := TX0) (N := 3) (ci := 0) rfl iX0 ho1 0 (by decide) rfl fwRX0_9 dX0_append_1 ?_
  refine j_if_lt C dX0_append_4 (tgt := 19) (by decide) (fun hc2 => ?_) (fun hc2 => ?_)
  · rw [if_pos hc2] at h
    cases h
    exact j_vret C rfl (by decide) (by decide) dX0_append_19
  · rw [if_neg hc2] at h
    refine j_aload_n C dX0_append_7 rfl 0 rfl ?_
    refine j_getI C (cn := RX0) (T := TX0) (N := 3) (ci := 0) rfl iX0 ho1 0 (by decide) rfl fwRX0_9 dX0_append_8 ?_
    refine j_aload_n C dX0_append_11 rfl 0 rfl ?_
    obtain ⟨c3, hr3, h⟩ := bnd1_spec h
    refine j_getR C (cn := RX0) (T := TX0) (N := 3) (ci := 0) rfl iX0 ho1 2 (by decide) rfl fwRX0_18 dX0_append_12 hr3 ?_
    obtain ⟨ho4, h⟩ := ck_spec h
    refine j_clen C ho4 dX0_append_15 ?_
    refine j_icmp_lt C dX0_append_16 (tgt := 20) (by decide) (fun hc5 => ?_) (fun hc5 => ?_)
    · rw [if_pos hc5] at h
      refine j_aload_n C dX0_append_20 rfl 0 rfl ?_
      refine j_getR C (cn := RX0) (T := TX0) (N := 3) (ci := 0) rfl iX0 ho1 2 (by decide) rfl fwRX0_18 dX0_append_21 hr3 ?_
      refine j_aload_n C dX0_append_24 rfl 0 rfl ?_
      refine j_getI C (cn := RX0) (T := TX0) (N := 3) (ci := 0) rfl iX0 ho1 0 (by decide) rfl fwRX0_9 dX0_append_25 ?_
      refine j_iload_n C dX0_append_28 rfl 1 rfl ?_
      obtain ⟨ho6, h⟩ := ck_spec h
      refine j_cast C ho4 ho6 dX0_append_29 ?_
      refine j_aload_n C dX0_append_30 rfl 0 rfl ?_
      refine j_dup C dX0_append_31 rfl ?_
      refine j_getI C (cn := RX0) (T := TX0) (N := 3) (ci := 0) rfl iX0 ho1 0 (by decide) rfl fwRX0_9 dX0_append_32 ?_
      refine j_iconst C dX0_append_35 (v := (1 : Int32)) (by decide) ?_
      refine j_iadd C dX0_append_36 ?_
      refine j_putI C tyX0 tyX0_ok nmX0 (cn := RX0) (T := TX0) (N := 3) (ci := 0) rfl iX0 ho1 0 (by decide) rfl fwRX0_9 ⟨rfl, rfl⟩ dX0_append_37 ?_
      cases h
      exact j_vret C rfl (by decide) (by decide) dX0_append_40
    · rw [if_neg hc5] at h
      cases h
      exact j_vret C rfl (by decide) (by decide) dX0_append_19
-- ScaffoldPlanner$CommandText clear
abbrev rmX0_clear : Room := { frames := 0, cells := 0, slots := 0, locals := 0 }
theorem dX0_clear_0 : decode cX0_clear 0 = .ok (.aload_n 0, 1) := by decide +kernel
theorem dX0_clear_1 : decode cX0_clear 1 = .ok (.iconst 0, 1) := by decide +kernel
theorem dX0_clear_2 : decode cX0_clear 2 = .ok (.putfield 9, 3) := by decide +kernel
theorem dX0_clear_5 : decode cX0_clear 5 = .ok (.aload_n 0, 1) := by decide +kernel
theorem dX0_clear_6 : decode cX0_clear 6 = .ok (.iconst 0, 1) := by decide +kernel
theorem dX0_clear_7 : decode cX0_clear 7 = .ok (.putfield 15, 3) := by decide +kernel
theorem dX0_clear_10 : decode cX0_clear 10 = .ok (.return_, 1) := by decide +kernel
def fX0_clear (N : Nat) (Z : mZ) (a0 : Nat) (M : mM) : Option (Unit × mM) := ck (okO Z a0 0) (some ((), (sI (sI M a0 0 (0 : Int32)) a0 1 (0 : Int32))))
set_option maxHeartbeats 4000000 in
set_option maxRecDepth 100000 in
theorem ctX0_clear {G : mG} {l : Launch} (hl : l.stackTraces = false) (N : Nat) (Z : mZ) {a0 : Nat} {M : mM} {r : Unit} {M' : mM} (h : fX0_clear N Z a0 M = some (r, M')) : CT G l yX0_clear (.code yX0_clear cX0_clear 1 none) rmX0_clear [.ref a0] Z M (.inl none) Z M' := by
  unfold fX0_clear at h
  refine CT.of hl (by decide) (Nat.le_of_ble_eq_true rfl) ?_
  intro p e s m args below meth c C hnm
  refine j_sub (L' := [(0, .ref a0)]) [0] rfl ?_
  refine j_aload_n C dX0_clear_0 rfl 0 rfl ?_
  refine j_iconst C dX0_clear_1 (v := (0 : Int32)) (by decide) ?_
  obtain ⟨ho1, h⟩ := ck_spec h
  refine j_putI C tyX0 tyX0_ok nmX0 (cn := RX0) (T := TX0) (N := 3) (ci := 0) rfl iX0 ho1 0 (by decide) rfl fwRX0_9 ⟨rfl, rfl⟩ dX0_clear_2 ?_
  refine j_aload_n C dX0_clear_5 rfl 0 rfl ?_
  refine j_iconst C dX0_clear_6 (v := (0 : Int32)) (by decide) ?_
  refine j_putI C tyX0 tyX0_ok nmX0 (cn := RX0) (T := TX0) (N := 3) (ci := 0) rfl iX0 ho1 1 (by decide) rfl fwRX0_15 ⟨rfl, rfl⟩ dX0_clear_7 ?_
  cases h
  exact j_vret C rfl (by decide) (by decide) dX0_clear_10
-- ScaffoldPlanner$CommandText letter
abbrev rmX0_letter : Room := { frames := 0, cells := 0, slots := 0, locals := 0 }
theorem dX0_letter_0 : decode cX0_letter 0 = .ok (.aload_n 0, 1) := by decide +kernel
theorem dX0_letter_1 : decode cX0_letter 1 = .ok (.getfield 15, 3) := by decide +kernel
theorem dX0_letter_4 : decode cX0_letter 4 = .ok (.ifCond .lt 26, 3) := by decide +kernel
theorem dX0_letter_7 : decode cX0_letter 7 = .ok (.aload_n 0, 1) := by decide +kernel
theorem dX0_letter_8 : decode cX0_letter 8 = .ok (.getfield 15, 3) := by decide +kernel
theorem dX0_letter_11 : decode cX0_letter 11 = .ok (.aload_n 0, 1) := by decide +kernel
theorem dX0_letter_12 : decode cX0_letter 12 = .ok (.getfield 9, 3) := by decide +kernel
theorem dX0_letter_15 : decode cX0_letter 15 = .ok (.if_icmp .ge 15, 3) := by decide +kernel
theorem dX0_letter_18 : decode cX0_letter 18 = .ok (.aload_n 0, 1) := by decide +kernel
theorem dX0_letter_19 : decode cX0_letter 19 = .ok (.getfield 15, 3) := by decide +kernel
theorem dX0_letter_22 : decode cX0_letter 22 = .ok (.aload_n 0, 1) := by decide +kernel
theorem dX0_letter_23 : decode cX0_letter 23 = .ok (.getfield 18, 3) := by decide +kernel
theorem dX0_letter_26 : decode cX0_letter 26 = .ok (.arraylength, 1) := by decide +kernel
theorem dX0_letter_27 : decode cX0_letter 27 = .ok (.if_icmp .lt 5, 3) := by decide +kernel
theorem dX0_letter_30 : decode cX0_letter 30 = .ok (.iconst (-1), 1) := by decide +kernel
theorem dX0_letter_31 : decode cX0_letter 31 = .ok (.ireturn, 1) := by decide +kernel
theorem dX0_letter_32 : decode cX0_letter 32 = .ok (.aload_n 0, 1) := by decide +kernel
theorem dX0_letter_33 : decode cX0_letter 33 = .ok (.getfield 18, 3) := by decide +kernel
theorem dX0_letter_36 : decode cX0_letter 36 = .ok (.aload_n 0, 1) := by decide +kernel
theorem dX0_letter_37 : decode cX0_letter 37 = .ok (.getfield 15, 3) := by decide +kernel
theorem dX0_letter_40 : decode cX0_letter 40 = .ok (.caload, 1) := by decide +kernel
theorem dX0_letter_41 : decode cX0_letter 41 = .ok (.ireturn, 1) := by decide +kernel
def fX0_letter (N : Nat) (Z : mZ) (a0 : Nat) (M : mM) : Option (Int32 × mM) := ck (okO Z a0 0) (if (M.1 a0 1) < 0 then some ((-1 : Int32), M) else if (M.1 a0 0) ≤ (M.1 a0 1) then some ((-1 : Int32), M) else bnd1 (Z.2.2.2 a0 2) (fun c4 => ck (okO Z c4 21) (if (M.1 a0 1) < (Int32.ofNat (Z.2.2.1 c4)) then ck (inB (M.1 a0 1) (Z.2.2.1 c4)) (some ((M.1 c4 ((M.1 a0 1)).toNatClampNeg), M)) else some ((-1 : Int32), M))))
set_option maxHeartbeats 4000000 in
set_option maxRecDepth 100000 in
theorem ctX0_letter {G : mG} {l : Launch} (hl : l.stackTraces = false) (N : Nat) (Z : mZ) {a0 : Nat} {M : mM} {r : Int32} {M' : mM} (h : fX0_letter N Z a0 M = some (r, M')) : CT G l yX0_letter (.code yX0_letter cX0_letter 1 (some .int)) rmX0_letter [.ref a0] Z M (.inl (some (.int r))) Z M' := by
  unfold fX0_letter at h
  refine CT.of hl (by decide) (Nat.le_of_ble_eq_true rfl) ?_
  intro p e s m args below meth c C hnm
  refine j_sub (L' := [(0, .ref a0)]) [0] rfl ?_
  refine j_aload_n C dX0_letter_0 rfl 0 rfl ?_
  obtain ⟨ho1, h⟩ := ck_spec h
  refine j_getI C (cn := RX0) (T := TX0) (N := 3) (ci := 0) rfl iX0 ho1 1 (by decide) rfl fwRX0_15 dX0_letter_1 ?_
  refine j_if_lt C dX0_letter_4 (tgt := 30) (by decide) (fun hc2 => ?_) (fun hc2 => ?_)
  · rw [if_pos hc2] at h
    refine j_iconst C dX0_letter_30 (v := (-1 : Int32)) (by decide) ?_
    cases h
    exact j_iret C rfl (by decide) (by decide) dX0_letter_31
  · rw [if_neg hc2] at h
    refine j_aload_n C dX0_letter_7 rfl 0 rfl ?_
    refine j_getI C (cn := RX0) (T := TX0) (N := 3) (ci := 0) rfl iX0 ho1 1 (by decide) rfl fwRX0_15 dX0_letter_8 ?_
    refine j_aload_n C dX0_letter_11 rfl 0 rfl ?_
    refine j_getI C (cn := RX0) (T := TX0) (N := 3) (ci := 0) rfl iX0 ho1 0 (by decide) rfl fwRX0_9 dX0_letter_12 ?_
    refine j_icmp_ge C dX0_letter_15 (tgt := 30) (by decide) (fun hc3 => ?_) (fun hc3 => ?_)
    · rw [if_pos hc3] at h
      refine j_iconst C dX0_letter_30 (v := (-1 : Int32)) (by decide) ?_
      cases h
      exact j_iret C rfl (by decide) (by decide) dX0_letter_31
    · rw [if_neg hc3] at h
      refine j_aload_n C dX0_letter_18 rfl 0 rfl ?_
      refine j_getI C (cn := RX0) (T := TX0) (N := 3) (ci := 0) rfl iX0 ho1 1 (by decide) rfl fwRX0_15 dX0_letter_19 ?_
      refine j_aload_n C dX0_letter_22 rfl 0 rfl ?_
      obtain ⟨c4, hr4, h⟩ := bnd1_spec h
      refine j_getR C (cn := RX0) (T := TX0) (N := 3) (ci := 0) rfl iX0 ho1 2 (by decide) rfl fwRX0_18 dX0_letter_23 hr4 ?_
      obtain ⟨ho5, h⟩ := ck_spec h
      refine j_clen C ho5 dX0_letter_26 ?_
      refine j_icmp_lt C dX0_letter_27 (tgt := 32) (by decide) (fun hc6 => ?_) (fun hc6 => ?_)
      · rw [if_pos hc6] at h
        refine j_aload_n C dX0_letter_32 rfl 0 rfl ?_
        refine j_getR C (cn := RX0) (T := TX0) (N := 3) (ci := 0) rfl iX0 ho1 2 (by decide) rfl fwRX0_18 dX0_letter_33 hr4 ?_
        refine j_aload_n C dX0_letter_36 rfl 0 rfl ?_
        refine j_getI C (cn := RX0) (T := TX0) (N := 3) (ci := 0) rfl iX0 ho1 1 (by decide) rfl fwRX0_15 dX0_letter_37 ?_
        obtain ⟨ho7, h⟩ := ck_spec h
        refine j_cald C ho5 ho7 dX0_letter_40 ?_
        cases h
        exact j_iret C rfl (by decide) (by decide) dX0_letter_41
      · rw [if_neg hc6] at h
        refine j_iconst C dX0_letter_30 (v := (-1 : Int32)) (by decide) ?_
        cases h
        exact j_iret C rfl (by decide) (by decide) dX0_letter_31
-- ScaffoldPlanner$CommandText isPassed
theorem kcRX0_30 : okV RX0 30 yX0_letter (.code yX0_letter cX0_letter 1 (some .int)) = true := by decide +kernel
theorem oyX0_letter : okY yX0_letter 0 := ⟨by decide +kernel, by decide +kernel, by decide +kernel⟩
abbrev rmX0_isPassed : Room := { frames := 1, cells := 0, slots := 0, locals := 20 }
theorem dX0_isPassed_0 : decode cX0_isPassed 0 = .ok (.aload_n 0, 1) := by decide +kernel
theorem dX0_isPassed_1 : decode cX0_isPassed 1 = .ok (.invokevirtual 30, 3) := by decide +kernel
theorem dX0_isPassed_4 : decode cX0_isPassed 4 = .ok (.iload_n 1, 1) := by decide +kernel
theorem dX0_isPassed_5 : decode cX0_isPassed 5 = .ok (.if_icmp .eq 5, 3) := by decide +kernel
theorem dX0_isPassed_8 : decode cX0_isPassed 8 = .ok (.iconst 0, 1) := by decide +kernel
theorem dX0_isPassed_9 : decode cX0_isPassed 9 = .ok (.ireturn, 1) := by decide +kernel
theorem dX0_isPassed_10 : decode cX0_isPassed 10 = .ok (.aload_n 0, 1) := by decide +kernel
theorem dX0_isPassed_11 : decode cX0_isPassed 11 = .ok (.dup, 1) := by decide +kernel
theorem dX0_isPassed_12 : decode cX0_isPassed 12 = .ok (.getfield 15, 3) := by decide +kernel
theorem dX0_isPassed_15 : decode cX0_isPassed 15 = .ok (.iconst 1, 1) := by decide +kernel
theorem dX0_isPassed_16 : decode cX0_isPassed 16 = .ok (.iadd, 1) := by decide +kernel
theorem dX0_isPassed_17 : decode cX0_isPassed 17 = .ok (.putfield 15, 3) := by decide +kernel
theorem dX0_isPassed_20 : decode cX0_isPassed 20 = .ok (.iconst 1, 1) := by decide +kernel
theorem dX0_isPassed_21 : decode cX0_isPassed 21 = .ok (.ireturn, 1) := by decide +kernel
def fX0_isPassed (N : Nat) (Z : mZ) (a0 : Nat) (a1 : Int32) (M : mM) : Option (Int32 × mM) := ck (okO Z a0 0) (bnd2 (fX0_letter N Z a0 M) (fun r2 M2 => if r2 = a1 then some ((1 : Int32), (sI M2 a0 1 ((M2.1 a0 1) + (1 : Int32)))) else some ((0 : Int32), M2)))
set_option maxHeartbeats 4000000 in
set_option maxRecDepth 100000 in
theorem ctX0_isPassed {G : mG} {l : Launch} (hl : l.stackTraces = false) (N : Nat) (Z : mZ) {a0 : Nat} {a1 : Int32} {M : mM} {r : Int32} {M' : mM} (h : fX0_isPassed N Z a0 a1 M = some (r, M')) : CT G l yX0_isPassed (.code yX0_isPassed cX0_isPassed 2 (some .boolean)) rmX0_isPassed [.ref a0, .int a1] Z M (.inl (some (.int r))) Z M' := by
  unfold fX0_isPassed at h
  refine CT.of hl (by decide) (Nat.le_of_ble_eq_true rfl) ?_
  intro p e s m args below meth c C hnm
  refine j_sub (L' := [(0, .ref a0), (1, .int a1)]) [0, 1] rfl ?_
  refine j_aload_n C dX0_isPassed_0 rfl 0 rfl ?_
  obtain ⟨ho1, h⟩ := ck_spec h
  obtain ⟨r2, M2, hq2, h⟩ := bnd2_spec h
  refine j_run1 (c_V C (As := []) (rest := []) (ctX0_letter C.2.2.2.2.2.2.2.2.1 N Z hq2) kcRX0_30 oyX0_letter (ci := 0) (T := TX0) (N := 3) rfl (by decide) ho1 ⟨by decide, by decide⟩ ⟨by decide, by decide⟩ (Nat.le_of_ble_eq_true rfl) rfl dX0_isPassed_1) ?_
  refine j_iload_n C dX0_isPassed_4 rfl 1 rfl ?_
  refine j_icmp_eq C dX0_isPassed_5 (tgt := 10) (by decide) (fun hc3 => ?_) (fun hc3 => ?_)
  · rw [if_pos hc3] at h
    refine j_aload_n C dX0_isPassed_10 rfl 0 rfl ?_
    refine j_dup C dX0_isPassed_11 rfl ?_
    refine j_getI C (cn := RX0) (T := TX0) (N := 3) (ci := 0) rfl iX0 ho1 1 (by decide) rfl fwRX0_15 dX0_isPassed_12 ?_
    refine j_iconst C dX0_isPassed_15 (v := (1 : Int32)) (by decide) ?_
    refine j_iadd C dX0_isPassed_16 ?_
    refine j_putI C tyX0 tyX0_ok nmX0 (cn := RX0) (T := TX0) (N := 3) (ci := 0) rfl iX0 ho1 1 (by decide) rfl fwRX0_15 ⟨rfl, rfl⟩ dX0_isPassed_17 ?_
    refine j_iconst C dX0_isPassed_20 (v := (1 : Int32)) (by decide) ?_
    cases h
    exact j_zret C rfl (by decide) (by decide) (by decide) dX0_isPassed_21
  · rw [if_neg hc3] at h
    refine j_iconst C dX0_isPassed_8 (v := (0 : Int32)) (by decide) ?_
    cases h
    exact j_zret C rfl (by decide) (by decide) (by decide) dX0_isPassed_9
-- ScaffoldPlanner$CommandText whatOf
abbrev rmX0_whatOf : Room := { frames := 0, cells := 0, slots := 0, locals := 0 }
theorem dX0_whatOf_0 : decode cX0_whatOf 0 = .ok (.iload_n 0, 1) := by decide +kernel
theorem dX0_whatOf_1 : decode cX0_whatOf 1 = .ok (.lookupswitch 61 #[(98, 55), (100, 53), (101, 51), (108, 59), (116, 57)], 51) := by decide +kernel
theorem dX0_whatOf_52 : decode cX0_whatOf 52 = .ok (.iconst 0, 1) := by decide +kernel
theorem dX0_whatOf_53 : decode cX0_whatOf 53 = .ok (.ireturn, 1) := by decide +kernel
theorem dX0_whatOf_54 : decode cX0_whatOf 54 = .ok (.iconst 2, 1) := by decide +kernel
theorem dX0_whatOf_55 : decode cX0_whatOf 55 = .ok (.ireturn, 1) := by decide +kernel
theorem dX0_whatOf_56 : decode cX0_whatOf 56 = .ok (.iconst 3, 1) := by decide +kernel
theorem dX0_whatOf_57 : decode cX0_whatOf 57 = .ok (.ireturn, 1) := by decide +kernel
theorem dX0_whatOf_58 : decode cX0_whatOf 58 = .ok (.iconst 4, 1) := by decide +kernel
theorem dX0_whatOf_59 : decode cX0_whatOf 59 = .ok (.ireturn, 1) := by decide +kernel
theorem dX0_whatOf_60 : decode cX0_whatOf 60 = .ok (.iconst 5, 1) := by decide +kernel
theorem dX0_whatOf_61 : decode cX0_whatOf 61 = .ok (.ireturn, 1) := by decide +kernel
theorem dX0_whatOf_62 : decode cX0_whatOf 62 = .ok (.iconst (-1), 1) := by decide +kernel
theorem dX0_whatOf_63 : decode cX0_whatOf 63 = .ok (.ireturn, 1) := by decide +kernel
def fX0_whatOf (N : Nat) (Z : mZ) (a0 : Int32) (M : mM) : Option (Int32 × mM) := if a0 = nI 98 then some ((3 : Int32), M) else if a0 = nI 100 then some ((2 : Int32), M) else if a0 = nI 101 then some ((0 : Int32), M) else if a0 = nI 108 then some ((5 : Int32), M) else if a0 = nI 116 then some ((4 : Int32), M) else some ((-1 : Int32), M)
set_option maxHeartbeats 4000000 in
set_option maxRecDepth 100000 in
theorem ctX0_whatOf {G : mG} {l : Launch} (hl : l.stackTraces = false) (N : Nat) (Z : mZ) {a0 : Int32} {M : mM} {r : Int32} {M' : mM} (h : fX0_whatOf N Z a0 M = some (r, M')) : CT G l yX0_whatOf (.code yX0_whatOf cX0_whatOf 1 (some .int)) rmX0_whatOf [.int a0] Z M (.inl (some (.int r))) Z M' := by
  unfold fX0_whatOf at h
  refine CT.of hl (by decide) (Nat.le_of_ble_eq_true rfl) ?_
  intro p e s m args below meth c C hnm
  refine j_sub (L' := [(0, .int a0)]) [0] rfl ?_
  refine j_iload_n C dX0_whatOf_0 rfl 0 rfl ?_
  by_cases hc1 : a0 = nI 98
  · rw [if_pos hc1] at h
    refine j_lookup C dX0_whatOf_1 (by decide) (off := 55) (by rw [hc1]; rfl) (tgt := 56) (by decide) ?_
    refine j_iconst C dX0_whatOf_56 (v := (3 : Int32)) (by decide) ?_
    cases h
    exact j_iret C rfl (by decide) (by decide) dX0_whatOf_57
  rw [if_neg hc1] at h
  by_cases hc2 : a0 = nI 100
  · rw [if_pos hc2] at h
    refine j_lookup C dX0_whatOf_1 (by decide) (off := 53) (by rw [hc2]; rfl) (tgt := 54) (by decide) ?_
    refine j_iconst C dX0_whatOf_54 (v := (2 : Int32)) (by decide) ?_
    cases h
    exact j_iret C rfl (by decide) (by decide) dX0_whatOf_55
  rw [if_neg hc2] at h
  by_cases hc3 : a0 = nI 101
  · rw [if_pos hc3] at h
    refine j_lookup C dX0_whatOf_1 (by decide) (off := 51) (by rw [hc3]; rfl) (tgt := 52) (by decide) ?_
    refine j_iconst C dX0_whatOf_52 (v := (0 : Int32)) (by decide) ?_
    cases h
    exact j_iret C rfl (by decide) (by decide) dX0_whatOf_53
  rw [if_neg hc3] at h
  by_cases hc4 : a0 = nI 108
  · rw [if_pos hc4] at h
    refine j_lookup C dX0_whatOf_1 (by decide) (off := 59) (by rw [hc4]; rfl) (tgt := 60) (by decide) ?_
    refine j_iconst C dX0_whatOf_60 (v := (5 : Int32)) (by decide) ?_
    cases h
    exact j_iret C rfl (by decide) (by decide) dX0_whatOf_61
  rw [if_neg hc4] at h
  by_cases hc5 : a0 = nI 116
  · rw [if_pos hc5] at h
    refine j_lookup C dX0_whatOf_1 (by decide) (off := 57) (by rw [hc5]; rfl) (tgt := 58) (by decide) ?_
    refine j_iconst C dX0_whatOf_58 (v := (4 : Int32)) (by decide) ?_
    cases h
    exact j_iret C rfl (by decide) (by decide) dX0_whatOf_59
  rw [if_neg hc5] at h
  have q0 : ¬ ((98 : Int) = (a0).toInt) := nI_netoInt (n := 98) (by decide) hc1
  have q1 : ¬ ((100 : Int) = (a0).toInt) := nI_netoInt (n := 100) (by decide) hc2
  have q2 : ¬ ((101 : Int) = (a0).toInt) := nI_netoInt (n := 101) (by decide) hc3
  have q3 : ¬ ((108 : Int) = (a0).toInt) := nI_netoInt (n := 108) (by decide) hc4
  have q4 : ¬ ((116 : Int) = (a0).toInt) := nI_netoInt (n := 116) (by decide) hc5
  refine j_lookup C dX0_whatOf_1 (by decide) (off := 61) (lk_out _ _ _ (by intro q hq; simp at hq; rcases hq with rfl | rfl | rfl | rfl | rfl <;> assumption)) (tgt := 62) (by decide) ?_
  refine j_iconst C dX0_whatOf_62 (v := (-1 : Int32)) (by decide) ?_
  cases h
  exact j_iret C rfl (by decide) (by decide) dX0_whatOf_63
