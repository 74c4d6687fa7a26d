-- ScaffoldPlanner$CommandText <init>
theorem ojRX0_3 : Cond.methodLink RX0 3 Lib.objectInit ∈ gw ∧ Cond.instanceMethod Lib.objectInit ∈ gw ∧ Cond.code Lib.objectInit ⟨#[0xb1]⟩ 1 none ∈ gw := ⟨by decide +kernel, by decide +kernel, by decide +kernel⟩
theorem fwRX0_9 : Cond.fieldLink RX0 9 RX0 (TX0 0).2.1 (TX0 0).2.2.1 ∈ gw := by decide +kernel
theorem fwRX0_15 : Cond.fieldLink RX0 15 RX0 (TX0 1).2.1 (TX0 1).2.2.1 ∈ gw := by decide +kernel
theorem fwRX0_18 : Cond.fieldLink RX0 18 RX0 (TX0 2).2.1 (TX0 2).2.2.1 ∈ gw := by decide +kernel
abbrev rmX0_init : Room := { frames := 1, cells := 1, slots := 80, locals := 20 }
theorem dX0_init_0 : decode cX0_init 0 = .ok (.aload_n 0, 1) := by decide +kernel
theorem dX0_init_1 : decode cX0_init 1 = .ok (.invokespecial 3, 3) := by decide +kernel
theorem dX0_init_4 : decode cX0_init 4 = .ok (.aload_n 0, 1) := by decide +kernel
theorem dX0_init_5 : decode cX0_init 5 = .ok (.iconst 0, 1) := by decide +kernel
theorem dX0_init_6 : decode cX0_init 6 = .ok (.putfield 9, 3) := by decide +kernel
theorem dX0_init_9 : decode cX0_init 9 = .ok (.aload_n 0, 1) := by decide +kernel
theorem dX0_init_10 : decode cX0_init 10 = .ok (.iconst 0, 1) := by decide +kernel
theorem dX0_init_11 : decode cX0_init 11 = .ok (.putfield 15, 3) := by decide +kernel
theorem dX0_init_14 : decode cX0_init 14 = .ok (.aload_n 0, 1) := by decide +kernel
theorem dX0_init_15 : decode cX0_init 15 = .ok (.bipush 80, 2) := by decide +kernel
theorem dX0_init_17 : decode cX0_init 17 = .ok (.newarray .char, 2) := by decide +kernel
theorem dX0_init_19 : decode cX0_init 19 = .ok (.putfield 18, 3) := by decide +kernel
theorem dX0_init_22 : decode cX0_init 22 = .ok (.return_, 1) := by decide +kernel
def fX0_init (N : Nat) (Z : mZ) (a0 : Nat) (M : mM) : Option (Unit × (mZ × mM)) := ck (okO Z a0 0) (nameZ Z (sI M a0 0 (0 : Int32)) (fun Z2 M2 => ck (okO Z2 a0 0) (nameZ Z2 (sI M2 a0 1 (0 : Int32)) (fun Z4 M4 => ck (decide (M4.2.2.2 = 0)) (nameZ (zNew Z4 21 80) (mNew M4 (Z4.1)) (fun Z6 M6 => ck (okO Z6 a0 0) (nameZ (sR Z6 a0 2 (Z4.1)) M6 (fun Z8 M8 => some ((), (Z8, M8))))))))))
set_option maxHeartbeats 4000000 in
set_option maxRecDepth 100000 in
theorem ctX0_init {G : mG} {l : Launch} (hl : l.stackTraces = false) (N : Nat) (Z : mZ) {a0 : Nat} {M : mM} {r : Unit} {ZM' : (mZ × mM)} (h : fX0_init N Z a0 M = some (r, ZM')) : CT G l yX0_init (.code yX0_init cX0_init 1 none) rmX0_init [.ref a0] Z M (.inl none) ZM'.1 ZM'.2 := by
  unfold fX0_init at h
  refine CT.of hl (by decide) (Nat.le_of_ble_eq_true rfl) ?_
  intro p e s m args below meth c C hnm
  refine j_sub (L' := [(0, .ref a0)]) [0] rfl ?_
  refine j_aload_n C dX0_init_0 rfl 0 rfl ?_
  refine j_objInit C ojRX0_3 (by decide) (Nat.le_of_ble_eq_true rfl) dX0_init_1 ?_
  refine j_aload_n C dX0_init_4 rfl 0 rfl ?_
  refine j_iconst C dX0_init_5 (v := (0 : Int32)) (by decide) ?_
  obtain ⟨ho1, h⟩ := ck_spec h
  refine j_putI C tyX0 tyX0_ok nmX0 (cn := RX0) (T := TX0) (N := 3) (ci := 0) rfl iX0 ho1 0 (by decide) rfl fwRX0_9 ⟨rfl, rfl⟩ dX0_init_6 ?_
  obtain ⟨Z2, M2, eZ2, eM2, h⟩ := nameZ_spec h
  refine j_nm eZ2 eM2 ?_
  refine j_aload_n C dX0_init_9 rfl 0 rfl ?_
  refine j_iconst C dX0_init_10 (v := (0 : Int32)) (by decide) ?_
  obtain ⟨ho3, h⟩ := ck_spec h
  refine j_putI C tyX0 tyX0_ok nmX0 (cn := RX0) (T := TX0) (N := 3) (ci := 0) rfl iX0 ho3 1 (by decide) rfl fwRX0_15 ⟨rfl, rfl⟩ dX0_init_11 ?_
  obtain ⟨Z4, M4, eZ4, eM4, h⟩ := nameZ_spec h
  refine j_nm eZ4 eM4 ?_
  refine j_aload_n C dX0_init_14 rfl 0 rfl ?_
  refine j_bipush C dX0_init_15 (v := (80 : Int32)) (by decide) ?_
  obtain ⟨ho5, h⟩ := ck_spec h
  refine j_newa C (ln := 80) (t := 21) (Or.inr (Or.inl ⟨rfl, rfl⟩)) aw_21 (by decide) (by decide) (by decide) (of_decide_eq_true ho5) ⟨by decide, by decide⟩ dX0_init_17 ?_
  obtain ⟨Z6, M6, eZ6, eM6, h⟩ := nameZ_spec h
  refine j_nm eZ6 eM6 ?_
  obtain ⟨ho7, h⟩ := ck_spec h
  refine j_putR C hnm tyX0 tyX0_ok nmX0 (T := TX0) (N := 3) (ci := 0) rfl iX0 ho7 2 (by decide) rfl fwRX0_18 (fun _ => ⟨rfl, rfl⟩) dX0_init_19 ?_
  obtain ⟨Z8, M8, eZ8, eM8, h⟩ := nameZ_spec h
  refine j_nm eZ8 eM8 ?_
  cases h
  exact j_vret C rfl (by decide) (by decide) dX0_init_22
-- ScaffoldPlanner$CommandText append
abbrev rmX0_append : Room := { frames := 0, cells := 0, slots := 0, locals := 0 }
theorem dX0_append_0 : decode cX0_append 0 = .ok (.aload_n 0, 1) := by decide +kernel
theorem dX0_append_1 : decode cX0_append 1 = .ok (.getfield 9, 3) := by decide +kernel
theorem dX0_append_4 : decode cX0_append 4 = .ok (.ifCond .lt 15, 3) := by decide +kernel
theorem dX0_append_7 : decode cX0_append 7 = .ok (.aload_n 0, 1) := by decide +kernel
theorem dX0_append_8 : decode cX0_append 8 = .ok (.getfield 9, 3) := by decide +kernel
theorem dX0_append_11 : decode cX0_append 11 = .ok (.aload_n 0, 1) := by decide +kernel
theorem dX0_append_12 : decode cX0_append 12 = .ok (.getfield 18, 3) := by decide +kernel
theorem dX0_append_15 : decode cX0_append 15 = .ok (.arraylength, 1) := by decide +kernel
theorem dX0_append_16 : decode cX0_append 16 = .ok (.if_icmp .lt 4, 3) := by decide +kernel
theorem dX0_append_19 : decode cX0_append 19 = .ok (.return_, 1) := by decide +kernel
theorem dX0_append_20 : decode cX0_append 20 = .ok (.aload_n 0, 1) := by decide +kernel
theorem dX0_append_21 : decode cX0_append 21 = .ok (.getfield 18, 3) := by decide +kernel
theorem dX0_append_24 : decode cX0_append 24 = .ok (.aload_n 0, 1) := by decide +kernel
theorem dX0_append_25 : decode cX0_append 25 = .ok (.getfield 9, 3) := by decide +kernel
theorem dX0_append_28 : decode cX0_append 28 = .ok (.iload_n 1, 1) := by decide +kernel
theorem dX0_append_29 : decode cX0_append 29 = .ok (.castore, 1) := by decide +kernel
theorem dX0_append_30 : decode cX0_append 30 = .ok (.aload_n 0, 1) := by decide +kernel
theorem dX0_append_31 : decode cX0_append 31 = .ok (.dup, 1) := by decide +kernel
theorem dX0_append_32 : decode cX0_append 32 = .ok (.getfield 9, 3) := by decide +kernel
theorem dX0_append_35 : decode cX0_append 35 = .ok (.iconst 1, 1) := by decide +kernel
theorem dX0_append_36 : decode cX0_append 36 = .ok (.iadd, 1) := by decide +kernel
theorem dX0_append_37 : decode cX0_append 37 = .ok (.putfield 9, 3) := by decide +kernel
theorem dX0_append_40 : decode cX0_append 40 = .ok (.return_, 1) := by decide +kernel
def fX0_append (N : Nat) (Z : mZ) (a0 : Nat) (a1 : Int32) (M : mM) : Option (Unit × mM) := ck (okO Z a0 0) (if (M.1 a0 0) < 0 then some ((), M) else bnd1 (Z.2.2.2 a0 2) (fun c3 => ck (okO Z c3 21) (if (M.1 a0 0) < (Int32.ofNat (Z.2.2.1 c3)) then ck (inB (M.1 a0 0) (Z.2.2.1 c3)) (some ((), (sI (sI M c3 ((M.1 a0 0)).toNatClampNeg (chN a1)) a0 0 (((sI M c3 ((M.1 a0 0)).toNatClampNeg (chN a1)).1 a0 0) + (1 : Int32))))) else some ((), M))))
set_option maxHeartbeats 4000000 in
set_option maxRecDepth 100000 in
theorem ctX0_append {G : mG} {l : Launch} (hl : l.stackTraces = false) (N : Nat) (Z : mZ) {a0 : Nat} {a1 : Int32} {M : mM} {r : Unit} {M' : mM} (h : fX0_append N Z a0 a1 M = some (r, M')) : CT G l yX0_append (.code yX0_append cX0_append 2 none) rmX0_append [.ref a0, .int a1] Z M (.inl none) Z M' := by
  unfold fX0_append at h
  refine CT.of hl (by decide) (Nat.le_of_ble_eq_true rfl) ?_
  intro p e s m args below meth c C hnm
  refine j_sub (L' := [(0, .ref a0), (1, .int a1)]) [0, 1] rfl ?_
  refine j_aload_n C dX0_append_0 rfl 0 rfl ?_
  obtain ⟨ho1, h⟩ := ck_spec h
  refine j_getI C (cn := RX0) (T := TX0) (N := 3) (ci := 0) rfl iX0 ho1 0 (by decide) rfl fwRX0_9 dX0_append_1 ?_
  refine j_if_lt C dX0_append_4 (tgt := 19) (by decide) (fun hc2 => ?_) (fun hc2 => ?_)
  · rw [if_pos hc2] at h
    cases h
    exact j_vret C rfl (by decide) (by decide) dX0_append_19
  · rw [if_neg hc2] at h
    refine j_aload_n C dX0_append_7 rfl 0 rfl ?_
    refine j_getI C (cn := RX0) (T := TX0) (N := 3) (ci := 0) rfl iX0 ho1 0 (by decide) rfl fwRX0_9 dX0_append_8 ?_
    refine j_aload_n C dX0_append_11 rfl 0 rfl ?_
    obtain ⟨c3, hr3, h⟩ := bnd1_spec h
    refine j_getR C (cn := RX0) (T := TX0) (N := 3) (ci := 0) rfl iX0 ho1 2 (by decide) rfl fwRX0_18 dX0_append_12 hr3 ?_
    obtain ⟨ho4, h⟩ := ck_spec h
    refine j_clen C ho4 dX0_append_15 ?_
    refine j_icmp_lt C dX0_append_16 (tgt := 20) (by decide) (fun hc5 => ?_) (fun hc5 => ?_)
    · rw [if_pos hc5] at h
      refine j_aload_n C dX0_append_20 rfl 0 rfl ?_
      refine j_getR C (cn := RX0) (T := TX0) (N := 3) (ci := 0) rfl iX0 ho1 2 (by decide) rfl fwRX0_18 dX0_append_21 hr3 ?_
      refine j_aload_n C dX0_append_24 rfl 0 rfl ?_
      refine j_getI C (cn := RX0) (T := TX0) (N := 3) (ci := 0) rfl iX0 ho1 0 (by decide) rfl fwRX0_9 dX0_append_25 ?_
      refine j_iload_n C dX0_append_28 rfl 1 rfl ?_
      obtain ⟨ho6, h⟩ := ck_spec h
      refine j_cast C ho4 ho6 dX0_append_29 ?_
      refine j_aload_n C dX0_append_30 rfl 0 rfl ?_
      refine j_dup C dX0_append_31 rfl ?_
      refine j_getI C (cn := RX0) (T := TX0) (N := 3) (ci := 0) rfl iX0 ho1 0 (by decide) rfl fwRX0_9 dX0_append_32 ?_
      refine j_iconst C dX0_append_35 (v := (1 : Int32)) (by decide) ?_
      refine j_iadd C dX0_append_36 ?_
      refine j_putI C tyX0 tyX0_ok nmX0 (cn := RX0) (T := TX0) (N := 3) (ci := 0) rfl iX0 ho1 0 (by decide) rfl fwRX0_9 ⟨rfl, rfl⟩ dX0_append_37 ?_
      cases h
      exact j_vret C rfl (by decide) (by decide) dX0_append_40
    · rw [if_neg hc5] at h
      cases h
      exact j_vret C rfl (by decide) (by decide) dX0_append_19
-- ScaffoldPlanner$CommandText clear
abbrev rmX0_clear : Room := { frames := 0, cells := 0, slots := 0, locals := 0 }
theorem dX0_clear_0 : decode cX0_clear 0 = .ok (.aload_n 0, 1) := by decide +kernel
theorem dX0_clear_1 : decode cX0_clear 1 = .ok (.iconst 0, 1) := by decide +kernel
theorem dX0_clear_2 : decode cX0_clear 2 = .ok (.putfield 9, 3) := by decide +kernel
theorem dX0_clear_5 : decode cX0_clear 5 = .ok (.aload_n 0, 1) := by decide +kernel
theorem dX0_clear_6 : decode cX0_clear 6 = .ok (.iconst 0, 1) := by decide +kernel
theorem dX0_clear_7 : decode cX0_clear 7 = .ok (.putfield 15, 3) := by decide +kernel
theorem dX0_clear_10 : decode cX0_clear 10 = .ok (.return_, 1) := by decide +kernel
def fX0_clear (N : Nat) (Z : mZ) (a0 : Nat) (M : mM) : Option (Unit × mM) := ck (okO Z a0 0) (some ((), (sI (sI M a0 0 (0 : Int32)) a0 1 (0 : Int32))))
set_option maxHeartbeats 4000000 in
set_option maxRecDepth 100000 in
theorem ctX0_clear {G : mG} {l : Launch} (hl : l.stackTraces = false) (N : Nat) (Z : mZ) {a0 : Nat} {M : mM} {r : Unit} {M' : mM} (h : fX0_clear N Z a0 M = some (r, M')) : CT G l yX0_clear (.code yX0_clear cX0_clear 1 none) rmX0_clear [.ref a0] Z M (.inl none) Z M' := by
  unfold fX0_clear at h
  refine CT.of hl (by decide) (Nat.le_of_ble_eq_true rfl) ?_
  intro p e s m args below meth c C hnm
  refine j_sub (L' := [(0, .ref a0)]) [0] rfl ?_
  refine j_aload_n C dX0_clear_0 rfl 0 rfl ?_
  refine j_iconst C dX0_clear_1 (v := (0 : Int32)) (by decide) ?_
  obtain ⟨ho1, h⟩ := ck_spec h
  refine j_putI C tyX0 tyX0_ok nmX0 (cn := RX0) (T := TX0) (N := 3) (ci := 0) rfl iX0 ho1 0 (by decide) rfl fwRX0_9 ⟨rfl, rfl⟩ dX0_clear_2 ?_
  refine j_aload_n C dX0_clear_5 rfl 0 rfl ?_
  refine j_iconst C dX0_clear_6 (v := (0 : Int32)) (by decide) ?_
  refine j_putI C tyX0 tyX0_ok nmX0 (cn := RX0) (T := TX0) (N := 3) (ci := 0) rfl iX0 ho1 1 (by decide) rfl fwRX0_15 ⟨rfl, rfl⟩ dX0_clear_7 ?_
  cases h
  exact j_vret C rfl (by decide) (by decide) dX0_clear_10
-- ScaffoldPlanner$CommandText letter
abbrev rmX0_letter : Room := { frames := 0, cells := 0, slots := 0, locals := 0 }
theorem dX0_letter_0 : decode cX0_letter 0 = .ok (.aload_n 0, 1) := by decide +kernel
theorem dX0_letter_1 : decode cX0_letter 1 = .ok (.getfield 15, 3) := by decide +kernel
theorem dX0_letter_4 : decode cX0_letter 4 = .ok (.ifCond .lt 26, 3) := by decide +kernel
theorem dX0_letter_7 : decode cX0_letter 7 = .ok (.aload_n 0, 1) := by decide +kernel
theorem dX0_letter_8 : decode cX0_letter 8 = .ok (.getfield 15, 3) := by decide +kernel
theorem dX0_letter_11 : decode cX0_letter 11 = .ok (.aload_n 0, 1) := by decide +kernel
theorem dX0_letter_12 : decode cX0_letter 12 = .ok (.getfield 9, 3) := by decide +kernel
theorem dX0_letter_15 : decode cX0_letter 15 = .ok (.if_icmp .ge 15, 3) := by decide +kernel
theorem dX0_letter_18 : decode cX0_letter 18 = .ok (.aload_n 0, 1) := by decide +kernel
theorem dX0_letter_19 : decode cX0_letter 19 = .ok (.getfield 15, 3) := by decide +kernel
theorem dX0_letter_22 : decode cX0_letter 22 = .ok (.aload_n 0, 1) := by decide +kernel
theorem dX0_letter_23 : decode cX0_letter 23 = .ok (.getfield 18, 3) := by decide +kernel
theorem dX0_letter_26 : decode cX0_letter 26 = .ok (.arraylength, 1) := by decide +kernel
theorem dX0_letter_27 : decode cX0_letter 27 = .ok (.if_icmp .lt 5, 3) := by decide +kernel
theorem dX0_letter_30 : decode cX0_letter 30 = .ok (.iconst (-1), 1) := by decide +kernel
theorem dX0_letter_31 : decode cX0_letter 31 = .ok (.ireturn, 1) := by decide +kernel
theorem dX0_letter_32 : decode cX0_letter 32 = .ok (.aload_n 0, 1) := by decide +kernel
theorem dX0_letter_33 : decode cX0_letter 33 = .ok (.getfield 18, 3) := by decide +kernel
theorem dX0_letter_36 : decode cX0_letter 36 = .ok (.aload_n 0, 1) := by decide +kernel
theorem dX0_letter_37 : decode cX0_letter 37 = .ok (.getfield 15, 3) := by decide +kernel
theorem dX0_letter_40 : decode cX0_letter 40 = .ok (.caload, 1) := by decide +kernel
theorem dX0_letter_41 : decode cX0_letter 41 = .ok (.ireturn, 1) := by decide +kernel
def fX0_letter (N : Nat) (Z : mZ) (a0 : Nat) (M : mM) : Option (Int32 × mM) := ck (okO Z a0 0) (if (M.1 a0 1) < 0 then some ((-1 : Int32), M) else if (M.1 a0 0) ≤ (M.1 a0 1) then some ((-1 : Int32), M) else bnd1 (Z.2.2.2 a0 2) (fun c4 => ck (okO Z c4 21) (if (M.1 a0 1) < (Int32.ofNat (Z.2.2.1 c4)) then ck (inB (M.1 a0 1) (Z.2.2.1 c4)) (some ((M.1 c4 ((M.1 a0 1)).toNatClampNeg), M)) else some ((-1 : Int32), M))))
set_option maxHeartbeats 4000000 in
set_option maxRecDepth 100000 in
theorem ctX0_letter {G : mG} {l : Launch} (hl : l.stackTraces = false) (N : Nat) (Z : mZ) {a0 : Nat} {M : mM} {r : Int32} {M' : mM} (h : fX0_letter N Z a0 M = some (r, M')) : CT G l yX0_letter (.code yX0_letter cX0_letter 1 (some .int)) rmX0_letter [.ref a0] Z M (.inl (some (.int r))) Z M' := by
  unfold fX0_letter at h
  refine CT.of hl (by decide) (Nat.le_of_ble_eq_true rfl) ?_
  intro p e s m args below meth c C hnm
  refine j_sub (L' := [(0, .ref a0)]) [0] rfl ?_
  refine j_aload_n C dX0_letter_0 rfl 0 rfl ?_
  obtain ⟨ho1, h⟩ := ck_spec h
  refine j_getI C (cn := RX0) (T := TX0) (N := 3) (ci := 0) rfl iX0 ho1 1 (by decide) rfl fwRX0_15 dX0_letter_1 ?_
  refine j_if_lt C dX0_letter_4 (tgt := 30) (by decide) (fun hc2 => ?_) (fun hc2 => ?_)
  · rw [if_pos hc2] at h
    refine j_iconst C dX0_letter_30 (v := (-1 : Int32)) (by decide) ?_
    cases h
    exact j_iret C rfl (by decide) (by decide) dX0_letter_31
  · rw [if_neg hc2] at h
    refine j_aload_n C dX0_letter_7 rfl 0 rfl ?_
    refine j_getI C (cn := RX0) (T := TX0) (N := 3) (ci := 0) rfl iX0 ho1 1 (by decide) rfl fwRX0_15 dX0_letter_8 ?_
    refine j_aload_n C dX0_letter_11 rfl 0 rfl ?_
    refine j_getI C (cn := RX0) (T := TX0) (N := 3) (ci := 0) rfl iX0 ho1 0 (by decide) rfl fwRX0_9 dX0_letter_12 ?_
    refine j_icmp_ge C dX0_letter_15 (tgt := 30) (by decide) (fun hc3 => ?_) (fun hc3 => ?_)
    · rw [if_pos hc3] at h
      refine j_iconst C dX0_letter_30 (v := (-1 : Int32)) (by decide) ?_
      cases h
      exact j_iret C rfl (by decide) (by decide) dX0_letter_31
    · rw [if_neg hc3] at h
      refine j_aload_n C dX0_letter_18 rfl 0 rfl ?_
      refine j_getI C (cn := RX0) (T := TX0) (N := 3) (ci := 0) rfl iX0 ho1 1 (by decide) rfl fwRX0_15 dX0_letter_19 ?_
      refine j_aload_n C dX0_letter_22 rfl 0 rfl ?_
      obtain ⟨c4, hr4, h⟩ := bnd1_spec h
      refine j_getR C (cn := RX0) (T := TX0) (N := 3) (ci := 0) rfl iX0 ho1 2 (by decide) rfl fwRX0_18 dX0_letter_23 hr4 ?_
      obtain ⟨ho5, h⟩ := ck_spec h
      refine j_clen C ho5 dX0_letter_26 ?_
      refine j_icmp_lt C dX0_letter_27 (tgt := 32) (by decide) (fun hc6 => ?_) (fun hc6 => ?_)
      · rw [if_pos hc6] at h
        refine j_aload_n C dX0_letter_32 rfl 0 rfl ?_
        refine j_getR C (cn := RX0) (T := TX0) (N := 3) (ci := 0) rfl iX0 ho1 2 (by decide) rfl fwRX0_18 dX0_letter_33 hr4 ?_
        refine j_aload_n C dX0_letter_36 rfl 0 rfl ?_
        refine j_getI C (cn := RX0) (T := TX0) (N := 3) (ci := 0) rfl iX0 ho1 1 (by decide) rfl fwRX0_15 dX0_letter_37 ?_
        obtain ⟨ho7, h⟩ := ck_spec h
        refine j_cald C ho5 ho7 dX0_letter_40 ?_
        cases h
        exact j_iret C rfl (by decide) (by decide) dX0_letter_41
      · rw [if_neg hc6] at h
        refine j_iconst C dX0_letter_30 (v := (-1 : Int32)) (by decide) ?_
        cases h
        exact j_iret C rfl (by decide) (by decide) dX0_letter_31
-- ScaffoldPlanner$CommandText isPassed
theorem kcRX0_30 : okV RX0 30 yX0_letter (.code yX0_letter cX0_letter 1 (some .int)) = true := by decide +kernel
theorem oyX0_letter : okY yX0_letter 0 := ⟨by decide +kernel, by decide +kernel, by decide +kernel⟩
abbrev rmX0_isPassed : Room := { frames := 1, cells := 0, slots := 0, locals := 20 }
theorem dX0_isPassed_0 : decode cX0_isPassed 0 = .ok (.aload_n 0, 1) := by decide +kernel
theorem dX0_isPassed_1 : decode cX0_isPassed 1 = .ok (.invokevirtual 30, 3) := by decide +kernel
theorem dX0_isPassed_4 : decode cX0_isPassed 4 = .ok (.iload_n 1, 1) := by decide +kernel
theorem dX0_isPassed_5 : decode cX0_isPassed 5 = .ok (.if_icmp .eq 5, 3) := by decide +kernel
theorem dX0_isPassed_8 : decode cX0_isPassed 8 = .ok (.iconst 0, 1) := by decide +kernel
theorem dX0_isPassed_9 : decode cX0_isPassed 9 = .ok (.ireturn, 1) := by decide +kernel
theorem dX0_isPassed_10 : decode cX0_isPassed 10 = .ok (.aload_n 0, 1) := by decide +kernel
theorem dX0_isPassed_11 : decode cX0_isPassed 11 = .ok (.dup, 1) := by decide +kernel
theorem dX0_isPassed_12 : decode cX0_isPassed 12 = .ok (.getfield 15, 3) := by decide +kernel
theorem dX0_isPassed_15 : decode cX0_isPassed 15 = .ok (.iconst 1, 1) := by decide +kernel
theorem dX0_isPassed_16 : decode cX0_isPassed 16 = .ok (.iadd, 1) := by decide +kernel
theorem dX0_isPassed_17 : decode cX0_isPassed 17 = .ok (.putfield 15, 3) := by decide +kernel
theorem dX0_isPassed_20 : decode cX0_isPassed 20 = .ok (.iconst 1, 1) := by decide +kernel
theorem dX0_isPassed_21 : decode cX0_isPassed 21 = .ok (.ireturn, 1) := by decide +kernel
def fX0_isPassed (N : Nat) (Z : mZ) (a0 : Nat) (a1 : Int32) (M : mM) : Option (Int32 × mM) := ck (okO Z a0 0) (bnd2 (fX0_letter N Z a0 M) (fun r2 M2 => if r2 = a1 then some ((1 : Int32), (sI M2 a0 1 ((M2.1 a0 1) + (1 : Int32)))) else some ((0 : Int32), M2)))
set_option maxHeartbeats 4000000 in
set_option maxRecDepth 100000 in
theorem ctX0_isPassed {G : mG} {l : Launch} (hl : l.stackTraces = false) (N : Nat) (Z : mZ) {a0 : Nat} {a1 : Int32} {M : mM} {r : Int32} {M' : mM} (h : fX0_isPassed N Z a0 a1 M = some (r, M')) : CT G l yX0_isPassed (.code yX0_isPassed cX0_isPassed 2 (some .boolean)) rmX0_isPassed [.ref a0, .int a1] Z M (.inl (some (.int r))) Z M' := by
  unfold fX0_isPassed at h
  refine CT.of hl (by decide) (Nat.le_of_ble_eq_true rfl) ?_
  intro p e s m args below meth c C hnm
  refine j_sub (L' := [(0, .ref a0), (1, .int a1)]) [0, 1] rfl ?_
  refine j_aload_n C dX0_isPassed_0 rfl 0 rfl ?_
  obtain ⟨ho1, h⟩ := ck_spec h
  obtain ⟨r2, M2, hq2, h⟩ := bnd2_spec h
  refine j_run1 (c_V C (As := []) (rest := []) (ctX0_letter C.2.2.2.2.2.2.2.2.1 N Z hq2) kcRX0_30 oyX0_letter (ci := 0) (T := TX0) (N := 3) rfl (by decide) ho1 ⟨by decide, by decide⟩ ⟨by decide, by decide⟩ (Nat.le_of_ble_eq_true rfl) rfl dX0_isPassed_1) ?_
  refine j_iload_n C dX0_isPassed_4 rfl 1 rfl ?_
  refine j_icmp_eq C dX0_isPassed_5 (tgt := 10) (by decide) (fun hc3 => ?_) (fun hc3 => ?_)
  · rw [if_pos hc3] at h
    refine j_aload_n C dX0_isPassed_10 rfl 0 rfl ?_
    refine j_dup C dX0_isPassed_11 rfl ?_
    refine j_getI C (cn := RX0) (T := TX0) (N := 3) (ci := 0) rfl iX0 ho1 1 (by decide) rfl fwRX0_15 dX0_isPassed_12 ?_
    refine j_iconst C dX0_isPassed_15 (v := (1 : Int32)) (by decide) ?_
    refine j_iadd C dX0_isPassed_16 ?_
    refine j_putI C tyX0 tyX0_ok nmX0 (cn := RX0) (T := TX0) (N := 3) (ci := 0) rfl iX0 ho1 1 (by decide) rfl fwRX0_15 ⟨rfl, rfl⟩ dX0_isPassed_17 ?_
    refine j_iconst C dX0_isPassed_20 (v := (1 : Int32)) (by decide) ?_
    cases h
    exact j_zret C rfl (by decide) (by decide) (by decide) dX0_isPassed_21
  · rw [if_neg hc3] at h
    refine j_iconst C dX0_isPassed_8 (v := (0 : Int32)) (by decide) ?_
    cases h
    exact j_zret C rfl (by decide) (by decide) (by decide) dX0_isPassed_9
-- ScaffoldPlanner$CommandText whatOf
abbrev rmX0_whatOf : Room := { frames := 0, cells := 0, slots := 0, locals := 0 }
theorem dX0_whatOf_0 : decode cX0_whatOf 0 = .ok (.iload_n 0, 1) := by decide +kernel
theorem dX0_whatOf_1 : decode cX0_whatOf 1 = .ok (.lookupswitch 61 #[(98, 55), (100, 53), (101, 51), (108, 59), (116, 57)], 51) := by decide +kernel
theorem dX0_whatOf_52 : decode cX0_whatOf 52 = .ok (.iconst 0, 1) := by decide +kernel
theorem dX0_whatOf_53 : decode cX0_whatOf 53 = .ok (.ireturn, 1) := by decide +kernel
theorem dX0_whatOf_54 : decode cX0_whatOf 54 = .ok (.iconst 2, 1) := by decide +kernel
theorem dX0_whatOf_55 : decode cX0_whatOf 55 = .ok (.ireturn, 1) := by decide +kernel
theorem dX0_whatOf_56 : decode cX0_whatOf 56 = .ok (.iconst 3, 1) := by decide +kernel
theorem dX0_whatOf_57 : decode cX0_whatOf 57 = .ok (.ireturn, 1) := by decide +kernel
theorem dX0_whatOf_58 : decode cX0_whatOf 58 = .ok (.iconst 4, 1) := by decide +kernel
theorem dX0_whatOf_59 : decode cX0_whatOf 59 = .ok (.ireturn, 1) := by decide +kernel
theorem dX0_whatOf_60 : decode cX0_whatOf 60 = .ok (.iconst 5, 1) := by decide +kernel
theorem dX0_whatOf_61 : decode cX0_whatOf 61 = .ok (.ireturn, 1) := by decide +kernel
theorem dX0_whatOf_62 : decode cX0_whatOf 62 = .ok (.iconst (-1), 1) := by decide +kernel
theorem dX0_whatOf_63 : decode cX0_whatOf 63 = .ok (.ireturn, 1) := by decide +kernel
def fX0_whatOf (N : Nat) (Z : mZ) (a0 : Int32) (M : mM) : Option (Int32 × mM) := if a0 = nI 98 then some ((3 : Int32), M) else if a0 = nI 100 then some ((2 : Int32), M) else if a0 = nI 101 then some ((0 : Int32), M) else if a0 = nI 108 then some ((5 : Int32), M) else if a0 = nI 116 then some ((4 : Int32), M) else some ((-1 : Int32), M)
set_option maxHeartbeats 4000000 in
set_option maxRecDepth 100000 in
theorem ctX0_whatOf {G : mG} {l : Launch} (hl : l.stackTraces = false) (N : Nat) (Z : mZ) {a0 : Int32} {M : mM} {r : Int32} {M' : mM} (h : fX0_whatOf N Z a0 M = some (r, M')) : CT G l yX0_whatOf (.code yX0_whatOf cX0_whatOf 1 (some .int)) rmX0_whatOf [.int a0] Z M (.inl (some (.int r))) Z M' := by
  unfold fX0_whatOf at h
  refine CT.of hl (by decide) (Nat.le_of_ble_eq_true rfl) ?_
  intro p e s m args below meth c C hnm
  refine j_sub (L' := [(0, .int a0)]) [0] rfl ?_
  refine j_iload_n C dX0_whatOf_0 rfl 0 rfl ?_
  by_cases hc1 : a0 = nI 98
  · rw [if_pos hc1] at h
    refine j_lookup C dX0_whatOf_1 (by decide) (off := 55) (by rw [hc1]; rfl) (tgt := 56) (by decide) ?_
    refine j_iconst C dX0_whatOf_56 (v := (3 : Int32)) (by decide) ?_
    cases h
    exact j_iret C rfl (by decide) (by decide) dX0_whatOf_57
  rw [if_neg hc1] at h
  by_cases hc2 : a0 = nI 100
  · rw [if_pos hc2] at h
    refine j_lookup C dX0_whatOf_1 (by decide) (off := 53) (by rw [hc2]; rfl) (tgt := 54) (by decide) ?_
    refine j_iconst C dX0_whatOf_54 (v := (2 : Int32)) (by decide) ?_
    cases h
    exact j_iret C rfl (by decide) (by decide) dX0_whatOf_55
  rw [if_neg hc2] at h
  by_cases hc3 : a0 = nI 101
  · rw [if_pos hc3] at h
    refine j_lookup C dX0_whatOf_1 (by decide) (off := 51) (by rw [hc3]; rfl) (tgt := 52) (by decide) ?_
    refine j_iconst C dX0_whatOf_52 (v := (0 : Int32)) (by decide) ?_
    cases h
    exact j_iret C rfl (by decide) (by decide) dX0_whatOf_53
  rw [if_neg hc3] at h
  by_cases hc4 : a0 = nI 108
  · rw [if_pos hc4] at h
    refine j_lookup C dX0_whatOf_1 (by decide) (off := 59) (by rw [hc4]; rfl) (tgt := 60) (by decide) ?_
    refine j_iconst C dX0_whatOf_60 (v := (5 : Int32)) (by decide) ?_
    cases h
    exact j_iret C rfl (by decide) (by decide) dX0_whatOf_61
  rw [if_neg hc4] at h
  by_cases hc5 : a0 = nI 116
  · rw [if_pos hc5] at h
    refine j_lookup C dX0_whatOf_1 (by decide) (off := 57) (by rw [hc5]; rfl) (tgt := 58) (by decide) ?_
    refine j_iconst C dX0_whatOf_58 (v := (4 : Int32)) (by decide) ?_
    cases h
    exact j_iret C rfl (by decide) (by decide) dX0_whatOf_59
  rw [if_neg hc5] at h
  have q0 : ¬ ((98 : Int) = (a0).toInt) := nI_netoInt (n := 98) (by decide) hc1
  have q1 : ¬ ((100 : Int) = (a0).toInt) := nI_netoInt (n := 100) (by decide) hc2
  have q2 : ¬ ((101 : Int) = (a0).toInt) := nI_netoInt (n := 101) (by decide) hc3
  have q3 : ¬ ((108 : Int) = (a0).toInt) := nI_netoInt (n := 108) (by decide) hc4
  have q4 : ¬ ((116 : Int) = (a0).toInt) := nI_netoInt (n := 116) (by decide) hc5
  refine j_lookup C dX0_whatOf_1 (by decide) (off := 61) (lk_out _ _ _ (by intro q hq; simp at hq; rcases hq with rfl | rfl | rfl | rfl | rfl <;> assumption)) (tgt := 62) (by decide) ?_
  refine j_iconst C dX0_whatOf_62 (v := (-1 : Int32)) (by decide) ?_
  cases h
  exact j_iret C rfl (by decide) (by decide) dX0_whatOf_63
-- ScaffoldPlanner$CommandText readDigit
abbrev rmX0_readDigit : Room := { frames := 1, cells := 0, slots := 0, locals := 20 }
theorem dX0_readDigit_0 : decode cX0_readDigit 0 = .ok (.aload_n 0, 1) := by decide +kernel
theorem dX0_readDigit_1 : decode cX0_readDigit 1 = .ok (.invokevirtual 30, 3) := by decide +kernel
theorem dX0_readDigit_4 : decode cX0_readDigit 4 = .ok (.istore_n 1, 1) := by decide +kernel
theorem dX0_readDigit_5 : decode cX0_readDigit 5 = .ok (.iload_n 1, 1) := by decide +kernel
theorem dX0_readDigit_6 : decode cX0_readDigit 6 = .ok (.bipush 48, 2) := by decide +kernel
theorem dX0_readDigit_8 : decode cX0_readDigit 8 = .ok (.if_icmp .lt 9, 3) := by decide +kernel
theorem dX0_readDigit_11 : decode cX0_readDigit 11 = .ok (.iload_n 1, 1) := by decide +kernel
theorem dX0_readDigit_12 : decode cX0_readDigit 12 = .ok (.bipush 57, 2) := by decide +kernel
theorem dX0_readDigit_14 : decode cX0_readDigit 14 = .ok (.if_icmp .le 5, 3) := by decide +kernel
theorem dX0_readDigit_17 : decode cX0_readDigit 17 = .ok (.iconst (-1), 1) := by decide +kernel
theorem dX0_readDigit_18 : decode cX0_readDigit 18 = .ok (.ireturn, 1) := by decide +kernel
theorem dX0_readDigit_19 : decode cX0_readDigit 19 = .ok (.aload_n 0, 1) := by decide +kernel
theorem dX0_readDigit_20 : decode cX0_readDigit 20 = .ok (.dup, 1) := by decide +kernel
theorem dX0_readDigit_21 : decode cX0_readDigit 21 = .ok (.getfield 15, 3) := by decide +kernel
theorem dX0_readDigit_24 : decode cX0_readDigit 24 = .ok (.iconst 1, 1) := by decide +kernel
theorem dX0_readDigit_25 : decode cX0_readDigit 25 = .ok (.iadd, 1) := by decide +kernel
theorem dX0_readDigit_26 : decode cX0_readDigit 26 = .ok (.putfield 15, 3) := by decide +kernel
theorem dX0_readDigit_29 : decode cX0_readDigit 29 = .ok (.iload_n 1, 1) := by decide +kernel
theorem dX0_readDigit_30 : decode cX0_readDigit 30 = .ok (.bipush 48, 2) := by decide +kernel
theorem dX0_readDigit_32 : decode cX0_readDigit 32 = .ok (.isub, 1) := by decide +kernel
theorem dX0_readDigit_33 : decode cX0_readDigit 33 = .ok (.ireturn, 1) := by decide +kernel
def fX0_readDigit (N : Nat) (Z : mZ) (a0 : Nat) (M : mM) : Option (Int32 × mM) := ck (okO Z a0 0) (bnd2 (fX0_letter N Z a0 M) (fun r2 M2 => if r2 < (48 : Int32) then some ((-1 : Int32), M2) else if r2 ≤ (57 : Int32) then some ((r2 - (48 : Int32)), (sI M2 a0 1 ((M2.1 a0 1) + (1 : Int32)))) else some ((-1 : Int32), M2)))
set_option maxHeartbeats 4000000 in
set_option maxRecDepth 100000 in
theorem ctX0_readDigit {G : mG} {l : Launch} (hl : l.stackTraces = false) (N : Nat) (Z : mZ) {a0 : Nat} {M : mM} {r : Int32} {M' : mM} (h : fX0_readDigit N Z a0 M = some (r, M')) : CT G l yX0_readDigit (.code yX0_readDigit cX0_readDigit 2 (some .int)) rmX0_readDigit [.ref a0] Z M (.inl (some (.int r))) Z M' := by
  unfold fX0_readDigit at h
  refine CT.of hl (by decide) (Nat.le_of_ble_eq_true rfl) ?_
  intro p e s m args below meth c C hnm
  refine j_sub (L' := [(0, .ref a0)]) [0] rfl ?_
  refine j_aload_n C dX0_readDigit_0 rfl 0 rfl ?_
  obtain ⟨ho1, h⟩ := ck_spec h
  obtain ⟨r2, M2, hq2, h⟩ := bnd2_spec h
  refine j_run1 (c_V C (As := []) (rest := []) (ctX0_letter C.2.2.2.2.2.2.2.2.1 N Z hq2) kcRX0_30 oyX0_letter (ci := 0) (T := TX0) (N := 3) rfl (by decide) ho1 ⟨by decide, by decide⟩ ⟨by decide, by decide⟩ (Nat.le_of_ble_eq_true rfl) rfl dX0_readDigit_1) ?_
  refine j_istore_n C dX0_readDigit_4 rfl (by decide) (L' := [(1, .int r2), (0, .ref a0)]) rfl ?_
  refine j_iload_n C dX0_readDigit_5 rfl 0 rfl ?_
  refine j_bipush C dX0_readDigit_6 (v := (48 : Int32)) (by decide) ?_
  refine j_icmp_lt C dX0_readDigit_8 (tgt := 17) (by decide) (fun hc3 => ?_) (fun hc3 => ?_)
  · rw [if_pos hc3] at h
    refine j_iconst C dX0_readDigit_17 (v := (-1 : Int32)) (by decide) ?_
    cases h
    exact j_iret C rfl (by decide) (by decide) dX0_readDigit_18
  · rw [if_neg hc3] at h
    refine j_iload_n C dX0_readDigit_11 rfl 0 rfl ?_
    refine j_bipush C dX0_readDigit_12 (v := (57 : Int32)) (by decide) ?_
    refine j_icmp_le C dX0_readDigit_14 (tgt := 19) (by decide) (fun hc4 => ?_) (fun hc4 => ?_)
    · rw [if_pos hc4] at h
      refine j_aload_n C dX0_readDigit_19 rfl 1 rfl ?_
      refine j_dup C dX0_readDigit_20 rfl ?_
      refine j_getI C (cn := RX0) (T := TX0) (N := 3) (ci := 0) rfl iX0 ho1 1 (by decide) rfl fwRX0_15 dX0_readDigit_21 ?_
      refine j_iconst C dX0_readDigit_24 (v := (1 : Int32)) (by decide) ?_
      refine j_iadd C dX0_readDigit_25 ?_
      refine j_putI C tyX0 tyX0_ok nmX0 (cn := RX0) (T := TX0) (N := 3) (ci := 0) rfl iX0 ho1 1 (by decide) rfl fwRX0_15 ⟨rfl, rfl⟩ dX0_readDigit_26 ?_
      refine j_iload_n C dX0_readDigit_29 rfl 0 rfl ?_
      refine j_bipush C dX0_readDigit_30 (v := (48 : Int32)) (by decide) ?_
      refine j_isub C dX0_readDigit_32 ?_
      cases h
      exact j_iret C rfl (by decide) (by decide) dX0_readDigit_33
    · rw [if_neg hc4] at h
      refine j_iconst C dX0_readDigit_17 (v := (-1 : Int32)) (by decide) ?_
      cases h
      exact j_iret C rfl (by decide) (by decide) dX0_readDigit_18
-- ScaffoldPlanner$Work fill
theorem fwRX7_9 : Cond.fieldLink RX7 9 RX7 (TX7 0).2.1 (TX7 0).2.2.1 ∈ gw := by decide +kernel
theorem fwRX7_15 : Cond.fieldLink RX7 15 RX7 (TX7 1).2.1 (TX7 1).2.2.1 ∈ gw := by decide +kernel
theorem fwRX7_18 : Cond.fieldLink RX7 18 RX7 (TX7 2).2.1 (TX7 2).2.2.1 ∈ gw := by decide +kernel
theorem fwRX7_21 : Cond.fieldLink RX7 21 RX7 (TX7 3).2.1 (TX7 3).2.2.1 ∈ gw := by decide +kernel
theorem fwRX7_24 : Cond.fieldLink RX7 24 RX7 (TX7 4).2.1 (TX7 4).2.2.1 ∈ gw := by decide +kernel
abbrev rmX7_fill : Room := { frames := 0, cells := 0, slots := 0, locals := 0 }
theorem dX7_fill_0 : decode cX7_fill 0 = .ok (.aload_n 0, 1) := by decide +kernel
theorem dX7_fill_1 : decode cX7_fill 1 = .ok (.iload_n 1, 1) := by decide +kernel
theorem dX7_fill_2 : decode cX7_fill 2 = .ok (.putfield 9, 3) := by decide +kernel
theorem dX7_fill_5 : decode cX7_fill 5 = .ok (.aload_n 0, 1) := by decide +kernel
theorem dX7_fill_6 : decode cX7_fill 6 = .ok (.iload_n 2, 1) := by decide +kernel
theorem dX7_fill_7 : decode cX7_fill 7 = .ok (.putfield 15, 3) := by decide +kernel
theorem dX7_fill_10 : decode cX7_fill 10 = .ok (.aload_n 0, 1) := by decide +kernel
theorem dX7_fill_11 : decode cX7_fill 11 = .ok (.iload_n 3, 1) := by decide +kernel
theorem dX7_fill_12 : decode cX7_fill 12 = .ok (.putfield 18, 3) := by decide +kernel
theorem dX7_fill_15 : decode cX7_fill 15 = .ok (.aload_n 0, 1) := by decide +kernel
theorem dX7_fill_16 : decode cX7_fill 16 = .ok (.iconst 1, 1) := by decide +kernel
theorem dX7_fill_17 : decode cX7_fill 17 = .ok (.putfield 21, 3) := by decide +kernel
theorem dX7_fill_20 : decode cX7_fill 20 = .ok (.aload_n 0, 1) := by decide +kernel
theorem dX7_fill_21 : decode cX7_fill 21 = .ok (.iload 4, 2) := by decide +kernel
theorem dX7_fill_23 : decode cX7_fill 23 = .ok (.putfield 24, 3) := by decide +kernel
theorem dX7_fill_26 : decode cX7_fill 26 = .ok (.return_, 1) := by decide +kernel
def fX7_fill (N : Nat) (Z : mZ) (a0 : Nat) (a1 : Int32) (a2 : Int32) (a3 : Int32) (a4 : Int32) (M : mM) : Option (Unit × mM) := ck (okO Z a0 7) (ck (isB a4) (some ((), (sI (sI (sI (sI (sI M a0 0 a1) a0 1 a2) a0 2 a3) a0 3 (1 : Int32)) a0 4 a4))))
set_option maxHeartbeats 4000000 in
set_option maxRecDepth 100000 in
theorem ctX7_fill {G : mG} {l : Launch} (hl : l.stackTraces = false) (N : Nat) (Z : mZ) {a0 : Nat} {a1 : Int32} {a2 : Int32} {a3 : Int32} {a4 : Int32} {M : mM} {r : Unit} {M' : mM} (h : fX7_fill N Z a0 a1 a2 a3 a4 M = some (r, M')) : CT G l yX7_fill (.code yX7_fill cX7_fill 5 none) rmX7_fill [.ref a0, .int a1, .int a2, .int a3, .int a4] Z M (.inl none) Z M' := by
  unfold fX7_fill at h
  refine CT.of hl (by decide) (Nat.le_of_ble_eq_true rfl) ?_
  intro p e s m args below meth c C hnm
  refine j_sub (L' := [(0, .ref a0), (1, .int a1), (2, .int a2), (3, .int a3), (4, .int a4)]) [0, 1, 2, 3, 4] rfl ?_
  refine j_aload_n C dX7_fill_0 rfl 0 rfl ?_
  refine j_iload_n C dX7_fill_1 rfl 1 rfl ?_
  obtain ⟨ho1, h⟩ := ck_spec h
  refine j_putI C tyX7 tyX7_ok nmX7 (cn := RX7) (T := TX7) (N := 5) (ci := 7) rfl iX7 ho1 0 (by decide) rfl fwRX7_9 ⟨rfl, rfl⟩ dX7_fill_2 ?_
  refine j_aload_n C dX7_fill_5 rfl 0 rfl ?_
  refine j_iload_n C dX7_fill_6 rfl 2 rfl ?_
  refine j_putI C tyX7 tyX7_ok nmX7 (cn := RX7) (T := TX7) (N := 5) (ci := 7) rfl iX7 ho1 1 (by decide) rfl fwRX7_15 ⟨rfl, rfl⟩ dX7_fill_7 ?_
  refine j_aload_n C dX7_fill_10 rfl 0 rfl ?_
  refine j_iload_n C dX7_fill_11 rfl 3 rfl ?_
  refine j_putI C tyX7 tyX7_ok nmX7 (cn := RX7) (T := TX7) (N := 5) (ci := 7) rfl iX7 ho1 2 (by decide) rfl fwRX7_18 ⟨rfl, rfl⟩ dX7_fill_12 ?_
  refine j_aload_n C dX7_fill_15 rfl 0 rfl ?_
  refine j_iconst C dX7_fill_16 (v := (1 : Int32)) (by decide) ?_
  refine j_putI C tyX7 tyX7_ok nmX7 (cn := RX7) (T := TX7) (N := 5) (ci := 7) rfl iX7 ho1 3 (by decide) rfl fwRX7_21 ⟨rfl, rfl⟩ dX7_fill_17 ?_
  refine j_aload_n C dX7_fill_20 rfl 0 rfl ?_
  refine j_iload C dX7_fill_21 4 rfl ?_
  obtain ⟨ho2, h⟩ := ck_spec h
  refine j_putI C tyX7 tyX7_ok nmX7 (cn := RX7) (T := TX7) (N := 5) (ci := 7) rfl iX7 ho1 4 (by decide) rfl fwRX7_24 (isB_put ho2) dX7_fill_23 ?_
  cases h
  exact j_vret C rfl (by decide) (by decide) dX7_fill_26
-- ScaffoldPlanner$CommandText isCommandRead
theorem kcRX0_26 : okV RX0 26 yX0_isPassed (.code yX0_isPassed cX0_isPassed 2 (some .boolean)) = true := by decide +kernel
theorem oyX0_isPassed : okY yX0_isPassed 1 := ⟨by decide +kernel, by decide +kernel, by decide +kernel⟩
theorem kcRX0_34 : okS RX0 34 yX0_whatOf (.code yX0_whatOf cX0_whatOf 1 (some .int)) = true := by decide +kernel
theorem oyX0_whatOf : okY yX0_whatOf 1 := ⟨by decide +kernel, by decide +kernel, by decide +kernel⟩
theorem kcRX0_38 : okV RX0 38 yX0_readDigit (.code yX0_readDigit cX0_readDigit 2 (some .int)) = true := by decide +kernel
theorem oyX0_readDigit : okY yX0_readDigit 0 := ⟨by decide +kernel, by decide +kernel, by decide +kernel⟩
theorem kcRX0_41 : okV RX0 41 yX7_fill (.code yX7_fill cX7_fill 5 none) = true := by decide +kernel
theorem oyX7_fill : okY yX7_fill 4 := ⟨by decide +kernel, by decide +kernel, by decide +kernel⟩
theorem fwRX0_47 : Cond.fieldLink RX0 47 RX7 (TX7 2).2.1 (TX7 2).2.2.1 ∈ gw := by decide +kernel
theorem fwRX0_50 : Cond.fieldLink RX0 50 RX7 (TX7 3).2.1 (TX7 3).2.2.1 ∈ gw := by decide +kernel
abbrev rmX0_isCommandRead : Room := { frames := 2, cells := 0, slots := 0, locals := 41 }
theorem dX0_isCommandRead_0 : decode cX0_isCommandRead 0 = .ok (.aload_n 0, 1) := by decide +kernel
theorem dX0_isCommandRead_1 : decode cX0_isCommandRead 1 = .ok (.bipush 45, 2) := by decide +kernel
theorem dX0_isCommandRead_3 : decode cX0_isCommandRead 3 = .ok (.invokevirtual 26, 3) := by decide +kernel
theorem dX0_isCommandRead_6 : decode cX0_isCommandRead 6 = .ok (.istore_n 2, 1) := by decide +kernel
theorem dX0_isCommandRead_7 : decode cX0_isCommandRead 7 = .ok (.aload_n 0, 1) := by decide +kernel
theorem dX0_isCommandRead_8 : decode cX0_isCommandRead 8 = .ok (.invokevirtual 30, 3) := by decide +kernel
theorem dX0_isCommandRead_11 : decode cX0_isCommandRead 11 = .ok (.invokestatic 34, 3) := by decide +kernel
theorem dX0_isCommandRead_14 : decode cX0_isCommandRead 14 = .ok (.istore_n 3, 1) := by decide +kernel
theorem dX0_isCommandRead_15 : decode cX0_isCommandRead 15 = .ok (.iload_n 3, 1) := by decide +kernel
theorem dX0_isCommandRead_16 : decode cX0_isCommandRead 16 = .ok (.iconst (-1), 1) := by decide +kernel
theorem dX0_isCommandRead_17 : decode cX0_isCommandRead 17 = .ok (.if_icmp .ne 5, 3) := by decide +kernel
theorem dX0_isCommandRead_20 : decode cX0_isCommandRead 20 = .ok (.iconst 0, 1) := by decide +kernel
theorem dX0_isCommandRead_21 : decode cX0_isCommandRead 21 = .ok (.ireturn, 1) := by decide +kernel
theorem dX0_isCommandRead_22 : decode cX0_isCommandRead 22 = .ok (.aload_n 0, 1) := by decide +kernel
theorem dX0_isCommandRead_23 : decode cX0_isCommandRead 23 = .ok (.dup, 1) := by decide +kernel
theorem dX0_isCommandRead_24 : decode cX0_isCommandRead 24 = .ok (.getfield 15, 3) := by decide +kernel
theorem dX0_isCommandRead_27 : decode cX0_isCommandRead 27 = .ok (.iconst 1, 1) := by decide +kernel
theorem dX0_isCommandRead_28 : decode cX0_isCommandRead 28 = .ok (.iadd, 1) := by decide +kernel
theorem dX0_isCommandRead_29 : decode cX0_isCommandRead 29 = .ok (.putfield 15, 3) := by decide +kernel
theorem dX0_isCommandRead_32 : decode cX0_isCommandRead 32 = .ok (.aload_n 0, 1) := by decide +kernel
theorem dX0_isCommandRead_33 : decode cX0_isCommandRead 33 = .ok (.invokevirtual 38, 3) := by decide +kernel
theorem dX0_isCommandRead_36 : decode cX0_isCommandRead 36 = .ok (.istore 4, 2) := by decide +kernel
theorem dX0_isCommandRead_38 : decode cX0_isCommandRead 38 = .ok (.iload 4, 2) := by decide +kernel
theorem dX0_isCommandRead_40 : decode cX0_isCommandRead 40 = .ok (.iconst (-1), 1) := by decide +kernel
theorem dX0_isCommandRead_41 : decode cX0_isCommandRead 41 = .ok (.if_icmp .ne 5, 3) := by decide +kernel
theorem dX0_isCommandRead_44 : decode cX0_isCommandRead 44 = .ok (.iconst 0, 1) := by decide +kernel
theorem dX0_isCommandRead_45 : decode cX0_isCommandRead 45 = .ok (.ireturn, 1) := by decide +kernel
theorem dX0_isCommandRead_46 : decode cX0_isCommandRead 46 = .ok (.aload_n 1, 1) := by decide +kernel
theorem dX0_isCommandRead_47 : decode cX0_isCommandRead 47 = .ok (.iload_n 3, 1) := by decide +kernel
theorem dX0_isCommandRead_48 : decode cX0_isCommandRead 48 = .ok (.iload 4, 2) := by decide +kernel
theorem dX0_isCommandRead_50 : decode cX0_isCommandRead 50 = .ok (.iconst 0, 1) := by decide +kernel
theorem dX0_isCommandRead_51 : decode cX0_isCommandRead 51 = .ok (.iload_n 2, 1) := by decide +kernel
theorem dX0_isCommandRead_52 : decode cX0_isCommandRead 52 = .ok (.invokevirtual 41, 3) := by decide +kernel
theorem dX0_isCommandRead_55 : decode cX0_isCommandRead 55 = .ok (.iload_n 3, 1) := by decide +kernel
theorem dX0_isCommandRead_56 : decode cX0_isCommandRead 56 = .ok (.ifCond .ne 5, 3) := by decide +kernel
theorem dX0_isCommandRead_59 : decode cX0_isCommandRead 59 = .ok (.iconst 1, 1) := by decide +kernel
theorem dX0_isCommandRead_60 : decode cX0_isCommandRead 60 = .ok (.ireturn, 1) := by decide +kernel
theorem dX0_isCommandRead_61 : decode cX0_isCommandRead 61 = .ok (.aload_n 0, 1) := by decide +kernel
theorem dX0_isCommandRead_62 : decode cX0_isCommandRead 62 = .ok (.bipush 46, 2) := by decide +kernel
theorem dX0_isCommandRead_64 : decode cX0_isCommandRead 64 = .ok (.invokevirtual 26, 3) := by decide +kernel
theorem dX0_isCommandRead_67 : decode cX0_isCommandRead 67 = .ok (.ifCond .ne 5, 3) := by decide +kernel
theorem dX0_isCommandRead_70 : decode cX0_isCommandRead 70 = .ok (.iconst 0, 1) := by decide +kernel
theorem dX0_isCommandRead_71 : decode cX0_isCommandRead 71 = .ok (.ireturn, 1) := by decide +kernel
theorem dX0_isCommandRead_72 : decode cX0_isCommandRead 72 = .ok (.aload_n 1, 1) := by decide +kernel
theorem dX0_isCommandRead_73 : decode cX0_isCommandRead 73 = .ok (.aload_n 0, 1) := by decide +kernel
theorem dX0_isCommandRead_74 : decode cX0_isCommandRead 74 = .ok (.invokevirtual 38, 3) := by decide +kernel
theorem dX0_isCommandRead_77 : decode cX0_isCommandRead 77 = .ok (.putfield 47, 3) := by decide +kernel
theorem dX0_isCommandRead_80 : decode cX0_isCommandRead 80 = .ok (.aload_n 1, 1) := by decide +kernel
theorem dX0_isCommandRead_81 : decode cX0_isCommandRead 81 = .ok (.getfield 47, 3) := by decide +kernel
theorem dX0_isCommandRead_84 : decode cX0_isCommandRead 84 = .ok (.iconst (-1), 1) := by decide +kernel
theorem dX0_isCommandRead_85 : decode cX0_isCommandRead 85 = .ok (.if_icmp .ne 5, 3) := by decide +kernel
theorem dX0_isCommandRead_88 : decode cX0_isCommandRead 88 = .ok (.iconst 0, 1) := by decide +kernel
theorem dX0_isCommandRead_89 : decode cX0_isCommandRead 89 = .ok (.ireturn, 1) := by decide +kernel
theorem dX0_isCommandRead_90 : decode cX0_isCommandRead 90 = .ok (.iload_n 3, 1) := by decide +kernel
theorem dX0_isCommandRead_91 : decode cX0_isCommandRead 91 = .ok (.iconst 2, 1) := by decide +kernel
theorem dX0_isCommandRead_92 : decode cX0_isCommandRead 92 = .ok (.if_icmp .ne 20, 3) := by decide +kernel
theorem dX0_isCommandRead_95 : decode cX0_isCommandRead 95 = .ok (.aload_n 0, 1) := by decide +kernel
theorem dX0_isCommandRead_96 : decode cX0_isCommandRead 96 = .ok (.bipush 42, 2) := by decide +kernel
theorem dX0_isCommandRead_98 : decode cX0_isCommandRead 98 = .ok (.invokevirtual 26, 3) := by decide +kernel
theorem dX0_isCommandRead_101 : decode cX0_isCommandRead 101 = .ok (.ifCond .eq 11, 3) := by decide +kernel
theorem dX0_isCommandRead_104 : decode cX0_isCommandRead 104 = .ok (.aload_n 1, 1) := by decide +kernel
theorem dX0_isCommandRead_105 : decode cX0_isCommandRead 105 = .ok (.aload_n 0, 1) := by decide +kernel
theorem dX0_isCommandRead_106 : decode cX0_isCommandRead 106 = .ok (.invokevirtual 38, 3) := by decide +kernel
theorem dX0_isCommandRead_109 : decode cX0_isCommandRead 109 = .ok (.putfield 50, 3) := by decide +kernel
theorem dX0_isCommandRead_112 : decode cX0_isCommandRead 112 = .ok (.aload_n 1, 1) := by decide +kernel
theorem dX0_isCommandRead_113 : decode cX0_isCommandRead 113 = .ok (.getfield 50, 3) := by decide +kernel
theorem dX0_isCommandRead_116 : decode cX0_isCommandRead 116 = .ok (.iconst (-1), 1) := by decide +kernel
theorem dX0_isCommandRead_117 : decode cX0_isCommandRead 117 = .ok (.if_icmp .eq 7, 3) := by decide +kernel
theorem dX0_isCommandRead_120 : decode cX0_isCommandRead 120 = .ok (.iconst 1, 1) := by decide +kernel
theorem dX0_isCommandRead_121 : decode cX0_isCommandRead 121 = .ok (.goto 4, 3) := by decide +kernel
theorem dX0_isCommandRead_124 : decode cX0_isCommandRead 124 = .ok (.iconst 0, 1) := by decide +kernel
theorem dX0_isCommandRead_125 : decode cX0_isCommandRead 125 = .ok (.ireturn, 1) := by decide +kernel
def fX0_isCommandRead (N : Nat) (Z : mZ) (a0 : Nat) (a1 : Nat) (M : mM) : Option (Int32 × mM) := ck (okO Z a0 0) (bnd2 (fX0_isPassed N Z a0 (45 : Int32) M) (fun r2 M2 => bnd2 (fX0_letter N Z a0 M2) (fun r3 M3 => bnd2 (fX0_whatOf N Z r3 M3) (fun r4 M4 => if r4 = (-1 : Int32) then some ((0 : Int32), M4) else bnd2 (fX0_readDigit N Z a0 (sI M4 a0 1 ((M4.1 a0 1) + (1 : Int32)))) (fun r6 M6 => if r6 = (-1 : Int32) then some ((0 : Int32), M6) else ck (okO Z a1 7) (bnd2 (fX7_fill N Z a1 r4 r6 (0 : Int32) r2 M6) (fun _ M9 => if r4 = 0 then some ((1 : Int32), M9) else bnd2 (fX0_isPassed N Z a0 (46 : Int32) M9) (fun r11 M11 => if r11 = 0 then some ((0 : Int32), M11) else bnd2 (fX0_readDigit N Z a0 M11) (fun r13 M13 => if ((sI M13 a1 2 r13).1 a1 2) = (-1 : Int32) then some ((0 : Int32), (sI M13 a1 2 r13)) else if r4 = (2 : Int32) then bnd2 (fX0_isPassed N Z a0 (42 : Int32) (sI M13 a1 2 r13)) (fun r16 M16 => if r16 = 0 then if (M16.1 a1 3) = (-1 : Int32) then some ((0 : Int32), M16) else some ((1 : Int32), M16) else bnd2 (fX0_readDigit N Z a0 M16) (fun r19 M19 => if ((sI M19 a1 3 r19).1 a1 3) = (-1 : Int32) then some ((0 : Int32), (sI M19 a1 3 r19)) else some ((1 : Int32), (sI M19 a1 3 r19)))) else if ((sI M13 a1 2 r13).1 a1 3) = (-1 : Int32) then some ((0 : Int32), (sI M13 a1 2 r13)) else some ((1 : Int32), (sI M13 a1 2 r13)))))))))))
set_option maxHeartbeats 4000000 in
set_option maxRecDepth 100000 in
theorem ctX0_isCommandRead {G : mG} {l : Launch} (hl : l.stackTraces = false) (N : Nat) (Z : mZ) {a0 : Nat} {a1 : Nat} {M : mM} {r : Int32} {M' : mM} (h : fX0_isCommandRead N Z a0 a1 M = some (r, M')) : CT G l yX0_isCommandRead (.code yX0_isCommandRead cX0_isCommandRead 5 (some .boolean)) rmX0_isCommandRead [.ref a0, .ref a1] Z M (.inl (some (.int r))) Z M' := by
  unfold fX0_isCommandRead at h
  refine CT.of hl (by decide) (Nat.le_of_ble_eq_true rfl) ?_
  intro p e s m args below meth c C hnm
  refine j_sub (L' := [(0, .ref a0), (1, .ref a1)]) [0, 1] rfl ?_
  refine j_aload_n C dX0_isCommandRead_0 rfl 0 rfl ?_
  refine j_bipush C dX0_isCommandRead_1 (v := (45 : Int32)) (by decide) ?_
  obtain ⟨ho1, h⟩ := ck_spec h
  obtain ⟨r2, M2, hq2, h⟩ := bnd2_spec h
  refine j_run1 (c_V C (As := [.int (45 : Int32)]) (rest := []) (ctX0_isPassed C.2.2.2.2.2.2.2.2.1 N Z hq2) kcRX0_26 oyX0_isPassed (ci := 0) (T := TX0) (N := 3) rfl (by decide) ho1 ⟨by decide, by decide⟩ ⟨by decide, by decide⟩ (Nat.le_of_ble_eq_true rfl) rfl dX0_isCommandRead_3) ?_
  refine j_istore_n C dX0_isCommandRead_6 rfl (by decide) (L' := [(2, .int r2), (0, .ref a0), (1, .ref a1)]) rfl ?_
  refine j_aload_n C dX0_isCommandRead_7 rfl 1 rfl ?_
  obtain ⟨r3, M3, hq3, h⟩ := bnd2_spec h
  refine j_run1 (c_V C (As := []) (rest := []) (ctX0_letter C.2.2.2.2.2.2.2.2.1 N Z hq3) kcRX0_30 oyX0_letter (ci := 0) (T := TX0) (N := 3) rfl (by decide) ho1 ⟨by decide, by decide⟩ ⟨by decide, by decide⟩ (Nat.le_of_ble_eq_true rfl) rfl dX0_isCommandRead_8) ?_
  obtain ⟨r4, M4, hq4, h⟩ := bnd2_spec h
  refine j_run1 (c_S C (As := [.int r3]) (rest := []) (ctX0_whatOf C.2.2.2.2.2.2.2.2.1 N Z hq4) kcRX0_34 oyX0_whatOf ⟨by decide, by decide⟩ ⟨by decide, by decide⟩ (Nat.le_of_ble_eq_true rfl) rfl dX0_isCommandRead_11) ?_
  refine j_istore_n C dX0_isCommandRead_14 rfl (by decide) (L' := [(3, .int r4), (2, .int r2), (0, .ref a0), (1, .ref a1)]) rfl ?_
  refine j_iload_n C dX0_isCommandRead_15 rfl 0 rfl ?_
  refine j_iconst C dX0_isCommandRead_16 (v := (-1 : Int32)) (by decide) ?_
  refine j_icmp_ne C dX0_isCommandRead_17 (tgt := 22) (by decide) (fun hc5 => ?_) (fun hc5 => ?_)
  · rw [if_neg hc5] at h
    refine j_aload_n C dX0_isCommandRead_22 rfl 2 rfl ?_
    refine j_dup C dX0_isCommandRead_23 rfl ?_
    refine j_getI C (cn := RX0) (T := TX0) (N := 3) (ci := 0) rfl iX0 ho1 1 (by decide) rfl fwRX0_15 dX0_isCommandRead_24 ?_
    refine j_iconst C dX0_isCommandRead_27 (v := (1 : Int32)) (by decide) ?_
    refine j_iadd C dX0_isCommandRead_28 ?_
    refine j_putI C tyX0 tyX0_ok nmX0 (cn := RX0) (T := TX0) (N := 3) (ci := 0) rfl iX0 ho1 1 (by decide) rfl fwRX0_15 ⟨rfl, rfl⟩ dX0_isCommandRead_29 ?_
    refine j_aload_n C dX0_isCommandRead_32 rfl 2 rfl ?_
    obtain ⟨r6, M6, hq6, h⟩ := bnd2_spec h
    refine j_run1 (c_V C (As := []) (rest := []) (ctX0_readDigit C.2.2.2.2.2.2.2.2.1 N Z hq6) kcRX0_38 oyX0_readDigit (ci := 0) (T := TX0) (N := 3) rfl (by decide) ho1 ⟨by decide, by decide⟩ ⟨by decide, by decide⟩ (Nat.le_of_ble_eq_true rfl) rfl dX0_isCommandRead_33) ?_
    refine j_istore C dX0_isCommandRead_36 (by decide) (L' := [(4, .int r6), (3, .int r4), (2, .int r2), (0, .ref a0), (1, .ref a1)]) rfl ?_
    refine j_iload C dX0_isCommandRead_38 0 rfl ?_
    refine j_iconst C dX0_isCommandRead_40 (v := (-1 : Int32)) (by decide) ?_
    refine j_icmp_ne C dX0_isCommandRead_41 (tgt := 46) (by decide) (fun hc7 => ?_) (fun hc7 => ?_)
    · rw [if_neg hc7] at h
      refine j_aload_n C dX0_isCommandRead_46 rfl 4 rfl ?_
      refine j_iload_n C dX0_isCommandRead_47 rfl 1 rfl ?_
      refine j_iload C dX0_isCommandRead_48 0 rfl ?_
      refine j_iconst C dX0_isCommandRead_50 (v := (0 : Int32)) (by decide) ?_
      refine j_iload_n C dX0_isCommandRead_51 rfl 2 rfl ?_
      obtain ⟨ho8, h⟩ := ck_spec h
      obtain ⟨_, M9, hq9, h⟩ := bnd2_spec h
      refine j_run0 (c_V C (As := [.int r4, .int r6, .int (0 : Int32), .int r2]) (rest := []) (ctX7_fill C.2.2.2.2.2.2.2.2.1 N Z hq9) kcRX0_41 oyX7_fill (ci := 7) (T := TX7) (N := 5) rfl (by decide) ho8 ⟨by decide, by decide⟩ ⟨by decide, by decide⟩ (Nat.le_of_ble_eq_true rfl) rfl dX0_isCommandRead_52) ?_
      refine j_iload_n C dX0_isCommandRead_55 rfl 1 rfl ?_
      refine j_if_ne C dX0_isCommandRead_56 (tgt := 61) (by decide) (fun hc10 => ?_) (fun hc10 => ?_)
      · rw [if_neg hc10] at h
        refine j_aload_n C dX0_isCommandRead_61 rfl 3 rfl ?_
        refine j_bipush C dX0_isCommandRead_62 (v := (46 : Int32)) (by decide) ?_
        obtain ⟨r11, M11, hq11, h⟩ := bnd2_spec h
        refine j_run1 (c_V C (As := [.int (46 : Int32)]) (rest := []) (ctX0_isPassed C.2.2.2.2.2.2.2.2.1 N Z hq11) kcRX0_26 oyX0_isPassed (ci := 0) (T := TX0) (N := 3) rfl (by decide) ho1 ⟨by decide, by decide⟩ ⟨by decide, by decide⟩ (Nat.le_of_ble_eq_true rfl) rfl dX0_isCommandRead_64) ?_
        refine j_if_ne C dX0_isCommandRead_67 (tgt := 72) (by decide) (fun hc12 => ?_) (fun hc12 => ?_)
        · rw [if_neg hc12] at h
          refine j_aload_n C dX0_isCommandRead_72 rfl 4 rfl ?_
          refine j_aload_n C dX0_isCommandRead_73 rfl 3 rfl ?_
          obtain ⟨r13, M13, hq13, h⟩ := bnd2_spec h
          refine j_run1 (c_V C (As := []) (rest := [.ref a1]) (ctX0_readDigit C.2.2.2.2.2.2.2.2.1 N Z hq13) kcRX0_38 oyX0_readDigit (ci := 0) (T := TX0) (N := 3) rfl (by decide) ho1 ⟨by decide, by decide⟩ ⟨by decide, by decide⟩ (Nat.le_of_ble_eq_true rfl) rfl dX0_isCommandRead_74) ?_
          refine j_putI C tyX7 tyX7_ok nmX7 (cn := RX7) (T := TX7) (N := 5) (ci := 7) rfl iX7 ho8 2 (by decide) rfl fwRX0_47 ⟨rfl, rfl⟩ dX0_isCommandRead_77 ?_
          refine j_aload_n C dX0_isCommandRead_80 rfl 4 rfl ?_
          refine j_getI C (cn := RX7) (T := TX7) (N := 5) (ci := 7) rfl iX7 ho8 2 (by decide) rfl fwRX0_47 dX0_isCommandRead_81 ?_
          refine j_iconst C dX0_isCommandRead_84 (v := (-1 : Int32)) (by decide) ?_
          refine j_icmp_ne C dX0_isCommandRead_85 (tgt := 90) (by decide) (fun hc14 => ?_) (fun hc14 => ?_)
          · rw [if_neg hc14] at h
            refine j_iload_n C dX0_isCommandRead_90 rfl 1 rfl ?_
            refine j_iconst C dX0_isCommandRead_91 (v := (2 : Int32)) (by decide) ?_
            refine j_icmp_ne C dX0_isCommandRead_92 (tgt := 112) (by decide) (fun hc15 => ?_) (fun hc15 => ?_)
            · rw [if_neg hc15] at h
              refine j_aload_n C dX0_isCommandRead_112 rfl 4 rfl ?_
              refine j_getI C (cn := RX7) (T := TX7) (N := 5) (ci := 7) rfl iX7 ho8 3 (by decide) rfl fwRX0_50 dX0_isCommandRead_113 ?_
              refine j_iconst C dX0_isCommandRead_116 (v := (-1 : Int32)) (by decide) ?_
              refine j_icmp_eq C dX0_isCommandRead_117 (tgt := 124) (by decide) (fun hc21 => ?_) (fun hc21 => ?_)
              · rw [if_pos hc21] at h
                refine j_iconst C dX0_isCommandRead_124 (v := (0 : Int32)) (by decide) ?_
                cases h
                exact j_zret C rfl (by decide) (by decide) (by decide) dX0_isCommandRead_125
              · rw [if_neg hc21] at h
                refine j_iconst C dX0_isCommandRead_120 (v := (1 : Int32)) (by decide) ?_
                refine j_goto C dX0_isCommandRead_121 (tgt := 125) (by decide) ?_
                cases h
                exact j_zret C rfl (by decide) (by decide) (by decide) dX0_isCommandRead_125
            · rw [if_pos hc15] at h
              refine j_aload_n C dX0_isCommandRead_95 rfl 3 rfl ?_
              refine j_bipush C dX0_isCommandRead_96 (v := (42 : Int32)) (by decide) ?_
              obtain ⟨r16, M16, hq16, h⟩ := bnd2_spec h
              refine j_run1 (c_V C (As := [.int (42 : Int32)]) (rest := []) (ctX0_isPassed C.2.2.2.2.2.2.2.2.1 N Z hq16) kcRX0_26 oyX0_isPassed (ci := 0) (T := TX0) (N := 3) rfl (by decide) ho1 ⟨by decide, by decide⟩ ⟨by decide, by decide⟩ (Nat.le_of_ble_eq_true rfl) rfl dX0_isCommandRead_98) ?_
              refine j_if_eq C dX0_isCommandRead_101 (tgt := 112) (by decide) (fun hc17 => ?_) (fun hc17 => ?_)
              · rw [if_pos hc17] at h
                refine j_aload_n C dX0_isCommandRead_112 rfl 4 rfl ?_
                refine j_getI C (cn := RX7) (T := TX7) (N := 5) (ci := 7) rfl iX7 ho8 3 (by decide) rfl fwRX0_50 dX0_isCommandRead_113 ?_
                refine j_iconst C dX0_isCommandRead_116 (v := (-1 : Int32)) (by decide) ?_
                refine j_icmp_eq C dX0_isCommandRead_117 (tgt := 124) (by decide) (fun hc18 => ?_) (fun hc18 => ?_)
                · rw [if_pos hc18] at h
                  refine j_iconst C dX0_isCommandRead_124 (v := (0 : Int32)) (by decide) ?_
                  cases h
                  exact j_zret C rfl (by decide) (by decide) (by decide) dX0_isCommandRead_125
                · rw [if_neg hc18] at h
                  refine j_iconst C dX0_isCommandRead_120 (v := (1 : Int32)) (by decide) ?_
                  refine j_goto C dX0_isCommandRead_121 (tgt := 125) (by decide) ?_
                  cases h
                  exact j_zret C rfl (by decide) (by decide) (by decide) dX0_isCommandRead_125
              · rw [if_neg hc17] at h
                refine j_aload_n C dX0_isCommandRead_104 rfl 4 rfl ?_
                refine j_aload_n C dX0_isCommandRead_105 rfl 3 rfl ?_
                obtain ⟨r19, M19, hq19, h⟩ := bnd2_spec h
                refine j_run1 (c_V C (As := []) (rest := [.ref a1]) (ctX0_readDigit C.2.2.2.2.2.2.2.2.1 N Z hq19) kcRX0_38 oyX0_readDigit (ci := 0) (T := TX0) (N := 3) rfl (by decide) ho1 ⟨by decide, by decide⟩ ⟨by decide, by decide⟩ (Nat.le_of_ble_eq_true rfl) rfl dX0_isCommandRead_106) ?_
                refine j_putI C tyX7 tyX7_ok nmX7 (cn := RX7) (T := TX7) (N := 5) (ci := 7) rfl iX7 ho8 3 (by decide) rfl fwRX0_50 ⟨rfl, rfl⟩ dX0_isCommandRead_109 ?_
                refine j_aload_n C dX0_isCommandRead_112 rfl 4 rfl ?_
                refine j_getI C (cn := RX7) (T := TX7) (N := 5) (ci := 7) rfl iX7 ho8 3 (by decide) rfl fwRX0_50 dX0_isCommandRead_113 ?_
                refine j_iconst C dX0_isCommandRead_116 (v := (-1 : Int32)) (by decide) ?_
                refine j_icmp_eq C dX0_isCommandRead_117 (tgt := 124) (by decide) (fun hc20 => ?_) (fun hc20 => ?_)
                · rw [if_pos hc20] at h
                  refine j_iconst C dX0_isCommandRead_124 (v := (0 : Int32)) (by decide) ?_
                  cases h
                  exact j_zret C rfl (by decide) (by decide) (by decide) dX0_isCommandRead_125
                · rw [if_neg hc20] at h
                  refine j_iconst C dX0_isCommandRead_120 (v := (1 : Int32)) (by decide) ?_
                  refine j_goto C dX0_isCommandRead_121 (tgt := 125) (by decide) ?_
                  cases h
                  exact j_zret C rfl (by decide) (by decide) (by decide) dX0_isCommandRead_125
          · rw [if_pos hc14] at h
            refine j_iconst C dX0_isCommandRead_88 (v := (0 : Int32)) (by decide) ?_
            cases h
            exact j_zret C rfl (by decide) (by decide) (by decide) dX0_isCommandRead_89
        · rw [if_pos hc12] at h
          refine j_iconst C dX0_isCommandRead_70 (v := (0 : Int32)) (by decide) ?_
          cases h
          exact j_zret C rfl (by decide) (by decide) (by decide) dX0_isCommandRead_71
      · rw [if_pos hc10] at h
        refine j_iconst C dX0_isCommandRead_59 (v := (1 : Int32)) (by decide) ?_
        cases h
        exact j_zret C rfl (by decide) (by decide) (by decide) dX0_isCommandRead_60
    · rw [if_pos hc7] at h
      refine j_iconst C dX0_isCommandRead_44 (v := (0 : Int32)) (by decide) ?_
      cases h
      exact j_zret C rfl (by decide) (by decide) (by decide) dX0_isCommandRead_45
  · rw [if_pos hc5] at h
    refine j_iconst C dX0_isCommandRead_20 (v := (0 : Int32)) (by decide) ?_
    cases h
    exact j_zret C rfl (by decide) (by decide) (by decide) dX0_isCommandRead_21
-- ScaffoldPlanner$CommandText errorPosition
theorem kcRX0_22 : okV RX0 22 yX0_isCommandRead (.code yX0_isCommandRead cX0_isCommandRead 5 (some .boolean)) = true := by decide +kernel
theorem oyX0_isCommandRead : okY yX0_isCommandRead 1 := ⟨by decide +kernel, by decide +kernel, by decide +kernel⟩
abbrev rmX0_errorPosition : Room := { frames := 3, cells := 0, slots := 0, locals := 65 }
theorem dX0_errorPosition_0 : decode cX0_errorPosition 0 = .ok (.aload_n 0, 1) := by decide +kernel
theorem dX0_errorPosition_1 : decode cX0_errorPosition 1 = .ok (.iconst 0, 1) := by decide +kernel
theorem dX0_errorPosition_2 : decode cX0_errorPosition 2 = .ok (.putfield 15, 3) := by decide +kernel
theorem dX0_errorPosition_5 : decode cX0_errorPosition 5 = .ok (.iconst 0, 1) := by decide +kernel
theorem dX0_errorPosition_6 : decode cX0_errorPosition 6 = .ok (.istore_n 2, 1) := by decide +kernel
theorem dX0_errorPosition_7 : decode cX0_errorPosition 7 = .ok (.iload_n 2, 1) := by decide +kernel
theorem dX0_errorPosition_8 : decode cX0_errorPosition 8 = .ok (.bipush 80, 2) := by decide +kernel
theorem dX0_errorPosition_10 : decode cX0_errorPosition 10 = .ok (.if_icmp .gt 49, 3) := by decide +kernel
theorem dX0_errorPosition_13 : decode cX0_errorPosition 13 = .ok (.aload_n 0, 1) := by decide +kernel
theorem dX0_errorPosition_14 : decode cX0_errorPosition 14 = .ok (.aload_n 1, 1) := by decide +kernel
theorem dX0_errorPosition_15 : decode cX0_errorPosition 15 = .ok (.invokevirtual 22, 3) := by decide +kernel
theorem dX0_errorPosition_18 : decode cX0_errorPosition 18 = .ok (.ifCond .ne 8, 3) := by decide +kernel
theorem dX0_errorPosition_21 : decode cX0_errorPosition 21 = .ok (.aload_n 0, 1) := by decide +kernel
theorem dX0_errorPosition_22 : decode cX0_errorPosition 22 = .ok (.getfield 15, 3) := by decide +kernel
theorem dX0_errorPosition_25 : decode cX0_errorPosition 25 = .ok (.ireturn, 1) := by decide +kernel
theorem dX0_errorPosition_26 : decode cX0_errorPosition 26 = .ok (.aload_n 0, 1) := by decide +kernel
theorem dX0_errorPosition_27 : decode cX0_errorPosition 27 = .ok (.getfield 15, 3) := by decide +kernel
theorem dX0_errorPosition_30 : decode cX0_errorPosition 30 = .ok (.aload_n 0, 1) := by decide +kernel
theorem dX0_errorPosition_31 : decode cX0_errorPosition 31 = .ok (.getfield 9, 3) := by decide +kernel
theorem dX0_errorPosition_34 : decode cX0_errorPosition 34 = .ok (.if_icmp .ne 5, 3) := by decide +kernel
theorem dX0_errorPosition_37 : decode cX0_errorPosition 37 = .ok (.iconst (-1), 1) := by decide +kernel
theorem dX0_errorPosition_38 : decode cX0_errorPosition 38 = .ok (.ireturn, 1) := by decide +kernel
theorem dX0_errorPosition_39 : decode cX0_errorPosition 39 = .ok (.aload_n 0, 1) := by decide +kernel
theorem dX0_errorPosition_40 : decode cX0_errorPosition 40 = .ok (.bipush 59, 2) := by decide +kernel
theorem dX0_errorPosition_42 : decode cX0_errorPosition 42 = .ok (.invokevirtual 26, 3) := by decide +kernel
theorem dX0_errorPosition_45 : decode cX0_errorPosition 45 = .ok (.ifCond .ne 8, 3) := by decide +kernel
theorem dX0_errorPosition_48 : decode cX0_errorPosition 48 = .ok (.aload_n 0, 1) := by decide +kernel
theorem dX0_errorPosition_49 : decode cX0_errorPosition 49 = .ok (.getfield 15, 3) := by decide +kernel
theorem dX0_errorPosition_52 : decode cX0_errorPosition 52 = .ok (.ireturn, 1) := by decide +kernel
theorem dX0_errorPosition_53 : decode cX0_errorPosition 53 = .ok (.iinc 2 1, 3) := by decide +kernel
theorem dX0_errorPosition_56 : decode cX0_errorPosition 56 = .ok (.goto (-49), 3) := by decide +kernel
theorem dX0_errorPosition_59 : decode cX0_errorPosition 59 = .ok (.aload_n 0, 1) := by decide +kernel
theorem dX0_errorPosition_60 : decode cX0_errorPosition 60 = .ok (.getfield 15, 3) := by decide +kernel
theorem dX0_errorPosition_63 : decode cX0_errorPosition 63 = .ok (.ireturn, 1) := by decide +kernel
def fX0_errorPosition_7 (N : Nat) (Z : mZ) : Nat → Nat → Nat → Int32 → mM → Option (Int32 × mM)
  | 0, _, _, _, _ => none
  | fu + 1, v0, v1, v2, M => if (80 : Int32) < v2 then ck (okO Z v0 0) (some ((M.1 v0 1), M)) else ck (okO Z v0 0) (bnd2 (fX0_isCommandRead N Z v0 v1 M) (fun r5 M5 => if r5 = 0 then some ((M5.1 v0 1), M5) else if (M5.1 v0 1) = (M5.1 v0 0) then some ((-1 : Int32), M5) else bnd2 (fX0_isPassed N Z v0 (59 : Int32) M5) (fun r8 M8 => if r8 = 0 then some ((M8.1 v0 1), M8) else fX0_errorPosition_7 N Z fu v0 v1 (v2 + (1 : Int32)) M8)))
set_option maxHeartbeats 4000000 in
set_option maxRecDepth 100000 in
theorem tX0_errorPosition_7 {G : mG} {p : Program} {l : Launch} {e : Env} {s : State} {m : MethodId} {args : Array Value} {below : List Frame} {meth : Method} {c : Code} (C : Cx G p l s m args meth c RX0 cX0_errorPosition 3 (some .int) []) (hnm : meth.name = yX0_errorPosition.name) (N : Nat) (Z : mZ) : ∀ (fu : Nat) (v0 : Nat) (v1 : Nat) (v2 : Int32) (M : mM) (r : Int32) (M' : mM), fX0_errorPosition_7 N Z fu v0 v1 v2 M = some (r, M') → JJ G p l e rmX0_errorPosition s m args below meth c 3 (mEnd G below args s rmX0_errorPosition (.inl (some (.int r))) Z M') 0 0 7 [(0, .ref v0), (1, .ref v1), (2, .int v2)] [] Z M := by
  intro fu
  induction fu with
  | zero =>
    intro v0 v1 v2 M r M' h
    cases h
  | succ fu ih =>
    intro v0 v1 v2 M r M' h
    rw [fX0_errorPosition_7] at h
    refine j_iload_n C dX0_errorPosition_7 rfl 2 rfl ?_
    refine j_bipush C dX0_errorPosition_8 (v := (80 : Int32)) (by decide) ?_
    refine j_icmp_gt C dX0_errorPosition_10 (tgt := 59) (by decide) (fun hc2 => ?_) (fun hc2 => ?_)
    · rw [if_pos hc2] at h
      refine j_aload_n C dX0_errorPosition_59 rfl 0 rfl ?_
      obtain ⟨ho3, h⟩ := ck_spec h
      refine j_getI C (cn := RX0) (T := TX0) (N := 3) (ci := 0) rfl iX0 ho3 1 (by decide) rfl fwRX0_15 dX0_errorPosition_60 ?_
      cases h
      exact j_iret C rfl (by decide) (by decide) dX0_errorPosition_63
    · rw [if_neg hc2] at h
      refine j_aload_n C dX0_errorPosition_13 rfl 0 rfl ?_
      refine j_aload_n C dX0_errorPosition_14 rfl 1 rfl ?_
      obtain ⟨ho4, h⟩ := ck_spec h
      obtain ⟨r5, M5, hq5, h⟩ := bnd2_spec h
      refine j_run1 (c_V C (As := [.ref v1]) (rest := []) (ctX0_isCommandRead C.2.2.2.2.2.2.2.2.1 N Z hq5) kcRX0_22 oyX0_isCommandRead (ci := 0) (T := TX0) (N := 3) rfl (by decide) ho4 ⟨by decide, by decide⟩ ⟨by decide, by decide⟩ (Nat.le_of_ble_eq_true rfl) rfl dX0_errorPosition_15) ?_
      refine j_if_ne C dX0_errorPosition_18 (tgt := 26) (by decide) (fun hc6 => ?_) (fun hc6 => ?_)
      · rw [if_neg hc6] at h
        refine j_aload_n C dX0_errorPosition_26 rfl 0 rfl ?_
        refine j_getI C (cn := RX0) (T := TX0) (N := 3) (ci := 0) rfl iX0 ho4 1 (by decide) rfl fwRX0_15 dX0_errorPosition_27 ?_
        refine j_aload_n C dX0_errorPosition_30 rfl 0 rfl ?_
        refine j_getI C (cn := RX0) (T := TX0) (N := 3) (ci := 0) rfl iX0 ho4 0 (by decide) rfl fwRX0_9 dX0_errorPosition_31 ?_
        refine j_icmp_ne C dX0_errorPosition_34 (tgt := 39) (by decide) (fun hc7 => ?_) (fun hc7 => ?_)
        · rw [if_neg hc7] at h
          refine j_aload_n C dX0_errorPosition_39 rfl 0 rfl ?_
          refine j_bipush C dX0_errorPosition_40 (v := (59 : Int32)) (by decide) ?_
          obtain ⟨r8, M8, hq8, h⟩ := bnd2_spec h
          refine j_run1 (c_V C (As := [.int (59 : Int32)]) (rest := []) (ctX0_isPassed C.2.2.2.2.2.2.2.2.1 N Z hq8) kcRX0_26 oyX0_isPassed (ci := 0) (T := TX0) (N := 3) rfl (by decide) ho4 ⟨by decide, by decide⟩ ⟨by decide, by decide⟩ (Nat.le_of_ble_eq_true rfl) rfl dX0_errorPosition_42) ?_
          refine j_if_ne C dX0_errorPosition_45 (tgt := 53) (by decide) (fun hc9 => ?_) (fun hc9 => ?_)
          · rw [if_neg hc9] at h
            refine j_iinc C dX0_errorPosition_53 2 rfl (v := (v2 + (1 : Int32))) (by first | rfl | decide) (by decide) (L' := [(2, .int (v2 + (1 : Int32))), (0, .ref v0), (1, .ref v1)]) rfl ?_
            refine j_goto C dX0_errorPosition_56 (tgt := 7) (by decide) ?_
            refine j_sub (L' := [(0, .ref v0), (1, .ref v1), (2, .int (v2 + (1 : Int32)))]) [1, 2, 0] rfl ?_
            exact ih v0 v1 (v2 + (1 : Int32)) M8 r M' h
          · rw [if_pos hc9] at h
            refine j_aload_n C dX0_errorPosition_48 rfl 0 rfl ?_
            refine j_getI C (cn := RX0) (T := TX0) (N := 3) (ci := 0) rfl iX0 ho4 1 (by decide) rfl fwRX0_15 dX0_errorPosition_49 ?_
            cases h
            exact j_iret C rfl (by decide) (by decide) dX0_errorPosition_52
        · rw [if_pos hc7] at h
          refine j_iconst C dX0_errorPosition_37 (v := (-1 : Int32)) (by decide) ?_
          cases h
          exact j_iret C rfl (by decide) (by decide) dX0_errorPosition_38
      · rw [if_pos hc6] at h
        refine j_aload_n C dX0_errorPosition_21 rfl 0 rfl ?_
        refine j_getI C (cn := RX0) (T := TX0) (N := 3) (ci := 0) rfl iX0 ho4 1 (by decide) rfl fwRX0_15 dX0_errorPosition_22 ?_
        cases h
        exact j_iret C rfl (by decide) (by decide) dX0_errorPosition_25
def fX0_errorPosition (N : Nat) (Z : mZ) (a0 : Nat) (a1 : Nat) (M : mM) : Option (Int32 × mM) := ck (okO Z a0 0) (fX0_errorPosition_7 N Z N a0 a1 (0 : Int32) (sI M a0 1 (0 : Int32)))
set_option maxHeartbeats 4000000 in
set_option maxRecDepth 100000 in
theorem ctX0_errorPosition {G : mG} {l : Launch} (hl : l.stackTraces = false) (N : Nat) (Z : mZ) {a0 : Nat} {a1 : Nat} {M : mM} {r : Int32} {M' : mM} (h : fX0_errorPosition N Z a0 a1 M = some (r, M')) : CT G l yX0_errorPosition (.code yX0_errorPosition cX0_errorPosition 3 (some .int)) rmX0_errorPosition [.ref a0, .ref a1] Z M (.inl (some (.int r))) Z M' := by
  unfold fX0_errorPosition at h
  refine CT.of hl (by decide) (Nat.le_of_ble_eq_true rfl) ?_
  intro p e s m args below meth c C hnm
  refine j_sub (L' := [(0, .ref a0), (1, .ref a1)]) [0, 1] rfl ?_
  refine j_aload_n C dX0_errorPosition_0 rfl 0 rfl ?_
  refine j_iconst C dX0_errorPosition_1 (v := (0 : Int32)) (by decide) ?_
  obtain ⟨ho1, h⟩ := ck_spec h
  refine j_putI C tyX0 tyX0_ok nmX0 (cn := RX0) (T := TX0) (N := 3) (ci := 0) rfl iX0 ho1 1 (by decide) rfl fwRX0_15 ⟨rfl, rfl⟩ dX0_errorPosition_2 ?_
  refine j_iconst C dX0_errorPosition_5 (v := (0 : Int32)) (by decide) ?_
  refine j_istore_n C dX0_errorPosition_6 rfl (by decide) (L' := [(2, .int (0 : Int32)), (0, .ref a0), (1, .ref a1)]) rfl ?_
  refine j_sub (L' := [(0, .ref a0), (1, .ref a1), (2, .int (0 : Int32))]) [1, 2, 0] rfl ?_
  exact tX0_errorPosition_7 C hnm N Z N a0 a1 (0 : Int32) (sI M a0 1 (0 : Int32)) _ _ h
-- ScaffoldPlanner at
abbrev rmX8_at : Room := { frames := 0, cells := 0, slots := 0, locals := 0 }
theorem dX8_at_0 : decode cX8_at 0 = .ok (.iload_n 1, 1) := by decide +kernel
theorem dX8_at_1 : decode cX8_at 1 = .ok (.ifCond .lt 15, 3) := by decide +kernel
theorem dX8_at_4 : decode cX8_at 4 = .ok (.iload_n 1, 1) := by decide +kernel
theorem dX8_at_5 : decode cX8_at 5 = .ok (.aload_n 0, 1) := by decide +kernel
theorem dX8_at_6 : decode cX8_at 6 = .ok (.arraylength, 1) := by decide +kernel
theorem dX8_at_7 : decode cX8_at 7 = .ok (.if_icmp .ge 9, 3) := by decide +kernel
theorem dX8_at_10 : decode cX8_at 10 = .ok (.aload_n 0, 1) := by decide +kernel
theorem dX8_at_11 : decode cX8_at 11 = .ok (.iload_n 1, 1) := by decide +kernel
theorem dX8_at_12 : decode cX8_at 12 = .ok (.iaload, 1) := by decide +kernel
theorem dX8_at_13 : decode cX8_at 13 = .ok (.goto 4, 3) := by decide +kernel
theorem dX8_at_16 : decode cX8_at 16 = .ok (.iconst 0, 1) := by decide +kernel
theorem dX8_at_17 : decode cX8_at 17 = .ok (.ireturn, 1) := by decide +kernel
def fX8_at (N : Nat) (Z : mZ) (a0 : Nat) (a1 : Int32) (M : mM) : Option (Int32 × mM) := if a1 < 0 then some ((0 : Int32), M) else ck (okI Z a0) (if (Int32.ofNat (Z.2.2.1 a0)) ≤ a1 then some ((0 : Int32), M) else ck (inB a1 (Z.2.2.1 a0)) (some ((M.1 a0 (a1).toNatClampNeg), M)))
set_option maxHeartbeats 4000000 in
set_option maxRecDepth 100000 in
theorem ctX8_at {G : mG} {l : Launch} (hl : l.stackTraces = false) (N : Nat) (Z : mZ) {a0 : Nat} {a1 : Int32} {M : mM} {r : Int32} {M' : mM} (h : fX8_at N Z a0 a1 M = some (r, M')) : CT G l yX8_at (.code yX8_at cX8_at 2 (some .int)) rmX8_at [.ref a0, .int a1] Z M (.inl (some (.int r))) Z M' := by
  unfold fX8_at at h
  refine CT.of hl (by decide) (Nat.le_of_ble_eq_true rfl) ?_
  intro p e s m args below meth c C hnm
  refine j_sub (L' := [(0, .ref a0), (1, .int a1)]) [0, 1] rfl ?_
  refine j_iload_n C dX8_at_0 rfl 1 rfl ?_
  refine j_if_lt C dX8_at_1 (tgt := 16) (by decide) (fun hc1 => ?_) (fun hc1 => ?_)
  · rw [if_pos hc1] at h
    refine j_iconst C dX8_at_16 (v := (0 : Int32)) (by decide) ?_
    cases h
    exact j_iret C rfl (by decide) (by decide) dX8_at_17
  · rw [if_neg hc1] at h
    refine j_iload_n C dX8_at_4 rfl 1 rfl ?_
    refine j_aload_n C dX8_at_5 rfl 0 rfl ?_
    obtain ⟨ho2, h⟩ := ck_spec h
    refine j_alen C ho2 dX8_at_6 ?_
    refine j_icmp_ge C dX8_at_7 (tgt := 16) (by decide) (fun hc3 => ?_) (fun hc3 => ?_)
    · rw [if_pos hc3] at h
      refine j_iconst C dX8_at_16 (v := (0 : Int32)) (by decide) ?_
      cases h
      exact j_iret C rfl (by decide) (by decide) dX8_at_17
    · rw [if_neg hc3] at h
      refine j_aload_n C dX8_at_10 rfl 0 rfl ?_
      refine j_iload_n C dX8_at_11 rfl 1 rfl ?_
      obtain ⟨ho4, h⟩ := ck_spec h
      refine j_iald C ho2 ho4 dX8_at_12 ?_
      refine j_goto C dX8_at_13 (tgt := 17) (by decide) ?_
      cases h
      exact j_iret C rfl (by decide) (by decide) dX8_at_17
-- ScaffoldPlanner$Plan begin
theorem fwRX4_9 : Cond.fieldLink RX4 9 RX4 (TX4 0).2.1 (TX4 0).2.2.1 ∈ gw := by decide +kernel
theorem fwRX4_15 : Cond.fieldLink RX4 15 RX4 (TX4 1).2.1 (TX4 1).2.2.1 ∈ gw := by decide +kernel
theorem fwRX4_18 : Cond.fieldLink RX4 18 RX4 (TX4 2).2.1 (TX4 2).2.2.1 ∈ gw := by decide +kernel
theorem fwRX4_22 : Cond.fieldLink RX4 22 RX4 (TX4 3).2.1 (TX4 3).2.2.1 ∈ gw := by decide +kernel
theorem fwRX4_25 : Cond.fieldLink RX4 25 RX4 (TX4 4).2.1 (TX4 4).2.2.1 ∈ gw := by decide +kernel
theorem fwRX4_28 : Cond.fieldLink RX4 28 RX4 (TX4 5).2.1 (TX4 5).2.2.1 ∈ gw := by decide +kernel
theorem fwRX4_31 : Cond.fieldLink RX4 31 RX4 (TX4 6).2.1 (TX4 6).2.2.1 ∈ gw := by decide +kernel
theorem fwRX4_38 : Cond.fieldLinkNest RX4 38 RX8 "FIRST_RULES" "[I" "ScaffoldPlanner" ∈ nw := by decide +kernel
theorem kcRX4_41 : okSN RX4 41 yX8_at "ScaffoldPlanner" (.code yX8_at cX8_at 2 (some .int)) = true := by decide +kernel
theorem oyX8_at : okY yX8_at 2 := ⟨by decide +kernel, by decide +kernel, by decide +kernel⟩
abbrev rmX4_begin : Room := { frames := 1, cells := 0, slots := 0, locals := 21 }
theorem dX4_begin_0 : decode cX4_begin 0 = .ok (.aload_n 0, 1) := by decide +kernel
theorem dX4_begin_1 : decode cX4_begin 1 = .ok (.iload_n 1, 1) := by decide +kernel
theorem dX4_begin_2 : decode cX4_begin 2 = .ok (.putfield 9, 3) := by decide +kernel
theorem dX4_begin_5 : decode cX4_begin 5 = .ok (.aload_n 0, 1) := by decide +kernel
theorem dX4_begin_6 : decode cX4_begin 6 = .ok (.iconst 0, 1) := by decide +kernel
theorem dX4_begin_7 : decode cX4_begin 7 = .ok (.putfield 15, 3) := by decide +kernel
theorem dX4_begin_10 : decode cX4_begin 10 = .ok (.iconst 0, 1) := by decide +kernel
theorem dX4_begin_11 : decode cX4_begin 11 = .ok (.istore_n 2, 1) := by decide +kernel
theorem dX4_begin_12 : decode cX4_begin 12 = .ok (.iload_n 2, 1) := by decide +kernel
theorem dX4_begin_13 : decode cX4_begin 13 = .ok (.aload_n 0, 1) := by decide +kernel
theorem dX4_begin_14 : decode cX4_begin 14 = .ok (.getfield 18, 3) := by decide +kernel
theorem dX4_begin_17 : decode cX4_begin 17 = .ok (.arraylength, 1) := by decide +kernel
theorem dX4_begin_18 : decode cX4_begin 18 = .ok (.if_icmp .ge 16, 3) := by decide +kernel
theorem dX4_begin_21 : decode cX4_begin 21 = .ok (.aload_n 0, 1) := by decide +kernel
theorem dX4_begin_22 : decode cX4_begin 22 = .ok (.getfield 18, 3) := by decide +kernel
theorem dX4_begin_25 : decode cX4_begin 25 = .ok (.iload_n 2, 1) := by decide +kernel
theorem dX4_begin_26 : decode cX4_begin 26 = .ok (.iconst 0, 1) := by decide +kernel
theorem dX4_begin_27 : decode cX4_begin 27 = .ok (.iastore, 1) := by decide +kernel
theorem dX4_begin_28 : decode cX4_begin 28 = .ok (.iinc 2 1, 3) := by decide +kernel
theorem dX4_begin_31 : decode cX4_begin 31 = .ok (.goto (-19), 3) := by decide +kernel
theorem dX4_begin_34 : decode cX4_begin 34 = .ok (.iconst 0, 1) := by decide +kernel
theorem dX4_begin_35 : decode cX4_begin 35 = .ok (.istore_n 2, 1) := by decide +kernel
theorem dX4_begin_36 : decode cX4_begin 36 = .ok (.iload_n 2, 1) := by decide +kernel
theorem dX4_begin_37 : decode cX4_begin 37 = .ok (.aload_n 0, 1) := by decide +kernel
theorem dX4_begin_38 : decode cX4_begin 38 = .ok (.getfield 22, 3) := by decide +kernel
theorem dX4_begin_41 : decode cX4_begin 41 = .ok (.arraylength, 1) := by decide +kernel
theorem dX4_begin_42 : decode cX4_begin 42 = .ok (.if_icmp .ge 16, 3) := by decide +kernel
theorem dX4_begin_45 : decode cX4_begin 45 = .ok (.aload_n 0, 1) := by decide +kernel
theorem dX4_begin_46 : decode cX4_begin 46 = .ok (.getfield 22, 3) := by decide +kernel
theorem dX4_begin_49 : decode cX4_begin 49 = .ok (.iload_n 2, 1) := by decide +kernel
theorem dX4_begin_50 : decode cX4_begin 50 = .ok (.iconst 0, 1) := by decide +kernel
theorem dX4_begin_51 : decode cX4_begin 51 = .ok (.iastore, 1) := by decide +kernel
theorem dX4_begin_52 : decode cX4_begin 52 = .ok (.iinc 2 1, 3) := by decide +kernel
theorem dX4_begin_55 : decode cX4_begin 55 = .ok (.goto (-19), 3) := by decide +kernel
theorem dX4_begin_58 : decode cX4_begin 58 = .ok (.iconst 0, 1) := by decide +kernel
theorem dX4_begin_59 : decode cX4_begin 59 = .ok (.istore_n 2, 1) := by decide +kernel
theorem dX4_begin_60 : decode cX4_begin 60 = .ok (.iload_n 2, 1) := by decide +kernel
theorem dX4_begin_61 : decode cX4_begin 61 = .ok (.aload_n 0, 1) := by decide +kernel
theorem dX4_begin_62 : decode cX4_begin 62 = .ok (.getfield 25, 3) := by decide +kernel
theorem dX4_begin_65 : decode cX4_begin 65 = .ok (.arraylength, 1) := by decide +kernel
theorem dX4_begin_66 : decode cX4_begin 66 = .ok (.if_icmp .ge 16, 3) := by decide +kernel
theorem dX4_begin_69 : decode cX4_begin 69 = .ok (.aload_n 0, 1) := by decide +kernel
theorem dX4_begin_70 : decode cX4_begin 70 = .ok (.getfield 25, 3) := by decide +kernel
theorem dX4_begin_73 : decode cX4_begin 73 = .ok (.iload_n 2, 1) := by decide +kernel
theorem dX4_begin_74 : decode cX4_begin 74 = .ok (.iconst 0, 1) := by decide +kernel
theorem dX4_begin_75 : decode cX4_begin 75 = .ok (.iastore, 1) := by decide +kernel
theorem dX4_begin_76 : decode cX4_begin 76 = .ok (.iinc 2 1, 3) := by decide +kernel
theorem dX4_begin_79 : decode cX4_begin 79 = .ok (.goto (-19), 3) := by decide +kernel
theorem dX4_begin_82 : decode cX4_begin 82 = .ok (.iconst 0, 1) := by decide +kernel
theorem dX4_begin_83 : decode cX4_begin 83 = .ok (.istore_n 2, 1) := by decide +kernel
theorem dX4_begin_84 : decode cX4_begin 84 = .ok (.iload_n 2, 1) := by decide +kernel
theorem dX4_begin_85 : decode cX4_begin 85 = .ok (.aload_n 0, 1) := by decide +kernel
theorem dX4_begin_86 : decode cX4_begin 86 = .ok (.getfield 28, 3) := by decide +kernel
theorem dX4_begin_89 : decode cX4_begin 89 = .ok (.arraylength, 1) := by decide +kernel
theorem dX4_begin_90 : decode cX4_begin 90 = .ok (.if_icmp .ge 22, 3) := by decide +kernel
theorem dX4_begin_93 : decode cX4_begin 93 = .ok (.aload_n 0, 1) := by decide +kernel
theorem dX4_begin_94 : decode cX4_begin 94 = .ok (.getfield 28, 3) := by decide +kernel
theorem dX4_begin_97 : decode cX4_begin 97 = .ok (.iload_n 2, 1) := by decide +kernel
theorem dX4_begin_98 : decode cX4_begin 98 = .ok (.getstatic 38, 3) := by decide +kernel
theorem dX4_begin_101 : decode cX4_begin 101 = .ok (.iload_n 2, 1) := by decide +kernel
theorem dX4_begin_102 : decode cX4_begin 102 = .ok (.invokestatic 41, 3) := by decide +kernel
theorem dX4_begin_105 : decode cX4_begin 105 = .ok (.iastore, 1) := by decide +kernel
theorem dX4_begin_106 : decode cX4_begin 106 = .ok (.iinc 2 1, 3) := by decide +kernel
theorem dX4_begin_109 : decode cX4_begin 109 = .ok (.goto (-25), 3) := by decide +kernel
theorem dX4_begin_112 : decode cX4_begin 112 = .ok (.iconst 0, 1) := by decide +kernel
theorem dX4_begin_113 : decode cX4_begin 113 = .ok (.istore_n 2, 1) := by decide +kernel
theorem dX4_begin_114 : decode cX4_begin 114 = .ok (.iload_n 2, 1) := by decide +kernel
theorem dX4_begin_115 : decode cX4_begin 115 = .ok (.aload_n 0, 1) := by decide +kernel
theorem dX4_begin_116 : decode cX4_begin 116 = .ok (.getfield 31, 3) := by decide +kernel
theorem dX4_begin_119 : decode cX4_begin 119 = .ok (.arraylength, 1) := by decide +kernel
theorem dX4_begin_120 : decode cX4_begin 120 = .ok (.if_icmp .ge 17, 3) := by decide +kernel
theorem dX4_begin_123 : decode cX4_begin 123 = .ok (.aload_n 0, 1) := by decide +kernel
theorem dX4_begin_124 : decode cX4_begin 124 = .ok (.getfield 31, 3) := by decide +kernel
theorem dX4_begin_127 : decode cX4_begin 127 = .ok (.iload_n 2, 1) := by decide +kernel
theorem dX4_begin_128 : decode cX4_begin 128 = .ok (.bipush 60, 2) := by decide +kernel
theorem dX4_begin_130 : decode cX4_begin 130 = .ok (.iastore, 1) := by decide +kernel
theorem dX4_begin_131 : decode cX4_begin 131 = .ok (.iinc 2 1, 3) := by decide +kernel
theorem dX4_begin_134 : decode cX4_begin 134 = .ok (.goto (-20), 3) := by decide +kernel
theorem dX4_begin_137 : decode cX4_begin 137 = .ok (.return_, 1) := by decide +kernel
def fX4_begin_114 (N : Nat) (Z : mZ) : Nat → Nat → Int32 → mM → Option (Unit × mM)
  | 0, _, _, _ => none
  | fu + 1, v0, v2, M => ck (okO Z v0 4) (bnd1 (Z.2.2.2 v0 6) (fun c19 => ck (okI Z c19) (if (Int32.ofNat (Z.2.2.1 c19)) ≤ v2 then some ((), M) else ck (okO Z c19 20) (ck (inB v2 (Z.2.2.1 c19)) (fX4_begin_114 N Z fu v0 (v2 + (1 : Int32)) (sI M c19 (v2).toNatClampNeg (60 : Int32)))))))
set_option maxHeartbeats 4000000 in
set_option maxRecDepth 100000 in
theorem tX4_begin_114 {G : mG} {p : Program} {l : Launch} {e : Env} {s : State} {m : MethodId} {args : Array Value} {below : List Frame} {meth : Method} {c : Code} (C : Cx G p l s m args meth c RX4 cX4_begin 3 none []) (hnm : meth.name = yX4_begin.name) (N : Nat) (Z : mZ) : ∀ (fu : Nat) (v0 : Nat) (v2 : Int32) (M : mM) (r : Unit) (M' : mM), fX4_begin_114 N Z fu v0 v2 M = some (r, M') → JJ G p l e rmX4_begin s m args below meth c 3 (mEnd G below args s rmX4_begin (.inl none) Z M') 0 0 114 [(0, .ref v0), (2, .int v2)] [] Z M := by
  intro fu
  induction fu with
  | zero =>
    intro v0 v2 M r M' h
    cases h
  | succ fu ih =>
    intro v0 v2 M r M' h
    rw [fX4_begin_114] at h
    refine j_iload_n C dX4_begin_114 rfl 1 rfl ?_
    refine j_aload_n C dX4_begin_115 rfl 0 rfl ?_
    obtain ⟨ho18, h⟩ := ck_spec h
    obtain ⟨c19, hr19, h⟩ := bnd1_spec h
    refine j_getR C (cn := RX4) (T := TX4) (N := 7) (ci := 4) rfl iX4 ho18 6 (by decide) rfl fwRX4_31 dX4_begin_116 hr19 ?_
    obtain ⟨ho20, h⟩ := ck_spec h
    refine j_alen C ho20 dX4_begin_119 ?_
    refine j_icmp_ge C dX4_begin_120 (tgt := 137) (by decide) (fun hc21 => ?_) (fun hc21 => ?_)
    · rw [if_pos hc21] at h
      cases h
      exact j_vret C rfl (by decide) (by decide) dX4_begin_137
    · rw [if_neg hc21] at h
      refine j_aload_n C dX4_begin_123 rfl 0 rfl ?_
      refine j_getR C (cn := RX4) (T := TX4) (N := 7) (ci := 4) rfl iX4 ho18 6 (by decide) rfl fwRX4_31 dX4_begin_124 hr19 ?_
      refine j_iload_n C dX4_begin_127 rfl 1 rfl ?_
      refine j_bipush C dX4_begin_128 (v := (60 : Int32)) (by decide) ?_
      obtain ⟨ho22, h⟩ := ck_spec h
      obtain ⟨ho23, h⟩ := ck_spec h
      refine j_iast C ho22 ho23 dX4_begin_130 ?_
      refine j_iinc C dX4_begin_131 1 rfl (v := (v2 + (1 : Int32))) (by first | rfl | decide) (by decide) (L' := [(2, .int (v2 + (1 : Int32))), (0, .ref v0)]) rfl ?_
      refine j_goto C dX4_begin_134 (tgt := 114) (by decide) ?_
      refine j_sub (L' := [(0, .ref v0), (2, .int (v2 + (1 : Int32)))]) [1, 0] rfl ?_
      exact ih v0 (v2 + (1 : Int32)) (sI M c19 (v2).toNatClampNeg (60 : Int32)) r M' h
def fX4_begin_84 (N : Nat) (Z : mZ) : Nat → Nat → Int32 → mM → Option (Unit × mM)
  | 0, _, _, _ => none
  | fu + 1, v0, v2, M => ck (okO Z v0 4) (bnd1 (Z.2.2.2 v0 5) (fun c15 => ck (okI Z c15) (if (Int32.ofNat (Z.2.2.1 c15)) ≤ v2 then fX4_begin_114 N Z N v0 (0 : Int32) M else bnd2 (fX8_at N Z 1 v2 M) (fun r24 M24 => ck (okO Z c15 20) (ck (inB v2 (Z.2.2.1 c15)) (fX4_begin_84 N Z fu v0 (v2 + (1 : Int32)) (sI M24 c15 (v2).toNatClampNeg r24)))))))
set_option maxHeartbeats 4000000 in
set_option maxRecDepth 100000 in
theorem tX4_begin_84 {G : mG} {p : Program} {l : Launch} {e : Env} {s : State} {m : MethodId} {args : Array Value} {below : List Frame} {meth : Method} {c : Code} (C : Cx G p l s m args meth c RX4 cX4_begin 3 none []) (hnm : meth.name = yX4_begin.name) (N : Nat) (Z : mZ) : ∀ (fu : Nat) (v0 : Nat) (v2 : Int32) (M : mM) (r : Unit) (M' : mM), fX4_begin_84 N Z fu v0 v2 M = some (r, M') → JJ G p l e rmX4_begin s m args below meth c 3 (mEnd G below args s rmX4_begin (.inl none) Z M') 0 0 84 [(0, .ref v0), (2, .int v2)] [] Z M := by
  intro fu
  induction fu with
  | zero =>
    intro v0 v2 M r M' h
    cases h
  | succ fu ih =>
    intro v0 v2 M r M' h
    rw [fX4_begin_84] at h
    refine j_iload_n C dX4_begin_84 rfl 1 rfl ?_
    refine j_aload_n C dX4_begin_85 rfl 0 rfl ?_
    obtain ⟨ho14, h⟩ := ck_spec h
    obtain ⟨c15, hr15, h⟩ := bnd1_spec h
    refine j_getR C (cn := RX4) (T := TX4) (N := 7) (ci := 4) rfl iX4 ho14 5 (by decide) rfl fwRX4_28 dX4_begin_86 hr15 ?_
    obtain ⟨ho16, h⟩ := ck_spec h
    refine j_alen C ho16 dX4_begin_89 ?_
    refine j_icmp_ge C dX4_begin_90 (tgt := 112) (by decide) (fun hc17 => ?_) (fun hc17 => ?_)
    · rw [if_pos hc17] at h
      refine j_iconst C dX4_begin_112 (v := (0 : Int32)) (by decide) ?_
      refine j_istore_n C dX4_begin_113 rfl (by decide) (L' := [(2, .int (0 : Int32)), (0, .ref v0)]) rfl ?_
      refine j_sub (L' := [(0, .ref v0), (2, .int (0 : Int32))]) [1, 0] rfl ?_
      exact tX4_begin_114 C hnm N Z N v0 (0 : Int32) M _ _ h
    · rw [if_neg hc17] at h
      refine j_aload_n C dX4_begin_93 rfl 0 rfl ?_
      refine j_getR C (cn := RX4) (T := TX4) (N := 7) (ci := 4) rfl iX4 ho14 5 (by decide) rfl fwRX4_28 dX4_begin_94 hr15 ?_
      refine j_iload_n C dX4_begin_97 rfl 1 rfl ?_
      refine j_getsN C (r := 1) (by decide) C.2.2.2.2.2.2.1.2.2.1.1 fwRX4_38 dX4_begin_98 ?_
      refine j_iload_n C dX4_begin_101 rfl 1 rfl ?_
      obtain ⟨r24, M24, hq24, h⟩ := bnd2_spec h
      refine j_run1 (c_SN C (As := [.ref 1, .int v2]) (rest := [.int v2, .ref c15]) (ctX8_at C.2.2.2.2.2.2.2.2.1 N Z hq24) kcRX4_41 oyX8_at ⟨by decide, by decide⟩ ⟨by decide, by decide⟩ (Nat.le_of_ble_eq_true rfl) rfl dX4_begin_102) ?_
      obtain ⟨ho25, h⟩ := ck_spec h
      obtain ⟨ho26, h⟩ := ck_spec h
      refine j_iast C ho25 ho26 dX4_begin_105 ?_
      refine j_iinc C dX4_begin_106 1 rfl (v := (v2 + (1 : Int32))) (by first | rfl | decide) (by decide) (L' := [(2, .int (v2 + (1 : Int32))), (0, .ref v0)]) rfl ?_
      refine j_goto C dX4_begin_109 (tgt := 84) (by decide) ?_
      refine j_sub (L' := [(0, .ref v0), (2, .int (v2 + (1 : Int32)))]) [1, 0] rfl ?_
      exact ih v0 (v2 + (1 : Int32)) (sI M24 c15 (v2).toNatClampNeg r24) r M' h
def fX4_begin_60 (N : Nat) (Z : mZ) : Nat → Nat → Int32 → mM → Option (Unit × mM)
  | 0, _, _, _ => none
  | fu + 1, v0, v2, M => ck (okO Z v0 4) (bnd1 (Z.2.2.2 v0 4) (fun c11 => ck (okI Z c11) (if (Int32.ofNat (Z.2.2.1 c11)) ≤ v2 then fX4_begin_84 N Z N v0 (0 : Int32) M else ck (okO Z c11 20) (ck (inB v2 (Z.2.2.1 c11)) (fX4_begin_60 N Z fu v0 (v2 + (1 : Int32)) (sI M c11 (v2).toNatClampNeg (0 : Int32)))))))
set_option maxHeartbeats 4000000 in
set_option maxRecDepth 100000 in
theorem tX4_begin_60 {G : mG} {p : Program} {l : Launch} {e : Env} {s : State} {m : MethodId} {args : Array Value} {below : List Frame} {meth : Method} {c : Code} (C : Cx G p l s m args meth c RX4 cX4_begin 3 none []) (hnm : meth.name = yX4_begin.name) (N : Nat) (Z : mZ) : ∀ (fu : Nat) (v0 : Nat) (v2 : Int32) (M : mM) (r : Unit) (M' : mM), fX4_begin_60 N Z fu v0 v2 M = some (r, M') → JJ G p l e rmX4_begin s m args below meth c 3 (mEnd G below args s rmX4_begin (.inl none) Z M') 0 0 60 [(0, .ref v0), (2, .int v2)] [] Z M := by
  intro fu
  induction fu with
  | zero =>
    intro v0 v2 M r M' h
    cases h
  | succ fu ih =>
    intro v0 v2 M r M' h
    rw [fX4_begin_60] at h
    refine j_iload_n C dX4_begin_60 rfl 1 rfl ?_
    refine j_aload_n C dX4_begin_61 rfl 0 rfl ?_
    obtain ⟨ho10, h⟩ := ck_spec h
    obtain ⟨c11, hr11, h⟩ := bnd1_spec h
    refine j_getR C (cn := RX4) (T := TX4) (N := 7) (ci := 4) rfl iX4 ho10 4 (by decide) rfl fwRX4_25 dX4_begin_62 hr11 ?_
    obtain ⟨ho12, h⟩ := ck_spec h
    refine j_alen C ho12 dX4_begin_65 ?_
    refine j_icmp_ge C dX4_begin_66 (tgt := 82) (by decide) (fun hc13 => ?_) (fun hc13 => ?_)
    · rw [if_pos hc13] at h
      refine j_iconst C dX4_begin_82 (v := (0 : Int32)) (by decide) ?_
      refine j_istore_n C dX4_begin_83 rfl (by decide) (L' := [(2, .int (0 : Int32)), (0, .ref v0)]) rfl ?_
      refine j_sub (L' := [(0, .ref v0), (2, .int (0 : Int32))]) [1, 0] rfl ?_
      exact tX4_begin_84 C hnm N Z N v0 (0 : Int32) M _ _ h
    · rw [if_neg hc13] at h
      refine j_aload_n C dX4_begin_69 rfl 0 rfl ?_
      refine j_getR C (cn := RX4) (T := TX4) (N := 7) (ci := 4) rfl iX4 ho10 4 (by decide) rfl fwRX4_25 dX4_begin_70 hr11 ?_
      refine j_iload_n C dX4_begin_73 rfl 1 rfl ?_
      refine j_iconst C dX4_begin_74 (v := (0 : Int32)) (by decide) ?_
      obtain ⟨ho27, h⟩ := ck_spec h
      obtain ⟨ho28, h⟩ := ck_spec h
      refine j_iast C ho27 ho28 dX4_begin_75 ?_
      refine j_iinc C dX4_begin_76 1 rfl (v := (v2 + (1 : Int32))) (by first | rfl | decide) (by decide) (L' := [(2, .int (v2 + (1 : Int32))), (0, .ref v0)]) rfl ?_
      refine j_goto C dX4_begin_79 (tgt := 60) (by decide) ?_
      refine j_sub (L' := [(0, .ref v0), (2, .int (v2 + (1 : Int32)))]) [1, 0] rfl ?_
      exact ih v0 (v2 + (1 : Int32)) (sI M c11 (v2).toNatClampNeg (0 : Int32)) r M' h
def fX4_begin_36 (N : Nat) (Z : mZ) : Nat → Nat → Int32 → mM → Option (Unit × mM)
  | 0, _, _, _ => none
  | fu + 1, v0, v2, M => ck (okO Z v0 4) (bnd1 (Z.2.2.2 v0 3) (fun c7 => ck (okI Z c7) (if (Int32.ofNat (Z.2.2.1 c7)) ≤ v2 then fX4_begin_60 N Z N v0 (0 : Int32) M else ck (okO Z c7 20) (ck (inB v2 (Z.2.2.1 c7)) (fX4_begin_36 N Z fu v0 (v2 + (1 : Int32)) (sI M c7 (v2).toNatClampNeg (0 : Int32)))))))
set_option maxHeartbeats 4000000 in
set_option maxRecDepth 100000 in
theorem tX4_begin_36 {G : mG} {p : Program} {l : Launch} {e : Env} {s : State} {m : MethodId} {args : Array Value} {below : List Frame} {meth : Method} {c : Code} (C : Cx G p l s m args meth c RX4 cX4_begin 3 none []) (hnm : meth.name = yX4_begin.name) (N : Nat) (Z : mZ) : ∀ (fu : Nat) (v0 : Nat) (v2 : Int32) (M : mM) (r : Unit) (M' : mM), fX4_begin_36 N Z fu v0 v2 M = some (r, M') → JJ G p l e rmX4_begin s m args below meth c 3 (mEnd G below args s rmX4_begin (.inl none) Z M') 0 0 36 [(0, .ref v0), (2, .int v2)] [] Z M := by
  intro fu
  induction fu with
  | zero =>
    intro v0 v2 M r M' h
    cases h
  | succ fu ih =>
    intro v0 v2 M r M' h
    rw [fX4_begin_36] at h
    refine j_iload_n C dX4_begin_36 rfl 1 rfl ?_
    refine j_aload_n C dX4_begin_37 rfl 0 rfl ?_
    obtain ⟨ho6, h⟩ := ck_spec h
    obtain ⟨c7, hr7, h⟩ := bnd1_spec h
    refine j_getR C (cn := RX4) (T := TX4) (N := 7) (ci := 4) rfl iX4 ho6 3 (by decide) rfl fwRX4_22 dX4_begin_38 hr7 ?_
    obtain ⟨ho8, h⟩ := ck_spec h
    refine j_alen C ho8 dX4_begin_41 ?_
    refine j_icmp_ge C dX4_begin_42 (tgt := 58) (by decide) (fun hc9 => ?_) (fun hc9 => ?_)
    · rw [if_pos hc9] at h
      refine j_iconst C dX4_begin_58 (v := (0 : Int32)) (by decide) ?_
      refine j_istore_n C dX4_begin_59 rfl (by decide) (L' := [(2, .int (0 : Int32)), (0, .ref v0)]) rfl ?_
      refine j_sub (L' := [(0, .ref v0), (2, .int (0 : Int32))]) [1, 0] rfl ?_
      exact tX4_begin_60 C hnm N Z N v0 (0 : Int32) M _ _ h
    · rw [if_neg hc9] at h
      refine j_aload_n C dX4_begin_45 rfl 0 rfl ?_
      refine j_getR C (cn := RX4) (T := TX4) (N := 7) (ci := 4) rfl iX4 ho6 3 (by decide) rfl fwRX4_22 dX4_begin_46 hr7 ?_
      refine j_iload_n C dX4_begin_49 rfl 1 rfl ?_
      refine j_iconst C dX4_begin_50 (v := (0 : Int32)) (by decide) ?_
      obtain ⟨ho29, h⟩ := ck_spec h
      obtain ⟨ho30, h⟩ := ck_spec h
      refine j_iast C ho29 ho30 dX4_begin_51 ?_
      refine j_iinc C dX4_begin_52 1 rfl (v := (v2 + (1 : Int32))) (by first | rfl | decide) (by decide) (L' := [(2, .int (v2 + (1 : Int32))), (0, .ref v0)]) rfl ?_
      refine j_goto C dX4_begin_55 (tgt := 36) (by decide) ?_
      refine j_sub (L' := [(0, .ref v0), (2, .int (v2 + (1 : Int32)))]) [1, 0] rfl ?_
      exact ih v0 (v2 + (1 : Int32)) (sI M c7 (v2).toNatClampNeg (0 : Int32)) r M' h
def fX4_begin_12 (N : Nat) (Z : mZ) : Nat → Nat → Int32 → mM → Option (Unit × mM)
  | 0, _, _, _ => none
  | fu + 1, v0, v2, M => ck (okO Z v0 4) (bnd1 (Z.2.2.2 v0 2) (fun c3 => ck (okI Z c3) (if (Int32.ofNat (Z.2.2.1 c3)) ≤ v2 then fX4_begin_36 N Z N v0 (0 : Int32) M else ck (okO Z c3 20) (ck (inB v2 (Z.2.2.1 c3)) (fX4_begin_12 N Z fu v0 (v2 + (1 : Int32)) (sI M c3 (v2).toNatClampNeg (0 : Int32)))))))
set_option maxHeartbeats 4000000 in
set_option maxRecDepth 100000 in
theorem tX4_begin_12 {G : mG} {p : Program} {l : Launch} {e : Env} {s : State} {m : MethodId} {args : Array Value} {below : List Frame} {meth : Method} {c : Code} (C : Cx G p l s m args meth c RX4 cX4_begin 3 none []) (hnm : meth.name = yX4_begin.name) (N : Nat) (Z : mZ) : ∀ (fu : Nat) (v0 : Nat) (v2 : Int32) (M : mM) (r : Unit) (M' : mM), fX4_begin_12 N Z fu v0 v2 M = some (r, M') → JJ G p l e rmX4_begin s m args below meth c 3 (mEnd G below args s rmX4_begin (.inl none) Z M') 0 0 12 [(0, .ref v0), (2, .int v2)] [] Z M := by
  intro fu
  induction fu with
  | zero =>
    intro v0 v2 M r M' h
    cases h
  | succ fu ih =>
    intro v0 v2 M r M' h
    rw [fX4_begin_12] at h
    refine j_iload_n C dX4_begin_12 rfl 1 rfl ?_
    refine j_aload_n C dX4_begin_13 rfl 0 rfl ?_
    obtain ⟨ho2, h⟩ := ck_spec h
    obtain ⟨c3, hr3, h⟩ := bnd1_spec h
    refine j_getR C (cn := RX4) (T := TX4) (N := 7) (ci := 4) rfl iX4 ho2 2 (by decide) rfl fwRX4_18 dX4_begin_14 hr3 ?_
    obtain ⟨ho4, h⟩ := ck_spec h
    refine j_alen C ho4 dX4_begin_17 ?_
    refine j_icmp_ge C dX4_begin_18 (tgt := 34) (by decide) (fun hc5 => ?_) (fun hc5 => ?_)
    · rw [if_pos hc5] at h
      refine j_iconst C dX4_begin_34 (v := (0 : Int32)) (by decide) ?_
      refine j_istore_n C dX4_begin_35 rfl (by decide) (L' := [(2, .int (0 : Int32)), (0, .ref v0)]) rfl ?_
      refine j_sub (L' := [(0, .ref v0), (2, .int (0 : Int32))]) [1, 0] rfl ?_
      exact tX4_begin_36 C hnm N Z N v0 (0 : Int32) M _ _ h
    · rw [if_neg hc5] at h
      refine j_aload_n C dX4_begin_21 rfl 0 rfl ?_
      refine j_getR C (cn := RX4) (T := TX4) (N := 7) (ci := 4) rfl iX4 ho2 2 (by decide) rfl fwRX4_18 dX4_begin_22 hr3 ?_
      refine j_iload_n C dX4_begin_25 rfl 1 rfl ?_
      refine j_iconst C dX4_begin_26 (v := (0 : Int32)) (by decide) ?_
      obtain ⟨ho31, h⟩ := ck_spec h
      obtain ⟨ho32, h⟩ := ck_spec h
      refine j_iast C ho31 ho32 dX4_begin_27 ?_
      refine j_iinc C dX4_begin_28 1 rfl (v := (v2 + (1 : Int32))) (by first | rfl | decide) (by decide) (L' := [(2, .int (v2 + (1 : Int32))), (0, .ref v0)]) rfl ?_
      refine j_goto C dX4_begin_31 (tgt := 12) (by decide) ?_
      refine j_sub (L' := [(0, .ref v0), (2, .int (v2 + (1 : Int32)))]) [1, 0] rfl ?_
      exact ih v0 (v2 + (1 : Int32)) (sI M c3 (v2).toNatClampNeg (0 : Int32)) r M' h
def fX4_begin (N : Nat) (Z : mZ) (a0 : Nat) (a1 : Int32) (M : mM) : Option (Unit × mM) := ck (okO Z a0 4) (fX4_begin_12 N Z N a0 (0 : Int32) (sI (sI M a0 0 a1) a0 1 (0 : Int32)))
set_option maxHeartbeats 4000000 in
set_option maxRecDepth 100000 in
theorem ctX4_begin {G : mG} {l : Launch} (hl : l.stackTraces = false) (N : Nat) (Z : mZ) {a0 : Nat} {a1 : Int32} {M : mM} {r : Unit} {M' : mM} (h : fX4_begin N Z a0 a1 M = some (r, M')) : CT G l yX4_begin (.code yX4_begin cX4_begin 3 none) rmX4_begin [.ref a0, .int a1] Z M (.inl none) Z M' := by
  unfold fX4_begin at h
  refine CT.of hl (by decide) (Nat.le_of_ble_eq_true rfl) ?_
  intro p e s m args below meth c C hnm
  refine j_sub (L' := [(0, .ref a0), (1, .int a1)]) [0, 1] rfl ?_
  refine j_aload_n C dX4_begin_0 rfl 0 rfl ?_
  refine j_iload_n C dX4_begin_1 rfl 1 rfl ?_
  obtain ⟨ho1, h⟩ := ck_spec h
  refine j_putI C tyX4 tyX4_ok nmX4 (cn := RX4) (T := TX4) (N := 7) (ci := 4) rfl iX4 ho1 0 (by decide) rfl fwRX4_9 ⟨rfl, rfl⟩ dX4_begin_2 ?_
  refine j_aload_n C dX4_begin_5 rfl 0 rfl ?_
  refine j_iconst C dX4_begin_6 (v := (0 : Int32)) (by decide) ?_
  refine j_putI C tyX4 tyX4_ok nmX4 (cn := RX4) (T := TX4) (N := 7) (ci := 4) rfl iX4 ho1 1 (by decide) rfl fwRX4_15 ⟨rfl, rfl⟩ dX4_begin_7 ?_
  refine j_iconst C dX4_begin_10 (v := (0 : Int32)) (by decide) ?_
  refine j_istore_n C dX4_begin_11 rfl (by decide) (L' := [(2, .int (0 : Int32)), (0, .ref a0), (1, .int a1)]) rfl ?_
  refine j_sub (L' := [(0, .ref a0), (2, .int (0 : Int32))]) [1, 0] rfl ?_
  exact tX4_begin_12 C hnm N Z N a0 (0 : Int32) (sI (sI M a0 0 a1) a0 1 (0 : Int32)) _ _ h
-- ScaffoldPlanner$Plan <init>
theorem ojRX4_3 : Cond.methodLink RX4 3 Lib.objectInit ∈ gw ∧ Cond.instanceMethod Lib.objectInit ∈ gw ∧ Cond.code Lib.objectInit ⟨#[0xb1]⟩ 1 none ∈ gw := ⟨by decide +kernel, by decide +kernel, by decide +kernel⟩
theorem kcRX4_34 : okV RX4 34 yX4_begin (.code yX4_begin cX4_begin 3 none) = true := by decide +kernel
theorem oyX4_begin : okY yX4_begin 1 := ⟨by decide +kernel, by decide +kernel, by decide +kernel⟩
abbrev rmX4_init : Room := { frames := 2, cells := 5, slots := 149, locals := 43 }
theorem dX4_init_0 : decode cX4_init 0 = .ok (.aload_n 0, 1) := by decide +kernel
theorem dX4_init_1 : decode cX4_init 1 = .ok (.invokespecial 3, 3) := by decide +kernel
theorem dX4_init_4 : decode cX4_init 4 = .ok (.aload_n 0, 1) := by decide +kernel
theorem dX4_init_5 : decode cX4_init 5 = .ok (.iconst 4, 1) := by decide +kernel
theorem dX4_init_6 : decode cX4_init 6 = .ok (.putfield 9, 3) := by decide +kernel
theorem dX4_init_9 : decode cX4_init 9 = .ok (.aload_n 0, 1) := by decide +kernel
theorem dX4_init_10 : decode cX4_init 10 = .ok (.iconst 0, 1) := by decide +kernel
theorem dX4_init_11 : decode cX4_init 11 = .ok (.putfield 15, 3) := by decide +kernel
theorem dX4_init_14 : decode cX4_init 14 = .ok (.aload_n 0, 1) := by decide +kernel
theorem dX4_init_15 : decode cX4_init 15 = .ok (.bipush 10, 2) := by decide +kernel
theorem dX4_init_17 : decode cX4_init 17 = .ok (.newarray .int, 2) := by decide +kernel
theorem dX4_init_19 : decode cX4_init 19 = .ok (.putfield 18, 3) := by decide +kernel
theorem dX4_init_22 : decode cX4_init 22 = .ok (.aload_n 0, 1) := by decide +kernel
theorem dX4_init_23 : decode cX4_init 23 = .ok (.bipush 60, 2) := by decide +kernel
theorem dX4_init_25 : decode cX4_init 25 = .ok (.newarray .int, 2) := by decide +kernel
theorem dX4_init_27 : decode cX4_init 27 = .ok (.putfield 22, 3) := by decide +kernel
theorem dX4_init_30 : decode cX4_init 30 = .ok (.aload_n 0, 1) := by decide +kernel
theorem dX4_init_31 : decode cX4_init 31 = .ok (.bipush 70, 2) := by decide +kernel
theorem dX4_init_33 : decode cX4_init 33 = .ok (.newarray .int, 2) := by decide +kernel
theorem dX4_init_35 : decode cX4_init 35 = .ok (.putfield 25, 3) := by decide +kernel
theorem dX4_init_38 : decode cX4_init 38 = .ok (.aload_n 0, 1) := by decide +kernel
theorem dX4_init_39 : decode cX4_init 39 = .ok (.iconst 3, 1) := by decide +kernel
theorem dX4_init_40 : decode cX4_init 40 = .ok (.newarray .int, 2) := by decide +kernel
theorem dX4_init_42 : decode cX4_init 42 = .ok (.putfield 28, 3) := by decide +kernel
theorem dX4_init_45 : decode cX4_init 45 = .ok (.aload_n 0, 1) := by decide +kernel
theorem dX4_init_46 : decode cX4_init 46 = .ok (.bipush 6, 2) := by decide +kernel
theorem dX4_init_48 : decode cX4_init 48 = .ok (.newarray .int, 2) := by decide +kernel
theorem dX4_init_50 : decode cX4_init 50 = .ok (.putfield 31, 3) := by decide +kernel
theorem dX4_init_53 : decode cX4_init 53 = .ok (.aload_n 0, 1) := by decide +kernel
theorem dX4_init_54 : decode cX4_init 54 = .ok (.iconst 4, 1) := by decide +kernel
theorem dX4_init_55 : decode cX4_init 55 = .ok (.invokevirtual 34, 3) := by decide +kernel
theorem dX4_init_58 : decode cX4_init 58 = .ok (.return_, 1) := by decide +kernel
def fX4_init (N : Nat) (Z : mZ) (a0 : Nat) (M : mM) : Option (Unit × (mZ × mM)) := ck (okO Z a0 4) (nameZ Z (sI M a0 0 (4 : Int32)) (fun Z2 M2 => ck (okO Z2 a0 4) (nameZ Z2 (sI M2 a0 1 (0 : Int32)) (fun Z4 M4 => ck (decide (M4.2.2.2 = 0)) (nameZ (zNew Z4 20 10) (mNew M4 (Z4.1)) (fun Z6 M6 => ck (okO Z6 a0 4) (nameZ (sR Z6 a0 2 (Z4.1)) M6 (fun Z8 M8 => ck (decide (M8.2.2.2 = 0)) (nameZ (zNew Z8 20 60) (mNew M8 (Z8.1)) (fun Z10 M10 => ck (okO Z10 a0 4) (nameZ (sR Z10 a0 3 (Z8.1)) M10 (fun Z12 M12 => ck (decide (M12.2.2.2 = 0)) (nameZ (zNew Z12 20 70) (mNew M12 (Z12.1)) (fun Z14 M14 => ck (okO Z14 a0 4) (nameZ (sR Z14 a0 4 (Z12.1)) M14 (fun Z16 M16 => ck (decide (M16.2.2.2 = 0)) (nameZ (zNew Z16 20 3) (mNew M16 (Z16.1)) (fun Z18 M18 => ck (okO Z18 a0 4) (nameZ (sR Z18 a0 5 (Z16.1)) M18 (fun Z20 M20 => ck (decide (M20.2.2.2 = 0)) (nameZ (zNew Z20 20 6) (mNew M20 (Z20.1)) (fun Z22 M22 => ck (okO Z22 a0 4) (nameZ (sR Z22 a0 6 (Z20.1)) M22 (fun Z24 M24 => ck (okO Z24 a0 4) (bnd2 (fX4_begin N Z24 a0 (4 : Int32) M24) (fun _ M26 => some ((), (Z24, M26))))))))))))))))))))))))))))
set_option maxHeartbeats 4000000 in
set_option maxRecDepth 100000 in
theorem ctX4_init {G : mG} {l : Launch} (hl : l.stackTraces = false) (N : Nat) (Z : mZ) {a0 : Nat} {M : mM} {r : Unit} {ZM' : (mZ × mM)} (h : fX4_init N Z a0 M = some (r, ZM')) : CT G l yX4_init (.code yX4_init cX4_init 1 none) rmX4_init [.ref a0] Z M (.inl none) ZM'.1 ZM'.2 := by
  unfold fX4_init at h
  refine CT.of hl (by decide) (Nat.le_of_ble_eq_true rfl) ?_
  intro p e s m args below meth c C hnm
  refine j_sub (L' := [(0, .ref a0)]) [0] rfl ?_
  refine j_aload_n C dX4_init_0 rfl 0 rfl ?_
  refine j_objInit C ojRX4_3 (by decide) (Nat.le_of_ble_eq_true rfl) dX4_init_1 ?_
  refine j_aload_n C dX4_init_4 rfl 0 rfl ?_
  refine j_iconst C dX4_init_5 (v := (4 : Int32)) (by decide) ?_
  obtain ⟨ho1, h⟩ := ck_spec h
  refine j_putI C tyX4 tyX4_ok nmX4 (cn := RX4) (T := TX4) (N := 7) (ci := 4) rfl iX4 ho1 0 (by decide) rfl fwRX4_9 ⟨rfl, rfl⟩ dX4_init_6 ?_
  obtain ⟨Z2, M2, eZ2, eM2, h⟩ := nameZ_spec h
  refine j_nm eZ2 eM2 ?_
  refine j_aload_n C dX4_init_9 rfl 0 rfl ?_
  refine j_iconst C dX4_init_10 (v := (0 : Int32)) (by decide) ?_
  obtain ⟨ho3, h⟩ := ck_spec h
  refine j_putI C tyX4 tyX4_ok nmX4 (cn := RX4) (T := TX4) (N := 7) (ci := 4) rfl iX4 ho3 1 (by decide) rfl fwRX4_15 ⟨rfl, rfl⟩ dX4_init_11 ?_
  obtain ⟨Z4, M4, eZ4, eM4, h⟩ := nameZ_spec h
  refine j_nm eZ4 eM4 ?_
  refine j_aload_n C dX4_init_14 rfl 0 rfl ?_
  refine j_bipush C dX4_init_15 (v := (10 : Int32)) (by decide) ?_
  obtain ⟨ho5, h⟩ := ck_spec h
  refine j_newa C (ln := 10) (t := 20) (Or.inl ⟨rfl, rfl⟩) aw_20 (by decide) (by decide) (by decide) (of_decide_eq_true ho5) ⟨by decide, by decide⟩ dX4_init_17 ?_
  obtain ⟨Z6, M6, eZ6, eM6, h⟩ := nameZ_spec h
  refine j_nm eZ6 eM6 ?_
  obtain ⟨ho7, h⟩ := ck_spec h
  refine j_putR C hnm tyX4 tyX4_ok nmX4 (T := TX4) (N := 7) (ci := 4) rfl iX4 ho7 2 (by decide) rfl fwRX4_18 (fun _ => ⟨rfl, rfl⟩) dX4_init_19 ?_
  obtain ⟨Z8, M8, eZ8, eM8, h⟩ := nameZ_spec h
  refine j_nm eZ8 eM8 ?_
  refine j_aload_n C dX4_init_22 rfl 0 rfl ?_
  refine j_bipush C dX4_init_23 (v := (60 : Int32)) (by decide) ?_
  obtain ⟨ho9, h⟩ := ck_spec h
  refine j_newa C (ln := 60) (t := 20) (Or.inl ⟨rfl, rfl⟩) aw_20 (by decide) (by decide) (by decide) (of_decide_eq_true ho9) ⟨by decide, by decide⟩ dX4_init_25 ?_
  obtain ⟨Z10, M10, eZ10, eM10, h⟩ := nameZ_spec h
  refine j_nm eZ10 eM10 ?_
  obtain ⟨ho11, h⟩ := ck_spec h
  refine j_putR C hnm tyX4 tyX4_ok nmX4 (T := TX4) (N := 7) (ci := 4) rfl iX4 ho11 3 (by decide) rfl fwRX4_22 (fun _ => ⟨rfl, rfl⟩) dX4_init_27 ?_
  obtain ⟨Z12, M12, eZ12, eM12, h⟩ := nameZ_spec h
  refine j_nm eZ12 eM12 ?_
  refine j_aload_n C dX4_init_30 rfl 0 rfl ?_
  refine j_bipush C dX4_init_31 (v := (70 : Int32)) (by decide) ?_
  obtain ⟨ho13, h⟩ := ck_spec h
  refine j_newa C (ln := 70) (t := 20) (Or.inl ⟨rfl, rfl⟩) aw_20 (by decide) (by decide) (by decide) (of_decide_eq_true ho13) ⟨by decide, by decide⟩ dX4_init_33 ?_
  obtain ⟨Z14, M14, eZ14, eM14, h⟩ := nameZ_spec h
  refine j_nm eZ14 eM14 ?_
  obtain ⟨ho15, h⟩ := ck_spec h
  refine j_putR C hnm tyX4 tyX4_ok nmX4 (T := TX4) (N := 7) (ci := 4) rfl iX4 ho15 4 (by decide) rfl fwRX4_25 (fun _ => ⟨rfl, rfl⟩) dX4_init_35 ?_
  obtain ⟨Z16, M16, eZ16, eM16, h⟩ := nameZ_spec h
  refine j_nm eZ16 eM16 ?_
  refine j_aload_n C dX4_init_38 rfl 0 rfl ?_
  refine j_iconst C dX4_init_39 (v := (3 : Int32)) (by decide) ?_
  obtain ⟨ho17, h⟩ := ck_spec h
  refine j_newa C (ln := 3) (t := 20) (Or.inl ⟨rfl, rfl⟩) aw_20 (by decide) (by decide) (by decide) (of_decide_eq_true ho17) ⟨by decide, by decide⟩ dX4_init_40 ?_
  obtain ⟨Z18, M18, eZ18, eM18, h⟩ := nameZ_spec h
  refine j_nm eZ18 eM18 ?_
  obtain ⟨ho19, h⟩ := ck_spec h
  refine j_putR C hnm tyX4 tyX4_ok nmX4 (T := TX4) (N := 7) (ci := 4) rfl iX4 ho19 5 (by decide) rfl fwRX4_28 (fun _ => ⟨rfl, rfl⟩) dX4_init_42 ?_
  obtain ⟨Z20, M20, eZ20, eM20, h⟩ := nameZ_spec h
  refine j_nm eZ20 eM20 ?_
  refine j_aload_n C dX4_init_45 rfl 0 rfl ?_
  refine j_bipush C dX4_init_46 (v := (6 : Int32)) (by decide) ?_
  obtain ⟨ho21, h⟩ := ck_spec h
  refine j_newa C (ln := 6) (t := 20) (Or.inl ⟨rfl, rfl⟩) aw_20 (by decide) (by decide) (by decide) (of_decide_eq_true ho21) ⟨by decide, by decide⟩ dX4_init_48 ?_
  obtain ⟨Z22, M22, eZ22, eM22, h⟩ := nameZ_spec h
  refine j_nm eZ22 eM22 ?_
  obtain ⟨ho23, h⟩ := ck_spec h
  refine j_putR C hnm tyX4 tyX4_ok nmX4 (T := TX4) (N := 7) (ci := 4) rfl iX4 ho23 6 (by decide) rfl fwRX4_31 (fun _ => ⟨rfl, rfl⟩) dX4_init_50 ?_
  obtain ⟨Z24, M24, eZ24, eM24, h⟩ := nameZ_spec h
  refine j_nm eZ24 eM24 ?_
  refine j_aload_n C dX4_init_53 rfl 0 rfl ?_
  refine j_iconst C dX4_init_54 (v := (4 : Int32)) (by decide) ?_
  obtain ⟨ho25, h⟩ := ck_spec h
  obtain ⟨_, M26, hq26, h⟩ := bnd2_spec h
  refine j_run0 (c_V C (As := [.int (4 : Int32)]) (rest := []) (ctX4_begin C.2.2.2.2.2.2.2.2.1 N Z24 hq26) kcRX4_34 oyX4_begin (ci := 4) (T := TX4) (N := 7) rfl (by decide) ho25 ⟨by decide, by decide⟩ ⟨by decide, by decide⟩ (Nat.le_of_ble_eq_true rfl) rfl dX4_init_55) ?_
  cases h
  exact j_vret C rfl (by decide) (by decide) dX4_init_58
-- ScaffoldPlanner$Ways <init>
theorem ojRX6_3 : Cond.methodLink RX6 3 Lib.objectInit ∈ gw ∧ Cond.instanceMethod Lib.objectInit ∈ gw ∧ Cond.code Lib.objectInit ⟨#[0xb1]⟩ 1 none ∈ gw := ⟨by decide +kernel, by decide +kernel, by decide +kernel⟩
theorem fwRX6_9 : Cond.fieldLink RX6 9 RX6 (TX6 0).2.1 (TX6 0).2.2.1 ∈ gw := by decide +kernel
theorem fwRX6_15 : Cond.fieldLink RX6 15 RX6 (TX6 1).2.1 (TX6 1).2.2.1 ∈ gw := by decide +kernel
theorem fwRX6_18 : Cond.fieldLink RX6 18 RX6 (TX6 2).2.1 (TX6 2).2.2.1 ∈ gw := by decide +kernel
theorem fwRX6_21 : Cond.fieldLink RX6 21 RX6 (TX6 3).2.1 (TX6 3).2.2.1 ∈ gw := by decide +kernel
abbrev rmX6_init : Room := { frames := 1, cells := 4, slots := 100, locals := 20 }
theorem dX6_init_0 : decode cX6_init 0 = .ok (.aload_n 0, 1) := by decide +kernel
theorem dX6_init_1 : decode cX6_init 1 = .ok (.invokespecial 3, 3) := by decide +kernel
theorem dX6_init_4 : decode cX6_init 4 = .ok (.aload_n 0, 1) := by decide +kernel
theorem dX6_init_5 : decode cX6_init 5 = .ok (.bipush 10, 2) := by decide +kernel
theorem dX6_init_7 : decode cX6_init 7 = .ok (.newarray .int, 2) := by decide +kernel
theorem dX6_init_9 : decode cX6_init 9 = .ok (.putfield 9, 3) := by decide +kernel
theorem dX6_init_12 : decode cX6_init 12 = .ok (.aload_n 0, 1) := by decide +kernel
theorem dX6_init_13 : decode cX6_init 13 = .ok (.bipush 70, 2) := by decide +kernel
theorem dX6_init_15 : decode cX6_init 15 = .ok (.newarray .int, 2) := by decide +kernel
theorem dX6_init_17 : decode cX6_init 17 = .ok (.putfield 15, 3) := by decide +kernel
theorem dX6_init_20 : decode cX6_init 20 = .ok (.aload_n 0, 1) := by decide +kernel
theorem dX6_init_21 : decode cX6_init 21 = .ok (.bipush 10, 2) := by decide +kernel
theorem dX6_init_23 : decode cX6_init 23 = .ok (.newarray .int, 2) := by decide +kernel
theorem dX6_init_25 : decode cX6_init 25 = .ok (.putfield 18, 3) := by decide +kernel
theorem dX6_init_28 : decode cX6_init 28 = .ok (.aload_n 0, 1) := by decide +kernel
theorem dX6_init_29 : decode cX6_init 29 = .ok (.bipush 10, 2) := by decide +kernel
theorem dX6_init_31 : decode cX6_init 31 = .ok (.newarray .int, 2) := by decide +kernel
theorem dX6_init_33 : decode cX6_init 33 = .ok (.putfield 21, 3) := by decide +kernel
theorem dX6_init_36 : decode cX6_init 36 = .ok (.return_, 1) := by decide +kernel
def fX6_init (N : Nat) (Z : mZ) (a0 : Nat) (M : mM) : Option (Unit × (mZ × mM)) := ck (decide (M.2.2.2 = 0)) (nameZ (zNew Z 20 10) (mNew M (Z.1)) (fun Z2 M2 => ck (okO Z2 a0 6) (nameZ (sR Z2 a0 0 (Z.1)) M2 (fun Z4 M4 => ck (decide (M4.2.2.2 = 0)) (nameZ (zNew Z4 20 70) (mNew M4 (Z4.1)) (fun Z6 M6 => ck (okO Z6 a0 6) (nameZ (sR Z6 a0 1 (Z4.1)) M6 (fun Z8 M8 => ck (decide (M8.2.2.2 = 0)) (nameZ (zNew Z8 20 10) (mNew M8 (Z8.1)) (fun Z10 M10 => ck (okO Z10 a0 6) (nameZ (sR Z10 a0 2 (Z8.1)) M10 (fun Z12 M12 => ck (decide (M12.2.2.2 = 0)) (nameZ (zNew Z12 20 10) (mNew M12 (Z12.1)) (fun Z14 M14 => ck (okO Z14 a0 6) (nameZ (sR Z14 a0 3 (Z12.1)) M14 (fun Z16 M16 => some ((), (Z16, M16))))))))))))))))))
set_option maxHeartbeats 4000000 in
set_option maxRecDepth 100000 in
theorem ctX6_init {G : mG} {l : Launch} (hl : l.stackTraces = false) (N : Nat) (Z : mZ) {a0 : Nat} {M : mM} {r : Unit} {ZM' : (mZ × mM)} (h : fX6_init N Z a0 M = some (r, ZM')) : CT G l yX6_init (.code yX6_init cX6_init 1 none) rmX6_init [.ref a0] Z M (.inl none) ZM'.1 ZM'.2 := by
  unfold fX6_init at h
  refine CT.of hl (by decide) (Nat.le_of_ble_eq_true rfl) ?_
  intro p e s m args below meth c C hnm
  refine j_sub (L' := [(0, .ref a0)]) [0] rfl ?_
  refine j_aload_n C dX6_init_0 rfl 0 rfl ?_
  refine j_objInit C ojRX6_3 (by decide) (Nat.le_of_ble_eq_true rfl) dX6_init_1 ?_
  refine j_aload_n C dX6_init_4 rfl 0 rfl ?_
  refine j_bipush C dX6_init_5 (v := (10 : Int32)) (by decide) ?_
  obtain ⟨ho1, h⟩ := ck_spec h
  refine j_newa C (ln := 10) (t := 20) (Or.inl ⟨rfl, rfl⟩) aw_20 (by decide) (by decide) (by decide) (of_decide_eq_true ho1) ⟨by decide, by decide⟩ dX6_init_7 ?_
  obtain ⟨Z2, M2, eZ2, eM2, h⟩ := nameZ_spec h
  refine j_nm eZ2 eM2 ?_
  obtain ⟨ho3, h⟩ := ck_spec h
  refine j_putR C hnm tyX6 tyX6_ok nmX6 (T := TX6) (N := 4) (ci := 6) rfl iX6 ho3 0 (by decide) rfl fwRX6_9 (fun _ => ⟨rfl, rfl⟩) dX6_init_9 ?_
  obtain ⟨Z4, M4, eZ4, eM4, h⟩ := nameZ_spec h
  refine j_nm eZ4 eM4 ?_
  refine j_aload_n C dX6_init_12 rfl 0 rfl ?_
  refine j_bipush C dX6_init_13 (v := (70 : Int32)) (by decide) ?_
  obtain ⟨ho5, h⟩ := ck_spec h
  refine j_newa C (ln := 70) (t := 20) (Or.inl ⟨rfl, rfl⟩) aw_20 (by decide) (by decide) (by decide) (of_decide_eq_true ho5) ⟨by decide, by decide⟩ dX6_init_15 ?_
  obtain ⟨Z6, M6, eZ6, eM6, h⟩ := nameZ_spec h
  refine j_nm eZ6 eM6 ?_
  obtain ⟨ho7, h⟩ := ck_spec h
  refine j_putR C hnm tyX6 tyX6_ok nmX6 (T := TX6) (N := 4) (ci := 6) rfl iX6 ho7 1 (by decide) rfl fwRX6_15 (fun _ => ⟨rfl, rfl⟩) dX6_init_17 ?_
  obtain ⟨Z8, M8, eZ8, eM8, h⟩ := nameZ_spec h
  refine j_nm eZ8 eM8 ?_
  refine j_aload_n C dX6_init_20 rfl 0 rfl ?_
  refine j_bipush C dX6_init_21 (v := (10 : Int32)) (by decide) ?_
  obtain ⟨ho9, h⟩ := ck_spec h
  refine j_newa C (ln := 10) (t := 20) (Or.inl ⟨rfl, rfl⟩) aw_20 (by decide) (by decide) (by decide) (of_decide_eq_true ho9) ⟨by decide, by decide⟩ dX6_init_23 ?_
  obtain ⟨Z10, M10, eZ10, eM10, h⟩ := nameZ_spec h
  refine j_nm eZ10 eM10 ?_
  obtain ⟨ho11, h⟩ := ck_spec h
  refine j_putR C hnm tyX6 tyX6_ok nmX6 (T := TX6) (N := 4) (ci := 6) rfl iX6 ho11 2 (by decide) rfl fwRX6_18 (fun _ => ⟨rfl, rfl⟩) dX6_init_25 ?_
  obtain ⟨Z12, M12, eZ12, eM12, h⟩ := nameZ_spec h
  refine j_nm eZ12 eM12 ?_
  refine j_aload_n C dX6_init_28 rfl 0 rfl ?_
  refine j_bipush C dX6_init_29 (v := (10 : Int32)) (by decide) ?_
  obtain ⟨ho13, h⟩ := ck_spec h
  refine j_newa C (ln := 10) (t := 20) (Or.inl ⟨rfl, rfl⟩) aw_20 (by decide) (by decide) (by decide) (of_decide_eq_true ho13) ⟨by decide, by decide⟩ dX6_init_31 ?_
  obtain ⟨Z14, M14, eZ14, eM14, h⟩ := nameZ_spec h
  refine j_nm eZ14 eM14 ?_
  obtain ⟨ho15, h⟩ := ck_spec h
  refine j_putR C hnm tyX6 tyX6_ok nmX6 (T := TX6) (N := 4) (ci := 6) rfl iX6 ho15 3 (by decide) rfl fwRX6_21 (fun _ => ⟨rfl, rfl⟩) dX6_init_33 ?_
  obtain ⟨Z16, M16, eZ16, eM16, h⟩ := nameZ_spec h
  refine j_nm eZ16 eM16 ?_
  cases h
  exact j_vret C rfl (by decide) (by decide) dX6_init_36
-- ScaffoldPlanner$Judge <init>
theorem ojRX3_3 : Cond.methodLink RX3 3 Lib.objectInit ∈ gw ∧ Cond.instanceMethod Lib.objectInit ∈ gw ∧ Cond.code Lib.objectInit ⟨#[0xb1]⟩ 1 none ∈ gw := ⟨by decide +kernel, by decide +kernel, by decide +kernel⟩
theorem fwRX3_9 : Cond.fieldLink RX3 9 RX3 (TX3 0).2.1 (TX3 0).2.2.1 ∈ gw := by decide +kernel
theorem fwRX3_15 : Cond.fieldLink RX3 15 RX3 (TX3 1).2.1 (TX3 1).2.2.1 ∈ gw := by decide +kernel
theorem cwRX3_18 : Cond.classLink RX3 18 RX4 ∈ gw ∧ Cond.instantiable RX4 7 ∈ gw ∧ Cond.initialized RX4 ∈ gw := ⟨by decide +kernel, by decide +kernel, by decide +kernel⟩
theorem ntX4 : ∀ j, j < 7 → tyX4 j = m_ty 4 j ∧ (m_ty 4 j = .int ∨ m_ty 4 j = .boolean ∨ isRefT (m_ty 4 j) = true) := by decide
theorem kcRX3_20 : okN RX3 20 yX4_init (.code yX4_init cX4_init 1 none) = true := by decide +kernel
theorem oyX4_init : okY yX4_init 0 := ⟨by decide +kernel, by decide +kernel, by decide +kernel⟩
theorem fwRX3_21 : Cond.fieldLink RX3 21 RX3 (TX3 2).2.1 (TX3 2).2.2.1 ∈ gw := by decide +kernel
abbrev rmX3_init : Room := { frames := 3, cells := 6, slots := 156, locals := 63 }
theorem dX3_init_0 : decode cX3_init 0 = .ok (.aload_n 0, 1) := by decide +kernel
theorem dX3_init_1 : decode cX3_init 1 = .ok (.invokespecial 3, 3) := by decide +kernel
theorem dX3_init_4 : decode cX3_init 4 = .ok (.aload_n 0, 1) := by decide +kernel
theorem dX3_init_5 : decode cX3_init 5 = .ok (.iconst 0, 1) := by decide +kernel
theorem dX3_init_6 : decode cX3_init 6 = .ok (.putfield 9, 3) := by decide +kernel
theorem dX3_init_9 : decode cX3_init 9 = .ok (.aload_n 0, 1) := by decide +kernel
theorem dX3_init_10 : decode cX3_init 10 = .ok (.iconst 0, 1) := by decide +kernel
theorem dX3_init_11 : decode cX3_init 11 = .ok (.putfield 15, 3) := by decide +kernel
theorem dX3_init_14 : decode cX3_init 14 = .ok (.aload_n 0, 1) := by decide +kernel
theorem dX3_init_15 : decode cX3_init 15 = .ok (.new 18, 3) := by decide +kernel
theorem dX3_init_18 : decode cX3_init 18 = .ok (.dup, 1) := by decide +kernel
theorem dX3_init_19 : decode cX3_init 19 = .ok (.invokespecial 20, 3) := by decide +kernel
theorem dX3_init_22 : decode cX3_init 22 = .ok (.putfield 21, 3) := by decide +kernel
theorem dX3_init_25 : decode cX3_init 25 = .ok (.return_, 1) := by decide +kernel
def fX3_init (N : Nat) (Z : mZ) (a0 : Nat) (M : mM) : Option (Unit × (mZ × mM)) := ck (okO Z a0 3) (nameZ Z (sI M a0 0 (0 : Int32)) (fun Z2 M2 => ck (okO Z2 a0 3) (nameZ Z2 (sI M2 a0 1 (0 : Int32)) (fun Z4 M4 => ck (decide (M4.2.2.2 = 0)) (nameZ (zNew Z4 4 0) (mNew M4 (Z4.1)) (fun Z6 M6 => bnd2 (fX4_init N Z6 (Z4.1) M6) (fun _ M7 => nameZ M7.1 M7.2 (fun Z8 M8 => ck (okO Z8 a0 3) (nameZ (sR Z8 a0 2 (Z4.1)) M8 (fun Z10 M10 => some ((), (Z10, M10))))))))))))
set_option maxHeartbeats 4000000 in
set_option maxRecDepth 100000 in
theorem ctX3_init {G : mG} {l : Launch} (hl : l.stackTraces = false) (N : Nat) (Z : mZ) {a0 : Nat} {M : mM} {r : Unit} {ZM' : (mZ × mM)} (h : fX3_init N Z a0 M = some (r, ZM')) : CT G l yX3_init (.code yX3_init cX3_init 1 none) rmX3_init [.ref a0] Z M (.inl none) ZM'.1 ZM'.2 := by
  unfold fX3_init at h
  refine CT.of hl (by decide) (Nat.le_of_ble_eq_true rfl) ?_
  intro p e s m args below meth c C hnm
  refine j_sub (L' := [(0, .ref a0)]) [0] rfl ?_
  refine j_aload_n C dX3_init_0 rfl 0 rfl ?_
  refine j_objInit C ojRX3_3 (by decide) (Nat.le_of_ble_eq_true rfl) dX3_init_1 ?_
  refine j_aload_n C dX3_init_4 rfl 0 rfl ?_
  refine j_iconst C dX3_init_5 (v := (0 : Int32)) (by decide) ?_
  obtain ⟨ho1, h⟩ := ck_spec h
  refine j_putI C tyX3 tyX3_ok nmX3 (cn := RX3) (T := TX3) (N := 3) (ci := 3) rfl iX3 ho1 0 (by decide) rfl fwRX3_9 ⟨rfl, rfl⟩ dX3_init_6 ?_
  obtain ⟨Z2, M2, eZ2, eM2, h⟩ := nameZ_spec h
  refine j_nm eZ2 eM2 ?_
  refine j_aload_n C dX3_init_9 rfl 0 rfl ?_
  refine j_iconst C dX3_init_10 (v := (0 : Int32)) (by decide) ?_
  obtain ⟨ho3, h⟩ := ck_spec h
  refine j_putI C tyX3 tyX3_ok nmX3 (cn := RX3) (T := TX3) (N := 3) (ci := 3) rfl iX3 ho3 1 (by decide) rfl fwRX3_15 ⟨rfl, rfl⟩ dX3_init_11 ?_
  obtain ⟨Z4, M4, eZ4, eM4, h⟩ := nameZ_spec h
  refine j_nm eZ4 eM4 ?_
  refine j_aload_n C dX3_init_14 rfl 0 rfl ?_
  obtain ⟨ho5, h⟩ := ck_spec h
  refine j_new C (cn := RX4) (T := TX4) (N := 7) (ci := 4) tyX4 tyX4_ok rfl iX4 (by decide) ntX4 cwRX3_18 (of_decide_eq_true ho5) ⟨by decide, by decide⟩ dX3_init_15 ?_
  obtain ⟨Z6, M6, eZ6, eM6, h⟩ := nameZ_spec h
  refine j_nm eZ6 eM6 ?_
  refine j_dup C dX3_init_18 rfl ?_
  obtain ⟨_, M7, hq7, h⟩ := bnd2_spec h
  refine j_run0 (c_I C (As := []) (rest := [.ref (Z4.1), .ref a0]) (ctX4_init C.2.2.2.2.2.2.2.2.1 N Z6 hq7) kcRX3_20 oyX4_init ⟨by decide, by decide⟩ ⟨by decide, by decide⟩ (Nat.le_of_ble_eq_true rfl) rfl dX3_init_19) ?_
  obtain ⟨Z8, M8, eZ8, eM8, h⟩ := nameZ_spec h
  refine j_nm eZ8 eM8 ?_
  obtain ⟨ho9, h⟩ := ck_spec h
  refine j_putR C hnm tyX3 tyX3_ok nmX3 (T := TX3) (N := 3) (ci := 3) rfl iX3 ho9 2 (by decide) rfl fwRX3_21 (fun _ => ⟨rfl, rfl⟩) dX3_init_22 ?_
  obtain ⟨Z10, M10, eZ10, eM10, h⟩ := nameZ_spec h
  refine j_nm eZ10 eM10 ?_
  cases h
  exact j_vret C rfl (by decide) (by decide) dX3_init_25
-- ScaffoldPlanner$Work <init>
theorem ojRX7_3 : Cond.methodLink RX7 3 Lib.objectInit ∈ gw ∧ Cond.instanceMethod Lib.objectInit ∈ gw ∧ Cond.code Lib.objectInit ⟨#[0xb1]⟩ 1 none ∈ gw := ⟨by decide +kernel, by decide +kernel, by decide +kernel⟩
abbrev rmX7_init : Room := { frames := 1, cells := 0, slots := 0, locals := 20 }
theorem dX7_init_0 : decode cX7_init 0 = .ok (.aload_n 0, 1) := by decide +kernel
theorem dX7_init_1 : decode cX7_init 1 = .ok (.invokespecial 3, 3) := by decide +kernel
theorem dX7_init_4 : decode cX7_init 4 = .ok (.aload_n 0, 1) := by decide +kernel
theorem dX7_init_5 : decode cX7_init 5 = .ok (.iconst 0, 1) := by decide +kernel
theorem dX7_init_6 : decode cX7_init 6 = .ok (.putfield 9, 3) := by decide +kernel
theorem dX7_init_9 : decode cX7_init 9 = .ok (.aload_n 0, 1) := by decide +kernel
theorem dX7_init_10 : decode cX7_init 10 = .ok (.iconst 0, 1) := by decide +kernel
theorem dX7_init_11 : decode cX7_init 11 = .ok (.putfield 15, 3) := by decide +kernel
theorem dX7_init_14 : decode cX7_init 14 = .ok (.aload_n 0, 1) := by decide +kernel
theorem dX7_init_15 : decode cX7_init 15 = .ok (.iconst 0, 1) := by decide +kernel
theorem dX7_init_16 : decode cX7_init 16 = .ok (.putfield 18, 3) := by decide +kernel
theorem dX7_init_19 : decode cX7_init 19 = .ok (.aload_n 0, 1) := by decide +kernel
theorem dX7_init_20 : decode cX7_init 20 = .ok (.iconst 1, 1) := by decide +kernel
theorem dX7_init_21 : decode cX7_init 21 = .ok (.putfield 21, 3) := by decide +kernel
theorem dX7_init_24 : decode cX7_init 24 = .ok (.aload_n 0, 1) := by decide +kernel
theorem dX7_init_25 : decode cX7_init 25 = .ok (.iconst 0, 1) := by decide +kernel
theorem dX7_init_26 : decode cX7_init 26 = .ok (.putfield 24, 3) := by decide +kernel
theorem dX7_init_29 : decode cX7_init 29 = .ok (.return_, 1) := by decide +kernel
def fX7_init (N : Nat) (Z : mZ) (a0 : Nat) (M : mM) : Option (Unit × (mZ × mM)) := ck (okO Z a0 7) (nameZ Z (sI M a0 0 (0 : Int32)) (fun Z2 M2 => ck (okO Z2 a0 7) (nameZ Z2 (sI M2 a0 1 (0 : Int32)) (fun Z4 M4 => ck (okO Z4 a0 7) (nameZ Z4 (sI M4 a0 2 (0 : Int32)) (fun Z6 M6 => ck (okO Z6 a0 7) (nameZ Z6 (sI M6 a0 3 (1 : Int32)) (fun Z8 M8 => ck (okO Z8 a0 7) (nameZ Z8 (sI M8 a0 4 (0 : Int32)) (fun Z10 M10 => some ((), (Z10, M10))))))))))))
set_option maxHeartbeats 4000000 in
set_option maxRecDepth 100000 in
theorem ctX7_init {G : mG} {l : Launch} (hl : l.stackTraces = false) (N : Nat) (Z : mZ) {a0 : Nat} {M : mM} {r : Unit} {ZM' : (mZ × mM)} (h : fX7_init N Z a0 M = some (r, ZM')) : CT G l yX7_init (.code yX7_init cX7_init 1 none) rmX7_init [.ref a0] Z M (.inl none) ZM'.1 ZM'.2 := by
  unfold fX7_init at h
  refine CT.of hl (by decide) (Nat.le_of_ble_eq_true rfl) ?_
  intro p e s m args below meth c C hnm
  refine j_sub (L' := [(0, .ref a0)]) [0] rfl ?_
  refine j_aload_n C dX7_init_0 rfl 0 rfl ?_
  refine j_objInit C ojRX7_3 (by decide) (Nat.le_of_ble_eq_true rfl) dX7_init_1 ?_
  refine j_aload_n C dX7_init_4 rfl 0 rfl ?_
  refine j_iconst C dX7_init_5 (v := (0 : Int32)) (by decide) ?_
  obtain ⟨ho1, h⟩ := ck_spec h
  refine j_putI C tyX7 tyX7_ok nmX7 (cn := RX7) (T := TX7) (N := 5) (ci := 7) rfl iX7 ho1 0 (by decide) rfl fwRX7_9 ⟨rfl, rfl⟩ dX7_init_6 ?_
  obtain ⟨Z2, M2, eZ2, eM2, h⟩ := nameZ_spec h
  refine j_nm eZ2 eM2 ?_
  refine j_aload_n C dX7_init_9 rfl 0 rfl ?_
  refine j_iconst C dX7_init_10 (v := (0 : Int32)) (by decide) ?_
  obtain ⟨ho3, h⟩ := ck_spec h
  refine j_putI C tyX7 tyX7_ok nmX7 (cn := RX7) (T := TX7) (N := 5) (ci := 7) rfl iX7 ho3 1 (by decide) rfl fwRX7_15 ⟨rfl, rfl⟩ dX7_init_11 ?_
  obtain ⟨Z4, M4, eZ4, eM4, h⟩ := nameZ_spec h
  refine j_nm eZ4 eM4 ?_
  refine j_aload_n C dX7_init_14 rfl 0 rfl ?_
  refine j_iconst C dX7_init_15 (v := (0 : Int32)) (by decide) ?_
  obtain ⟨ho5, h⟩ := ck_spec h
  refine j_putI C tyX7 tyX7_ok nmX7 (cn := RX7) (T := TX7) (N := 5) (ci := 7) rfl iX7 ho5 2 (by decide) rfl fwRX7_18 ⟨rfl, rfl⟩ dX7_init_16 ?_
  obtain ⟨Z6, M6, eZ6, eM6, h⟩ := nameZ_spec h
  refine j_nm eZ6 eM6 ?_
  refine j_aload_n C dX7_init_19 rfl 0 rfl ?_
  refine j_iconst C dX7_init_20 (v := (1 : Int32)) (by decide) ?_
  obtain ⟨ho7, h⟩ := ck_spec h
  refine j_putI C tyX7 tyX7_ok nmX7 (cn := RX7) (T := TX7) (N := 5) (ci := 7) rfl iX7 ho7 3 (by decide) rfl fwRX7_21 ⟨rfl, rfl⟩ dX7_init_21 ?_
  obtain ⟨Z8, M8, eZ8, eM8, h⟩ := nameZ_spec h
  refine j_nm eZ8 eM8 ?_
  refine j_aload_n C dX7_init_24 rfl 0 rfl ?_
  refine j_iconst C dX7_init_25 (v := (0 : Int32)) (by decide) ?_
  obtain ⟨ho9, h⟩ := ck_spec h
  refine j_putI C tyX7 tyX7_ok nmX7 (cn := RX7) (T := TX7) (N := 5) (ci := 7) rfl iX7 ho9 4 (by decide) rfl fwRX7_24 ⟨rfl, rfl⟩ dX7_init_26 ?_
  obtain ⟨Z10, M10, eZ10, eM10, h⟩ := nameZ_spec h
  refine j_nm eZ10 eM10 ?_
  cases h
  exact j_vret C rfl (by decide) (by decide) dX7_init_29
-- ScaffoldPlanner$Dismantler <init>
theorem ojRX1_3 : Cond.methodLink RX1 3 Lib.objectInit ∈ gw ∧ Cond.instanceMethod Lib.objectInit ∈ gw ∧ Cond.code Lib.objectInit ⟨#[0xb1]⟩ 1 none ∈ gw := ⟨by decide +kernel, by decide +kernel, by decide +kernel⟩
theorem fwRX1_9 : Cond.fieldLink RX1 9 RX1 (TX1 0).2.1 (TX1 0).2.2.1 ∈ gw := by decide +kernel
theorem fwRX1_15 : Cond.fieldLink RX1 15 RX1 (TX1 1).2.1 (TX1 1).2.2.1 ∈ gw := by decide +kernel
theorem fwRX1_19 : Cond.fieldLink RX1 19 RX1 (TX1 2).2.1 (TX1 2).2.2.1 ∈ gw := by decide +kernel
theorem fwRX1_22 : Cond.fieldLink RX1 22 RX1 (TX1 3).2.1 (TX1 3).2.2.1 ∈ gw := by decide +kernel
theorem cwRX1_26 : Cond.classLink RX1 26 RX4 ∈ gw ∧ Cond.instantiable RX4 7 ∈ gw ∧ Cond.initialized RX4 ∈ gw := ⟨by decide +kernel, by decide +kernel, by decide +kernel⟩
theorem kcRX1_28 : okN RX1 28 yX4_init (.code yX4_init cX4_init 1 none) = true := by decide +kernel
theorem fwRX1_29 : Cond.fieldLink RX1 29 RX1 (TX1 4).2.1 (TX1 4).2.2.1 ∈ gw := by decide +kernel
theorem cwRX1_33 : Cond.classLink RX1 33 RX6 ∈ gw ∧ Cond.instantiable RX6 4 ∈ gw ∧ Cond.initialized RX6 ∈ gw := ⟨by decide +kernel, by decide +kernel, by decide +kernel⟩
theorem ntX6 : ∀ j, j < 4 → tyX6 j = m_ty 6 j ∧ (m_ty 6 j = .int ∨ m_ty 6 j = .boolean ∨ isRefT (m_ty 6 j) = true) := by decide
theorem kcRX1_35 : okNN RX1 35 yX6_init "ScaffoldPlanner" (.code yX6_init cX6_init 1 none) = true := by decide +kernel
theorem oyX6_init : okY yX6_init 0 := ⟨by decide +kernel, by decide +kernel, by decide +kernel⟩
theorem fwRX1_36 : Cond.fieldLink RX1 36 RX1 (TX1 5).2.1 (TX1 5).2.2.1 ∈ gw := by decide +kernel
theorem cwRX1_40 : Cond.classLink RX1 40 RX3 ∈ gw ∧ Cond.instantiable RX3 3 ∈ gw ∧ Cond.initialized RX3 ∈ gw := ⟨by decide +kernel, by decide +kernel, by decide +kernel⟩
theorem ntX3 : ∀ j, j < 3 → tyX3 j = m_ty 3 j ∧ (m_ty 3 j = .int ∨ m_ty 3 j = .boolean ∨ isRefT (m_ty 3 j) = true) := by decide
theorem kcRX1_42 : okNN RX1 42 yX3_init "ScaffoldPlanner" (.code yX3_init cX3_init 1 none) = true := by decide +kernel
theorem oyX3_init : okY yX3_init 0 := ⟨by decide +kernel, by decide +kernel, by decide +kernel⟩
theorem fwRX1_43 : Cond.fieldLink RX1 43 RX1 (TX1 6).2.1 (TX1 6).2.2.1 ∈ gw := by decide +kernel
theorem cwRX1_47 : Cond.classLink RX1 47 RX7 ∈ gw ∧ Cond.instantiable RX7 5 ∈ gw ∧ Cond.initialized RX7 ∈ gw := ⟨by decide +kernel, by decide +kernel, by decide +kernel⟩
theorem ntX7 : ∀ j, j < 5 → tyX7 j = m_ty 7 j ∧ (m_ty 7 j = .int ∨ m_ty 7 j = .boolean ∨ isRefT (m_ty 7 j) = true) := by decide
theorem kcRX1_49 : okNN RX1 49 yX7_init "ScaffoldPlanner" (.code yX7_init cX7_init 1 none) = true := by decide +kernel
theorem oyX7_init : okY yX7_init 0 := ⟨by decide +kernel, by decide +kernel, by decide +kernel⟩
theorem fwRX1_50 : Cond.fieldLink RX1 50 RX1 (TX1 7).2.1 (TX1 7).2.2.1 ∈ gw := by decide +kernel
abbrev rmX1_init : Room := { frames := 4, cells := 20, slots := 1324, locals := 83 }
theorem dX1_init_0 : decode cX1_init 0 = .ok (.aload_n 0, 1) := by decide +kernel
theorem dX1_init_1 : decode cX1_init 1 = .ok (.invokespecial 3, 3) := by decide +kernel
theorem dX1_init_4 : decode cX1_init 4 = .ok (.aload_n 0, 1) := by decide +kernel
theorem dX1_init_5 : decode cX1_init 5 = .ok (.iconst 0, 1) := by decide +kernel
theorem dX1_init_6 : decode cX1_init 6 = .ok (.putfield 9, 3) := by decide +kernel
theorem dX1_init_9 : decode cX1_init 9 = .ok (.aload_n 0, 1) := by decide +kernel
theorem dX1_init_10 : decode cX1_init 10 = .ok (.iconst 0, 1) := by decide +kernel
theorem dX1_init_11 : decode cX1_init 11 = .ok (.putfield 15, 3) := by decide +kernel
theorem dX1_init_14 : decode cX1_init 14 = .ok (.aload_n 0, 1) := by decide +kernel
theorem dX1_init_15 : decode cX1_init 15 = .ok (.iconst 0, 1) := by decide +kernel
theorem dX1_init_16 : decode cX1_init 16 = .ok (.putfield 19, 3) := by decide +kernel
theorem dX1_init_19 : decode cX1_init 19 = .ok (.aload_n 0, 1) := by decide +kernel
theorem dX1_init_20 : decode cX1_init 20 = .ok (.sipush 900, 3) := by decide +kernel
theorem dX1_init_23 : decode cX1_init 23 = .ok (.newarray .int, 2) := by decide +kernel
theorem dX1_init_25 : decode cX1_init 25 = .ok (.putfield 22, 3) := by decide +kernel
theorem dX1_init_28 : decode cX1_init 28 = .ok (.aload_n 0, 1) := by decide +kernel
theorem dX1_init_29 : decode cX1_init 29 = .ok (.new 26, 3) := by decide +kernel
theorem dX1_init_32 : decode cX1_init 32 = .ok (.dup, 1) := by decide +kernel
theorem dX1_init_33 : decode cX1_init 33 = .ok (.invokespecial 28, 3) := by decide +kernel
theorem dX1_init_36 : decode cX1_init 36 = .ok (.putfield 29, 3) := by decide +kernel
theorem dX1_init_39 : decode cX1_init 39 = .ok (.aload_n 0, 1) := by decide +kernel
theorem dX1_init_40 : decode cX1_init 40 = .ok (.new 33, 3) := by decide +kernel
theorem dX1_init_43 : decode cX1_init 43 = .ok (.dup, 1) := by decide +kernel
theorem dX1_init_44 : decode cX1_init 44 = .ok (.invokespecial 35, 3) := by decide +kernel
theorem dX1_init_47 : decode cX1_init 47 = .ok (.putfield 36, 3) := by decide +kernel
theorem dX1_init_50 : decode cX1_init 50 = .ok (.aload_n 0, 1) := by decide +kernel
theorem dX1_init_51 : decode cX1_init 51 = .ok (.new 40, 3) := by decide +kernel
theorem dX1_init_54 : decode cX1_init 54 = .ok (.dup, 1) := by decide +kernel
theorem dX1_init_55 : decode cX1_init 55 = .ok (.invokespecial 42, 3) := by decide +kernel
theorem dX1_init_58 : decode cX1_init 58 = .ok (.putfield 43, 3) := by decide +kernel
theorem dX1_init_61 : decode cX1_init 61 = .ok (.aload_n 0, 1) := by decide +kernel
theorem dX1_init_62 : decode cX1_init 62 = .ok (.new 47, 3) := by decide +kernel
theorem dX1_init_65 : decode cX1_init 65 = .ok (.dup, 1) := by decide +kernel
theorem dX1_init_66 : decode cX1_init 66 = .ok (.invokespecial 49, 3) := by decide +kernel
theorem dX1_init_69 : decode cX1_init 69 = .ok (.putfield 50, 3) := by decide +kernel
theorem dX1_init_72 : decode cX1_init 72 = .ok (.return_, 1) := by decide +kernel
def fX1_init (N : Nat) (Z : mZ) (a0 : Nat) (M : mM) : Option (Unit × (mZ × mM)) := ck (okO Z a0 1) (nameZ Z (sI M a0 0 (0 : Int32)) (fun Z2 M2 => ck (okO Z2 a0 1) (nameZ Z2 (sI M2 a0 1 (0 : Int32)) (fun Z4 M4 => ck (okO Z4 a0 1) (nameZ Z4 (sI M4 a0 2 (0 : Int32)) (fun Z6 M6 => ck (decide (M6.2.2.2 = 0)) (nameZ (zNew Z6 20 900) (mNew M6 (Z6.1)) (fun Z8 M8 => ck (okO Z8 a0 1) (nameZ (sR Z8 a0 3 (Z6.1)) M8 (fun Z10 M10 => ck (decide (M10.2.2.2 = 0)) (nameZ (zNew Z10 4 0) (mNew M10 (Z10.1)) (fun Z12 M12 => bnd2 (fX4_init N Z12 (Z10.1) M12) (fun _ M13 => nameZ M13.1 M13.2 (fun Z14 M14 => ck (okO Z14 a0 1) (nameZ (sR Z14 a0 4 (Z10.1)) M14 (fun Z16 M16 => ck (decide (M16.2.2.2 = 0)) (nameZ (zNew Z16 6 0) (mNew M16 (Z16.1)) (fun Z18 M18 => bnd2 (fX6_init N Z18 (Z16.1) M18) (fun _ M19 => nameZ M19.1 M19.2 (fun Z20 M20 => ck (okO Z20 a0 1) (nameZ (sR Z20 a0 5 (Z16.1)) M20 (fun Z22 M22 => ck (decide (M22.2.2.2 = 0)) (nameZ (zNew Z22 3 0) (mNew M22 (Z22.1)) (fun Z24 M24 => bnd2 (fX3_init N Z24 (Z22.1) M24) (fun _ M25 => nameZ M25.1 M25.2 (fun Z26 M26 => ck (okO Z26 a0 1) (nameZ (sR Z26 a0 6 (Z22.1)) M26 (fun Z28 M28 => ck (decide (M28.2.2.2 = 0)) (nameZ (zNew Z28 7 0) (mNew M28 (Z28.1)) (fun Z30 M30 => bnd2 (fX7_init N Z30 (Z28.1) M30) (fun _ M31 => nameZ M31.1 M31.2 (fun Z32 M32 => ck (okO Z32 a0 1) (nameZ (sR Z32 a0 7 (Z28.1)) M32 (fun Z34 M34 => some ((), (Z34, M34))))))))))))))))))))))))))))))))))))
set_option maxHeartbeats 4000000 in
set_option maxRecDepth 100000 in
theorem ctX1_init {G : mG} {l : Launch} (hl : l.stackTraces = false) (N : Nat) (Z : mZ) {a0 : Nat} {M : mM} {r : Unit} {ZM' : (mZ × mM)} (h : fX1_init N Z a0 M = some (r, ZM')) : CT G l yX1_init (.code yX1_init cX1_init 1 none) rmX1_init [.ref a0] Z M (.inl none) ZM'.1 ZM'.2 := by
  unfold fX1_init at h
  refine CT.of hl (by decide) (Nat.le_of_ble_eq_true rfl) ?_
  intro p e s m args below meth c C hnm
  refine j_sub (L' := [(0, .ref a0)]) [0] rfl ?_
  refine j_aload_n C dX1_init_0 rfl 0 rfl ?_
  refine j_objInit C ojRX1_3 (by decide) (Nat.le_of_ble_eq_true rfl) dX1_init_1 ?_
  refine j_aload_n C dX1_init_4 rfl 0 rfl ?_
  refine j_iconst C dX1_init_5 (v := (0 : Int32)) (by decide) ?_
  obtain ⟨ho1, h⟩ := ck_spec h
  refine j_putI C tyX1 tyX1_ok nmX1 (cn := RX1) (T := TX1) (N := 8) (ci := 1) rfl iX1 ho1 0 (by decide) rfl fwRX1_9 ⟨rfl, rfl⟩ dX1_init_6 ?_
  obtain ⟨Z2, M2, eZ2, eM2, h⟩ := nameZ_spec h
  refine j_nm eZ2 eM2 ?_
  refine j_aload_n C dX1_init_9 rfl 0 rfl ?_
  refine j_iconst C dX1_init_10 (v := (0 : Int32)) (by decide) ?_
  obtain ⟨ho3, h⟩ := ck_spec h
  refine j_putI C tyX1 tyX1_ok nmX1 (cn := RX1) (T := TX1) (N := 8) (ci := 1) rfl iX1 ho3 1 (by decide) rfl fwRX1_15 ⟨rfl, rfl⟩ dX1_init_11 ?_
  obtain ⟨Z4, M4, eZ4, eM4, h⟩ := nameZ_spec h
  refine j_nm eZ4 eM4 ?_
  refine j_aload_n C dX1_init_14 rfl 0 rfl ?_
  refine j_iconst C dX1_init_15 (v := (0 : Int32)) (by decide) ?_
  obtain ⟨ho5, h⟩ := ck_spec h
  refine j_putI C tyX1 tyX1_ok nmX1 (cn := RX1) (T := TX1) (N := 8) (ci := 1) rfl iX1 ho5 2 (by decide) rfl fwRX1_19 ⟨rfl, rfl⟩ dX1_init_16 ?_
  obtain ⟨Z6, M6, eZ6, eM6, h⟩ := nameZ_spec h
  refine j_nm eZ6 eM6 ?_
  refine j_aload_n C dX1_init_19 rfl 0 rfl ?_
  refine j_sipush C dX1_init_20 (v := (900 : Int32)) (by decide) ?_
  obtain ⟨ho7, h⟩ := ck_spec h
  refine j_newa C (ln := 900) (t := 20) (Or.inl ⟨rfl, rfl⟩) aw_20 (by decide) (by decide) (by decide) (of_decide_eq_true ho7) ⟨by decide, by decide⟩ dX1_init_23 ?_
  obtain ⟨Z8, M8, eZ8, eM8, h⟩ := nameZ_spec h
  refine j_nm eZ8 eM8 ?_
  obtain ⟨ho9, h⟩ := ck_spec h
  refine j_putR C hnm tyX1 tyX1_ok nmX1 (T := TX1) (N := 8) (ci := 1) rfl iX1 ho9 3 (by decide) rfl fwRX1_22 (fun _ => ⟨rfl, rfl⟩) dX1_init_25 ?_
  obtain ⟨Z10, M10, eZ10, eM10, h⟩ := nameZ_spec h
  refine j_nm eZ10 eM10 ?_
  refine j_aload_n C dX1_init_28 rfl 0 rfl ?_
  obtain ⟨ho11, h⟩ := ck_spec h
  refine j_new C (cn := RX4) (T := TX4) (N := 7) (ci := 4) tyX4 tyX4_ok rfl iX4 (by decide) ntX4 cwRX1_26 (of_decide_eq_true ho11) ⟨by decide, by decide⟩ dX1_init_29 ?_
  obtain ⟨Z12, M12, eZ12, eM12, h⟩ := nameZ_spec h
  refine j_nm eZ12 eM12 ?_
  refine j_dup C dX1_init_32 rfl ?_
  obtain ⟨_, M13, hq13, h⟩ := bnd2_spec h
  refine j_run0 (c_I C (As := []) (rest := [.ref (Z10.1), .ref a0]) (ctX4_init C.2.2.2.2.2.2.2.2.1 N Z12 hq13) kcRX1_28 oyX4_init ⟨by decide, by decide⟩ ⟨by decide, by decide⟩ (Nat.le_of_ble_eq_true rfl) rfl dX1_init_33) ?_
  obtain ⟨Z14, M14, eZ14, eM14, h⟩ := nameZ_spec h
  refine j_nm eZ14 eM14 ?_
  obtain ⟨ho15, h⟩ := ck_spec h
  refine j_putR C hnm tyX1 tyX1_ok nmX1 (T := TX1) (N := 8) (ci := 1) rfl iX1 ho15 4 (by decide) rfl fwRX1_29 (fun _ => ⟨rfl, rfl⟩) dX1_init_36 ?_
  obtain ⟨Z16, M16, eZ16, eM16, h⟩ := nameZ_spec h
  refine j_nm eZ16 eM16 ?_
  refine j_aload_n C dX1_init_39 rfl 0 rfl ?_
  obtain ⟨ho17, h⟩ := ck_spec h
  refine j_new C (cn := RX6) (T := TX6) (N := 4) (ci := 6) tyX6 tyX6_ok rfl iX6 (by decide) ntX6 cwRX1_33 (of_decide_eq_true ho17) ⟨by decide, by decide⟩ dX1_init_40 ?_
  obtain ⟨Z18, M18, eZ18, eM18, h⟩ := nameZ_spec h
  refine j_nm eZ18 eM18 ?_
  refine j_dup C dX1_init_43 rfl ?_
  obtain ⟨_, M19, hq19, h⟩ := bnd2_spec h
  refine j_run0 (c_IN C (As := []) (rest := [.ref (Z16.1), .ref a0]) (ctX6_init C.2.2.2.2.2.2.2.2.1 N Z18 hq19) kcRX1_35 oyX6_init ⟨by decide, by decide⟩ ⟨by decide, by decide⟩ (Nat.le_of_ble_eq_true rfl) rfl dX1_init_44) ?_
  obtain ⟨Z20, M20, eZ20, eM20, h⟩ := nameZ_spec h
  refine j_nm eZ20 eM20 ?_
  obtain ⟨ho21, h⟩ := ck_spec h
  refine j_putR C hnm tyX1 tyX1_ok nmX1 (T := TX1) (N := 8) (ci := 1) rfl iX1 ho21 5 (by decide) rfl fwRX1_36 (fun _ => ⟨rfl, rfl⟩) dX1_init_47 ?_
  obtain ⟨Z22, M22, eZ22, eM22, h⟩ := nameZ_spec h
  refine j_nm eZ22 eM22 ?_
  refine j_aload_n C dX1_init_50 rfl 0 rfl ?_
  obtain ⟨ho23, h⟩ := ck_spec h
  refine j_new C (cn := RX3) (T := TX3) (N := 3) (ci := 3) tyX3 tyX3_ok rfl iX3 (by decide) ntX3 cwRX1_40 (of_decide_eq_true ho23) ⟨by decide, by decide⟩ dX1_init_51 ?_
  obtain ⟨Z24, M24, eZ24, eM24, h⟩ := nameZ_spec h
  refine j_nm eZ24 eM24 ?_
  refine j_dup C dX1_init_54 rfl ?_
  obtain ⟨_, M25, hq25, h⟩ := bnd2_spec h
  refine j_run0 (c_IN C (As := []) (rest := [.ref (Z22.1), .ref a0]) (ctX3_init C.2.2.2.2.2.2.2.2.1 N Z24 hq25) kcRX1_42 oyX3_init ⟨by decide, by decide⟩ ⟨by decide, by decide⟩ (Nat.le_of_ble_eq_true rfl) rfl dX1_init_55) ?_
  obtain ⟨Z26, M26, eZ26, eM26, h⟩ := nameZ_spec h
  refine j_nm eZ26 eM26 ?_
  obtain ⟨ho27, h⟩ := ck_spec h
  refine j_putR C hnm tyX1 tyX1_ok nmX1 (T := TX1) (N := 8) (ci := 1) rfl iX1 ho27 6 (by decide) rfl fwRX1_43 (fun _ => ⟨rfl, rfl⟩) dX1_init_58 ?_
  obtain ⟨Z28, M28, eZ28, eM28, h⟩ := nameZ_spec h
  refine j_nm eZ28 eM28 ?_
  refine j_aload_n C dX1_init_61 rfl 0 rfl ?_
  obtain ⟨ho29, h⟩ := ck_spec h
  refine j_new C (cn := RX7) (T := TX7) (N := 5) (ci := 7) tyX7 tyX7_ok rfl iX7 (by decide) ntX7 cwRX1_47 (of_decide_eq_true ho29) ⟨by decide, by decide⟩ dX1_init_62 ?_
  obtain ⟨Z30, M30, eZ30, eM30, h⟩ := nameZ_spec h
  refine j_nm eZ30 eM30 ?_
  refine j_dup C dX1_init_65 rfl ?_
  obtain ⟨_, M31, hq31, h⟩ := bnd2_spec h
  refine j_run0 (c_IN C (As := []) (rest := [.ref (Z28.1), .ref a0]) (ctX7_init C.2.2.2.2.2.2.2.2.1 N Z30 hq31) kcRX1_49 oyX7_init ⟨by decide, by decide⟩ ⟨by decide, by decide⟩ (Nat.le_of_ble_eq_true rfl) rfl dX1_init_66) ?_
  obtain ⟨Z32, M32, eZ32, eM32, h⟩ := nameZ_spec h
  refine j_nm eZ32 eM32 ?_
  obtain ⟨ho33, h⟩ := ck_spec h
  refine j_putR C hnm tyX1 tyX1_ok nmX1 (T := TX1) (N := 8) (ci := 1) rfl iX1 ho33 7 (by decide) rfl fwRX1_50 (fun _ => ⟨rfl, rfl⟩) dX1_init_69 ?_
  obtain ⟨Z34, M34, eZ34, eM34, h⟩ := nameZ_spec h
  refine j_nm eZ34 eM34 ?_
  cases h
  exact j_vret C rfl (by decide) (by decide) dX1_init_72
