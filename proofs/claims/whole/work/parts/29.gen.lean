def fL_law_712 (N : Nat) (Z : mZ) (K28 : Nat → Nat → Nat → Nat → Nat → Int32 → mM → Option (Int32 × mM)) (v0 : Nat) (v1 : Nat) (v2 : Nat) (v3 : Nat) (v4 : Nat) (v5 : Int32) (M : mM) : Option (Int32 × mM) := ck (okI Z v0) (ck (inB (v5 + (1 : Int32)) (Z.2.2.1 v0)) (ck (inB (v5 + (2 : Int32)) (Z.2.2.1 v0)) (ck (inB (v5 + (3 : Int32)) (Z.2.2.1 v0)) (ck (inB (v5 + (4 : Int32)) (Z.2.2.1 v0)) (if (M.1 v0 ((v5 + (4 : Int32))).toNatClampNeg) = 0 then bnd2 (fL_refusal N Z v1 (M.1 v0 ((v5 + (1 : Int32))).toNatClampNeg) (M.1 v0 ((v5 + (2 : Int32))).toNatClampNeg) (M.1 v0 ((v5 + (3 : Int32))).toNatClampNeg) (0 : Int32) v3 M) (fun r121 M121 => if (M121.1 v0 ((v5 + (4 : Int32))).toNatClampNeg) = 0 then ck (okO Z v2 9) (bnd2 (fX9_refusal N Z v2 (M121.1 v0 ((v5 + (1 : Int32))).toNatClampNeg) (M121.1 v0 ((v5 + (2 : Int32))).toNatClampNeg) (M121.1 v0 ((v5 + (3 : Int32))).toNatClampNeg) (0 : Int32) M121) (fun r124 M124 => bnd2 (fX9_thrown N Z v2 M124) (fun r125 M125 => if r125 = r121 then if r121 = 0 then ck (okO Z v3 22) (ck (inB (0 : Int32) (Z.2.2.1 v3)) (if (lg_cmp (M125.2.1 v3 ((0 : Int32)).toNatClampNeg) ((r124).toInt64)) = 0 then K28 v0 v1 v2 v3 v4 (v5 + (5 : Int32)) M125 else none)) else K28 v0 v1 v2 v3 v4 (v5 + (5 : Int32)) M125 else none))) else ck (okO Z v2 9) (bnd2 (fX9_refusal N Z v2 (M121.1 v0 ((v5 + (1 : Int32))).toNatClampNeg) (M121.1 v0 ((v5 + (2 : Int32))).toNatClampNeg) (M121.1 v0 ((v5 + (3 : Int32))).toNatClampNeg) (1 : Int32) M121) (fun r132 M132 => bnd2 (fX9_thrown N Z v2 M132) (fun r133 M133 => if r133 = r121 then if r121 = 0 then ck (okO Z v3 22) (ck (inB (0 : Int32) (Z.2.2.1 v3)) (if (lg_cmp (M133.2.1 v3 ((0 : Int32)).toNatClampNeg) ((r132).toInt64)) = 0 then K28 v0 v1 v2 v3 v4 (v5 + (5 : Int32)) M133 else none)) else K28 v0 v1 v2 v3 v4 (v5 + (5 : Int32)) M133 else none)))) else bnd2 (fL_refusal N Z v1 (M.1 v0 ((v5 + (1 : Int32))).toNatClampNeg) (M.1 v0 ((v5 + (2 : Int32))).toNatClampNeg) (M.1 v0 ((v5 + (3 : Int32))).toNatClampNeg) (1 : Int32) v3 M) (fun r139 M139 => if (M139.1 v0 ((v5 + (4 : Int32))).toNatClampNeg) = 0 then ck (okO Z v2 9) (bnd2 (fX9_refusal N Z v2 (M139.1 v0 ((v5 + (1 : Int32))).toNatClampNeg) (M139.1 v0 ((v5 + (2 : Int32))).toNatClampNeg) (M139.1 v0 ((v5 + (3 : Int32))).toNatClampNeg) (0 : Int32) M139) (fun r142 M142 => bnd2 (fX9_thrown N Z v2 M142) (fun r143 M143 => if r143 = r139 then if r139 = 0 then ck (okO Z v3 22) (ck (inB (0 : Int32) (Z.2.2.1 v3)) (if (lg_cmp (M143.2.1 v3 ((0 : Int32)).toNatClampNeg) ((r142).toInt64)) = 0 then K28 v0 v1 v2 v3 v4 (v5 + (5 : Int32)) M143 else none)) else K28 v0 v1 v2 v3 v4 (v5 + (5 : Int32)) M143 else none))) else ck (okO Z v2 9) (bnd2 (fX9_refusal N Z v2 (M139.1 v0 ((v5 + (1 : Int32))).toNatClampNeg) (M139.1 v0 ((v5 + (2 : Int32))).toNatClampNeg) (M139.1 v0 ((v5 + (3 : Int32))).toNatClampNeg) (1 : Int32) M139) (fun r150 M150 => bnd2 (fX9_thrown N Z v2 M150) (fun r151 M151 => if r151 = r139 then if r139 = 0 then ck (okO Z v3 22) (ck (inB (0 : Int32) (Z.2.2.1 v3)) (if (lg_cmp (M151.2.1 v3 ((0 : Int32)).toNatClampNeg) ((r150).toInt64)) = 0 then K28 v0 v1 v2 v3 v4 (v5 + (5 : Int32)) M151 else none)) else K28 v0 v1 v2 v3 v4 (v5 + (5 : Int32)) M151 else none)))))))))
set_option maxHeartbeats 4000000 in
set_option maxRecDepth 100000 in
theorem tL_law_712 {G : mG} {p : Program} {l : Launch} {e : Env} {s : State} {m : MethodId} {args : Array Value} {below : List Frame} {meth : Method} {c : Code} {Q : State → Prop} {tb : List ExceptionTableEntry} (hend : ∀ (k n : Nat) (L : mL) (Z : mZ) (M : mM), k ≤ KM → n ≤ NMX → JJ G p l e room_1 s m args below meth c 9 Q k n 1877 L [.int 1] Z M) (C : Cx G p l s m args meth c RL cL_law 9 (some .boolean) tb) (N : Nat) (Z : mZ) (K28 : Nat → Nat → Nat → Nat → Nat → Int32 → mM → Option (Int32 × mM)) (fu : Nat) (hK28 : ∀ (v0 : Nat) (v1 : Nat) (v2 : Nat) (v3 : Nat) (v4 : Nat) (v5 : Int32) (M : mM) (r : Int32) (M' : mM), ∀ (kk nn : Nat), kk + fu ≤ KM → nn + 6 * fu ≤ NMX → K28 v0 v1 v2 v3 v4 v5 M = some (r, M') → JJ G p l e room_1 s m args below meth c 9 Q kk nn 28 [(0, .ref v0), (1, .ref v1), (2, .ref v2), (3, .ref v3), (4, .ref v4), (5, .int v5)] [] Z M) : ∀ (v0 : Nat) (v1 : Nat) (v2 : Nat) (v3 : Nat) (v4 : Nat) (v5 : Int32) (M : mM) (r : Int32) (M' : mM), ∀ (kk nn : Nat), kk + (fu + 1) ≤ KM → nn + 6 * (fu + 1) ≤ NMX → fL_law_712 N Z K28 v0 v1 v2 v3 v4 v5 M = some (r, M') → JJ G p l e room_1 s m args below meth c 9 Q kk nn 712 [(0, .ref v0), (1, .ref v1), (2, .ref v2), (3, .ref v3), (4, .ref v4), (5, .int v5)] [] Z M := by
  intro v0 v1 v2 v3 v4 v5 M r M' kk nn hk hn h
  unfold fL_law_712 at h
  refine j_aload_n C dL_law_712 rfl 1 rfl ?_
  refine j_aload_n C dL_law_713 rfl 0 rfl ?_
  refine j_iload C dL_law_714 5 rfl ?_
  refine j_iconst C dL_law_716 (v := (1 : Int32)) (by decide) ?_
  refine j_iadd C dL_law_717 ?_
  obtain ⟨ho115, h⟩ := ck_spec h
  obtain ⟨ho116, h⟩ := ck_spec h
  refine j_iald C ho115 ho116 dL_law_718 ?_
  refine j_aload_n C dL_law_719 rfl 0 rfl ?_
  refine j_iload C dL_law_720 5 rfl ?_
  refine j_iconst C dL_law_722 (v := (2 : Int32)) (by decide) ?_
  refine j_iadd C dL_law_723 ?_
  obtain ⟨ho117, h⟩ := ck_spec h
  refine j_iald C ho115 ho117 dL_law_724 ?_
  refine j_aload_n C dL_law_725 rfl 0 rfl ?_
  refine j_iload C dL_law_726 5 rfl ?_
  refine j_iconst C dL_law_728 (v := (3 : Int32)) (by decide) ?_
  refine j_iadd C dL_law_729 ?_
  obtain ⟨ho118, h⟩ := ck_spec h
  refine j_iald C ho115 ho118 dL_law_730 ?_
  refine j_aload_n C dL_law_731 rfl 0 rfl ?_
  refine j_iload C dL_law_732 5 rfl ?_
  refine j_iconst C dL_law_734 (v := (4 : Int32)) (by decide) ?_
  refine j_iadd C dL_law_735 ?_
  obtain ⟨ho119, h⟩ := ck_spec h
  refine j_iald C ho115 ho119 dL_law_736 ?_
  refine j_if_eq C dL_law_737 (tgt := 744) (by decide) (fun hc120 => ?_) (fun hc120 => ?_)
  · rw [if_pos hc120] at h
    refine j_iconst C dL_law_744 (v := (0 : Int32)) (by decide) ?_
    refine j_aload_n C dL_law_745 rfl 3 rfl ?_
    obtain ⟨r121, M121, hq121, h⟩ := bnd2_spec h
    refine j_run1 (c_SX C (As := [.ref v1, .int (M.1 v0 ((v5 + (1 : Int32))).toNatClampNeg), .int (M.1 v0 ((v5 + (2 : Int32))).toNatClampNeg), .int (M.1 v0 ((v5 + (3 : Int32))).toNatClampNeg), .int (0 : Int32), .ref v3]) (rest := []) (ctL_refusal C.2.2.2.2.2.2.2.2.1 N Z hq121) kcRL_144 oyL_refusal ⟨by decide, by decide⟩ ⟨Nat.le_trans (show kk + 1 ≤ kk + (fu + 1) by omega) hk, Nat.le_trans (show nn + 6 ≤ nn + 6 * (fu + 1) by omega) hn⟩ (Nat.le_of_ble_eq_true rfl) rfl dL_law_746) ?_
    refine j_istore C dL_law_749 (by decide) (L' := [(6, .int r121), (0, .ref v0), (1, .ref v1), (2, .ref v2), (3, .ref v3), (4, .ref v4), (5, .int v5)]) rfl ?_
    refine j_aload_n C dL_law_751 rfl 3 rfl ?_
    refine j_aload_n C dL_law_752 rfl 1 rfl ?_
    refine j_iload C dL_law_753 6 rfl ?_
    refine j_iconst C dL_law_755 (v := (1 : Int32)) (by decide) ?_
    refine j_iadd C dL_law_756 ?_
    refine j_iald C ho115 ho116 dL_law_757 ?_
    refine j_aload_n C dL_law_758 rfl 1 rfl ?_
    refine j_iload C dL_law_759 6 rfl ?_
    refine j_iconst C dL_law_761 (v := (2 : Int32)) (by decide) ?_
    refine j_iadd C dL_law_762 ?_
    refine j_iald C ho115 ho117 dL_law_763 ?_
    refine j_aload_n C dL_law_764 rfl 1 rfl ?_
    refine j_iload C dL_law_765 6 rfl ?_
    refine j_iconst C dL_law_767 (v := (3 : Int32)) (by decide) ?_
    refine j_iadd C dL_law_768 ?_
    refine j_iald C ho115 ho118 dL_law_769 ?_
    refine j_aload_n C dL_law_770 rfl 1 rfl ?_
    refine j_iload C dL_law_771 6 rfl ?_
    refine j_iconst C dL_law_773 (v := (4 : Int32)) (by decide) ?_
    refine j_iadd C dL_law_774 ?_
    refine j_iald C ho115 ho119 dL_law_775 ?_
    refine j_if_eq C dL_law_776 (tgt := 783) (by decide) (fun hc122 => ?_) (fun hc122 => ?_)
    · rw [if_pos hc122] at h
      refine j_iconst C dL_law_783 (v := (0 : Int32)) (by decide) ?_
      obtain ⟨ho123, h⟩ := ck_spec h
      obtain ⟨r124, M124, hq124, h⟩ := bnd2_spec h
      refine j_run1 (c_V C (As := [.int (M121.1 v0 ((v5 + (1 : Int32))).toNatClampNeg), .int (M121.1 v0 ((v5 + (2 : Int32))).toNatClampNeg), .int (M121.1 v0 ((v5 + (3 : Int32))).toNatClampNeg), .int (0 : Int32)]) (rest := []) (ctX9_refusal C.2.2.2.2.2.2.2.2.1 N Z hq124) kcRL_147 oyX9_refusal (ci := 9) (T := TX9) (N := 23) rfl (by decide) ho123 ⟨by decide, by decide⟩ ⟨Nat.le_trans (show kk + 1 + 0 ≤ kk + (fu + 1) by omega) hk, Nat.le_trans (show nn + 6 + 0 ≤ nn + 6 * (fu + 1) by omega) hn⟩ (Nat.le_of_ble_eq_true rfl) rfl dL_law_784) ?_
      refine j_istore C dL_law_787 (by decide) (L' := [(7, .int r124), (6, .int r121), (0, .ref v0), (1, .ref v1), (2, .ref v2), (3, .ref v3), (4, .ref v4), (5, .int v5)]) rfl ?_
      refine j_aload_n C dL_law_789 rfl 4 rfl ?_
      obtain ⟨r125, M125, hq125, h⟩ := bnd2_spec h
      refine j_run1 (c_V C (As := []) (rest := []) (ctX9_thrown C.2.2.2.2.2.2.2.2.1 N Z hq125) kcRL_118 oyX9_thrown (ci := 9) (T := TX9) (N := 23) rfl (by decide) ho123 ⟨by decide, by decide⟩ ⟨Nat.le_trans (show kk + 1 + 0 + 0 ≤ kk + (fu + 1) by omega) hk, Nat.le_trans (show nn + 6 + 0 + 0 ≤ nn + 6 * (fu + 1) by omega) hn⟩ (Nat.le_of_ble_eq_true rfl) rfl dL_law_790) ?_
      refine j_iload C dL_law_793 1 rfl ?_
      refine j_icmp_eq C dL_law_795 (tgt := 800) (by decide) (fun hc126 => ?_) (fun hc126 => ?_)
      · rw [if_pos hc126] at h
        refine j_iload C dL_law_800 1 rfl ?_
        refine j_if_ne C dL_law_802 (tgt := 817) (by decide) (fun hc127 => ?_) (fun hc127 => ?_)
        · rw [if_neg hc127] at h
          refine j_goto C dL_law_817 (tgt := 1870) (by decide) ?_
          refine j_iinc C dL_law_1870 7 rfl (v := (v5 + (5 : Int32))) (by first | rfl | decide) (by decide) (L' := [(5, .int (v5 + (5 : Int32))), (7, .int r124), (6, .int r121), (0, .ref v0), (1, .ref v1), (2, .ref v2), (3, .ref v3), (4, .ref v4)]) rfl ?_
          refine j_goto C dL_law_1873 (tgt := 28) (by decide) ?_
          refine j_sub (L' := [(0, .ref v0), (1, .ref v1), (2, .ref v2), (3, .ref v3), (4, .ref v4), (5, .int (v5 + (5 : Int32)))]) [3, 4, 5, 6, 7, 0] rfl ?_
          exact hK28 v0 v1 v2 v3 v4 (v5 + (5 : Int32)) M125 r M' _ _ (Nat.le_trans (show kk + 1 + 0 + 0 + fu ≤ kk + (fu + 1) by omega) hk) (Nat.le_trans (show nn + 6 + 0 + 0 + 6 * fu ≤ nn + 6 * (fu + 1) by omega) hn) h
        · rw [if_pos hc127] at h
          refine j_aload_n C dL_law_805 rfl 5 rfl ?_
          refine j_iconst C dL_law_806 (v := (0 : Int32)) (by decide) ?_
          obtain ⟨ho128, h⟩ := ck_spec h
          obtain ⟨ho129, h⟩ := ck_spec h
          refine j_lald C ho128 ho129 dL_law_807 ?_
          refine j_iload C dL_law_808 0 rfl ?_
          refine j_i2l C dL_law_810 ?_
          refine j_lcmp C dL_law_811 ?_
          refine j_if_eq C dL_law_812 (tgt := 817) (by decide) (fun hc130 => ?_) (fun hc130 => ?_)
          · rw [if_pos hc130] at h
            refine j_goto C dL_law_817 (tgt := 1870) (by decide) ?_
            refine j_iinc C dL_law_1870 7 rfl (v := (v5 + (5 : Int32))) (by first | rfl | decide) (by decide) (L' := [(5, .int (v5 + (5 : Int32))), (7, .int r124), (6, .int r121), (0, .ref v0), (1, .ref v1), (2, .ref v2), (3, .ref v3), (4, .ref v4)]) rfl ?_
            refine j_goto C dL_law_1873 (tgt := 28) (by decide) ?_
            refine j_sub (L' := [(0, .ref v0), (1, .ref v1), (2, .ref v2), (3, .ref v3), (4, .ref v4), (5, .int (v5 + (5 : Int32)))]) [3, 4, 5, 6, 7, 0] rfl ?_
            exact hK28 v0 v1 v2 v3 v4 (v5 + (5 : Int32)) M125 r M' _ _ (Nat.le_trans (show kk + 1 + 0 + 0 + fu ≤ kk + (fu + 1) by omega) hk) (Nat.le_trans (show nn + 6 + 0 + 0 + 6 * fu ≤ nn + 6 * (fu + 1) by omega) hn) h
          · rw [if_neg hc130] at h
            refine j_iconst C dL_law_815 (v := (0 : Int32)) (by decide) ?_
            cases h
      · rw [if_neg hc126] at h
        refine j_iconst C dL_law_798 (v := (0 : Int32)) (by decide) ?_
        cases h
    · rw [if_neg hc122] at h
      refine j_iconst C dL_law_779 (v := (1 : Int32)) (by decide) ?_
      refine j_goto C dL_law_780 (tgt := 784) (by decide) ?_
      obtain ⟨ho131, h⟩ := ck_spec h
      obtain ⟨r132, M132, hq132, h⟩ := bnd2_spec h
      refine j_run1 (c_V C (As := [.int (M121.1 v0 ((v5 + (1 : Int32))).toNatClampNeg), .int (M121.1 v0 ((v5 + (2 : Int32))).toNatClampNeg), .int (M121.1 v0 ((v5 + (3 : Int32))).toNatClampNeg), .int (1 : Int32)]) (rest := []) (ctX9_refusal C.2.2.2.2.2.2.2.2.1 N Z hq132) kcRL_147 oyX9_refusal (ci := 9) (T := TX9) (N := 23) rfl (by decide) ho131 ⟨by decide, by decide⟩ ⟨Nat.le_trans (show kk + 1 + 0 ≤ kk + (fu + 1) by omega) hk, Nat.le_trans (show nn + 6 + 0 ≤ nn + 6 * (fu + 1) by omega) hn⟩ (Nat.le_of_ble_eq_true rfl) rfl dL_law_784) ?_
      refine j_istore C dL_law_787 (by decide) (L' := [(7, .int r132), (6, .int r121), (0, .ref v0), (1, .ref v1), (2, .ref v2), (3, .ref v3), (4, .ref v4), (5, .int v5)]) rfl ?_
      refine j_aload_n C dL_law_789 rfl 4 rfl ?_
      obtain ⟨r133, M133, hq133, h⟩ := bnd2_spec h
      refine j_run1 (c_V C (As := []) (rest := []) (ctX9_thrown C.2.2.2.2.2.2.2.2.1 N Z hq133) kcRL_118 oyX9_thrown (ci := 9) (T := TX9) (N := 23) rfl (by decide) ho131 ⟨by decide, by decide⟩ ⟨Nat.le_trans (show kk + 1 + 0 + 0 ≤ kk + (fu + 1) by omega) hk, Nat.le_trans (show nn + 6 + 0 + 0 ≤ nn + 6 * (fu + 1) by omega) hn⟩ (Nat.le_of_ble_eq_true rfl) rfl dL_law_790) ?_
      refine j_iload C dL_law_793 1 rfl ?_
      refine j_icmp_eq C dL_law_795 (tgt := 800) (by decide) (fun hc134 => ?_) (fun hc134 => ?_)
      · rw [if_pos hc134] at h
        refine j_iload C dL_law_800 1 rfl ?_
        refine j_if_ne C dL_law_802 (tgt := 817) (by decide) (fun hc135 => ?_) (fun hc135 => ?_)
        · rw [if_neg hc135] at h
          refine j_goto C dL_law_817 (tgt := 1870) (by decide) ?_
          refine j_iinc C dL_law_1870 7 rfl (v := (v5 + (5 : Int32))) (by first | rfl | decide) (by decide) (L' := [(5, .int (v5 + (5 : Int32))), (7, .int r132), (6, .int r121), (0, .ref v0), (1, .ref v1), (2, .ref v2), (3, .ref v3), (4, .ref v4)]) rfl ?_
          refine j_goto C dL_law_1873 (tgt := 28) (by decide) ?_
          refine j_sub (L' := [(0, .ref v0), (1, .ref v1), (2, .ref v2), (3, .ref v3), (4, .ref v4), (5, .int (v5 + (5 : Int32)))]) [3, 4, 5, 6, 7, 0] rfl ?_
          exact hK28 v0 v1 v2 v3 v4 (v5 + (5 : Int32)) M133 r M' _ _ (Nat.le_trans (show kk + 1 + 0 + 0 + fu ≤ kk + (fu + 1) by omega) hk) (Nat.le_trans (show nn + 6 + 0 + 0 + 6 * fu ≤ nn + 6 * (fu + 1) by omega) hn) h
        · rw [if_pos hc135] at h
          refine j_aload_n C dL_law_805 rfl 5 rfl ?_
          refine j_iconst C dL_law_806 (v := (0 : Int32)) (by decide) ?_
          obtain ⟨ho136, h⟩ := ck_spec h
          obtain ⟨ho137, h⟩ := ck_spec h
          refine j_lald C ho136 ho137 dL_law_807 ?_
          refine j_iload C dL_law_808 0 rfl ?_
          refine j_i2l C dL_law_810 ?_
          refine j_lcmp C dL_law_811 ?_
          refine j_if_eq C dL_law_812 (tgt := 817) (by decide) (fun hc138 => ?_) (fun hc138 => ?_)
          · rw [if_pos hc138] at h
            refine j_goto C dL_law_817 (tgt := 1870) (by decide) ?_
            refine j_iinc C dL_law_1870 7 rfl (v := (v5 + (5 : Int32))) (by first | rfl | decide) (by decide) (L' := [(5, .int (v5 + (5 : Int32))), (7, .int r132), (6, .int r121), (0, .ref v0), (1, .ref v1), (2, .ref v2), (3, .ref v3), (4, .ref v4)]) rfl ?_
            refine j_goto C dL_law_1873 (tgt := 28) (by decide) ?_
            refine j_sub (L' := [(0, .ref v0), (1, .ref v1), (2, .ref v2), (3, .ref v3), (4, .ref v4), (5, .int (v5 + (5 : Int32)))]) [3, 4, 5, 6, 7, 0] rfl ?_
            exact hK28 v0 v1 v2 v3 v4 (v5 + (5 : Int32)) M133 r M' _ _ (Nat.le_trans (show kk + 1 + 0 + 0 + fu ≤ kk + (fu + 1) by omega) hk) (Nat.le_trans (show nn + 6 + 0 + 0 + 6 * fu ≤ nn + 6 * (fu + 1) by omega) hn) h
          · rw [if_neg hc138] at h
            refine j_iconst C dL_law_815 (v := (0 : Int32)) (by decide) ?_
            cases h
      · rw [if_neg hc134] at h
        refine j_iconst C dL_law_798 (v := (0 : Int32)) (by decide) ?_
        cases h
  · rw [if_neg hc120] at h
    refine j_iconst C dL_law_740 (v := (1 : Int32)) (by decide) ?_
    refine j_goto C dL_law_741 (tgt := 745) (by decide) ?_
    refine j_aload_n C dL_law_745 rfl 3 rfl ?_
    obtain ⟨r139, M139, hq139, h⟩ := bnd2_spec h
    refine j_run1 (c_SX C (As := [.ref v1, .int (M.1 v0 ((v5 + (1 : Int32))).toNatClampNeg), .int (M.1 v0 ((v5 + (2 : Int32))).toNatClampNeg), .int (M.1 v0 ((v5 + (3 : Int32))).toNatClampNeg), .int (1 : Int32), .ref v3]) (rest := []) (ctL_refusal C.2.2.2.2.2.2.2.2.1 N Z hq139) kcRL_144 oyL_refusal ⟨by decide, by decide⟩ ⟨Nat.le_trans (show kk + 1 ≤ kk + (fu + 1) by omega) hk, Nat.le_trans (show nn + 6 ≤ nn + 6 * (fu + 1) by omega) hn⟩ (Nat.le_of_ble_eq_true rfl) rfl dL_law_746) ?_
    refine j_istore C dL_law_749 (by decide) (L' := [(6, .int r139), (0, .ref v0), (1, .ref v1), (2, .ref v2), (3, .ref v3), (4, .ref v4), (5, .int v5)]) rfl ?_
    refine j_aload_n C dL_law_751 rfl 3 rfl ?_
    refine j_aload_n C dL_law_752 rfl 1 rfl ?_
    refine j_iload C dL_law_753 6 rfl ?_
    refine j_iconst C dL_law_755 (v := (1 : Int32)) (by decide) ?_
    refine j_iadd C dL_law_756 ?_
    refine j_iald C ho115 ho116 dL_law_757 ?_
    refine j_aload_n C dL_law_758 rfl 1 rfl ?_
    refine j_iload C dL_law_759 6 rfl ?_
    refine j_iconst C dL_law_761 (v := (2 : Int32)) (by decide) ?_
    refine j_iadd C dL_law_762 ?_
    refine j_iald C ho115 ho117 dL_law_763 ?_
    refine j_aload_n C dL_law_764 rfl 1 rfl ?_
    refine j_iload C dL_law_765 6 rfl ?_
    refine j_iconst C dL_law_767 (v := (3 : Int32)) (by decide) ?_
    refine j_iadd C dL_law_768 ?_
    refine j_iald C ho115 ho118 dL_law_769 ?_
    refine j_aload_n C dL_law_770 rfl 1 rfl ?_
    refine j_iload C dL_law_771 6 rfl ?_
    refine j_iconst C dL_law_773 (v := (4 : Int32)) (by decide) ?_
    refine j_iadd C dL_law_774 ?_
    refine j_iald C ho115 ho119 dL_law_775 ?_
    refine j_if_eq C dL_law_776 (tgt := 783) (by decide) (fun hc140 => ?_) (fun hc140 => ?_)
    · rw [if_pos hc140] at h
      refine j_iconst C dL_law_783 (v := (0 : Int32)) (by decide) ?_
      obtain ⟨ho141, h⟩ := ck_spec h
      obtain ⟨r142, M142, hq142, h⟩ := bnd2_spec h
      refine j_run1 (c_V C (As := [.int (M139.1 v0 ((v5 + (1 : Int32))).toNatClampNeg), .int (M139.1 v0 ((v5 + (2 : Int32))).toNatClampNeg), .int (M139.1 v0 ((v5 + (3 : Int32))).toNatClampNeg), .int (0 : Int32)]) (rest := []) (ctX9_refusal C.2.2.2.2.2.2.2.2.1 N Z hq142) kcRL_147 oyX9_refusal (ci := 9) (T := TX9) (N := 23) rfl (by decide) ho141 ⟨by decide, by decide⟩ ⟨Nat.le_trans (show kk + 1 + 0 ≤ kk + (fu + 1) by omega) hk, Nat.le_trans (show nn + 6 + 0 ≤ nn + 6 * (fu + 1) by omega) hn⟩ (Nat.le_of_ble_eq_true rfl) rfl dL_law_784) ?_
      refine j_istore C dL_law_787 (by decide) (L' := [(7, .int r142), (6, .int r139), (0, .ref v0), (1, .ref v1), (2, .ref v2), (3, .ref v3), (4, .ref v4), (5, .int v5)]) rfl ?_
      refine j_aload_n C dL_law_789 rfl 4 rfl ?_
      obtain ⟨r143, M143, hq143, h⟩ := bnd2_spec h
      refine j_run1 (c_V C (As := []) (rest := []) (ctX9_thrown C.2.2.2.2.2.2.2.2.1 N Z hq143) kcRL_118 oyX9_thrown (ci := 9) (T := TX9) (N := 23) rfl (by decide) ho141 ⟨by decide, by decide⟩ ⟨Nat.le_trans (show kk + 1 + 0 + 0 ≤ kk + (fu + 1) by omega) hk, Nat.le_trans (show nn + 6 + 0 + 0 ≤ nn + 6 * (fu + 1) by omega) hn⟩ (Nat.le_of_ble_eq_true rfl) rfl dL_law_790) ?_
      refine j_iload C dL_law_793 1 rfl ?_
      refine j_icmp_eq C dL_law_795 (tgt := 800) (by decide) (fun hc144 => ?_) (fun hc144 => ?_)
      · rw [if_pos hc144] at h
        refine j_iload C dL_law_800 1 rfl ?_
        refine j_if_ne C dL_law_802 (tgt := 817) (by decide) (fun hc145 => ?_) (fun hc145 => ?_)
        · rw [if_neg hc145] at h
          refine j_goto C dL_law_817 (tgt := 1870) (by decide) ?_
          refine j_iinc C dL_law_1870 7 rfl (v := (v5 + (5 : Int32))) (by first | rfl | decide) (by decide) (L' := [(5, .int (v5 + (5 : Int32))), (7, .int r142), (6, .int r139), (0, .ref v0), (1, .ref v1), (2, .ref v2), (3, .ref v3), (4, .ref v4)]) rfl ?_
          refine j_goto C dL_law_1873 (tgt := 28) (by decide) ?_
          refine j_sub (L' := [(0, .ref v0), (1, .ref v1), (2, .ref v2), (3, .ref v3), (4, .ref v4), (5, .int (v5 + (5 : Int32)))]) [3, 4, 5, 6, 7, 0] rfl ?_
          exact hK28 v0 v1 v2 v3 v4 (v5 + (5 : Int32)) M143 r M' _ _ (Nat.le_trans (show kk + 1 + 0 + 0 + fu ≤ kk + (fu + 1) by omega) hk) (Nat.le_trans (show nn + 6 + 0 + 0 + 6 * fu ≤ nn + 6 * (fu + 1) by omega) hn) h
        · rw [if_pos hc145] at h
          refine j_aload_n C dL_law_805 rfl 5 rfl ?_
          refine j_iconst C dL_law_806 (v := (0 : Int32)) (by decide) ?_
          obtain ⟨ho146, h⟩ := ck_spec h
          obtain ⟨ho147, h⟩ := ck_spec h
          refine j_lald C ho146 ho147 dL_law_807 ?_
          refine j_iload C dL_law_808 0 rfl ?_
          refine j_i2l C dL_law_810 ?_
          refine j_lcmp C dL_law_811 ?_
          refine j_if_eq C dL_law_812 (tgt := 817) (by decide) (fun hc148 => ?_) (fun hc148 => ?_)
          · rw [if_pos hc148] at h
            refine j_goto C dL_law_817 (tgt := 1870) (by decide) ?_
            refine j_iinc C dL_law_1870 7 rfl (v := (v5 + (5 : Int32))) (by first | rfl | decide) (by decide) (L' := [(5, .int (v5 + (5 : Int32))), (7, .int r142), (6, .int r139), (0, .ref v0), (1, .ref v1), (2, .ref v2), (3, .ref v3), (4, .ref v4)]) rfl ?_
            refine j_goto C dL_law_1873 (tgt := 28) (by decide) ?_
            refine j_sub (L' := [(0, .ref v0), (1, .ref v1), (2, .ref v2), (3, .ref v3), (4, .ref v4), (5, .int (v5 + (5 : Int32)))]) [3, 4, 5, 6, 7, 0] rfl ?_
            exact hK28 v0 v1 v2 v3 v4 (v5 + (5 : Int32)) M143 r M' _ _ (Nat.le_trans (show kk + 1 + 0 + 0 + fu ≤ kk + (fu + 1) by omega) hk) (Nat.le_trans (show nn + 6 + 0 + 0 + 6 * fu ≤ nn + 6 * (fu + 1) by omega) hn) h
          · rw [if_neg hc148] at h
            refine j_iconst C dL_law_815 (v := (0 : Int32)) (by decide) ?_
            cases h
      · rw [if_neg hc144] at h
        refine j_iconst C dL_law_798 (v := (0 : Int32)) (by decide) ?_
        cases h
    · rw [if_neg hc140] at h
      refine j_iconst C dL_law_779 (v := (1 : Int32)) (by decide) ?_
      refine j_goto C dL_law_780 (tgt := 784) (by decide) ?_
      obtain ⟨ho149, h⟩ := ck_spec h
      obtain ⟨r150, M150, hq150, h⟩ := bnd2_spec h
      refine j_run1 (c_V C (As := [.int (M139.1 v0 ((v5 + (1 : Int32))).toNatClampNeg), .int (M139.1 v0 ((v5 + (2 : Int32))).toNatClampNeg), .int (M139.1 v0 ((v5 + (3 : Int32))).toNatClampNeg), .int (1 : Int32)]) (rest := []) (ctX9_refusal C.2.2.2.2.2.2.2.2.1 N Z hq150) kcRL_147 oyX9_refusal (ci := 9) (T := TX9) (N := 23) rfl (by decide) ho149 ⟨by decide, by decide⟩ ⟨Nat.le_trans (show kk + 1 + 0 ≤ kk + (fu + 1) by omega) hk, Nat.le_trans (show nn + 6 + 0 ≤ nn + 6 * (fu + 1) by omega) hn⟩ (Nat.le_of_ble_eq_true rfl) rfl dL_law_784) ?_
      refine j_istore C dL_law_787 (by decide) (L' := [(7, .int r150), (6, .int r139), (0, .ref v0), (1, .ref v1), (2, .ref v2), (3, .ref v3), (4, .ref v4), (5, .int v5)]) rfl ?_
      refine j_aload_n C dL_law_789 rfl 4 rfl ?_
      obtain ⟨r151, M151, hq151, h⟩ := bnd2_spec h
      refine j_run1 (c_V C (As := []) (rest := []) (ctX9_thrown C.2.2.2.2.2.2.2.2.1 N Z hq151) kcRL_118 oyX9_thrown (ci := 9) (T := TX9) (N := 23) rfl (by decide) ho149 ⟨by decide, by decide⟩ ⟨Nat.le_trans (show kk + 1 + 0 + 0 ≤ kk + (fu + 1) by omega) hk, Nat.le_trans (show nn + 6 + 0 + 0 ≤ nn + 6 * (fu + 1) by omega) hn⟩ (Nat.le_of_ble_eq_true rfl) rfl dL_law_790) ?_
      refine j_iload C dL_law_793 1 rfl ?_
      refine j_icmp_eq C dL_law_795 (tgt := 800) (by decide) (fun hc152 => ?_) (fun hc152 => ?_)
      · rw [if_pos hc152] at h
        refine j_iload C dL_law_800 1 rfl ?_
        refine j_if_ne C dL_law_802 (tgt := 817) (by decide) (fun hc153 => ?_) (fun hc153 => ?_)
        · rw [if_neg hc153] at h
          refine j_goto C dL_law_817 (tgt := 1870) (by decide) ?_
          refine j_iinc C dL_law_1870 7 rfl (v := (v5 + (5 : Int32))) (by first | rfl | decide) (by decide) (L' := [(5, .int (v5 + (5 : Int32))), (7, .int r150), (6, .int r139), (0, .ref v0), (1, .ref v1), (2, .ref v2), (3, .ref v3), (4, .ref v4)]) rfl ?_
          refine j_goto C dL_law_1873 (tgt := 28) (by decide) ?_
          refine j_sub (L' := [(0, .ref v0), (1, .ref v1), (2, .ref v2), (3, .ref v3), (4, .ref v4), (5, .int (v5 + (5 : Int32)))]) [3, 4, 5, 6, 7, 0] rfl ?_
          exact hK28 v0 v1 v2 v3 v4 (v5 + (5 : Int32)) M151 r M' _ _ (Nat.le_trans (show kk + 1 + 0 + 0 + fu ≤ kk + (fu + 1) by omega) hk) (Nat.le_trans (show nn + 6 + 0 + 0 + 6 * fu ≤ nn + 6 * (fu + 1) by omega) hn) h
        · rw [if_pos hc153] at h
          refine j_aload_n C dL_law_805 rfl 5 rfl ?_
          refine j_iconst C dL_law_806 (v := (0 : Int32)) (by decide) ?_
          obtain ⟨ho154, h⟩ := ck_spec h
          obtain ⟨ho155, h⟩ := ck_spec h
          refine j_lald C ho154 ho155 dL_law_807 ?_
          refine j_iload C dL_law_808 0 rfl ?_
          refine j_i2l C dL_law_810 ?_
          refine j_lcmp C dL_law_811 ?_
          refine j_if_eq C dL_law_812 (tgt := 817) (by decide) (fun hc156 => ?_) (fun hc156 => ?_)
          · rw [if_pos hc156] at h
            refine j_goto C dL_law_817 (tgt := 1870) (by decide) ?_
            refine j_iinc C dL_law_1870 7 rfl (v := (v5 + (5 : Int32))) (by first | rfl | decide) (by decide) (L' := [(5, .int (v5 + (5 : Int32))), (7, .int r150), (6, .int r139), (0, .ref v0), (1, .ref v1), (2, .ref v2), (3, .ref v3), (4, .ref v4)]) rfl ?_
            refine j_goto C dL_law_1873 (tgt := 28) (by decide) ?_
            refine j_sub (L' := [(0, .ref v0), (1, .ref v1), (2, .ref v2), (3, .ref v3), (4, .ref v4), (5, .int (v5 + (5 : Int32)))]) [3, 4, 5, 6, 7, 0] rfl ?_
            exact hK28 v0 v1 v2 v3 v4 (v5 + (5 : Int32)) M151 r M' _ _ (Nat.le_trans (show kk + 1 + 0 + 0 + fu ≤ kk + (fu + 1) by omega) hk) (Nat.le_trans (show nn + 6 + 0 + 0 + 6 * fu ≤ nn + 6 * (fu + 1) by omega) hn) h
          · rw [if_neg hc156] at h
            refine j_iconst C dL_law_815 (v := (0 : Int32)) (by decide) ?_
            cases h
      · rw [if_neg hc152] at h
        refine j_iconst C dL_law_798 (v := (0 : Int32)) (by decide) ?_
        cases h
def fL_law_820 (N : Nat) (Z : mZ) (K28 : Nat → Nat → Nat → Nat → Nat → Int32 → mM → Option (Int32 × mM)) (v0 : Nat) (v1 : Nat) (v2 : Nat) (v3 : Nat) (v4 : Nat) (v5 : Int32) (M : mM) : Option (Int32 × mM) := ck (okI Z v0) (ck (inB (v5 + (1 : Int32)) (Z.2.2.1 v0)) (ck (inB (v5 + (2 : Int32)) (Z.2.2.1 v0)) (if (M.1 v0 ((v5 + (2 : Int32))).toNatClampNeg) = 0 then bnd2 (fL_report N Z v1 (M.1 v0 ((v5 + (1 : Int32))).toNatClampNeg) (0 : Int32) v3 M) (fun r162 M162 => if (M162.1 v0 ((v5 + (2 : Int32))).toNatClampNeg) = 0 then ck (okO Z v2 9) (bnd2 (fX9_report N Z v2 (M162.1 v0 ((v5 + (1 : Int32))).toNatClampNeg) (0 : Int32) M162) (fun r165 M165 => bnd2 (fX9_thrown N Z v2 M165) (fun r166 M166 => if r166 = r162 then if r162 = 0 then ck (okO Z v3 22) (ck (inB (0 : Int32) (Z.2.2.1 v3)) (if (lg_cmp (M166.2.1 v3 ((0 : Int32)).toNatClampNeg) ((r165).toInt64)) = 0 then K28 v0 v1 v2 v3 v4 (v5 + (5 : Int32)) M166 else none)) else K28 v0 v1 v2 v3 v4 (v5 + (5 : Int32)) M166 else none))) else ck (okO Z v2 9) (bnd2 (fX9_report N Z v2 (M162.1 v0 ((v5 + (1 : Int32))).toNatClampNeg) (1 : Int32) M162) (fun r173 M173 => bnd2 (fX9_thrown N Z v2 M173) (fun r174 M174 => if r174 = r162 then if r162 = 0 then ck (okO Z v3 22) (ck (inB (0 : Int32) (Z.2.2.1 v3)) (if (lg_cmp (M174.2.1 v3 ((0 : Int32)).toNatClampNeg) ((r173).toInt64)) = 0 then K28 v0 v1 v2 v3 v4 (v5 + (5 : Int32)) M174 else none)) else K28 v0 v1 v2 v3 v4 (v5 + (5 : Int32)) M174 else none)))) else bnd2 (fL_report N Z v1 (M.1 v0 ((v5 + (1 : Int32))).toNatClampNeg) (1 : Int32) v3 M) (fun r180 M180 => if (M180.1 v0 ((v5 + (2 : Int32))).toNatClampNeg) = 0 then ck (okO Z v2 9) (bnd2 (fX9_report N Z v2 (M180.1 v0 ((v5 + (1 : Int32))).toNatClampNeg) (0 : Int32) M180) (fun r183 M183 => bnd2 (fX9_thrown N Z v2 M183) (fun r184 M184 => if r184 = r180 then if r180 = 0 then ck (okO Z v3 22) (ck (inB (0 : Int32) (Z.2.2.1 v3)) (if (lg_cmp (M184.2.1 v3 ((0 : Int32)).toNatClampNeg) ((r183).toInt64)) = 0 then K28 v0 v1 v2 v3 v4 (v5 + (5 : Int32)) M184 else none)) else K28 v0 v1 v2 v3 v4 (v5 + (5 : Int32)) M184 else none))) else ck (okO Z v2 9) (bnd2 (fX9_report N Z v2 (M180.1 v0 ((v5 + (1 : Int32))).toNatClampNeg) (1 : Int32) M180) (fun r191 M191 => bnd2 (fX9_thrown N Z v2 M191) (fun r192 M192 => if r192 = r180 then if r180 = 0 then ck (okO Z v3 22) (ck (inB (0 : Int32) (Z.2.2.1 v3)) (if (lg_cmp (M192.2.1 v3 ((0 : Int32)).toNatClampNeg) ((r191).toInt64)) = 0 then K28 v0 v1 v2 v3 v4 (v5 + (5 : Int32)) M192 else none)) else K28 v0 v1 v2 v3 v4 (v5 + (5 : Int32)) M192 else none)))))))
set_option maxHeartbeats 4000000 in
set_option maxRecDepth 100000 in
theorem tL_law_820 {G : mG} {p : Program} {l : Launch} {e : Env} {s : State} {m : MethodId} {args : Array Value} {below : List Frame} {meth : Method} {c : Code} {Q : State → Prop} {tb : List ExceptionTableEntry} (hend : ∀ (k n : Nat) (L : mL) (Z : mZ) (M : mM), k ≤ KM → n ≤ NMX → JJ G p l e room_1 s m args below meth c 9 Q k n 1877 L [.int 1] Z M) (C : Cx G p l s m args meth c RL cL_law 9 (some .boolean) tb) (N : Nat) (Z : mZ) (K28 : Nat → Nat → Nat → Nat → Nat → Int32 → mM → Option (Int32 × mM)) (fu : Nat) (hK28 : ∀ (v0 : Nat) (v1 : Nat) (v2 : Nat) (v3 : Nat) (v4 : Nat) (v5 : Int32) (M : mM) (r : Int32) (M' : mM), ∀ (kk nn : Nat), kk + fu ≤ KM → nn + 6 * fu ≤ NMX → K28 v0 v1 v2 v3 v4 v5 M = some (r, M') → JJ G p l e room_1 s m args below meth c 9 Q kk nn 28 [(0, .ref v0), (1, .ref v1), (2, .ref v2), (3, .ref v3), (4, .ref v4), (5, .int v5)] [] Z M) : ∀ (v0 : Nat) (v1 : Nat) (v2 : Nat) (v3 : Nat) (v4 : Nat) (v5 : Int32) (M : mM) (r : Int32) (M' : mM), ∀ (kk nn : Nat), kk + (fu + 1) ≤ KM → nn + 6 * (fu + 1) ≤ NMX → fL_law_820 N Z K28 v0 v1 v2 v3 v4 v5 M = some (r, M') → JJ G p l e room_1 s m args below meth c 9 Q kk nn 820 [(0, .ref v0), (1, .ref v1), (2, .ref v2), (3, .ref v3), (4, .ref v4), (5, .int v5)] [] Z M := by
  intro v0 v1 v2 v3 v4 v5 M r M' kk nn hk hn h
  unfold fL_law_820 at h
  refine j_aload_n C dL_law_820 rfl 1 rfl ?_
  refine j_aload_n C dL_law_821 rfl 0 rfl ?_
  refine j_iload C dL_law_822 5 rfl ?_
  refine j_iconst C dL_law_824 (v := (1 : Int32)) (by decide) ?_
  refine j_iadd C dL_law_825 ?_
  obtain ⟨ho158, h⟩ := ck_spec h
  obtain ⟨ho159, h⟩ := ck_spec h
  refine j_iald C ho158 ho159 dL_law_826 ?_
  refine j_aload_n C dL_law_827 rfl 0 rfl ?_
  refine j_iload C dL_law_828 5 rfl ?_
  refine j_iconst C dL_law_830 (v := (2 : Int32)) (by decide) ?_
  refine j_iadd C dL_law_831 ?_
  obtain ⟨ho160, h⟩ := ck_spec h
  refine j_iald C ho158 ho160 dL_law_832 ?_
  refine j_if_eq C dL_law_833 (tgt := 840) (by decide) (fun hc161 => ?_) (fun hc161 => ?_)
  · rw [if_pos hc161] at h
    refine j_iconst C dL_law_840 (v := (0 : Int32)) (by decide) ?_
    refine j_aload_n C dL_law_841 rfl 3 rfl ?_
    obtain ⟨r162, M162, hq162, h⟩ := bnd2_spec h
    refine j_run1 (c_SX C (As := [.ref v1, .int (M.1 v0 ((v5 + (1 : Int32))).toNatClampNeg), .int (0 : Int32), .ref v3]) (rest := []) (ctL_report C.2.2.2.2.2.2.2.2.1 N Z hq162) kcRL_148 oyL_report ⟨by decide, by decide⟩ ⟨Nat.le_trans (show kk + 1 ≤ kk + (fu + 1) by omega) hk, Nat.le_trans (show nn + 6 ≤ nn + 6 * (fu + 1) by omega) hn⟩ (Nat.le_of_ble_eq_true rfl) rfl dL_law_842) ?_
    refine j_istore C dL_law_845 (by decide) (L' := [(6, .int r162), (0, .ref v0), (1, .ref v1), (2, .ref v2), (3, .ref v3), (4, .ref v4), (5, .int v5)]) rfl ?_
    refine j_aload_n C dL_law_847 rfl 3 rfl ?_
    refine j_aload_n C dL_law_848 rfl 1 rfl ?_
    refine j_iload C dL_law_849 6 rfl ?_
    refine j_iconst C dL_law_851 (v := (1 : Int32)) (by decide) ?_
    refine j_iadd C dL_law_852 ?_
    refine j_iald C ho158 ho159 dL_law_853 ?_
    refine j_aload_n C dL_law_854 rfl 1 rfl ?_
    refine j_iload C dL_law_855 6 rfl ?_
    refine j_iconst C dL_law_857 (v := (2 : Int32)) (by decide) ?_
    refine j_iadd C dL_law_858 ?_
    refine j_iald C ho158 ho160 dL_law_859 ?_
    refine j_if_eq C dL_law_860 (tgt := 867) (by decide) (fun hc163 => ?_) (fun hc163 => ?_)
    · rw [if_pos hc163] at h
      refine j_iconst C dL_law_867 (v := (0 : Int32)) (by decide) ?_
      obtain ⟨ho164, h⟩ := ck_spec h
      obtain ⟨r165, M165, hq165, h⟩ := bnd2_spec h
      refine j_run1 (c_V C (As := [.int (M162.1 v0 ((v5 + (1 : Int32))).toNatClampNeg), .int (0 : Int32)]) (rest := []) (ctX9_report C.2.2.2.2.2.2.2.2.1 N Z hq165) kcRL_151 oyX9_report (ci := 9) (T := TX9) (N := 23) rfl (by decide) ho164 ⟨by decide, by decide⟩ ⟨Nat.le_trans (show kk + 1 + 0 ≤ kk + (fu + 1) by omega) hk, Nat.le_trans (show nn + 6 + 0 ≤ nn + 6 * (fu + 1) by omega) hn⟩ (Nat.le_of_ble_eq_true rfl) rfl dL_law_868) ?_
      refine j_istore C dL_law_871 (by decide) (L' := [(7, .int r165), (6, .int r162), (0, .ref v0), (1, .ref v1), (2, .ref v2), (3, .ref v3), (4, .ref v4), (5, .int v5)]) rfl ?_
      refine j_aload_n C dL_law_873 rfl 4 rfl ?_
      obtain ⟨r166, M166, hq166, h⟩ := bnd2_spec h
      refine j_run1 (c_V C (As := []) (rest := []) (ctX9_thrown C.2.2.2.2.2.2.2.2.1 N Z hq166) kcRL_118 oyX9_thrown (ci := 9) (T := TX9) (N := 23) rfl (by decide) ho164 ⟨by decide, by decide⟩ ⟨Nat.le_trans (show kk + 1 + 0 + 0 ≤ kk + (fu + 1) by omega) hk, Nat.le_trans (show nn + 6 + 0 + 0 ≤ nn + 6 * (fu + 1) by omega) hn⟩ (Nat.le_of_ble_eq_true rfl) rfl dL_law_874) ?_
      refine j_iload C dL_law_877 1 rfl ?_
      refine j_icmp_eq C dL_law_879 (tgt := 884) (by decide) (fun hc167 => ?_) (fun hc167 => ?_)
      · rw [if_pos hc167] at h
        refine j_iload C dL_law_884 1 rfl ?_
        refine j_if_ne C dL_law_886 (tgt := 901) (by decide) (fun hc168 => ?_) (fun hc168 => ?_)
        · rw [if_neg hc168] at h
          refine j_goto C dL_law_901 (tgt := 1870) (by decide) ?_
          refine j_iinc C dL_law_1870 7 rfl (v := (v5 + (5 : Int32))) (by first | rfl | decide) (by decide) (L' := [(5, .int (v5 + (5 : Int32))), (7, .int r165), (6, .int r162), (0, .ref v0), (1, .ref v1), (2, .ref v2), (3, .ref v3), (4, .ref v4)]) rfl ?_
          refine j_goto C dL_law_1873 (tgt := 28) (by decide) ?_
          refine j_sub (L' := [(0, .ref v0), (1, .ref v1), (2, .ref v2), (3, .ref v3), (4, .ref v4), (5, .int (v5 + (5 : Int32)))]) [3, 4, 5, 6, 7, 0] rfl ?_
          exact hK28 v0 v1 v2 v3 v4 (v5 + (5 : Int32)) M166 r M' _ _ (Nat.le_trans (show kk + 1 + 0 + 0 + fu ≤ kk + (fu + 1) by omega) hk) (Nat.le_trans (show nn + 6 + 0 + 0 + 6 * fu ≤ nn + 6 * (fu + 1) by omega) hn) h
        · rw [if_pos hc168] at h
          refine j_aload_n C dL_law_889 rfl 5 rfl ?_
          refine j_iconst C dL_law_890 (v := (0 : Int32)) (by decide) ?_
          obtain ⟨ho169, h⟩ := ck_spec h
          obtain ⟨ho170, h⟩ := ck_spec h
          refine j_lald C ho169 ho170 dL_law_891 ?_
          refine j_iload C dL_law_892 0 rfl ?_
          refine j_i2l C dL_law_894 ?_
          refine j_lcmp C dL_law_895 ?_
          refine j_if_eq C dL_law_896 (tgt := 901) (by decide) (fun hc171 => ?_) (fun hc171 => ?_)
          · rw [if_pos hc171] at h
            refine j_goto C dL_law_901 (tgt := 1870) (by decide) ?_
            refine j_iinc C dL_law_1870 7 rfl (v := (v5 + (5 : Int32))) (by first | rfl | decide) (by decide) (L' := [(5, .int (v5 + (5 : Int32))), (7, .int r165), (6, .int r162), (0, .ref v0), (1, .ref v1), (2, .ref v2), (3, .ref v3), (4, .ref v4)]) rfl ?_
            refine j_goto C dL_law_1873 (tgt := 28) (by decide) ?_
            refine j_sub (L' := [(0, .ref v0), (1, .ref v1), (2, .ref v2), (3, .ref v3), (4, .ref v4), (5, .int (v5 + (5 : Int32)))]) [3, 4, 5, 6, 7, 0] rfl ?_
            exact hK28 v0 v1 v2 v3 v4 (v5 + (5 : Int32)) M166 r M' _ _ (Nat.le_trans (show kk + 1 + 0 + 0 + fu ≤ kk + (fu + 1) by omega) hk) (Nat.le_trans (show nn + 6 + 0 + 0 + 6 * fu ≤ nn + 6 * (fu + 1) by omega) hn) h
          · rw [if_neg hc171] at h
            refine j_iconst C dL_law_899 (v := (0 : Int32)) (by decide) ?_
            cases h
      · rw [if_neg hc167] at h
        refine j_iconst C dL_law_882 (v := (0 : Int32)) (by decide) ?_
        cases h
    · rw [if_neg hc163] at h
      refine j_iconst C dL_law_863 (v := (1 : Int32)) (by decide) ?_
      refine j_goto C dL_law_864 (tgt := 868) (by decide) ?_
      obtain ⟨ho172, h⟩ := ck_spec h
      obtain ⟨r173, M173, hq173, h⟩ := bnd2_spec h
      refine j_run1 (c_V C (As := [.int (M162.1 v0 ((v5 + (1 : Int32))).toNatClampNeg), .int (1 : Int32)]) (rest := []) (ctX9_report C.2.2.2.2.2.2.2.2.1 N Z hq173) kcRL_151 oyX9_report (ci := 9) (T := TX9) (N := 23) rfl (by decide) ho172 ⟨by decide, by decide⟩ ⟨Nat.le_trans (show kk + 1 + 0 ≤ kk + (fu + 1) by omega) hk, Nat.le_trans (show nn + 6 + 0 ≤ nn + 6 * (fu + 1) by omega) hn⟩ (Nat.le_of_ble_eq_true rfl) rfl dL_law_868) ?_
      refine j_istore C dL_law_871 (by decide) (L' := [(7, .int r173), (6, .int r162), (0, .ref v0), (1, .ref v1), (2, .ref v2), (3, .ref v3), (4, .ref v4), (5, .int v5)]) rfl ?_
      refine j_aload_n C dL_law_873 rfl 4 rfl ?_
      obtain ⟨r174, M174, hq174, h⟩ := bnd2_spec h
      refine j_run1 (c_V C (As := []) (rest := []) (ctX9_thrown C.2.2.2.2.2.2.2.2.1 N Z hq174) kcRL_118 oyX9_thrown (ci := 9) (T := TX9) (N := 23) rfl (by decide) ho172 ⟨by decide, by decide⟩ ⟨Nat.le_trans (show kk + 1 + 0 + 0 ≤ kk + (fu + 1) by omega) hk, Nat.le_trans (show nn + 6 + 0 + 0 ≤ nn + 6 * (fu + 1) by omega) hn⟩ (Nat.le_of_ble_eq_true rfl) rfl dL_law_874) ?_
      refine j_iload C dL_law_877 1 rfl ?_
      refine j_icmp_eq C dL_law_879 (tgt := 884) (by decide) (fun hc175 => ?_) (fun hc175 => ?_)
      · rw [if_pos hc175] at h
        refine j_iload C dL_law_884 1 rfl ?_
        refine j_if_ne C dL_law_886 (tgt := 901) (by decide) (fun hc176 => ?_) (fun hc176 => ?_)
        · rw [if_neg hc176] at h
          refine j_goto C dL_law_901 (tgt := 1870) (by decide) ?_
          refine j_iinc C dL_law_1870 7 rfl (v := (v5 + (5 : Int32))) (by first | rfl | decide) (by decide) (L' := [(5, .int (v5 + (5 : Int32))), (7, .int r173), (6, .int r162), (0, .ref v0), (1, .ref v1), (2, .ref v2), (3, .ref v3), (4, .ref v4)]) rfl ?_
          refine j_goto C dL_law_1873 (tgt := 28) (by decide) ?_
          refine j_sub (L' := [(0, .ref v0), (1, .ref v1), (2, .ref v2), (3, .ref v3), (4, .ref v4), (5, .int (v5 + (5 : Int32)))]) [3, 4, 5, 6, 7, 0] rfl ?_
          exact hK28 v0 v1 v2 v3 v4 (v5 + (5 : Int32)) M174 r M' _ _ (Nat.le_trans (show kk + 1 + 0 + 0 + fu ≤ kk + (fu + 1) by omega) hk) (Nat.le_trans (show nn + 6 + 0 + 0 + 6 * fu ≤ nn + 6 * (fu + 1) by omega) hn) h
        · rw [if_pos hc176] at h
          refine j_aload_n C dL_law_889 rfl 5 rfl ?_
          refine j_iconst C dL_law_890 (v := (0 : Int32)) (by decide) ?_
          obtain ⟨ho177, h⟩ := ck_spec h
          obtain ⟨ho178, h⟩ := ck_spec h
          refine j_lald C ho177 ho178 dL_law_891 ?_
          refine j_iload C dL_law_892 0 rfl ?_
          refine j_i2l C dL_law_894 ?_
          refine j_lcmp C dL_law_895 ?_
          refine j_if_eq C dL_law_896 (tgt := 901) (by decide) (fun hc179 => ?_) (fun hc179 => ?_)
          · rw [if_pos hc179] at h
            refine j_goto C dL_law_901 (tgt := 1870) (by decide) ?_
            refine j_iinc C dL_law_1870 7 rfl (v := (v5 + (5 : Int32))) (by first | rfl | decide) (by decide) (L' := [(5, .int (v5 + (5 : Int32))), (7, .int r173), (6, .int r162), (0, .ref v0), (1, .ref v1), (2, .ref v2), (3, .ref v3), (4, .ref v4)]) rfl ?_
            refine j_goto C dL_law_1873 (tgt := 28) (by decide) ?_
            refine j_sub (L' := [(0, .ref v0), (1, .ref v1), (2, .ref v2), (3, .ref v3), (4, .ref v4), (5, .int (v5 + (5 : Int32)))]) [3, 4, 5, 6, 7, 0] rfl ?_
            exact hK28 v0 v1 v2 v3 v4 (v5 + (5 : Int32)) M174 r M' _ _ (Nat.le_trans (show kk + 1 + 0 + 0 + fu ≤ kk + (fu + 1) by omega) hk) (Nat.le_trans (show nn + 6 + 0 + 0 + 6 * fu ≤ nn + 6 * (fu + 1) by omega) hn) h
          · rw [if_neg hc179] at h
            refine j_iconst C dL_law_899 (v := (0 : Int32)) (by decide) ?_
            cases h
      · rw [if_neg hc175] at h
        refine j_iconst C dL_law_882 (v := (0 : Int32)) (by decide) ?_
        cases h
  · rw [if_neg hc161] at h
    refine j_iconst C dL_law_836 (v := (1 : Int32)) (by decide) ?_
    refine j_goto C dL_law_837 (tgt := 841) (by decide) ?_
    refine j_aload_n C dL_law_841 rfl 3 rfl ?_
    obtain ⟨r180, M180, hq180, h⟩ := bnd2_spec h
    refine j_run1 (c_SX C (As := [.ref v1, .int (M.1 v0 ((v5 + (1 : Int32))).toNatClampNeg), .int (1 : Int32), .ref v3]) (rest := []) (ctL_report C.2.2.2.2.2.2.2.2.1 N Z hq180) kcRL_148 oyL_report ⟨by decide, by decide⟩ ⟨Nat.le_trans (show kk + 1 ≤ kk + (fu + 1) by omega) hk, Nat.le_trans (show nn + 6 ≤ nn + 6 * (fu + 1) by omega) hn⟩ (Nat.le_of_ble_eq_true rfl) rfl dL_law_842) ?_
    refine j_istore C dL_law_845 (by decide) (L' := [(6, .int r180), (0, .ref v0), (1, .ref v1), (2, .ref v2), (3, .ref v3), (4, .ref v4), (5, .int v5)]) rfl ?_
    refine j_aload_n C dL_law_847 rfl 3 rfl ?_
    refine j_aload_n C dL_law_848 rfl 1 rfl ?_
    refine j_iload C dL_law_849 6 rfl ?_
    refine j_iconst C dL_law_851 (v := (1 : Int32)) (by decide) ?_
    refine j_iadd C dL_law_852 ?_
    refine j_iald C ho158 ho159 dL_law_853 ?_
    refine j_aload_n C dL_law_854 rfl 1 rfl ?_
    refine j_iload C dL_law_855 6 rfl ?_
    refine j_iconst C dL_law_857 (v := (2 : Int32)) (by decide) ?_
    refine j_iadd C dL_law_858 ?_
    refine j_iald C ho158 ho160 dL_law_859 ?_
    refine j_if_eq C dL_law_860 (tgt := 867) (by decide) (fun hc181 => ?_) (fun hc181 => ?_)
    · rw [if_pos hc181] at h
      refine j_iconst C dL_law_867 (v := (0 : Int32)) (by decide) ?_
      obtain ⟨ho182, h⟩ := ck_spec h
      obtain ⟨r183, M183, hq183, h⟩ := bnd2_spec h
      refine j_run1 (c_V C (As := [.int (M180.1 v0 ((v5 + (1 : Int32))).toNatClampNeg), .int (0 : Int32)]) (rest := []) (ctX9_report C.2.2.2.2.2.2.2.2.1 N Z hq183) kcRL_151 oyX9_report (ci := 9) (T := TX9) (N := 23) rfl (by decide) ho182 ⟨by decide, by decide⟩ ⟨Nat.le_trans (show kk + 1 + 0 ≤ kk + (fu + 1) by omega) hk, Nat.le_trans (show nn + 6 + 0 ≤ nn + 6 * (fu + 1) by omega) hn⟩ (Nat.le_of_ble_eq_true rfl) rfl dL_law_868) ?_
      refine j_istore C dL_law_871 (by decide) (L' := [(7, .int r183), (6, .int r180), (0, .ref v0), (1, .ref v1), (2, .ref v2), (3, .ref v3), (4, .ref v4), (5, .int v5)]) rfl ?_
      refine j_aload_n C dL_law_873 rfl 4 rfl ?_
      obtain ⟨r184, M184, hq184, h⟩ := bnd2_spec h
      refine j_run1 (c_V C (As := []) (rest := []) (ctX9_thrown C.2.2.2.2.2.2.2.2.1 N Z hq184) kcRL_118 oyX9_thrown (ci := 9) (T := TX9) (N := 23) rfl (by decide) ho182 ⟨by decide, by decide⟩ ⟨Nat.le_trans (show kk + 1 + 0 + 0 ≤ kk + (fu + 1) by omega) hk, Nat.le_trans (show nn + 6 + 0 + 0 ≤ nn + 6 * (fu + 1) by omega) hn⟩ (Nat.le_of_ble_eq_true rfl) rfl dL_law_874) ?_
      refine j_iload C dL_law_877 1 rfl ?_
      refine j_icmp_eq C dL_law_879 (tgt := 884) (by decide) (fun hc185 => ?_) (fun hc185 => ?_)
      · rw [if_pos hc185] at h
        refine j_iload C dL_law_884 1 rfl ?_
        refine j_if_ne C dL_law_886 (tgt := 901) (by decide) (fun hc186 => ?_) (fun hc186 => ?_)
        · rw [if_neg hc186] at h
          refine j_goto C dL_law_901 (tgt := 1870) (by decide) ?_
          refine j_iinc C dL_law_1870 7 rfl (v := (v5 + (5 : Int32))) (by first | rfl | decide) (by decide) (L' := [(5, .int (v5 + (5 : Int32))), (7, .int r183), (6, .int r180), (0, .ref v0), (1, .ref v1), (2, .ref v2), (3, .ref v3), (4, .ref v4)]) rfl ?_
          refine j_goto C dL_law_1873 (tgt := 28) (by decide) ?_
          refine j_sub (L' := [(0, .ref v0), (1, .ref v1), (2, .ref v2), (3, .ref v3), (4, .ref v4), (5, .int (v5 + (5 : Int32)))]) [3, 4, 5, 6, 7, 0] rfl ?_
          exact hK28 v0 v1 v2 v3 v4 (v5 + (5 : Int32)) M184 r M' _ _ (Nat.le_trans (show kk + 1 + 0 + 0 + fu ≤ kk + (fu + 1) by omega) hk) (Nat.le_trans (show nn + 6 + 0 + 0 + 6 * fu ≤ nn + 6 * (fu + 1) by omega) hn) h
        · rw [if_pos hc186] at h
          refine j_aload_n C dL_law_889 rfl 5 rfl ?_
          refine j_iconst C dL_law_890 (v := (0 : Int32)) (by decide) ?_
          obtain ⟨ho187, h⟩ := ck_spec h
          obtain ⟨ho188, h⟩ := ck_spec h
          refine j_lald C ho187 ho188 dL_law_891 ?_
          refine j_iload C dL_law_892 0 rfl ?_
          refine j_i2l C dL_law_894 ?_
          refine j_lcmp C dL_law_895 ?_
          refine j_if_eq C dL_law_896 (tgt := 901) (by decide) (fun hc189 => ?_) (fun hc189 => ?_)
          · rw [if_pos hc189] at h
            refine j_goto C dL_law_901 (tgt := 1870) (by decide) ?_
            refine j_iinc C dL_law_1870 7 rfl (v := (v5 + (5 : Int32))) (by first | rfl | decide) (by decide) (L' := [(5, .int (v5 + (5 : Int32))), (7, .int r183), (6, .int r180), (0, .ref v0), (1, .ref v1), (2, .ref v2), (3, .ref v3), (4, .ref v4)]) rfl ?_
            refine j_goto C dL_law_1873 (tgt := 28) (by decide) ?_
            refine j_sub (L' := [(0, .ref v0), (1, .ref v1), (2, .ref v2), (3, .ref v3), (4, .ref v4), (5, .int (v5 + (5 : Int32)))]) [3, 4, 5, 6, 7, 0] rfl ?_
            exact hK28 v0 v1 v2 v3 v4 (v5 + (5 : Int32)) M184 r M' _ _ (Nat.le_trans (show kk + 1 + 0 + 0 + fu ≤ kk + (fu + 1) by omega) hk) (Nat.le_trans (show nn + 6 + 0 + 0 + 6 * fu ≤ nn + 6 * (fu + 1) by omega) hn) h
          · rw [if_neg hc189] at h
            refine j_iconst C dL_law_899 (v := (0 : Int32)) (by decide) ?_
            cases h
      · rw [if_neg hc185] at h
        refine j_iconst C dL_law_882 (v := (0 : Int32)) (by decide) ?_
        cases h
    · rw [if_neg hc181] at h
      refine j_iconst C dL_law_863 (v := (1 : Int32)) (by decide) ?_
      refine j_goto C dL_law_864 (tgt := 868) (by decide) ?_
      obtain ⟨ho190, h⟩ := ck_spec h
      obtain ⟨r191, M191, hq191, h⟩ := bnd2_spec h
      refine j_run1 (c_V C (As := [.int (M180.1 v0 ((v5 + (1 : Int32))).toNatClampNeg), .int (1 : Int32)]) (rest := []) (ctX9_report C.2.2.2.2.2.2.2.2.1 N Z hq191) kcRL_151 oyX9_report (ci := 9) (T := TX9) (N := 23) rfl (by decide) ho190 ⟨by decide, by decide⟩ ⟨Nat.le_trans (show kk + 1 + 0 ≤ kk + (fu + 1) by omega) hk, Nat.le_trans (show nn + 6 + 0 ≤ nn + 6 * (fu + 1) by omega) hn⟩ (Nat.le_of_ble_eq_true rfl) rfl dL_law_868) ?_
      refine j_istore C dL_law_871 (by decide) (L' := [(7, .int r191), (6, .int r180), (0, .ref v0), (1, .ref v1), (2, .ref v2), (3, .ref v3), (4, .ref v4), (5, .int v5)]) rfl ?_
      refine j_aload_n C dL_law_873 rfl 4 rfl ?_
      obtain ⟨r192, M192, hq192, h⟩ := bnd2_spec h
      refine j_run1 (c_V C (As := []) (rest := []) (ctX9_thrown C.2.2.2.2.2.2.2.2.1 N Z hq192) kcRL_118 oyX9_thrown (ci := 9) (T := TX9) (N := 23) rfl (by decide) ho190 ⟨by decide, by decide⟩ ⟨Nat.le_trans (show kk + 1 + 0 + 0 ≤ kk + (fu + 1) by omega) hk, Nat.le_trans (show nn + 6 + 0 + 0 ≤ nn + 6 * (fu + 1) by omega) hn⟩ (Nat.le_of_ble_eq_true rfl) rfl dL_law_874) ?_
      refine j_iload C dL_law_877 1 rfl ?_
      refine j_icmp_eq C dL_law_879 (tgt := 884) (by decide) (fun hc193 => ?_) (fun hc193 => ?_)
      · rw [if_pos hc193] at h
        refine j_iload C dL_law_884 1 rfl ?_
        refine j_if_ne C dL_law_886 (tgt := 901) (by decide) (fun hc194 => ?_) (fun hc194 => ?_)
        · rw [if_neg hc194] at h
          refine j_goto C dL_law_901 (tgt := 1870) (by decide) ?_
          refine j_iinc C dL_law_1870 7 rfl (v := (v5 + (5 : Int32))) (by first | rfl | decide) (by decide) (L' := [(5, .int (v5 + (5 : Int32))), (7, .int r191), (6, .int r180), (0, .ref v0), (1, .ref v1), (2, .ref v2), (3, .ref v3), (4, .ref v4)]) rfl ?_
          refine j_goto C dL_law_1873 (tgt := 28) (by decide) ?_
          refine j_sub (L' := [(0, .ref v0), (1, .ref v1), (2, .ref v2), (3, .ref v3), (4, .ref v4), (5, .int (v5 + (5 : Int32)))]) [3, 4, 5, 6, 7, 0] rfl ?_
          exact hK28 v0 v1 v2 v3 v4 (v5 + (5 : Int32)) M192 r M' _ _ (Nat.le_trans (show kk + 1 + 0 + 0 + fu ≤ kk + (fu + 1) by omega) hk) (Nat.le_trans (show nn + 6 + 0 + 0 + 6 * fu ≤ nn + 6 * (fu + 1) by omega) hn) h
        · rw [if_pos hc194] at h
          refine j_aload_n C dL_law_889 rfl 5 rfl ?_
          refine j_iconst C dL_law_890 (v := (0 : Int32)) (by decide) ?_
          obtain ⟨ho195, h⟩ := ck_spec h
          obtain ⟨ho196, h⟩ := ck_spec h
          refine j_lald C ho195 ho196 dL_law_891 ?_
          refine j_iload C dL_law_892 0 rfl ?_
          refine j_i2l C dL_law_894 ?_
          refine j_lcmp C dL_law_895 ?_
          refine j_if_eq C dL_law_896 (tgt := 901) (by decide) (fun hc197 => ?_) (fun hc197 => ?_)
          · rw [if_pos hc197] at h
            refine j_goto C dL_law_901 (tgt := 1870) (by decide) ?_
            refine j_iinc C dL_law_1870 7 rfl (v := (v5 + (5 : Int32))) (by first | rfl | decide) (by decide) (L' := [(5, .int (v5 + (5 : Int32))), (7, .int r191), (6, .int r180), (0, .ref v0), (1, .ref v1), (2, .ref v2), (3, .ref v3), (4, .ref v4)]) rfl ?_
            refine j_goto C dL_law_1873 (tgt := 28) (by decide) ?_
            refine j_sub (L' := [(0, .ref v0), (1, .ref v1), (2, .ref v2), (3, .ref v3), (4, .ref v4), (5, .int (v5 + (5 : Int32)))]) [3, 4, 5, 6, 7, 0] rfl ?_
            exact hK28 v0 v1 v2 v3 v4 (v5 + (5 : Int32)) M192 r M' _ _ (Nat.le_trans (show kk + 1 + 0 + 0 + fu ≤ kk + (fu + 1) by omega) hk) (Nat.le_trans (show nn + 6 + 0 + 0 + 6 * fu ≤ nn + 6 * (fu + 1) by omega) hn) h
          · rw [if_neg hc197] at h
            refine j_iconst C dL_law_899 (v := (0 : Int32)) (by decide) ?_
            cases h
      · rw [if_neg hc193] at h
        refine j_iconst C dL_law_882 (v := (0 : Int32)) (by decide) ?_
        cases h
def fL_law_904 (N : Nat) (Z : mZ) (K28 : Nat → Nat → Nat → Nat → Nat → Int32 → mM → Option (Int32 × mM)) (v0 : Nat) (v1 : Nat) (v2 : Nat) (v3 : Nat) (v4 : Nat) (v5 : Int32) (M : mM) : Option (Int32 × mM) := ck (okI Z v0) (ck (inB (v5 + (1 : Int32)) (Z.2.2.1 v0)) (ck (inB (v5 + (2 : Int32)) (Z.2.2.1 v0)) (bnd2 (fL_bay N Z v1 (M.1 v0 ((v5 + (1 : Int32))).toNatClampNeg) (M.1 v0 ((v5 + (2 : Int32))).toNatClampNeg) v3 M) (fun r202 M202 => ck (okO Z v2 9) (bnd2 (fX9_bay N Z v2 (M202.1 v0 ((v5 + (1 : Int32))).toNatClampNeg) (M202.1 v0 ((v5 + (2 : Int32))).toNatClampNeg) M202) (fun r204 M204 => bnd2 (fX9_thrown N Z v2 M204) (fun r205 M205 => if r205 = r202 then if r202 = 0 then ck (okO Z v3 22) (ck (inB (0 : Int32) (Z.2.2.1 v3)) (if (lg_cmp (M205.2.1 v3 ((0 : Int32)).toNatClampNeg) ((r204).toInt64)) = 0 then K28 v0 v1 v2 v3 v4 (v5 + (5 : Int32)) M205 else none)) else K28 v0 v1 v2 v3 v4 (v5 + (5 : Int32)) M205 else none)))))))
set_option maxHeartbeats 4000000 in
set_option maxRecDepth 100000 in
theorem tL_law_904 {G : mG} {p : Program} {l : Launch} {e : Env} {s : State} {m : MethodId} {args : Array Value} {below : List Frame} {meth : Method} {c : Code} {Q : State → Prop} {tb : List ExceptionTableEntry} (hend : ∀ (k n : Nat) (L : mL) (Z : mZ) (M : mM), k ≤ KM → n ≤ NMX → JJ G p l e room_1 s m args below meth c 9 Q k n 1877 L [.int 1] Z M) (C : Cx G p l s m args meth c RL cL_law 9 (some .boolean) tb) (N : Nat) (Z : mZ) (K28 : Nat → Nat → Nat → Nat → Nat → Int32 → mM → Option (Int32 × mM)) (fu : Nat) (hK28 : ∀ (v0 : Nat) (v1 : Nat) (v2 : Nat) (v3 : Nat) (v4 : Nat) (v5 : Int32) (M : mM) (r : Int32) (M' : mM), ∀ (kk nn : Nat), kk + fu ≤ KM → nn + 6 * fu ≤ NMX → K28 v0 v1 v2 v3 v4 v5 M = some (r, M') → JJ G p l e room_1 s m args below meth c 9 Q kk nn 28 [(0, .ref v0), (1, .ref v1), (2, .ref v2), (3, .ref v3), (4, .ref v4), (5, .int v5)] [] Z M) : ∀ (v0 : Nat) (v1 : Nat) (v2 : Nat) (v3 : Nat) (v4 : Nat) (v5 : Int32) (M : mM) (r : Int32) (M' : mM), ∀ (kk nn : Nat), kk + (fu + 1) ≤ KM → nn + 6 * (fu + 1) ≤ NMX → fL_law_904 N Z K28 v0 v1 v2 v3 v4 v5 M = some (r, M') → JJ G p l e room_1 s m args below meth c 9 Q kk nn 904 [(0, .ref v0), (1, .ref v1), (2, .ref v2), (3, .ref v3), (4, .ref v4), (5, .int v5)] [] Z M := by
  intro v0 v1 v2 v3 v4 v5 M r M' kk nn hk hn h
  unfold fL_law_904 at h
  refine j_aload_n C dL_law_904 rfl 1 rfl ?_
  refine j_aload_n C dL_law_905 rfl 0 rfl ?_
  refine j_iload C dL_law_906 5 rfl ?_
  refine j_iconst C dL_law_908 (v := (1 : Int32)) (by decide) ?_
  refine j_iadd C dL_law_909 ?_
  obtain ⟨ho199, h⟩ := ck_spec h
  obtain ⟨ho200, h⟩ := ck_spec h
  refine j_iald C ho199 ho200 dL_law_910 ?_
  refine j_aload_n C dL_law_911 rfl 0 rfl ?_
  refine j_iload C dL_law_912 5 rfl ?_
  refine j_iconst C dL_law_914 (v := (2 : Int32)) (by decide) ?_
  refine j_iadd C dL_law_915 ?_
  obtain ⟨ho201, h⟩ := ck_spec h
  refine j_iald C ho199 ho201 dL_law_916 ?_
  refine j_aload_n C dL_law_917 rfl 3 rfl ?_
  obtain ⟨r202, M202, hq202, h⟩ := bnd2_spec h
  refine j_run1 (c_SX C (As := [.ref v1, .int (M.1 v0 ((v5 + (1 : Int32))).toNatClampNeg), .int (M.1 v0 ((v5 + (2 : Int32))).toNatClampNeg), .ref v3]) (rest := []) (ctL_bay C.2.2.2.2.2.2.2.2.1 N Z hq202) kcRL_152 oyL_bay ⟨by decide, by decide⟩ ⟨Nat.le_trans (show kk + 1 ≤ kk + (fu + 1) by omega) hk, Nat.le_trans (show nn + 6 ≤ nn + 6 * (fu + 1) by omega) hn⟩ (Nat.le_of_ble_eq_true rfl) rfl dL_law_918) ?_
  refine j_istore C dL_law_921 (by decide) (L' := [(6, .int r202), (0, .ref v0), (1, .ref v1), (2, .ref v2), (3, .ref v3), (4, .ref v4), (5, .int v5)]) rfl ?_
  refine j_aload_n C dL_law_923 rfl 3 rfl ?_
  refine j_aload_n C dL_law_924 rfl 1 rfl ?_
  refine j_iload C dL_law_925 6 rfl ?_
  refine j_iconst C dL_law_927 (v := (1 : Int32)) (by decide) ?_
  refine j_iadd C dL_law_928 ?_
  refine j_iald C ho199 ho200 dL_law_929 ?_
  refine j_aload_n C dL_law_930 rfl 1 rfl ?_
  refine j_iload C dL_law_931 6 rfl ?_
  refine j_iconst C dL_law_933 (v := (2 : Int32)) (by decide) ?_
  refine j_iadd C dL_law_934 ?_
  refine j_iald C ho199 ho201 dL_law_935 ?_
  obtain ⟨ho203, h⟩ := ck_spec h
  obtain ⟨r204, M204, hq204, h⟩ := bnd2_spec h
  refine j_run1 (c_V C (As := [.int (M202.1 v0 ((v5 + (1 : Int32))).toNatClampNeg), .int (M202.1 v0 ((v5 + (2 : Int32))).toNatClampNeg)]) (rest := []) (ctX9_bay C.2.2.2.2.2.2.2.2.1 N Z hq204) kcRL_154 oyX9_bay (ci := 9) (T := TX9) (N := 23) rfl (by decide) ho203 ⟨by decide, by decide⟩ ⟨Nat.le_trans (show kk + 1 + 0 ≤ kk + (fu + 1) by omega) hk, Nat.le_trans (show nn + 6 + 0 ≤ nn + 6 * (fu + 1) by omega) hn⟩ (Nat.le_of_ble_eq_true rfl) rfl dL_law_936) ?_
  refine j_istore C dL_law_939 (by decide) (L' := [(7, .int r204), (6, .int r202), (0, .ref v0), (1, .ref v1), (2, .ref v2), (3, .ref v3), (4, .ref v4), (5, .int v5)]) rfl ?_
  refine j_aload_n C dL_law_941 rfl 4 rfl ?_
  obtain ⟨r205, M205, hq205, h⟩ := bnd2_spec h
  refine j_run1 (c_V C (As := []) (rest := []) (ctX9_thrown C.2.2.2.2.2.2.2.2.1 N Z hq205) kcRL_118 oyX9_thrown (ci := 9) (T := TX9) (N := 23) rfl (by decide) ho203 ⟨by decide, by decide⟩ ⟨Nat.le_trans (show kk + 1 + 0 + 0 ≤ kk + (fu + 1) by omega) hk, Nat.le_trans (show nn + 6 + 0 + 0 ≤ nn + 6 * (fu + 1) by omega) hn⟩ (Nat.le_of_ble_eq_true rfl) rfl dL_law_942) ?_
  refine j_iload C dL_law_945 1 rfl ?_
  refine j_icmp_eq C dL_law_947 (tgt := 952) (by decide) (fun hc206 => ?_) (fun hc206 => ?_)
  · rw [if_pos hc206] at h
    refine j_iload C dL_law_952 1 rfl ?_
    refine j_if_ne C dL_law_954 (tgt := 969) (by decide) (fun hc207 => ?_) (fun hc207 => ?_)
    · rw [if_neg hc207] at h
      refine j_goto C dL_law_969 (tgt := 1870) (by decide) ?_
      refine j_iinc C dL_law_1870 7 rfl (v := (v5 + (5 : Int32))) (by first | rfl | decide) (by decide) (L' := [(5, .int (v5 + (5 : Int32))), (7, .int r204), (6, .int r202), (0, .ref v0), (1, .ref v1), (2, .ref v2), (3, .ref v3), (4, .ref v4)]) rfl ?_
      refine j_goto C dL_law_1873 (tgt := 28) (by decide) ?_
      refine j_sub (L' := [(0, .ref v0), (1, .ref v1), (2, .ref v2), (3, .ref v3), (4, .ref v4), (5, .int (v5 + (5 : Int32)))]) [3, 4, 5, 6, 7, 0] rfl ?_
      exact hK28 v0 v1 v2 v3 v4 (v5 + (5 : Int32)) M205 r M' _ _ (Nat.le_trans (show kk + 1 + 0 + 0 + fu ≤ kk + (fu + 1) by omega) hk) (Nat.le_trans (show nn + 6 + 0 + 0 + 6 * fu ≤ nn + 6 * (fu + 1) by omega) hn) h
    · rw [if_pos hc207] at h
      refine j_aload_n C dL_law_957 rfl 5 rfl ?_
      refine j_iconst C dL_law_958 (v := (0 : Int32)) (by decide) ?_
      obtain ⟨ho208, h⟩ := ck_spec h
      obtain ⟨ho209, h⟩ := ck_spec h
      refine j_lald C ho208 ho209 dL_law_959 ?_
      refine j_iload C dL_law_960 0 rfl ?_
      refine j_i2l C dL_law_962 ?_
      refine j_lcmp C dL_law_963 ?_
      refine j_if_eq C dL_law_964 (tgt := 969) (by decide) (fun hc210 => ?_) (fun hc210 => ?_)
      · rw [if_pos hc210] at h
        refine j_goto C dL_law_969 (tgt := 1870) (by decide) ?_
        refine j_iinc C dL_law_1870 7 rfl (v := (v5 + (5 : Int32))) (by first | rfl | decide) (by decide) (L' := [(5, .int (v5 + (5 : Int32))), (7, .int r204), (6, .int r202), (0, .ref v0), (1, .ref v1), (2, .ref v2), (3, .ref v3), (4, .ref v4)]) rfl ?_
        refine j_goto C dL_law_1873 (tgt := 28) (by decide) ?_
        refine j_sub (L' := [(0, .ref v0), (1, .ref v1), (2, .ref v2), (3, .ref v3), (4, .ref v4), (5, .int (v5 + (5 : Int32)))]) [3, 4, 5, 6, 7, 0] rfl ?_
        exact hK28 v0 v1 v2 v3 v4 (v5 + (5 : Int32)) M205 r M' _ _ (Nat.le_trans (show kk + 1 + 0 + 0 + fu ≤ kk + (fu + 1) by omega) hk) (Nat.le_trans (show nn + 6 + 0 + 0 + 6 * fu ≤ nn + 6 * (fu + 1) by omega) hn) h
      · rw [if_neg hc210] at h
        refine j_iconst C dL_law_967 (v := (0 : Int32)) (by decide) ?_
        cases h
  · rw [if_neg hc206] at h
    refine j_iconst C dL_law_950 (v := (0 : Int32)) (by decide) ?_
    cases h
def fL_law_972 (N : Nat) (Z : mZ) (K28 : Nat → Nat → Nat → Nat → Nat → Int32 → mM → Option (Int32 × mM)) (v0 : Nat) (v1 : Nat) (v2 : Nat) (v3 : Nat) (v4 : Nat) (v5 : Int32) (M : mM) : Option (Int32 × mM) := ck (okI Z v0) (ck (inB (v5 + (1 : Int32)) (Z.2.2.1 v0)) (ck (inB (v5 + (2 : Int32)) (Z.2.2.1 v0)) (bnd2 (fL_post N Z v1 (M.1 v0 ((v5 + (1 : Int32))).toNatClampNeg) (M.1 v0 ((v5 + (2 : Int32))).toNatClampNeg) v3 M) (fun r215 M215 => ck (okO Z v2 9) (bnd2 (fX9_post N Z v2 (M215.1 v0 ((v5 + (1 : Int32))).toNatClampNeg) (M215.1 v0 ((v5 + (2 : Int32))).toNatClampNeg) M215) (fun r217 M217 => bnd2 (fX9_thrown N Z v2 M217) (fun r218 M218 => if r218 = r215 then if r215 = 0 then ck (okO Z v3 22) (ck (inB (0 : Int32) (Z.2.2.1 v3)) (if (lg_cmp (M218.2.1 v3 ((0 : Int32)).toNatClampNeg) ((r217).toInt64)) = 0 then K28 v0 v1 v2 v3 v4 (v5 + (5 : Int32)) M218 else none)) else K28 v0 v1 v2 v3 v4 (v5 + (5 : Int32)) M218 else none)))))))
set_option maxHeartbeats 4000000 in
set_option maxRecDepth 100000 in
theorem tL_law_972 {G : mG} {p : Program} {l : Launch} {e : Env} {s : State} {m : MethodId} {args : Array Value} {below : List Frame} {meth : Method} {c : Code} {Q : State → Prop} {tb : List ExceptionTableEntry} (hend : ∀ (k n : Nat) (L : mL) (Z : mZ) (M : mM), k ≤ KM → n ≤ NMX → JJ G p l e room_1 s m args below meth c 9 Q k n 1877 L [.int 1] Z M) (C : Cx G p l s m args meth c RL cL_law 9 (some .boolean) tb) (N : Nat) (Z : mZ) (K28 : Nat → Nat → Nat → Nat → Nat → Int32 → mM → Option (Int32 × mM)) (fu : Nat) (hK28 : ∀ (v0 : Nat) (v1 : Nat) (v2 : Nat) (v3 : Nat) (v4 : Nat) (v5 : Int32) (M : mM) (r : Int32) (M' : mM), ∀ (kk nn : Nat), kk + fu ≤ KM → nn + 6 * fu ≤ NMX → K28 v0 v1 v2 v3 v4 v5 M = some (r, M') → JJ G p l e room_1 s m args below meth c 9 Q kk nn 28 [(0, .ref v0), (1, .ref v1), (2, .ref v2), (3, .ref v3), (4, .ref v4), (5, .int v5)] [] Z M) : ∀ (v0 : Nat) (v1 : Nat) (v2 : Nat) (v3 : Nat) (v4 : Nat) (v5 : Int32) (M : mM) (r : Int32) (M' : mM), ∀ (kk nn : Nat), kk + (fu + 1) ≤ KM → nn + 6 * (fu + 1) ≤ NMX → fL_law_972 N Z K28 v0 v1 v2 v3 v4 v5 M = some (r, M') → JJ G p l e room_1 s m args below meth c 9 Q kk nn 972 [(0, .ref v0), (1, .ref v1), (2, .ref v2), (3, .ref v3), (4, .ref v4), (5, .int v5)] [] Z M := by
  intro v0 v1 v2 v3 v4 v5 M r M' kk nn hk hn h
  unfold fL_law_972 at h
  refine j_aload_n C dL_law_972 rfl 1 rfl ?_
  refine j_aload_n C dL_law_973 rfl 0 rfl ?_
  refine j_iload C dL_law_974 5 rfl ?_
  refine j_iconst C dL_law_976 (v := (1 : Int32)) (by decide) ?_
  refine j_iadd C dL_law_977 ?_
  obtain ⟨ho212, h⟩ := ck_spec h
  obtain ⟨ho213, h⟩ := ck_spec h
  refine j_iald C ho212 ho213 dL_law_978 ?_
  refine j_aload_n C dL_law_979 rfl 0 rfl ?_
  refine j_iload C dL_law_980 5 rfl ?_
  refine j_iconst C dL_law_982 (v := (2 : Int32)) (by decide) ?_
  refine j_iadd C dL_law_983 ?_
  obtain ⟨ho214, h⟩ := ck_spec h
  refine j_iald C ho212 ho214 dL_law_984 ?_
  refine j_aload_n C dL_law_985 rfl 3 rfl ?_
  obtain ⟨r215, M215, hq215, h⟩ := bnd2_spec h
  refine j_run1 (c_SX C (As := [.ref v1, .int (M.1 v0 ((v5 + (1 : Int32))).toNatClampNeg), .int (M.1 v0 ((v5 + (2 : Int32))).toNatClampNeg), .ref v3]) (rest := []) (ctL_post C.2.2.2.2.2.2.2.2.1 N Z hq215) kcRL_155 oyL_post ⟨by decide, by decide⟩ ⟨Nat.le_trans (show kk + 1 ≤ kk + (fu + 1) by omega) hk, Nat.le_trans (show nn + 6 ≤ nn + 6 * (fu + 1) by omega) hn⟩ (Nat.le_of_ble_eq_true rfl) rfl dL_law_986) ?_
  refine j_istore C dL_law_989 (by decide) (L' := [(6, .int r215), (0, .ref v0), (1, .ref v1), (2, .ref v2), (3, .ref v3), (4, .ref v4), (5, .int v5)]) rfl ?_
  refine j_aload_n C dL_law_991 rfl 3 rfl ?_
  refine j_aload_n C dL_law_992 rfl 1 rfl ?_
  refine j_iload C dL_law_993 6 rfl ?_
  refine j_iconst C dL_law_995 (v := (1 : Int32)) (by decide) ?_
  refine j_iadd C dL_law_996 ?_
  refine j_iald C ho212 ho213 dL_law_997 ?_
  refine j_aload_n C dL_law_998 rfl 1 rfl ?_
  refine j_iload C dL_law_999 6 rfl ?_
  refine j_iconst C dL_law_1001 (v := (2 : Int32)) (by decide) ?_
  refine j_iadd C dL_law_1002 ?_
  refine j_iald C ho212 ho214 dL_law_1003 ?_
  obtain ⟨ho216, h⟩ := ck_spec h
  obtain ⟨r217, M217, hq217, h⟩ := bnd2_spec h
  refine j_run1 (c_V C (As := [.int (M215.1 v0 ((v5 + (1 : Int32))).toNatClampNeg), .int (M215.1 v0 ((v5 + (2 : Int32))).toNatClampNeg)]) (rest := []) (ctX9_post C.2.2.2.2.2.2.2.2.1 N Z hq217) kcRL_157 oyX9_post (ci := 9) (T := TX9) (N := 23) rfl (by decide) ho216 ⟨by decide, by decide⟩ ⟨Nat.le_trans (show kk + 1 + 0 ≤ kk + (fu + 1) by omega) hk, Nat.le_trans (show nn + 6 + 0 ≤ nn + 6 * (fu + 1) by omega) hn⟩ (Nat.le_of_ble_eq_true rfl) rfl dL_law_1004) ?_
  refine j_istore C dL_law_1007 (by decide) (L' := [(7, .int r217), (6, .int r215), (0, .ref v0), (1, .ref v1), (2, .ref v2), (3, .ref v3), (4, .ref v4), (5, .int v5)]) rfl ?_
  refine j_aload_n C dL_law_1009 rfl 4 rfl ?_
  obtain ⟨r218, M218, hq218, h⟩ := bnd2_spec h
  refine j_run1 (c_V C (As := []) (rest := []) (ctX9_thrown C.2.2.2.2.2.2.2.2.1 N Z hq218) kcRL_118 oyX9_thrown (ci := 9) (T := TX9) (N := 23) rfl (by decide) ho216 ⟨by decide, by decide⟩ ⟨Nat.le_trans (show kk + 1 + 0 + 0 ≤ kk + (fu + 1) by omega) hk, Nat.le_trans (show nn + 6 + 0 + 0 ≤ nn + 6 * (fu + 1) by omega) hn⟩ (Nat.le_of_ble_eq_true rfl) rfl dL_law_1010) ?_
  refine j_iload C dL_law_1013 1 rfl ?_
  refine j_icmp_eq C dL_law_1015 (tgt := 1020) (by decide) (fun hc219 => ?_) (fun hc219 => ?_)
  · rw [if_pos hc219] at h
    refine j_iload C dL_law_1020 1 rfl ?_
    refine j_if_ne C dL_law_1022 (tgt := 1037) (by decide) (fun hc220 => ?_) (fun hc220 => ?_)
    · rw [if_neg hc220] at h
      refine j_goto C dL_law_1037 (tgt := 1870) (by decide) ?_
      refine j_iinc C dL_law_1870 7 rfl (v := (v5 + (5 : Int32))) (by first | rfl | decide) (by decide) (L' := [(5, .int (v5 + (5 : Int32))), (7, .int r217), (6, .int r215), (0, .ref v0), (1, .ref v1), (2, .ref v2), (3, .ref v3), (4, .ref v4)]) rfl ?_
      refine j_goto C dL_law_1873 (tgt := 28) (by decide) ?_
      refine j_sub (L' := [(0, .ref v0), (1, .ref v1), (2, .ref v2), (3, .ref v3), (4, .ref v4), (5, .int (v5 + (5 : Int32)))]) [3, 4, 5, 6, 7, 0] rfl ?_
      exact hK28 v0 v1 v2 v3 v4 (v5 + (5 : Int32)) M218 r M' _ _ (Nat.le_trans (show kk + 1 + 0 + 0 + fu ≤ kk + (fu + 1) by omega) hk) (Nat.le_trans (show nn + 6 + 0 + 0 + 6 * fu ≤ nn + 6 * (fu + 1) by omega) hn) h
    · rw [if_pos hc220] at h
      refine j_aload_n C dL_law_1025 rfl 5 rfl ?_
      refine j_iconst C dL_law_1026 (v := (0 : Int32)) (by decide) ?_
      obtain ⟨ho221, h⟩ := ck_spec h
      obtain ⟨ho222, h⟩ := ck_spec h
      refine j_lald C ho221 ho222 dL_law_1027 ?_
      refine j_iload C dL_law_1028 0 rfl ?_
      refine j_i2l C dL_law_1030 ?_
      refine j_lcmp C dL_law_1031 ?_
      refine j_if_eq C dL_law_1032 (tgt := 1037) (by decide) (fun hc223 => ?_) (fun hc223 => ?_)
      · rw [if_pos hc223] at h
        refine j_goto C dL_law_1037 (tgt := 1870) (by decide) ?_
        refine j_iinc C dL_law_1870 7 rfl (v := (v5 + (5 : Int32))) (by first | rfl | decide) (by decide) (L' := [(5, .int (v5 + (5 : Int32))), (7, .int r217), (6, .int r215), (0, .ref v0), (1, .ref v1), (2, .ref v2), (3, .ref v3), (4, .ref v4)]) rfl ?_
        refine j_goto C dL_law_1873 (tgt := 28) (by decide) ?_
        refine j_sub (L' := [(0, .ref v0), (1, .ref v1), (2, .ref v2), (3, .ref v3), (4, .ref v4), (5, .int (v5 + (5 : Int32)))]) [3, 4, 5, 6, 7, 0] rfl ?_
        exact hK28 v0 v1 v2 v3 v4 (v5 + (5 : Int32)) M218 r M' _ _ (Nat.le_trans (show kk + 1 + 0 + 0 + fu ≤ kk + (fu + 1) by omega) hk) (Nat.le_trans (show nn + 6 + 0 + 0 + 6 * fu ≤ nn + 6 * (fu + 1) by omega) hn) h
      · rw [if_neg hc223] at h
        refine j_iconst C dL_law_1035 (v := (0 : Int32)) (by decide) ?_
        cases h
  · rw [if_neg hc219] at h
    refine j_iconst C dL_law_1018 (v := (0 : Int32)) (by decide) ?_
    cases h
def fL_law_1040 (N : Nat) (Z : mZ) (K28 : Nat → Nat → Nat → Nat → Nat → Int32 → mM → Option (Int32 × mM)) (v0 : Nat) (v1 : Nat) (v2 : Nat) (v3 : Nat) (v4 : Nat) (v5 : Int32) (M : mM) : Option (Int32 × mM) := ck (okI Z v0) (ck (inB (v5 + (1 : Int32)) (Z.2.2.1 v0)) (ck (inB (v5 + (2 : Int32)) (Z.2.2.1 v0)) (bnd2 (fL_load N Z v1 (M.1 v0 ((v5 + (1 : Int32))).toNatClampNeg) (M.1 v0 ((v5 + (2 : Int32))).toNatClampNeg) v3 M) (fun r228 M228 => ck (okO Z v2 9) (bnd2 (fX9_load N Z v2 (M228.1 v0 ((v5 + (1 : Int32))).toNatClampNeg) (M228.1 v0 ((v5 + (2 : Int32))).toNatClampNeg) M228) (fun r230 M230 => bnd2 (fX9_thrown N Z v2 M230) (fun r231 M231 => if r231 = r228 then if r228 = 0 then ck (okO Z v3 22) (ck (inB (0 : Int32) (Z.2.2.1 v3)) (if (lg_cmp (M231.2.1 v3 ((0 : Int32)).toNatClampNeg) ((r230).toInt64)) = 0 then K28 v0 v1 v2 v3 v4 (v5 + (5 : Int32)) M231 else none)) else K28 v0 v1 v2 v3 v4 (v5 + (5 : Int32)) M231 else none)))))))
set_option maxHeartbeats 4000000 in
set_option maxRecDepth 100000 in
theorem tL_law_1040 {G : mG} {p : Program} {l : Launch} {e : Env} {s : State} {m : MethodId} {args : Array Value} {below : List Frame} {meth : Method} {c : Code} {Q : State → Prop} {tb : List ExceptionTableEntry} (hend : ∀ (k n : Nat) (L : mL) (Z : mZ) (M : mM), k ≤ KM → n ≤ NMX → JJ G p l e room_1 s m args below meth c 9 Q k n 1877 L [.int 1] Z M) (C : Cx G p l s m args meth c RL cL_law 9 (some .boolean) tb) (N : Nat) (Z : mZ) (K28 : Nat → Nat → Nat → Nat → Nat → Int32 → mM → Option (Int32 × mM)) (fu : Nat) (hK28 : ∀ (v0 : Nat) (v1 : Nat) (v2 : Nat) (v3 : Nat) (v4 : Nat) (v5 : Int32) (M : mM) (r : Int32) (M' : mM), ∀ (kk nn : Nat), kk + fu ≤ KM → nn + 6 * fu ≤ NMX → K28 v0 v1 v2 v3 v4 v5 M = some (r, M') → JJ G p l e room_1 s m args below meth c 9 Q kk nn 28 [(0, .ref v0), (1, .ref v1), (2, .ref v2), (3, .ref v3), (4, .ref v4), (5, .int v5)] [] Z M) : ∀ (v0 : Nat) (v1 : Nat) (v2 : Nat) (v3 : Nat) (v4 : Nat) (v5 : Int32) (M : mM) (r : Int32) (M' : mM), ∀ (kk nn : Nat), kk + (fu + 1) ≤ KM → nn + 6 * (fu + 1) ≤ NMX → fL_law_1040 N Z K28 v0 v1 v2 v3 v4 v5 M = some (r, M') → JJ G p l e room_1 s m args below meth c 9 Q kk nn 1040 [(0, .ref v0), (1, .ref v1), (2, .ref v2), (3, .ref v3), (4, .ref v4), (5, .int v5)] [] Z M := by
  intro v0 v1 v2 v3 v4 v5 M r M' kk nn hk hn h
  unfold fL_law_1040 at h
  refine j_aload_n C dL_law_1040 rfl 1 rfl ?_
  refine j_aload_n C dL_law_1041 rfl 0 rfl ?_
  refine j_iload C dL_law_1042 5 rfl ?_
  refine j_iconst C dL_law_1044 (v := (1 : Int32)) (by decide) ?_
  refine j_iadd C dL_law_1045 ?_
  obtain ⟨ho225, h⟩ := ck_spec h
  obtain ⟨ho226, h⟩ := ck_spec h
  refine j_iald C ho225 ho226 dL_law_1046 ?_
  refine j_aload_n C dL_law_1047 rfl 0 rfl ?_
  refine j_iload C dL_law_1048 5 rfl ?_
  refine j_iconst C dL_law_1050 (v := (2 : Int32)) (by decide) ?_
  refine j_iadd C dL_law_1051 ?_
  obtain ⟨ho227, h⟩ := ck_spec h
  refine j_iald C ho225 ho227 dL_law_1052 ?_
  refine j_aload_n C dL_law_1053 rfl 3 rfl ?_
  obtain ⟨r228, M228, hq228, h⟩ := bnd2_spec h
  refine j_run1 (c_SX C (As := [.ref v1, .int (M.1 v0 ((v5 + (1 : Int32))).toNatClampNeg), .int (M.1 v0 ((v5 + (2 : Int32))).toNatClampNeg), .ref v3]) (rest := []) (ctL_load C.2.2.2.2.2.2.2.2.1 N Z hq228) kcRL_158 oyL_load ⟨by decide, by decide⟩ ⟨Nat.le_trans (show kk + 1 ≤ kk + (fu + 1) by omega) hk, Nat.le_trans (show nn + 6 ≤ nn + 6 * (fu + 1) by omega) hn⟩ (Nat.le_of_ble_eq_true rfl) rfl dL_law_1054) ?_
  refine j_istore C dL_law_1057 (by decide) (L' := [(6, .int r228), (0, .ref v0), (1, .ref v1), (2, .ref v2), (3, .ref v3), (4, .ref v4), (5, .int v5)]) rfl ?_
  refine j_aload_n C dL_law_1059 rfl 3 rfl ?_
  refine j_aload_n C dL_law_1060 rfl 1 rfl ?_
  refine j_iload C dL_law_1061 6 rfl ?_
  refine j_iconst C dL_law_1063 (v := (1 : Int32)) (by decide) ?_
  refine j_iadd C dL_law_1064 ?_
  refine j_iald C ho225 ho226 dL_law_1065 ?_
  refine j_aload_n C dL_law_1066 rfl 1 rfl ?_
  refine j_iload C dL_law_1067 6 rfl ?_
  refine j_iconst C dL_law_1069 (v := (2 : Int32)) (by decide) ?_
  refine j_iadd C dL_law_1070 ?_
  refine j_iald C ho225 ho227 dL_law_1071 ?_
  obtain ⟨ho229, h⟩ := ck_spec h
  obtain ⟨r230, M230, hq230, h⟩ := bnd2_spec h
  refine j_run1 (c_V C (As := [.int (M228.1 v0 ((v5 + (1 : Int32))).toNatClampNeg), .int (M228.1 v0 ((v5 + (2 : Int32))).toNatClampNeg)]) (rest := []) (ctX9_load C.2.2.2.2.2.2.2.2.1 N Z hq230) kcRL_160 oyX9_load (ci := 9) (T := TX9) (N := 23) rfl (by decide) ho229 ⟨by decide, by decide⟩ ⟨Nat.le_trans (show kk + 1 + 0 ≤ kk + (fu + 1) by omega) hk, Nat.le_trans (show nn + 6 + 0 ≤ nn + 6 * (fu + 1) by omega) hn⟩ (Nat.le_of_ble_eq_true rfl) rfl dL_law_1072) ?_
  refine j_istore C dL_law_1075 (by decide) (L' := [(7, .int r230), (6, .int r228), (0, .ref v0), (1, .ref v1), (2, .ref v2), (3, .ref v3), (4, .ref v4), (5, .int v5)]) rfl ?_
  refine j_aload_n C dL_law_1077 rfl 4 rfl ?_
  obtain ⟨r231, M231, hq231, h⟩ := bnd2_spec h
  refine j_run1 (c_V C (As := []) (rest := []) (ctX9_thrown C.2.2.2.2.2.2.2.2.1 N Z hq231) kcRL_118 oyX9_thrown (ci := 9) (T := TX9) (N := 23) rfl (by decide) ho229 ⟨by decide, by decide⟩ ⟨Nat.le_trans (show kk + 1 + 0 + 0 ≤ kk + (fu + 1) by omega) hk, Nat.le_trans (show nn + 6 + 0 + 0 ≤ nn + 6 * (fu + 1) by omega) hn⟩ (Nat.le_of_ble_eq_true rfl) rfl dL_law_1078) ?_
  refine j_iload C dL_law_1081 1 rfl ?_
  refine j_icmp_eq C dL_law_1083 (tgt := 1088) (by decide) (fun hc232 => ?_) (fun hc232 => ?_)
  · rw [if_pos hc232] at h
    refine j_iload C dL_law_1088 1 rfl ?_
    refine j_if_ne C dL_law_1090 (tgt := 1105) (by decide) (fun hc233 => ?_) (fun hc233 => ?_)
    · rw [if_neg hc233] at h
      refine j_goto C dL_law_1105 (tgt := 1870) (by decide) ?_
      refine j_iinc C dL_law_1870 7 rfl (v := (v5 + (5 : Int32))) (by first | rfl | decide) (by decide) (L' := [(5, .int (v5 + (5 : Int32))), (7, .int r230), (6, .int r228), (0, .ref v0), (1, .ref v1), (2, .ref v2), (3, .ref v3), (4, .ref v4)]) rfl ?_
      refine j_goto C dL_law_1873 (tgt := 28) (by decide) ?_
      refine j_sub (L' := [(0, .ref v0), (1, .ref v1), (2, .ref v2), (3, .ref v3), (4, .ref v4), (5, .int (v5 + (5 : Int32)))]) [3, 4, 5, 6, 7, 0] rfl ?_
      exact hK28 v0 v1 v2 v3 v4 (v5 + (5 : Int32)) M231 r M' _ _ (Nat.le_trans (show kk + 1 + 0 + 0 + fu ≤ kk + (fu + 1) by omega) hk) (Nat.le_trans (show nn + 6 + 0 + 0 + 6 * fu ≤ nn + 6 * (fu + 1) by omega) hn) h
    · rw [if_pos hc233] at h
      refine j_aload_n C dL_law_1093 rfl 5 rfl ?_
      refine j_iconst C dL_law_1094 (v := (0 : Int32)) (by decide) ?_
      obtain ⟨ho234, h⟩ := ck_spec h
      obtain ⟨ho235, h⟩ := ck_spec h
      refine j_lald C ho234 ho235 dL_law_1095 ?_
      refine j_iload C dL_law_1096 0 rfl ?_
      refine j_i2l C dL_law_1098 ?_
      refine j_lcmp C dL_law_1099 ?_
      refine j_if_eq C dL_law_1100 (tgt := 1105) (by decide) (fun hc236 => ?_) (fun hc236 => ?_)
      · rw [if_pos hc236] at h
        refine j_goto C dL_law_1105 (tgt := 1870) (by decide) ?_
        refine j_iinc C dL_law_1870 7 rfl (v := (v5 + (5 : Int32))) (by first | rfl | decide) (by decide) (L' := [(5, .int (v5 + (5 : Int32))), (7, .int r230), (6, .int r228), (0, .ref v0), (1, .ref v1), (2, .ref v2), (3, .ref v3), (4, .ref v4)]) rfl ?_
        refine j_goto C dL_law_1873 (tgt := 28) (by decide) ?_
        refine j_sub (L' := [(0, .ref v0), (1, .ref v1), (2, .ref v2), (3, .ref v3), (4, .ref v4), (5, .int (v5 + (5 : Int32)))]) [3, 4, 5, 6, 7, 0] rfl ?_
        exact hK28 v0 v1 v2 v3 v4 (v5 + (5 : Int32)) M231 r M' _ _ (Nat.le_trans (show kk + 1 + 0 + 0 + fu ≤ kk + (fu + 1) by omega) hk) (Nat.le_trans (show nn + 6 + 0 + 0 + 6 * fu ≤ nn + 6 * (fu + 1) by omega) hn) h
      · rw [if_neg hc236] at h
        refine j_iconst C dL_law_1103 (v := (0 : Int32)) (by decide) ?_
        cases h
  · rw [if_neg hc232] at h
    refine j_iconst C dL_law_1086 (v := (0 : Int32)) (by decide) ?_
    cases h
