def fL_law_1725 (N : Nat) (Z : mZ) (K28 : Nat → Nat → Nat → Nat → Nat → Int32 → mM → Option (Int32 × mM)) (v0 : Nat) (v1 : Nat) (v2 : Nat) (v3 : Nat) (v4 : Nat) (v5 : Int32) (M : mM) : Option (Int32 × mM) := bnd2 (fL_perform N Z v1 v3 M) (fun r362 M362 => ck (okO Z v2 9) (bnd2 (fX9_perform N Z v2 M362) (fun r364 M364 => bnd2 (fX9_thrown N Z v2 M364) (fun r365 M365 => if r365 = r362 then if r362 = 0 then ck (okO Z v3 22) (ck (inB (0 : Int32) (Z.2.2.1 v3)) (if (lg_cmp (M365.2.1 v3 ((0 : Int32)).toNatClampNeg) ((r364).toInt64)) = 0 then K28 v0 v1 v2 v3 v4 (v5 + (5 : Int32)) M365 else none)) else K28 v0 v1 v2 v3 v4 (v5 + (5 : Int32)) M365 else none))))
set_option maxHeartbeats 4000000 in
set_option maxRecDepth 100000 in
theorem tL_law_1725 {G : mG} {p : Program} {l : Launch} {e : Env} {s : State} {m : MethodId} {args : Array Value} {below : List Frame} {meth : Method} {c : Code} {Q : State → Prop} {tb : List ExceptionTableEntry} (hend : ∀ (k n : Nat) (L : mL) (Z : mZ) (M : mM), k ≤ KM → n ≤ NMX → JJ G p l e room_1 s m args below meth c 9 Q k n 1877 L [.int 1] Z M) (C : Cx G p l s m args meth c RL cL_law 9 (some .boolean) tb) (N : Nat) (Z : mZ) (K28 : Nat → Nat → Nat → Nat → Nat → Int32 → mM → Option (Int32 × mM)) (fu : Nat) (hK28 : ∀ (v0 : Nat) (v1 : Nat) (v2 : Nat) (v3 : Nat) (v4 : Nat) (v5 : Int32) (M : mM) (r : Int32) (M' : mM), ∀ (kk nn : Nat), kk + fu ≤ KM → nn + 6 * fu ≤ NMX → K28 v0 v1 v2 v3 v4 v5 M = some (r, M') → JJ G p l e room_1 s m args below meth c 9 Q kk nn 28 [(0, .ref v0), (1, .ref v1), (2, .ref v2), (3, .ref v3), (4, .ref v4), (5, .int v5)] [] Z M) : ∀ (v0 : Nat) (v1 : Nat) (v2 : Nat) (v3 : Nat) (v4 : Nat) (v5 : Int32) (M : mM) (r : Int32) (M' : mM), ∀ (kk nn : Nat), kk + (fu + 1) ≤ KM → nn + 6 * (fu + 1) ≤ NMX → fL_law_1725 N Z K28 v0 v1 v2 v3 v4 v5 M = some (r, M') → JJ G p l e room_1 s m args below meth c 9 Q kk nn 1725 [(0, .ref v0), (1, .ref v1), (2, .ref v2), (3, .ref v3), (4, .ref v4), (5, .int v5)] [] Z M := by
  intro v0 v1 v2 v3 v4 v5 M r M' kk nn hk hn h
  unfold fL_law_1725 at h
  refine j_aload_n C dL_law_1725 rfl 1 rfl ?_
  refine j_aload_n C dL_law_1726 rfl 3 rfl ?_
  obtain ⟨r362, M362, hq362, h⟩ := bnd2_spec h
  refine j_run1 (c_SX C (As := [.ref v1, .ref v3]) (rest := []) (ctL_perform C.2.2.2.2.2.2.2.2.1 N Z hq362) kcRL_195 oyL_perform ⟨by decide, by decide⟩ ⟨Nat.le_trans (show kk + 1 ≤ kk + (fu + 1) by omega) hk, Nat.le_trans (show nn + 6 ≤ nn + 6 * (fu + 1) by omega) hn⟩ (Nat.le_of_ble_eq_true rfl) rfl dL_law_1727) ?_
  refine j_istore C dL_law_1730 (by decide) (L' := [(6, .int r362), (0, .ref v0), (1, .ref v1), (2, .ref v2), (3, .ref v3), (4, .ref v4), (5, .int v5)]) rfl ?_
  refine j_aload_n C dL_law_1732 rfl 3 rfl ?_
  obtain ⟨ho363, h⟩ := ck_spec h
  obtain ⟨r364, M364, hq364, h⟩ := bnd2_spec h
  refine j_run1 (c_V C (As := []) (rest := []) (ctX9_perform C.2.2.2.2.2.2.2.2.1 N Z hq364) kcRL_197 oyX9_perform (ci := 9) (T := TX9) (N := 23) rfl (by decide) ho363 ⟨by decide, by decide⟩ ⟨Nat.le_trans (show kk + 1 + 0 ≤ kk + (fu + 1) by omega) hk, Nat.le_trans (show nn + 6 + 0 ≤ nn + 6 * (fu + 1) by omega) hn⟩ (Nat.le_of_ble_eq_true rfl) rfl dL_law_1733) ?_
  refine j_istore C dL_law_1736 (by decide) (L' := [(7, .int r364), (6, .int r362), (0, .ref v0), (1, .ref v1), (2, .ref v2), (3, .ref v3), (4, .ref v4), (5, .int v5)]) rfl ?_
  refine j_aload_n C dL_law_1738 rfl 4 rfl ?_
  obtain ⟨r365, M365, hq365, h⟩ := bnd2_spec h
  refine j_run1 (c_V C (As := []) (rest := []) (ctX9_thrown C.2.2.2.2.2.2.2.2.1 N Z hq365) kcRL_118 oyX9_thrown (ci := 9) (T := TX9) (N := 23) rfl (by decide) ho363 ⟨by decide, by decide⟩ ⟨Nat.le_trans (show kk + 1 + 0 + 0 ≤ kk + (fu + 1) by omega) hk, Nat.le_trans (show nn + 6 + 0 + 0 ≤ nn + 6 * (fu + 1) by omega) hn⟩ (Nat.le_of_ble_eq_true rfl) rfl dL_law_1739) ?_
  refine j_iload C dL_law_1742 1 rfl ?_
  refine j_icmp_eq C dL_law_1744 (tgt := 1749) (by decide) (fun hc366 => ?_) (fun hc366 => ?_)
  · rw [if_pos hc366] at h
    refine j_iload C dL_law_1749 1 rfl ?_
    refine j_if_ne C dL_law_1751 (tgt := 1766) (by decide) (fun hc367 => ?_) (fun hc367 => ?_)
    · rw [if_neg hc367] at h
      refine j_goto C dL_law_1766 (tgt := 1870) (by decide) ?_
      refine j_iinc C dL_law_1870 7 rfl (v := (v5 + (5 : Int32))) (by first | rfl | decide) (by decide) (L' := [(5, .int (v5 + (5 : Int32))), (7, .int r364), (6, .int r362), (0, .ref v0), (1, .ref v1), (2, .ref v2), (3, .ref v3), (4, .ref v4)]) rfl ?_
      refine j_goto C dL_law_1873 (tgt := 28) (by decide) ?_
      refine j_sub (L' := [(0, .ref v0), (1, .ref v1), (2, .ref v2), (3, .ref v3), (4, .ref v4), (5, .int (v5 + (5 : Int32)))]) [3, 4, 5, 6, 7, 0] rfl ?_
      exact hK28 v0 v1 v2 v3 v4 (v5 + (5 : Int32)) M365 r M' _ _ (Nat.le_trans (show kk + 1 + 0 + 0 + fu ≤ kk + (fu + 1) by omega) hk) (Nat.le_trans (show nn + 6 + 0 + 0 + 6 * fu ≤ nn + 6 * (fu + 1) by omega) hn) h
    · rw [if_pos hc367] at h
      refine j_aload_n C dL_law_1754 rfl 5 rfl ?_
      refine j_iconst C dL_law_1755 (v := (0 : Int32)) (by decide) ?_
      obtain ⟨ho368, h⟩ := ck_spec h
      obtain ⟨ho369, h⟩ := ck_spec h
      refine j_lald C ho368 ho369 dL_law_1756 ?_
      refine j_iload C dL_law_1757 0 rfl ?_
      refine j_i2l C dL_law_1759 ?_
      refine j_lcmp C dL_law_1760 ?_
      refine j_if_eq C dL_law_1761 (tgt := 1766) (by decide) (fun hc370 => ?_) (fun hc370 => ?_)
      · rw [if_pos hc370] at h
        refine j_goto C dL_law_1766 (tgt := 1870) (by decide) ?_
        refine j_iinc C dL_law_1870 7 rfl (v := (v5 + (5 : Int32))) (by first | rfl | decide) (by decide) (L' := [(5, .int (v5 + (5 : Int32))), (7, .int r364), (6, .int r362), (0, .ref v0), (1, .ref v1), (2, .ref v2), (3, .ref v3), (4, .ref v4)]) rfl ?_
        refine j_goto C dL_law_1873 (tgt := 28) (by decide) ?_
        refine j_sub (L' := [(0, .ref v0), (1, .ref v1), (2, .ref v2), (3, .ref v3), (4, .ref v4), (5, .int (v5 + (5 : Int32)))]) [3, 4, 5, 6, 7, 0] rfl ?_
        exact hK28 v0 v1 v2 v3 v4 (v5 + (5 : Int32)) M365 r M' _ _ (Nat.le_trans (show kk + 1 + 0 + 0 + fu ≤ kk + (fu + 1) by omega) hk) (Nat.le_trans (show nn + 6 + 0 + 0 + 6 * fu ≤ nn + 6 * (fu + 1) by omega) hn) h
      · rw [if_neg hc370] at h
        refine j_iconst C dL_law_1764 (v := (0 : Int32)) (by decide) ?_
        cases h
  · rw [if_neg hc366] at h
    refine j_iconst C dL_law_1747 (v := (0 : Int32)) (by decide) ?_
    cases h
def fL_law_1769 (N : Nat) (Z : mZ) (K28 : Nat → Nat → Nat → Nat → Nat → Int32 → mM → Option (Int32 × mM)) (v0 : Nat) (v1 : Nat) (v2 : Nat) (v3 : Nat) (v4 : Nat) (v5 : Int32) (M : mM) : Option (Int32 × mM) := bnd2 (fL_undo N Z v1 v3 M) (fun r372 M372 => ck (okO Z v2 9) (bnd2 (fX9_undo N Z v2 M372) (fun r374 M374 => bnd2 (fX9_thrown N Z v2 M374) (fun r375 M375 => if r375 = r372 then if r372 = 0 then ck (okO Z v3 22) (ck (inB (0 : Int32) (Z.2.2.1 v3)) (if (lg_cmp (M375.2.1 v3 ((0 : Int32)).toNatClampNeg) ((r374).toInt64)) = 0 then K28 v0 v1 v2 v3 v4 (v5 + (5 : Int32)) M375 else none)) else K28 v0 v1 v2 v3 v4 (v5 + (5 : Int32)) M375 else none))))
set_option maxHeartbeats 4000000 in
set_option maxRecDepth 100000 in
theorem tL_law_1769 {G : mG} {p : Program} {l : Launch} {e : Env} {s : State} {m : MethodId} {args : Array Value} {below : List Frame} {meth : Method} {c : Code} {Q : State → Prop} {tb : List ExceptionTableEntry} (hend : ∀ (k n : Nat) (L : mL) (Z : mZ) (M : mM), k ≤ KM → n ≤ NMX → JJ G p l e room_1 s m args below meth c 9 Q k n 1877 L [.int 1] Z M) (C : Cx G p l s m args meth c RL cL_law 9 (some .boolean) tb) (N : Nat) (Z : mZ) (K28 : Nat → Nat → Nat → Nat → Nat → Int32 → mM → Option (Int32 × mM)) (fu : Nat) (hK28 : ∀ (v0 : Nat) (v1 : Nat) (v2 : Nat) (v3 : Nat) (v4 : Nat) (v5 : Int32) (M : mM) (r : Int32) (M' : mM), ∀ (kk nn : Nat), kk + fu ≤ KM → nn + 6 * fu ≤ NMX → K28 v0 v1 v2 v3 v4 v5 M = some (r, M') → JJ G p l e room_1 s m args below meth c 9 Q kk nn 28 [(0, .ref v0), (1, .ref v1), (2, .ref v2), (3, .ref v3), (4, .ref v4), (5, .int v5)] [] Z M) : ∀ (v0 : Nat) (v1 : Nat) (v2 : Nat) (v3 : Nat) (v4 : Nat) (v5 : Int32) (M : mM) (r : Int32) (M' : mM), ∀ (kk nn : Nat), kk + (fu + 1) ≤ KM → nn + 6 * (fu + 1) ≤ NMX → fL_law_1769 N Z K28 v0 v1 v2 v3 v4 v5 M = some (r, M') → JJ G p l e room_1 s m args below meth c 9 Q kk nn 1769 [(0, .ref v0), (1, .ref v1), (2, .ref v2), (3, .ref v3), (4, .ref v4), (5, .int v5)] [] Z M := by
  intro v0 v1 v2 v3 v4 v5 M r M' kk nn hk hn h
  unfold fL_law_1769 at h
  refine j_aload_n C dL_law_1769 rfl 1 rfl ?_
  refine j_aload_n C dL_law_1770 rfl 3 rfl ?_
  obtain ⟨r372, M372, hq372, h⟩ := bnd2_spec h
  refine j_run1 (c_SX C (As := [.ref v1, .ref v3]) (rest := []) (ctL_undo C.2.2.2.2.2.2.2.2.1 N Z hq372) kcRL_198 oyL_undo ⟨by decide, by decide⟩ ⟨Nat.le_trans (show kk + 1 ≤ kk + (fu + 1) by omega) hk, Nat.le_trans (show nn + 6 ≤ nn + 6 * (fu + 1) by omega) hn⟩ (Nat.le_of_ble_eq_true rfl) rfl dL_law_1771) ?_
  refine j_istore C dL_law_1774 (by decide) (L' := [(6, .int r372), (0, .ref v0), (1, .ref v1), (2, .ref v2), (3, .ref v3), (4, .ref v4), (5, .int v5)]) rfl ?_
  refine j_aload_n C dL_law_1776 rfl 3 rfl ?_
  obtain ⟨ho373, h⟩ := ck_spec h
  obtain ⟨r374, M374, hq374, h⟩ := bnd2_spec h
  refine j_run1 (c_V C (As := []) (rest := []) (ctX9_undo C.2.2.2.2.2.2.2.2.1 N Z hq374) kcRL_200 oyX9_undo (ci := 9) (T := TX9) (N := 23) rfl (by decide) ho373 ⟨by decide, by decide⟩ ⟨Nat.le_trans (show kk + 1 + 0 ≤ kk + (fu + 1) by omega) hk, Nat.le_trans (show nn + 6 + 0 ≤ nn + 6 * (fu + 1) by omega) hn⟩ (Nat.le_of_ble_eq_true rfl) rfl dL_law_1777) ?_
  refine j_istore C dL_law_1780 (by decide) (L' := [(7, .int r374), (6, .int r372), (0, .ref v0), (1, .ref v1), (2, .ref v2), (3, .ref v3), (4, .ref v4), (5, .int v5)]) rfl ?_
  refine j_aload_n C dL_law_1782 rfl 4 rfl ?_
  obtain ⟨r375, M375, hq375, h⟩ := bnd2_spec h
  refine j_run1 (c_V C (As := []) (rest := []) (ctX9_thrown C.2.2.2.2.2.2.2.2.1 N Z hq375) kcRL_118 oyX9_thrown (ci := 9) (T := TX9) (N := 23) rfl (by decide) ho373 ⟨by decide, by decide⟩ ⟨Nat.le_trans (show kk + 1 + 0 + 0 ≤ kk + (fu + 1) by omega) hk, Nat.le_trans (show nn + 6 + 0 + 0 ≤ nn + 6 * (fu + 1) by omega) hn⟩ (Nat.le_of_ble_eq_true rfl) rfl dL_law_1783) ?_
  refine j_iload C dL_law_1786 1 rfl ?_
  refine j_icmp_eq C dL_law_1788 (tgt := 1793) (by decide) (fun hc376 => ?_) (fun hc376 => ?_)
  · rw [if_pos hc376] at h
    refine j_iload C dL_law_1793 1 rfl ?_
    refine j_if_ne C dL_law_1795 (tgt := 1810) (by decide) (fun hc377 => ?_) (fun hc377 => ?_)
    · rw [if_neg hc377] at h
      refine j_goto C dL_law_1810 (tgt := 1870) (by decide) ?_
      refine j_iinc C dL_law_1870 7 rfl (v := (v5 + (5 : Int32))) (by first | rfl | decide) (by decide) (L' := [(5, .int (v5 + (5 : Int32))), (7, .int r374), (6, .int r372), (0, .ref v0), (1, .ref v1), (2, .ref v2), (3, .ref v3), (4, .ref v4)]) rfl ?_
      refine j_goto C dL_law_1873 (tgt := 28) (by decide) ?_
      refine j_sub (L' := [(0, .ref v0), (1, .ref v1), (2, .ref v2), (3, .ref v3), (4, .ref v4), (5, .int (v5 + (5 : Int32)))]) [3, 4, 5, 6, 7, 0] rfl ?_
      exact hK28 v0 v1 v2 v3 v4 (v5 + (5 : Int32)) M375 r M' _ _ (Nat.le_trans (show kk + 1 + 0 + 0 + fu ≤ kk + (fu + 1) by omega) hk) (Nat.le_trans (show nn + 6 + 0 + 0 + 6 * fu ≤ nn + 6 * (fu + 1) by omega) hn) h
    · rw [if_pos hc377] at h
      refine j_aload_n C dL_law_1798 rfl 5 rfl ?_
      refine j_iconst C dL_law_1799 (v := (0 : Int32)) (by decide) ?_
      obtain ⟨ho378, h⟩ := ck_spec h
      obtain ⟨ho379, h⟩ := ck_spec h
      refine j_lald C ho378 ho379 dL_law_1800 ?_
      refine j_iload C dL_law_1801 0 rfl ?_
      refine j_i2l C dL_law_1803 ?_
      refine j_lcmp C dL_law_1804 ?_
      refine j_if_eq C dL_law_1805 (tgt := 1810) (by decide) (fun hc380 => ?_) (fun hc380 => ?_)
      · rw [if_pos hc380] at h
        refine j_goto C dL_law_1810 (tgt := 1870) (by decide) ?_
        refine j_iinc C dL_law_1870 7 rfl (v := (v5 + (5 : Int32))) (by first | rfl | decide) (by decide) (L' := [(5, .int (v5 + (5 : Int32))), (7, .int r374), (6, .int r372), (0, .ref v0), (1, .ref v1), (2, .ref v2), (3, .ref v3), (4, .ref v4)]) rfl ?_
        refine j_goto C dL_law_1873 (tgt := 28) (by decide) ?_
        refine j_sub (L' := [(0, .ref v0), (1, .ref v1), (2, .ref v2), (3, .ref v3), (4, .ref v4), (5, .int (v5 + (5 : Int32)))]) [3, 4, 5, 6, 7, 0] rfl ?_
        exact hK28 v0 v1 v2 v3 v4 (v5 + (5 : Int32)) M375 r M' _ _ (Nat.le_trans (show kk + 1 + 0 + 0 + fu ≤ kk + (fu + 1) by omega) hk) (Nat.le_trans (show nn + 6 + 0 + 0 + 6 * fu ≤ nn + 6 * (fu + 1) by omega) hn) h
      · rw [if_neg hc380] at h
        refine j_iconst C dL_law_1808 (v := (0 : Int32)) (by decide) ?_
        cases h
  · rw [if_neg hc376] at h
    refine j_iconst C dL_law_1791 (v := (0 : Int32)) (by decide) ?_
    cases h
def fL_law_1813 (N : Nat) (Z : mZ) (K28 : Nat → Nat → Nat → Nat → Nat → Int32 → mM → Option (Int32 × mM)) (v0 : Nat) (v1 : Nat) (v2 : Nat) (v3 : Nat) (v4 : Nat) (v5 : Int32) (M : mM) : Option (Int32 × mM) := ck (okO Z v1 8) (bnd2 (fX8_save N Z v1 M) (fun r383 M383 => ck (okO Z v2 9) (bnd2 (fX9_save N Z v2 M383) (fun r385 M385 => if r383 = r385 then K28 v0 v1 v2 v3 v4 (v5 + (5 : Int32)) M385 else none))))
set_option maxHeartbeats 4000000 in
set_option maxRecDepth 100000 in
theorem tL_law_1813 {G : mG} {p : Program} {l : Launch} {e : Env} {s : State} {m : MethodId} {args : Array Value} {below : List Frame} {meth : Method} {c : Code} {Q : State → Prop} {tb : List ExceptionTableEntry} (hend : ∀ (k n : Nat) (L : mL) (Z : mZ) (M : mM), k ≤ KM → n ≤ NMX → JJ G p l e room_1 s m args below meth c 9 Q k n 1877 L [.int 1] Z M) (C : Cx G p l s m args meth c RL cL_law 9 (some .boolean) tb) (N : Nat) (Z : mZ) (K28 : Nat → Nat → Nat → Nat → Nat → Int32 → mM → Option (Int32 × mM)) (fu : Nat) (hK28 : ∀ (v0 : Nat) (v1 : Nat) (v2 : Nat) (v3 : Nat) (v4 : Nat) (v5 : Int32) (M : mM) (r : Int32) (M' : mM), ∀ (kk nn : Nat), kk + fu ≤ KM → nn + 6 * fu ≤ NMX → K28 v0 v1 v2 v3 v4 v5 M = some (r, M') → JJ G p l e room_1 s m args below meth c 9 Q kk nn 28 [(0, .ref v0), (1, .ref v1), (2, .ref v2), (3, .ref v3), (4, .ref v4), (5, .int v5)] [] Z M) : ∀ (v0 : Nat) (v1 : Nat) (v2 : Nat) (v3 : Nat) (v4 : Nat) (v5 : Int32) (M : mM) (r : Int32) (M' : mM), ∀ (kk nn : Nat), kk + (fu + 1) ≤ KM → nn + 6 * (fu + 1) ≤ NMX → fL_law_1813 N Z K28 v0 v1 v2 v3 v4 v5 M = some (r, M') → JJ G p l e room_1 s m args below meth c 9 Q kk nn 1813 [(0, .ref v0), (1, .ref v1), (2, .ref v2), (3, .ref v3), (4, .ref v4), (5, .int v5)] [] Z M := by
  intro v0 v1 v2 v3 v4 v5 M r M' kk nn hk hn h
  unfold fL_law_1813 at h
  refine j_aload_n C dL_law_1813 rfl 1 rfl ?_
  obtain ⟨ho382, h⟩ := ck_spec h
  obtain ⟨r383, M383, hq383, h⟩ := bnd2_spec h
  refine j_run1 (c_V C (As := []) (rest := []) (ctX8_save C.2.2.2.2.2.2.2.2.1 N Z hq383) kcRL_201 oyX8_save (ci := 8) (T := TX8) (N := 11) rfl (by decide) ho382 ⟨by decide, by decide⟩ ⟨Nat.le_trans (show kk + 0 ≤ kk + (fu + 1) by omega) hk, Nat.le_trans (show nn + 0 ≤ nn + 6 * (fu + 1) by omega) hn⟩ (Nat.le_of_ble_eq_true rfl) rfl dL_law_1814) ?_
  refine j_aload_n C dL_law_1817 rfl 2 rfl ?_
  obtain ⟨ho384, h⟩ := ck_spec h
  obtain ⟨r385, M385, hq385, h⟩ := bnd2_spec h
  refine j_run1 (c_V C (As := []) (rest := [.int r383]) (ctX9_save C.2.2.2.2.2.2.2.2.1 N Z hq385) kcRL_204 oyX9_save (ci := 9) (T := TX9) (N := 23) rfl (by decide) ho384 ⟨by decide, by decide⟩ ⟨Nat.le_trans (show kk + 0 + 0 ≤ kk + (fu + 1) by omega) hk, Nat.le_trans (show nn + 0 + 0 ≤ nn + 6 * (fu + 1) by omega) hn⟩ (Nat.le_of_ble_eq_true rfl) rfl dL_law_1818) ?_
  refine j_icmp_eq C dL_law_1821 (tgt := 1870) (by decide) (fun hc386 => ?_) (fun hc386 => ?_)
  · rw [if_pos hc386] at h
    refine j_iinc C dL_law_1870 5 rfl (v := (v5 + (5 : Int32))) (by first | rfl | decide) (by decide) (L' := [(5, .int (v5 + (5 : Int32))), (0, .ref v0), (1, .ref v1), (2, .ref v2), (3, .ref v3), (4, .ref v4)]) rfl ?_
    refine j_goto C dL_law_1873 (tgt := 28) (by decide) ?_
    refine j_sub (L' := [(0, .ref v0), (1, .ref v1), (2, .ref v2), (3, .ref v3), (4, .ref v4), (5, .int (v5 + (5 : Int32)))]) [1, 2, 3, 4, 5, 0] rfl ?_
    exact hK28 v0 v1 v2 v3 v4 (v5 + (5 : Int32)) M385 r M' _ _ (Nat.le_trans (show kk + 0 + 0 + fu ≤ kk + (fu + 1) by omega) hk) (Nat.le_trans (show nn + 0 + 0 + 6 * fu ≤ nn + 6 * (fu + 1) by omega) hn) h
  · rw [if_neg hc386] at h
    refine j_iconst C dL_law_1824 (v := (0 : Int32)) (by decide) ?_
    cases h
def fL_law_1826 (N : Nat) (Z : mZ) (K28 : Nat → Nat → Nat → Nat → Nat → Int32 → mM → Option (Int32 × mM)) (v0 : Nat) (v1 : Nat) (v2 : Nat) (v3 : Nat) (v4 : Nat) (v5 : Int32) (M : mM) : Option (Int32 × mM) := bnd2 (fL_restore N Z v1 v3 M) (fun r388 M388 => ck (okO Z v2 9) (bnd2 (fX9_restore N Z v2 M388) (fun r390 M390 => bnd2 (fX9_thrown N Z v2 M390) (fun r391 M391 => if r391 = r388 then if r388 = 0 then ck (okO Z v3 22) (ck (inB (0 : Int32) (Z.2.2.1 v3)) (if (lg_cmp (M391.2.1 v3 ((0 : Int32)).toNatClampNeg) ((r390).toInt64)) = 0 then K28 v0 v1 v2 v3 v4 (v5 + (5 : Int32)) M391 else none)) else K28 v0 v1 v2 v3 v4 (v5 + (5 : Int32)) M391 else none))))
set_option maxHeartbeats 4000000 in
set_option maxRecDepth 100000 in
theorem tL_law_1826 {G : mG} {p : Program} {l : Launch} {e : Env} {s : State} {m : MethodId} {args : Array Value} {below : List Frame} {meth : Method} {c : Code} {Q : State → Prop} {tb : List ExceptionTableEntry} (hend : ∀ (k n : Nat) (L : mL) (Z : mZ) (M : mM), k ≤ KM → n ≤ NMX → JJ G p l e room_1 s m args below meth c 9 Q k n 1877 L [.int 1] Z M) (C : Cx G p l s m args meth c RL cL_law 9 (some .boolean) tb) (N : Nat) (Z : mZ) (K28 : Nat → Nat → Nat → Nat → Nat → Int32 → mM → Option (Int32 × mM)) (fu : Nat) (hK28 : ∀ (v0 : Nat) (v1 : Nat) (v2 : Nat) (v3 : Nat) (v4 : Nat) (v5 : Int32) (M : mM) (r : Int32) (M' : mM), ∀ (kk nn : Nat), kk + fu ≤ KM → nn + 6 * fu ≤ NMX → K28 v0 v1 v2 v3 v4 v5 M = some (r, M') → JJ G p l e room_1 s m args below meth c 9 Q kk nn 28 [(0, .ref v0), (1, .ref v1), (2, .ref v2), (3, .ref v3), (4, .ref v4), (5, .int v5)] [] Z M) : ∀ (v0 : Nat) (v1 : Nat) (v2 : Nat) (v3 : Nat) (v4 : Nat) (v5 : Int32) (M : mM) (r : Int32) (M' : mM), ∀ (kk nn : Nat), kk + (fu + 1) ≤ KM → nn + 6 * (fu + 1) ≤ NMX → fL_law_1826 N Z K28 v0 v1 v2 v3 v4 v5 M = some (r, M') → JJ G p l e room_1 s m args below meth c 9 Q kk nn 1826 [(0, .ref v0), (1, .ref v1), (2, .ref v2), (3, .ref v3), (4, .ref v4), (5, .int v5)] [] Z M := by
  intro v0 v1 v2 v3 v4 v5 M r M' kk nn hk hn h
  unfold fL_law_1826 at h
  refine j_aload_n C dL_law_1826 rfl 1 rfl ?_
  refine j_aload_n C dL_law_1827 rfl 3 rfl ?_
  obtain ⟨r388, M388, hq388, h⟩ := bnd2_spec h
  refine j_run1 (c_SX C (As := [.ref v1, .ref v3]) (rest := []) (ctL_restore C.2.2.2.2.2.2.2.2.1 N Z hq388) kcRL_205 oyL_restore ⟨by decide, by decide⟩ ⟨Nat.le_trans (show kk + 1 ≤ kk + (fu + 1) by omega) hk, Nat.le_trans (show nn + 6 ≤ nn + 6 * (fu + 1) by omega) hn⟩ (Nat.le_of_ble_eq_true rfl) rfl dL_law_1828) ?_
  refine j_istore C dL_law_1831 (by decide) (L' := [(6, .int r388), (0, .ref v0), (1, .ref v1), (2, .ref v2), (3, .ref v3), (4, .ref v4), (5, .int v5)]) rfl ?_
  refine j_aload_n C dL_law_1833 rfl 3 rfl ?_
  obtain ⟨ho389, h⟩ := ck_spec h
  obtain ⟨r390, M390, hq390, h⟩ := bnd2_spec h
  refine j_run1 (c_V C (As := []) (rest := []) (ctX9_restore C.2.2.2.2.2.2.2.2.1 N Z hq390) kcRL_207 oyX9_restore (ci := 9) (T := TX9) (N := 23) rfl (by decide) ho389 ⟨by decide, by decide⟩ ⟨Nat.le_trans (show kk + 1 + 0 ≤ kk + (fu + 1) by omega) hk, Nat.le_trans (show nn + 6 + 0 ≤ nn + 6 * (fu + 1) by omega) hn⟩ (Nat.le_of_ble_eq_true rfl) rfl dL_law_1834) ?_
  refine j_istore C dL_law_1837 (by decide) (L' := [(7, .int r390), (6, .int r388), (0, .ref v0), (1, .ref v1), (2, .ref v2), (3, .ref v3), (4, .ref v4), (5, .int v5)]) rfl ?_
  refine j_aload_n C dL_law_1839 rfl 4 rfl ?_
  obtain ⟨r391, M391, hq391, h⟩ := bnd2_spec h
  refine j_run1 (c_V C (As := []) (rest := []) (ctX9_thrown C.2.2.2.2.2.2.2.2.1 N Z hq391) kcRL_118 oyX9_thrown (ci := 9) (T := TX9) (N := 23) rfl (by decide) ho389 ⟨by decide, by decide⟩ ⟨Nat.le_trans (show kk + 1 + 0 + 0 ≤ kk + (fu + 1) by omega) hk, Nat.le_trans (show nn + 6 + 0 + 0 ≤ nn + 6 * (fu + 1) by omega) hn⟩ (Nat.le_of_ble_eq_true rfl) rfl dL_law_1840) ?_
  refine j_iload C dL_law_1843 1 rfl ?_
  refine j_icmp_eq C dL_law_1845 (tgt := 1850) (by decide) (fun hc392 => ?_) (fun hc392 => ?_)
  · rw [if_pos hc392] at h
    refine j_iload C dL_law_1850 1 rfl ?_
    refine j_if_ne C dL_law_1852 (tgt := 1867) (by decide) (fun hc393 => ?_) (fun hc393 => ?_)
    · rw [if_neg hc393] at h
      refine j_goto C dL_law_1867 (tgt := 1870) (by decide) ?_
      refine j_iinc C dL_law_1870 7 rfl (v := (v5 + (5 : Int32))) (by first | rfl | decide) (by decide) (L' := [(5, .int (v5 + (5 : Int32))), (7, .int r390), (6, .int r388), (0, .ref v0), (1, .ref v1), (2, .ref v2), (3, .ref v3), (4, .ref v4)]) rfl ?_
      refine j_goto C dL_law_1873 (tgt := 28) (by decide) ?_
      refine j_sub (L' := [(0, .ref v0), (1, .ref v1), (2, .ref v2), (3, .ref v3), (4, .ref v4), (5, .int (v5 + (5 : Int32)))]) [3, 4, 5, 6, 7, 0] rfl ?_
      exact hK28 v0 v1 v2 v3 v4 (v5 + (5 : Int32)) M391 r M' _ _ (Nat.le_trans (show kk + 1 + 0 + 0 + fu ≤ kk + (fu + 1) by omega) hk) (Nat.le_trans (show nn + 6 + 0 + 0 + 6 * fu ≤ nn + 6 * (fu + 1) by omega) hn) h
    · rw [if_pos hc393] at h
      refine j_aload_n C dL_law_1855 rfl 5 rfl ?_
      refine j_iconst C dL_law_1856 (v := (0 : Int32)) (by decide) ?_
      obtain ⟨ho394, h⟩ := ck_spec h
      obtain ⟨ho395, h⟩ := ck_spec h
      refine j_lald C ho394 ho395 dL_law_1857 ?_
      refine j_iload C dL_law_1858 0 rfl ?_
      refine j_i2l C dL_law_1860 ?_
      refine j_lcmp C dL_law_1861 ?_
      refine j_if_eq C dL_law_1862 (tgt := 1867) (by decide) (fun hc396 => ?_) (fun hc396 => ?_)
      · rw [if_pos hc396] at h
        refine j_goto C dL_law_1867 (tgt := 1870) (by decide) ?_
        refine j_iinc C dL_law_1870 7 rfl (v := (v5 + (5 : Int32))) (by first | rfl | decide) (by decide) (L' := [(5, .int (v5 + (5 : Int32))), (7, .int r390), (6, .int r388), (0, .ref v0), (1, .ref v1), (2, .ref v2), (3, .ref v3), (4, .ref v4)]) rfl ?_
        refine j_goto C dL_law_1873 (tgt := 28) (by decide) ?_
        refine j_sub (L' := [(0, .ref v0), (1, .ref v1), (2, .ref v2), (3, .ref v3), (4, .ref v4), (5, .int (v5 + (5 : Int32)))]) [3, 4, 5, 6, 7, 0] rfl ?_
        exact hK28 v0 v1 v2 v3 v4 (v5 + (5 : Int32)) M391 r M' _ _ (Nat.le_trans (show kk + 1 + 0 + 0 + fu ≤ kk + (fu + 1) by omega) hk) (Nat.le_trans (show nn + 6 + 0 + 0 + 6 * fu ≤ nn + 6 * (fu + 1) by omega) hn) h
      · rw [if_neg hc396] at h
        refine j_iconst C dL_law_1865 (v := (0 : Int32)) (by decide) ?_
        cases h
  · rw [if_neg hc392] at h
    refine j_iconst C dL_law_1848 (v := (0 : Int32)) (by decide) ?_
    cases h
def fL_law_28 (N : Nat) (Z : mZ) : Nat → Nat → Nat → Nat → Nat → Nat → Int32 → mM → Option (Int32 × mM)
  | 0, _, _, _, _, _, _, _ => none
  | fu + 1, v0, v1, v2, v3, v4, v5, M => ck (okI Z v0) (if ((Int32.ofNat (Z.2.2.1 v0)) - (5 : Int32)) < v5 then some (1, M) else ck (inB v5 (Z.2.2.1 v0)) (if ((M.1 v0 (v5).toNatClampNeg) &&& (31 : Int32)) = nI 0 then fL_law_168 N Z (fun w0 w1 w2 w3 w4 w5 M9 => fL_law_28 N Z fu w0 w1 w2 w3 w4 w5 M9) v0 v1 v2 v3 v4 v5 M else if ((M.1 v0 (v5).toNatClampNeg) &&& (31 : Int32)) = nI 1 then fL_law_224 N Z (fun w0 w1 w2 w3 w4 w5 M9 => fL_law_28 N Z fu w0 w1 w2 w3 w4 w5 M9) v0 v1 v2 v3 v4 v5 M else if ((M.1 v0 (v5).toNatClampNeg) &&& (31 : Int32)) = nI 2 then fL_law_292 N Z (fun w0 w1 w2 w3 w4 w5 M9 => fL_law_28 N Z fu w0 w1 w2 w3 w4 w5 M9) v0 v1 v2 v3 v4 v5 M else if ((M.1 v0 (v5).toNatClampNeg) &&& (31 : Int32)) = nI 3 then fL_law_360 N Z (fun w0 w1 w2 w3 w4 w5 M9 => fL_law_28 N Z fu w0 w1 w2 w3 w4 w5 M9) v0 v1 v2 v3 v4 v5 M else if ((M.1 v0 (v5).toNatClampNeg) &&& (31 : Int32)) = nI 4 then fL_law_416 N Z (fun w0 w1 w2 w3 w4 w5 M9 => fL_law_28 N Z fu w0 w1 w2 w3 w4 w5 M9) v0 v1 v2 v3 v4 v5 M else if ((M.1 v0 (v5).toNatClampNeg) &&& (31 : Int32)) = nI 5 then fL_law_472 N Z (fun w0 w1 w2 w3 w4 w5 M9 => fL_law_28 N Z fu w0 w1 w2 w3 w4 w5 M9) v0 v1 v2 v3 v4 v5 M else if ((M.1 v0 (v5).toNatClampNeg) &&& (31 : Int32)) = nI 6 then fL_law_552 N Z (fun w0 w1 w2 w3 w4 w5 M9 => fL_law_28 N Z fu w0 w1 w2 w3 w4 w5 M9) v0 v1 v2 v3 v4 v5 M else if ((M.1 v0 (v5).toNatClampNeg) &&& (31 : Int32)) = nI 7 then fL_law_632 N Z (fun w0 w1 w2 w3 w4 w5 M9 => fL_law_28 N Z fu w0 w1 w2 w3 w4 w5 M9) v0 v1 v2 v3 v4 v5 M else if ((M.1 v0 (v5).toNatClampNeg) &&& (31 : Int32)) = nI 8 then fL_law_712 N Z (fun w0 w1 w2 w3 w4 w5 M9 => fL_law_28 N Z fu w0 w1 w2 w3 w4 w5 M9) v0 v1 v2 v3 v4 v5 M else if ((M.1 v0 (v5).toNatClampNeg) &&& (31 : Int32)) = nI 9 then fL_law_820 N Z (fun w0 w1 w2 w3 w4 w5 M9 => fL_law_28 N Z fu w0 w1 w2 w3 w4 w5 M9) v0 v1 v2 v3 v4 v5 M else if ((M.1 v0 (v5).toNatClampNeg) &&& (31 : Int32)) = nI 10 then fL_law_904 N Z (fun w0 w1 w2 w3 w4 w5 M9 => fL_law_28 N Z fu w0 w1 w2 w3 w4 w5 M9) v0 v1 v2 v3 v4 v5 M else if ((M.1 v0 (v5).toNatClampNeg) &&& (31 : Int32)) = nI 11 then fL_law_972 N Z (fun w0 w1 w2 w3 w4 w5 M9 => fL_law_28 N Z fu w0 w1 w2 w3 w4 w5 M9) v0 v1 v2 v3 v4 v5 M else if ((M.1 v0 (v5).toNatClampNeg) &&& (31 : Int32)) = nI 12 then fL_law_1040 N Z (fun w0 w1 w2 w3 w4 w5 M9 => fL_law_28 N Z fu w0 w1 w2 w3 w4 w5 M9) v0 v1 v2 v3 v4 v5 M else if ((M.1 v0 (v5).toNatClampNeg) &&& (31 : Int32)) = nI 13 then fL_law_1108 N Z (fun w0 w1 w2 w3 w4 w5 M9 => fL_law_28 N Z fu w0 w1 w2 w3 w4 w5 M9) v0 v1 v2 v3 v4 v5 M else if ((M.1 v0 (v5).toNatClampNeg) &&& (31 : Int32)) = nI 14 then fL_law_1176 N Z (fun w0 w1 w2 w3 w4 w5 M9 => fL_law_28 N Z fu w0 w1 w2 w3 w4 w5 M9) v0 v1 v2 v3 v4 v5 M else if ((M.1 v0 (v5).toNatClampNeg) &&& (31 : Int32)) = nI 15 then fL_law_1232 N Z (fun w0 w1 w2 w3 w4 w5 M9 => fL_law_28 N Z fu w0 w1 w2 w3 w4 w5 M9) v0 v1 v2 v3 v4 v5 M else if ((M.1 v0 (v5).toNatClampNeg) &&& (31 : Int32)) = nI 16 then fL_law_1288 N Z (fun w0 w1 w2 w3 w4 w5 M9 => fL_law_28 N Z fu w0 w1 w2 w3 w4 w5 M9) v0 v1 v2 v3 v4 v5 M else if ((M.1 v0 (v5).toNatClampNeg) &&& (31 : Int32)) = nI 17 then fL_law_1356 N Z (fun w0 w1 w2 w3 w4 w5 M9 => fL_law_28 N Z fu w0 w1 w2 w3 w4 w5 M9) v0 v1 v2 v3 v4 v5 M else if ((M.1 v0 (v5).toNatClampNeg) &&& (31 : Int32)) = nI 18 then fL_law_1400 N Z (fun w0 w1 w2 w3 w4 w5 M9 => fL_law_28 N Z fu w0 w1 w2 w3 w4 w5 M9) v0 v1 v2 v3 v4 v5 M else if ((M.1 v0 (v5).toNatClampNeg) &&& (31 : Int32)) = nI 19 then fL_law_1468 N Z (fun w0 w1 w2 w3 w4 w5 M9 => fL_law_28 N Z fu w0 w1 w2 w3 w4 w5 M9) v0 v1 v2 v3 v4 v5 M else if ((M.1 v0 (v5).toNatClampNeg) &&& (31 : Int32)) = nI 20 then fL_law_1524 N Z (fun w0 w1 w2 w3 w4 w5 M9 => fL_law_28 N Z fu w0 w1 w2 w3 w4 w5 M9) v0 v1 v2 v3 v4 v5 M else if ((M.1 v0 (v5).toNatClampNeg) &&& (31 : Int32)) = nI 21 then fL_law_1602 N Z (fun w0 w1 w2 w3 w4 w5 M9 => fL_law_28 N Z fu w0 w1 w2 w3 w4 w5 M9) v0 v1 v2 v3 v4 v5 M else if ((M.1 v0 (v5).toNatClampNeg) &&& (31 : Int32)) = nI 22 then fL_law_1667 N Z (fun w0 w1 w2 w3 w4 w5 M9 => fL_law_28 N Z fu w0 w1 w2 w3 w4 w5 M9) v0 v1 v2 v3 v4 v5 M else if ((M.1 v0 (v5).toNatClampNeg) &&& (31 : Int32)) = nI 23 then fL_law_1725 N Z (fun w0 w1 w2 w3 w4 w5 M9 => fL_law_28 N Z fu w0 w1 w2 w3 w4 w5 M9) v0 v1 v2 v3 v4 v5 M else if ((M.1 v0 (v5).toNatClampNeg) &&& (31 : Int32)) = nI 24 then fL_law_1769 N Z (fun w0 w1 w2 w3 w4 w5 M9 => fL_law_28 N Z fu w0 w1 w2 w3 w4 w5 M9) v0 v1 v2 v3 v4 v5 M else if ((M.1 v0 (v5).toNatClampNeg) &&& (31 : Int32)) = nI 25 then fL_law_1813 N Z (fun w0 w1 w2 w3 w4 w5 M9 => fL_law_28 N Z fu w0 w1 w2 w3 w4 w5 M9) v0 v1 v2 v3 v4 v5 M else if ((M.1 v0 (v5).toNatClampNeg) &&& (31 : Int32)) = nI 26 then fL_law_1826 N Z (fun w0 w1 w2 w3 w4 w5 M9 => fL_law_28 N Z fu w0 w1 w2 w3 w4 w5 M9) v0 v1 v2 v3 v4 v5 M else fL_law_28 N Z fu v0 v1 v2 v3 v4 (v5 + (5 : Int32)) M))
set_option maxHeartbeats 4000000 in
set_option maxRecDepth 100000 in
theorem tL_law_28 {G : mG} {p : Program} {l : Launch} {e : Env} {s : State} {m : MethodId} {args : Array Value} {below : List Frame} {meth : Method} {c : Code} {Q : State → Prop} {tb : List ExceptionTableEntry} (hend : ∀ (k n : Nat) (L : mL) (Z : mZ) (M : mM), k ≤ KM → n ≤ NMX → JJ G p l e room_1 s m args below meth c 9 Q k n 1877 L [.int 1] Z M) (C : Cx G p l s m args meth c RL cL_law 9 (some .boolean) tb) (N : Nat) (Z : mZ) : ∀ (fu : Nat) (v0 : Nat) (v1 : Nat) (v2 : Nat) (v3 : Nat) (v4 : Nat) (v5 : Int32) (M : mM) (r : Int32) (M' : mM), ∀ (kk nn : Nat), kk + fu ≤ KM → nn + 6 * fu ≤ NMX → fL_law_28 N Z fu v0 v1 v2 v3 v4 v5 M = some (r, M') → JJ G p l e room_1 s m args below meth c 9 Q kk nn 28 [(0, .ref v0), (1, .ref v1), (2, .ref v2), (3, .ref v3), (4, .ref v4), (5, .int v5)] [] Z M := by
  intro fu
  induction fu with
  | zero =>
    intro v0 v1 v2 v3 v4 v5 M r M' kk nn hk hn h
    cases h
  | succ fu ih =>
    intro v0 v1 v2 v3 v4 v5 M r M' kk nn hk hn h
    rw [fL_law_28] at h
    refine j_iload C dL_law_28 5 rfl ?_
    refine j_aload_n C dL_law_30 rfl 0 rfl ?_
    obtain ⟨ho7, h⟩ := ck_spec h
    refine j_alen C ho7 dL_law_31 ?_
    refine j_iconst C dL_law_32 (v := (5 : Int32)) (by decide) ?_
    refine j_isub C dL_law_33 ?_
    refine j_icmp_gt C dL_law_34 (tgt := 1876) (by decide) (fun hc8 => ?_) (fun hc8 => ?_)
    · rw [if_pos hc8] at h
      refine j_iconst C dL_law_1876 (v := (1 : Int32)) (by decide) ?_
      exact hend _ _ _ _ _ (Nat.le_trans (Nat.le_add_right _ _) hk) (Nat.le_trans (Nat.le_add_right _ _) hn)
    · rw [if_neg hc8] at h
      refine j_aload_n C dL_law_37 rfl 0 rfl ?_
      refine j_iload C dL_law_38 5 rfl ?_
      obtain ⟨ho9, h⟩ := ck_spec h
      refine j_iald C ho7 ho9 dL_law_40 ?_
      refine j_bipush C dL_law_41 (v := (31 : Int32)) (by decide) ?_
      refine j_iand C dL_law_43 ?_
      by_cases hc10 : ((M.1 v0 (v5).toNatClampNeg) &&& (31 : Int32)) = nI 0
      · rw [if_pos hc10] at h
        refine j_tableIn C dL_law_44 (by rw [hc10]; decide) (by rw [hc10]; decide) (off := 124) (by rw [hc10]; rfl) (tgt := 168) (by decide) ?_
        refine j_sub (L' := [(0, .ref v0), (1, .ref v1), (2, .ref v2), (3, .ref v3), (4, .ref v4), (5, .int v5)]) [0, 1, 2, 3, 4, 5] rfl ?_
        exact tL_law_168 hend C N Z (fun w0 w1 w2 w3 w4 w5 M9 => fL_law_28 N Z fu w0 w1 w2 w3 w4 w5 M9) fu (fun w0 w1 w2 w3 w4 w5 M9 r9 M9' kk9 nn9 hk9 hn9 h9 => ih w0 w1 w2 w3 w4 w5 M9 r9 M9' kk9 nn9 hk9 hn9 h9) v0 v1 v2 v3 v4 v5 M _ _ _ _ hk hn h
      rw [if_neg hc10] at h
      by_cases hc22 : ((M.1 v0 (v5).toNatClampNeg) &&& (31 : Int32)) = nI 1
      · rw [if_pos hc22] at h
        refine j_tableIn C dL_law_44 (by rw [hc22]; decide) (by rw [hc22]; decide) (off := 180) (by rw [hc22]; rfl) (tgt := 224) (by decide) ?_
        refine j_sub (L' := [(0, .ref v0), (1, .ref v1), (2, .ref v2), (3, .ref v3), (4, .ref v4), (5, .int v5)]) [0, 1, 2, 3, 4, 5] rfl ?_
        exact tL_law_224 hend C N Z (fun w0 w1 w2 w3 w4 w5 M9 => fL_law_28 N Z fu w0 w1 w2 w3 w4 w5 M9) fu (fun w0 w1 w2 w3 w4 w5 M9 r9 M9' kk9 nn9 hk9 hn9 h9 => ih w0 w1 w2 w3 w4 w5 M9 r9 M9' kk9 nn9 hk9 hn9 h9) v0 v1 v2 v3 v4 v5 M _ _ _ _ hk hn h
      rw [if_neg hc22] at h
      by_cases hc35 : ((M.1 v0 (v5).toNatClampNeg) &&& (31 : Int32)) = nI 2
      · rw [if_pos hc35] at h
        refine j_tableIn C dL_law_44 (by rw [hc35]; decide) (by rw [hc35]; decide) (off := 248) (by rw [hc35]; rfl) (tgt := 292) (by decide) ?_
        refine j_sub (L' := [(0, .ref v0), (1, .ref v1), (2, .ref v2), (3, .ref v3), (4, .ref v4), (5, .int v5)]) [0, 1, 2, 3, 4, 5] rfl ?_
        exact tL_law_292 hend C N Z (fun w0 w1 w2 w3 w4 w5 M9 => fL_law_28 N Z fu w0 w1 w2 w3 w4 w5 M9) fu (fun w0 w1 w2 w3 w4 w5 M9 r9 M9' kk9 nn9 hk9 hn9 h9 => ih w0 w1 w2 w3 w4 w5 M9 r9 M9' kk9 nn9 hk9 hn9 h9) v0 v1 v2 v3 v4 v5 M _ _ _ _ hk hn h
      rw [if_neg hc35] at h
      by_cases hc48 : ((M.1 v0 (v5).toNatClampNeg) &&& (31 : Int32)) = nI 3
      · rw [if_pos hc48] at h
        refine j_tableIn C dL_law_44 (by rw [hc48]; decide) (by rw [hc48]; decide) (off := 316) (by rw [hc48]; rfl) (tgt := 360) (by decide) ?_
        refine j_sub (L' := [(0, .ref v0), (1, .ref v1), (2, .ref v2), (3, .ref v3), (4, .ref v4), (5, .int v5)]) [0, 1, 2, 3, 4, 5] rfl ?_
        exact tL_law_360 hend C N Z (fun w0 w1 w2 w3 w4 w5 M9 => fL_law_28 N Z fu w0 w1 w2 w3 w4 w5 M9) fu (fun w0 w1 w2 w3 w4 w5 M9 r9 M9' kk9 nn9 hk9 hn9 h9 => ih w0 w1 w2 w3 w4 w5 M9 r9 M9' kk9 nn9 hk9 hn9 h9) v0 v1 v2 v3 v4 v5 M _ _ _ _ hk hn h
      rw [if_neg hc48] at h
      by_cases hc60 : ((M.1 v0 (v5).toNatClampNeg) &&& (31 : Int32)) = nI 4
      · rw [if_pos hc60] at h
        refine j_tableIn C dL_law_44 (by rw [hc60]; decide) (by rw [hc60]; decide) (off := 372) (by rw [hc60]; rfl) (tgt := 416) (by decide) ?_
        refine j_sub (L' := [(0, .ref v0), (1, .ref v1), (2, .ref v2), (3, .ref v3), (4, .ref v4), (5, .int v5)]) [0, 1, 2, 3, 4, 5] rfl ?_
        exact tL_law_416 hend C N Z (fun w0 w1 w2 w3 w4 w5 M9 => fL_law_28 N Z fu w0 w1 w2 w3 w4 w5 M9) fu (fun w0 w1 w2 w3 w4 w5 M9 r9 M9' kk9 nn9 hk9 hn9 h9 => ih w0 w1 w2 w3 w4 w5 M9 r9 M9' kk9 nn9 hk9 hn9 h9) v0 v1 v2 v3 v4 v5 M _ _ _ _ hk hn h
      rw [if_neg hc60] at h
      by_cases hc72 : ((M.1 v0 (v5).toNatClampNeg) &&& (31 : Int32)) = nI 5
      · rw [if_pos hc72] at h
        refine j_tableIn C dL_law_44 (by rw [hc72]; decide) (by rw [hc72]; decide) (off := 428) (by rw [hc72]; rfl) (tgt := 472) (by decide) ?_
        refine j_sub (L' := [(0, .ref v0), (1, .ref v1), (2, .ref v2), (3, .ref v3), (4, .ref v4), (5, .int v5)]) [0, 1, 2, 3, 4, 5] rfl ?_
        exact tL_law_472 hend C N Z (fun w0 w1 w2 w3 w4 w5 M9 => fL_law_28 N Z fu w0 w1 w2 w3 w4 w5 M9) fu (fun w0 w1 w2 w3 w4 w5 M9 r9 M9' kk9 nn9 hk9 hn9 h9 => ih w0 w1 w2 w3 w4 w5 M9 r9 M9' kk9 nn9 hk9 hn9 h9) v0 v1 v2 v3 v4 v5 M _ _ _ _ hk hn h
      rw [if_neg hc72] at h
      by_cases hc86 : ((M.1 v0 (v5).toNatClampNeg) &&& (31 : Int32)) = nI 6
      · rw [if_pos hc86] at h
        refine j_tableIn C dL_law_44 (by rw [hc86]; decide) (by rw [hc86]; decide) (off := 508) (by rw [hc86]; rfl) (tgt := 552) (by decide) ?_
        refine j_sub (L' := [(0, .ref v0), (1, .ref v1), (2, .ref v2), (3, .ref v3), (4, .ref v4), (5, .int v5)]) [0, 1, 2, 3, 4, 5] rfl ?_
        exact tL_law_552 hend C N Z (fun w0 w1 w2 w3 w4 w5 M9 => fL_law_28 N Z fu w0 w1 w2 w3 w4 w5 M9) fu (fun w0 w1 w2 w3 w4 w5 M9 r9 M9' kk9 nn9 hk9 hn9 h9 => ih w0 w1 w2 w3 w4 w5 M9 r9 M9' kk9 nn9 hk9 hn9 h9) v0 v1 v2 v3 v4 v5 M _ _ _ _ hk hn h
      rw [if_neg hc86] at h
      by_cases hc100 : ((M.1 v0 (v5).toNatClampNeg) &&& (31 : Int32)) = nI 7
      · rw [if_pos hc100] at h
        refine j_tableIn C dL_law_44 (by rw [hc100]; decide) (by rw [hc100]; decide) (off := 588) (by rw [hc100]; rfl) (tgt := 632) (by decide) ?_
        refine j_sub (L' := [(0, .ref v0), (1, .ref v1), (2, .ref v2), (3, .ref v3), (4, .ref v4), (5, .int v5)]) [0, 1, 2, 3, 4, 5] rfl ?_
        exact tL_law_632 hend C N Z (fun w0 w1 w2 w3 w4 w5 M9 => fL_law_28 N Z fu w0 w1 w2 w3 w4 w5 M9) fu (fun w0 w1 w2 w3 w4 w5 M9 r9 M9' kk9 nn9 hk9 hn9 h9 => ih w0 w1 w2 w3 w4 w5 M9 r9 M9' kk9 nn9 hk9 hn9 h9) v0 v1 v2 v3 v4 v5 M _ _ _ _ hk hn h
      rw [if_neg hc100] at h
      by_cases hc114 : ((M.1 v0 (v5).toNatClampNeg) &&& (31 : Int32)) = nI 8
      · rw [if_pos hc114] at h
        refine j_tableIn C dL_law_44 (by rw [hc114]; decide) (by rw [hc114]; decide) (off := 668) (by rw [hc114]; rfl) (tgt := 712) (by decide) ?_
        refine j_sub (L' := [(0, .ref v0), (1, .ref v1), (2, .ref v2), (3, .ref v3), (4, .ref v4), (5, .int v5)]) [0, 1, 2, 3, 4, 5] rfl ?_
        exact tL_law_712 hend C N Z (fun w0 w1 w2 w3 w4 w5 M9 => fL_law_28 N Z fu w0 w1 w2 w3 w4 w5 M9) fu (fun w0 w1 w2 w3 w4 w5 M9 r9 M9' kk9 nn9 hk9 hn9 h9 => ih w0 w1 w2 w3 w4 w5 M9 r9 M9' kk9 nn9 hk9 hn9 h9) v0 v1 v2 v3 v4 v5 M _ _ _ _ hk hn h
      rw [if_neg hc114] at h
      by_cases hc157 : ((M.1 v0 (v5).toNatClampNeg) &&& (31 : Int32)) = nI 9
      · rw [if_pos hc157] at h
        refine j_tableIn C dL_law_44 (by rw [hc157]; decide) (by rw [hc157]; decide) (off := 776) (by rw [hc157]; rfl) (tgt := 820) (by decide) ?_
        refine j_sub (L' := [(0, .ref v0), (1, .ref v1), (2, .ref v2), (3, .ref v3), (4, .ref v4), (5, .int v5)]) [0, 1, 2, 3, 4, 5] rfl ?_
        exact tL_law_820 hend C N Z (fun w0 w1 w2 w3 w4 w5 M9 => fL_law_28 N Z fu w0 w1 w2 w3 w4 w5 M9) fu (fun w0 w1 w2 w3 w4 w5 M9 r9 M9' kk9 nn9 hk9 hn9 h9 => ih w0 w1 w2 w3 w4 w5 M9 r9 M9' kk9 nn9 hk9 hn9 h9) v0 v1 v2 v3 v4 v5 M _ _ _ _ hk hn h
      rw [if_neg hc157] at h
      by_cases hc198 : ((M.1 v0 (v5).toNatClampNeg) &&& (31 : Int32)) = nI 10
      · rw [if_pos hc198] at h
        refine j_tableIn C dL_law_44 (by rw [hc198]; decide) (by rw [hc198]; decide) (off := 860) (by rw [hc198]; rfl) (tgt := 904) (by decide) ?_
        refine j_sub (L' := [(0, .ref v0), (1, .ref v1), (2, .ref v2), (3, .ref v3), (4, .ref v4), (5, .int v5)]) [0, 1, 2, 3, 4, 5] rfl ?_
        exact tL_law_904 hend C N Z (fun w0 w1 w2 w3 w4 w5 M9 => fL_law_28 N Z fu w0 w1 w2 w3 w4 w5 M9) fu (fun w0 w1 w2 w3 w4 w5 M9 r9 M9' kk9 nn9 hk9 hn9 h9 => ih w0 w1 w2 w3 w4 w5 M9 r9 M9' kk9 nn9 hk9 hn9 h9) v0 v1 v2 v3 v4 v5 M _ _ _ _ hk hn h
      rw [if_neg hc198] at h
      by_cases hc211 : ((M.1 v0 (v5).toNatClampNeg) &&& (31 : Int32)) = nI 11
      · rw [if_pos hc211] at h
        refine j_tableIn C dL_law_44 (by rw [hc211]; decide) (by rw [hc211]; decide) (off := 928) (by rw [hc211]; rfl) (tgt := 972) (by decide) ?_
        refine j_sub (L' := [(0, .ref v0), (1, .ref v1), (2, .ref v2), (3, .ref v3), (4, .ref v4), (5, .int v5)]) [0, 1, 2, 3, 4, 5] rfl ?_
        exact tL_law_972 hend C N Z (fun w0 w1 w2 w3 w4 w5 M9 => fL_law_28 N Z fu w0 w1 w2 w3 w4 w5 M9) fu (fun w0 w1 w2 w3 w4 w5 M9 r9 M9' kk9 nn9 hk9 hn9 h9 => ih w0 w1 w2 w3 w4 w5 M9 r9 M9' kk9 nn9 hk9 hn9 h9) v0 v1 v2 v3 v4 v5 M _ _ _ _ hk hn h
      rw [if_neg hc211] at h
      by_cases hc224 : ((M.1 v0 (v5).toNatClampNeg) &&& (31 : Int32)) = nI 12
      · rw [if_pos hc224] at h
        refine j_tableIn C dL_law_44 (by rw [hc224]; decide) (by rw [hc224]; decide) (off := 996) (by rw [hc224]; rfl) (tgt := 1040) (by decide) ?_
        refine j_sub (L' := [(0, .ref v0), (1, .ref v1), (2, .ref v2), (3, .ref v3), (4, .ref v4), (5, .int v5)]) [0, 1, 2, 3, 4, 5] rfl ?_
        exact tL_law_1040 hend C N Z (fun w0 w1 w2 w3 w4 w5 M9 => fL_law_28 N Z fu w0 w1 w2 w3 w4 w5 M9) fu (fun w0 w1 w2 w3 w4 w5 M9 r9 M9' kk9 nn9 hk9 hn9 h9 => ih w0 w1 w2 w3 w4 w5 M9 r9 M9' kk9 nn9 hk9 hn9 h9) v0 v1 v2 v3 v4 v5 M _ _ _ _ hk hn h
      rw [if_neg hc224] at h
      by_cases hc237 : ((M.1 v0 (v5).toNatClampNeg) &&& (31 : Int32)) = nI 13
      · rw [if_pos hc237] at h
        refine j_tableIn C dL_law_44 (by rw [hc237]; decide) (by rw [hc237]; decide) (off := 1064) (by rw [hc237]; rfl) (tgt := 1108) (by decide) ?_
        refine j_sub (L' := [(0, .ref v0), (1, .ref v1), (2, .ref v2), (3, .ref v3), (4, .ref v4), (5, .int v5)]) [0, 1, 2, 3, 4, 5] rfl ?_
        exact tL_law_1108 hend C N Z (fun w0 w1 w2 w3 w4 w5 M9 => fL_law_28 N Z fu w0 w1 w2 w3 w4 w5 M9) fu (fun w0 w1 w2 w3 w4 w5 M9 r9 M9' kk9 nn9 hk9 hn9 h9 => ih w0 w1 w2 w3 w4 w5 M9 r9 M9' kk9 nn9 hk9 hn9 h9) v0 v1 v2 v3 v4 v5 M _ _ _ _ hk hn h
      rw [if_neg hc237] at h
      by_cases hc250 : ((M.1 v0 (v5).toNatClampNeg) &&& (31 : Int32)) = nI 14
      · rw [if_pos hc250] at h
        refine j_tableIn C dL_law_44 (by rw [hc250]; decide) (by rw [hc250]; decide) (off := 1132) (by rw [hc250]; rfl) (tgt := 1176) (by decide) ?_
        refine j_sub (L' := [(0, .ref v0), (1, .ref v1), (2, .ref v2), (3, .ref v3), (4, .ref v4), (5, .int v5)]) [0, 1, 2, 3, 4, 5] rfl ?_
        exact tL_law_1176 hend C N Z (fun w0 w1 w2 w3 w4 w5 M9 => fL_law_28 N Z fu w0 w1 w2 w3 w4 w5 M9) fu (fun w0 w1 w2 w3 w4 w5 M9 r9 M9' kk9 nn9 hk9 hn9 h9 => ih w0 w1 w2 w3 w4 w5 M9 r9 M9' kk9 nn9 hk9 hn9 h9) v0 v1 v2 v3 v4 v5 M _ _ _ _ hk hn h
      rw [if_neg hc250] at h
      by_cases hc262 : ((M.1 v0 (v5).toNatClampNeg) &&& (31 : Int32)) = nI 15
      · rw [if_pos hc262] at h
        refine j_tableIn C dL_law_44 (by rw [hc262]; decide) (by rw [hc262]; decide) (off := 1188) (by rw [hc262]; rfl) (tgt := 1232) (by decide) ?_
        refine j_sub (L' := [(0, .ref v0), (1, .ref v1), (2, .ref v2), (3, .ref v3), (4, .ref v4), (5, .int v5)]) [0, 1, 2, 3, 4, 5] rfl ?_
        exact tL_law_1232 hend C N Z (fun w0 w1 w2 w3 w4 w5 M9 => fL_law_28 N Z fu w0 w1 w2 w3 w4 w5 M9) fu (fun w0 w1 w2 w3 w4 w5 M9 r9 M9' kk9 nn9 hk9 hn9 h9 => ih w0 w1 w2 w3 w4 w5 M9 r9 M9' kk9 nn9 hk9 hn9 h9) v0 v1 v2 v3 v4 v5 M _ _ _ _ hk hn h
      rw [if_neg hc262] at h
      by_cases hc274 : ((M.1 v0 (v5).toNatClampNeg) &&& (31 : Int32)) = nI 16
      · rw [if_pos hc274] at h
        refine j_tableIn C dL_law_44 (by rw [hc274]; decide) (by rw [hc274]; decide) (off := 1244) (by rw [hc274]; rfl) (tgt := 1288) (by decide) ?_
        refine j_sub (L' := [(0, .ref v0), (1, .ref v1), (2, .ref v2), (3, .ref v3), (4, .ref v4), (5, .int v5)]) [0, 1, 2, 3, 4, 5] rfl ?_
        exact tL_law_1288 hend C N Z (fun w0 w1 w2 w3 w4 w5 M9 => fL_law_28 N Z fu w0 w1 w2 w3 w4 w5 M9) fu (fun w0 w1 w2 w3 w4 w5 M9 r9 M9' kk9 nn9 hk9 hn9 h9 => ih w0 w1 w2 w3 w4 w5 M9 r9 M9' kk9 nn9 hk9 hn9 h9) v0 v1 v2 v3 v4 v5 M _ _ _ _ hk hn h
      rw [if_neg hc274] at h
      by_cases hc287 : ((M.1 v0 (v5).toNatClampNeg) &&& (31 : Int32)) = nI 17
      · rw [if_pos hc287] at h
        refine j_tableIn C dL_law_44 (by rw [hc287]; decide) (by rw [hc287]; decide) (off := 1312) (by rw [hc287]; rfl) (tgt := 1356) (by decide) ?_
        refine j_sub (L' := [(0, .ref v0), (1, .ref v1), (2, .ref v2), (3, .ref v3), (4, .ref v4), (5, .int v5)]) [0, 1, 2, 3, 4, 5] rfl ?_
        exact tL_law_1356 hend C N Z (fun w0 w1 w2 w3 w4 w5 M9 => fL_law_28 N Z fu w0 w1 w2 w3 w4 w5 M9) fu (fun w0 w1 w2 w3 w4 w5 M9 r9 M9' kk9 nn9 hk9 hn9 h9 => ih w0 w1 w2 w3 w4 w5 M9 r9 M9' kk9 nn9 hk9 hn9 h9) v0 v1 v2 v3 v4 v5 M _ _ _ _ hk hn h
      rw [if_neg hc287] at h
      by_cases hc297 : ((M.1 v0 (v5).toNatClampNeg) &&& (31 : Int32)) = nI 18
      · rw [if_pos hc297] at h
        refine j_tableIn C dL_law_44 (by rw [hc297]; decide) (by rw [hc297]; decide) (off := 1356) (by rw [hc297]; rfl) (tgt := 1400) (by decide) ?_
        refine j_sub (L' := [(0, .ref v0), (1, .ref v1), (2, .ref v2), (3, .ref v3), (4, .ref v4), (5, .int v5)]) [0, 1, 2, 3, 4, 5] rfl ?_
        exact tL_law_1400 hend C N Z (fun w0 w1 w2 w3 w4 w5 M9 => fL_law_28 N Z fu w0 w1 w2 w3 w4 w5 M9) fu (fun w0 w1 w2 w3 w4 w5 M9 r9 M9' kk9 nn9 hk9 hn9 h9 => ih w0 w1 w2 w3 w4 w5 M9 r9 M9' kk9 nn9 hk9 hn9 h9) v0 v1 v2 v3 v4 v5 M _ _ _ _ hk hn h
      rw [if_neg hc297] at h
      by_cases hc310 : ((M.1 v0 (v5).toNatClampNeg) &&& (31 : Int32)) = nI 19
      · rw [if_pos hc310] at h
        refine j_tableIn C dL_law_44 (by rw [hc310]; decide) (by rw [hc310]; decide) (off := 1424) (by rw [hc310]; rfl) (tgt := 1468) (by decide) ?_
        refine j_sub (L' := [(0, .ref v0), (1, .ref v1), (2, .ref v2), (3, .ref v3), (4, .ref v4), (5, .int v5)]) [0, 1, 2, 3, 4, 5] rfl ?_
        exact tL_law_1468 hend C N Z (fun w0 w1 w2 w3 w4 w5 M9 => fL_law_28 N Z fu w0 w1 w2 w3 w4 w5 M9) fu (fun w0 w1 w2 w3 w4 w5 M9 r9 M9' kk9 nn9 hk9 hn9 h9 => ih w0 w1 w2 w3 w4 w5 M9 r9 M9' kk9 nn9 hk9 hn9 h9) v0 v1 v2 v3 v4 v5 M _ _ _ _ hk hn h
      rw [if_neg hc310] at h
      by_cases hc322 : ((M.1 v0 (v5).toNatClampNeg) &&& (31 : Int32)) = nI 20
      · rw [if_pos hc322] at h
        refine j_tableIn C dL_law_44 (by rw [hc322]; decide) (by rw [hc322]; decide) (off := 1480) (by rw [hc322]; rfl) (tgt := 1524) (by decide) ?_
        refine j_sub (L' := [(0, .ref v0), (1, .ref v1), (2, .ref v2), (3, .ref v3), (4, .ref v4), (5, .int v5)]) [0, 1, 2, 3, 4, 5] rfl ?_
        exact tL_law_1524 hend C N Z (fun w0 w1 w2 w3 w4 w5 M9 => fL_law_28 N Z fu w0 w1 w2 w3 w4 w5 M9) fu (fun w0 w1 w2 w3 w4 w5 M9 r9 M9' kk9 nn9 hk9 hn9 h9 => ih w0 w1 w2 w3 w4 w5 M9 r9 M9' kk9 nn9 hk9 hn9 h9) v0 v1 v2 v3 v4 v5 M _ _ _ _ hk hn h
      rw [if_neg hc322] at h
      by_cases hc337 : ((M.1 v0 (v5).toNatClampNeg) &&& (31 : Int32)) = nI 21
      · rw [if_pos hc337] at h
        refine j_tableIn C dL_law_44 (by rw [hc337]; decide) (by rw [hc337]; decide) (off := 1558) (by rw [hc337]; rfl) (tgt := 1602) (by decide) ?_
        refine j_sub (L' := [(0, .ref v0), (1, .ref v1), (2, .ref v2), (3, .ref v3), (4, .ref v4), (5, .int v5)]) [0, 1, 2, 3, 4, 5] rfl ?_
        exact tL_law_1602 hend C N Z (fun w0 w1 w2 w3 w4 w5 M9 => fL_law_28 N Z fu w0 w1 w2 w3 w4 w5 M9) fu (fun w0 w1 w2 w3 w4 w5 M9 r9 M9' kk9 nn9 hk9 hn9 h9 => ih w0 w1 w2 w3 w4 w5 M9 r9 M9' kk9 nn9 hk9 hn9 h9) v0 v1 v2 v3 v4 v5 M _ _ _ _ hk hn h
      rw [if_neg hc337] at h
      by_cases hc349 : ((M.1 v0 (v5).toNatClampNeg) &&& (31 : Int32)) = nI 22
      · rw [if_pos hc349] at h
        refine j_tableIn C dL_law_44 (by rw [hc349]; decide) (by rw [hc349]; decide) (off := 1623) (by rw [hc349]; rfl) (tgt := 1667) (by decide) ?_
        refine j_sub (L' := [(0, .ref v0), (1, .ref v1), (2, .ref v2), (3, .ref v3), (4, .ref v4), (5, .int v5)]) [0, 1, 2, 3, 4, 5] rfl ?_
        exact tL_law_1667 hend C N Z (fun w0 w1 w2 w3 w4 w5 M9 => fL_law_28 N Z fu w0 w1 w2 w3 w4 w5 M9) fu (fun w0 w1 w2 w3 w4 w5 M9 r9 M9' kk9 nn9 hk9 hn9 h9 => ih w0 w1 w2 w3 w4 w5 M9 r9 M9' kk9 nn9 hk9 hn9 h9) v0 v1 v2 v3 v4 v5 M _ _ _ _ hk hn h
      rw [if_neg hc349] at h
      by_cases hc361 : ((M.1 v0 (v5).toNatClampNeg) &&& (31 : Int32)) = nI 23
      · rw [if_pos hc361] at h
        refine j_tableIn C dL_law_44 (by rw [hc361]; decide) (by rw [hc361]; decide) (off := 1681) (by rw [hc361]; rfl) (tgt := 1725) (by decide) ?_
        refine j_sub (L' := [(0, .ref v0), (1, .ref v1), (2, .ref v2), (3, .ref v3), (4, .ref v4), (5, .int v5)]) [0, 1, 2, 3, 4, 5] rfl ?_
        exact tL_law_1725 hend C N Z (fun w0 w1 w2 w3 w4 w5 M9 => fL_law_28 N Z fu w0 w1 w2 w3 w4 w5 M9) fu (fun w0 w1 w2 w3 w4 w5 M9 r9 M9' kk9 nn9 hk9 hn9 h9 => ih w0 w1 w2 w3 w4 w5 M9 r9 M9' kk9 nn9 hk9 hn9 h9) v0 v1 v2 v3 v4 v5 M _ _ _ _ hk hn h
      rw [if_neg hc361] at h
      by_cases hc371 : ((M.1 v0 (v5).toNatClampNeg) &&& (31 : Int32)) = nI 24
      · rw [if_pos hc371] at h
        refine j_tableIn C dL_law_44 (by rw [hc371]; decide) (by rw [hc371]; decide) (off := 1725) (by rw [hc371]; rfl) (tgt := 1769) (by decide) ?_
        refine j_sub (L' := [(0, .ref v0), (1, .ref v1), (2, .ref v2), (3, .ref v3), (4, .ref v4), (5, .int v5)]) [0, 1, 2, 3, 4, 5] rfl ?_
        exact tL_law_1769 hend C N Z (fun w0 w1 w2 w3 w4 w5 M9 => fL_law_28 N Z fu w0 w1 w2 w3 w4 w5 M9) fu (fun w0 w1 w2 w3 w4 w5 M9 r9 M9' kk9 nn9 hk9 hn9 h9 => ih w0 w1 w2 w3 w4 w5 M9 r9 M9' kk9 nn9 hk9 hn9 h9) v0 v1 v2 v3 v4 v5 M _ _ _ _ hk hn h
      rw [if_neg hc371] at h
      by_cases hc381 : ((M.1 v0 (v5).toNatClampNeg) &&& (31 : Int32)) = nI 25
      · rw [if_pos hc381] at h
        refine j_tableIn C dL_law_44 (by rw [hc381]; decide) (by rw [hc381]; decide) (off := 1769) (by rw [hc381]; rfl) (tgt := 1813) (by decide) ?_
        refine j_sub (L' := [(0, .ref v0), (1, .ref v1), (2, .ref v2), (3, .ref v3), (4, .ref v4), (5, .int v5)]) [0, 1, 2, 3, 4, 5] rfl ?_
        exact tL_law_1813 hend C N Z (fun w0 w1 w2 w3 w4 w5 M9 => fL_law_28 N Z fu w0 w1 w2 w3 w4 w5 M9) fu (fun w0 w1 w2 w3 w4 w5 M9 r9 M9' kk9 nn9 hk9 hn9 h9 => ih w0 w1 w2 w3 w4 w5 M9 r9 M9' kk9 nn9 hk9 hn9 h9) v0 v1 v2 v3 v4 v5 M _ _ _ _ hk hn h
      rw [if_neg hc381] at h
      by_cases hc387 : ((M.1 v0 (v5).toNatClampNeg) &&& (31 : Int32)) = nI 26
      · rw [if_pos hc387] at h
        refine j_tableIn C dL_law_44 (by rw [hc387]; decide) (by rw [hc387]; decide) (off := 1782) (by rw [hc387]; rfl) (tgt := 1826) (by decide) ?_
        refine j_sub (L' := [(0, .ref v0), (1, .ref v1), (2, .ref v2), (3, .ref v3), (4, .ref v4), (5, .int v5)]) [0, 1, 2, 3, 4, 5] rfl ?_
        exact tL_law_1826 hend C N Z (fun w0 w1 w2 w3 w4 w5 M9 => fL_law_28 N Z fu w0 w1 w2 w3 w4 w5 M9) fu (fun w0 w1 w2 w3 w4 w5 M9 r9 M9' kk9 nn9 hk9 hn9 h9 => ih w0 w1 w2 w3 w4 w5 M9 r9 M9' kk9 nn9 hk9 hn9 h9) v0 v1 v2 v3 v4 v5 M _ _ _ _ hk hn h
      rw [if_neg hc387] at h
      refine j_tableOut C dL_law_44 (sw_out (n := 26) (by decide) (fun j hj => by rcases (show j = 0 ∨ j = 1 ∨ j = 2 ∨ j = 3 ∨ j = 4 ∨ j = 5 ∨ j = 6 ∨ j = 7 ∨ j = 8 ∨ j = 9 ∨ j = 10 ∨ j = 11 ∨ j = 12 ∨ j = 13 ∨ j = 14 ∨ j = 15 ∨ j = 16 ∨ j = 17 ∨ j = 18 ∨ j = 19 ∨ j = 20 ∨ j = 21 ∨ j = 22 ∨ j = 23 ∨ j = 24 ∨ j = 25 ∨ j = 26 by omega) with rfl | rfl | rfl | rfl | rfl | rfl | rfl | rfl | rfl | rfl | rfl | rfl | rfl | rfl | rfl | rfl | rfl | rfl | rfl | rfl | rfl | rfl | rfl | rfl | rfl | rfl | rfl <;> assumption)) (tgt := 1870) (by decide) ?_
      refine j_iinc C dL_law_1870 5 rfl (v := (v5 + (5 : Int32))) (by first | rfl | decide) (by decide) (L' := [(5, .int (v5 + (5 : Int32))), (0, .ref v0), (1, .ref v1), (2, .ref v2), (3, .ref v3), (4, .ref v4)]) rfl ?_
      refine j_goto C dL_law_1873 (tgt := 28) (by decide) ?_
      refine j_sub (L' := [(0, .ref v0), (1, .ref v1), (2, .ref v2), (3, .ref v3), (4, .ref v4), (5, .int (v5 + (5 : Int32)))]) [1, 2, 3, 4, 5, 0] rfl ?_
      exact ih v0 v1 v2 v3 v4 (v5 + (5 : Int32)) M r M' _ _ (by omega) (by omega) h
def fL_law (N : Nat) (Z : mZ) (a0 : Nat) (M : mM) : Option (Int32 × mM) := ck (decide (M.2.2.2 = 0)) (bnd2 (fX8_init N (zNew Z 8 0) (Z.1) (mNew M (Z.1))) (fun _ M2 => ck (decide (M2.2.2.2.2 = 0)) (bnd2 (fX9_init N (zNew M2.1 9 0) (M2.1.1) (mNew M2.2 (M2.1.1))) (fun _ M4 => ck (decide (M4.2.2.2.2 = 0)) (ck (decide ((mNew M4.2 (M4.1.1)).2.2.2 = 0)) (fL_law_28 N (zNew (zNew M4.1 22 1) 23 1) 513 a0 (Z.1) (M2.1.1) (M4.1.1) ((zNew M4.1 22 1).1) (0 : Int32) (mNew (mNew M4.2 (M4.1.1)) ((zNew M4.1 22 1).1))))))))
set_option maxHeartbeats 4000000 in
set_option maxRecDepth 100000 in
theorem ctL_law {G : mG} {p : Program} {l : Launch} {e : Env} {s : State} {m : MethodId} {args : Array Value} {below : List Frame} {meth : Method} {c : Code} {Q : State → Prop} {tb : List ExceptionTableEntry} (hend : ∀ (k n : Nat) (L : mL) (Z : mZ) (M : mM), k ≤ KM → n ≤ NMX → JJ G p l e room_1 s m args below meth c 9 Q k n 1877 L [.int 1] Z M) (C : Cx G p l s m args meth c RL cL_law 9 (some .boolean) tb) (N : Nat) (Z : mZ) (a0 : Nat) (M : mM) (r : Int32) (M' : mM) (h : fL_law N Z a0 M = some (r, M')) : JJ G p l e room_1 s m args below meth c 9 Q 0 0 0 [(0, .ref a0)] [] Z M := by
  unfold fL_law at h
  obtain ⟨ho1, h⟩ := ck_spec h
  refine j_new C (cn := RX8) (T := TX8) (N := 11) (ci := 8) tyX8 tyX8_ok rfl iX8 (by decide) ntX8 cwRL_8 (of_decide_eq_true ho1) ⟨by decide, by decide⟩ dL_law_0 ?_
  refine j_dup C dL_law_3 rfl ?_
  obtain ⟨_, M2, hq2, h⟩ := bnd2_spec h
  refine j_run0 (c_I C (As := []) (rest := [.ref (Z.1)]) (ctX8_init C.2.2.2.2.2.2.2.2.1 N (zNew Z 8 0) hq2) kcRL_108 oyX8_init ⟨by decide, by decide⟩ ⟨by decide, by decide⟩ (Nat.le_of_ble_eq_true rfl) rfl dL_law_4) ?_
  refine j_astore_n C dL_law_7 rfl (by decide) (L' := [(1, .ref (Z.1)), (0, .ref a0)]) rfl ?_
  obtain ⟨ho3, h⟩ := ck_spec h
  refine j_new C (cn := RX9) (T := TX9) (N := 23) (ci := 9) tyX9 tyX9_ok rfl iX9 (by decide) ntX9 cwRL_109 (of_decide_eq_true ho3) ⟨by decide, by decide⟩ dL_law_8 ?_
  refine j_dup C dL_law_11 rfl ?_
  obtain ⟨_, M4, hq4, h⟩ := bnd2_spec h
  refine j_run0 (c_I C (As := []) (rest := [.ref (M2.1.1)]) (ctX9_init C.2.2.2.2.2.2.2.2.1 N (zNew M2.1 9 0) hq4) kcRL_111 oyX9_init ⟨by decide, by decide⟩ ⟨by decide, by decide⟩ (Nat.le_of_ble_eq_true rfl) rfl dL_law_12) ?_
  refine j_astore_n C dL_law_15 rfl (by decide) (L' := [(2, .ref (M2.1.1)), (1, .ref (Z.1)), (0, .ref a0)]) rfl ?_
  refine j_iconst C dL_law_16 (v := (1 : Int32)) (by decide) ?_
  obtain ⟨ho5, h⟩ := ck_spec h
  refine j_newa C (ln := 1) (t := 22) (Or.inr (Or.inr (Or.inl ⟨rfl, rfl⟩))) aw_22 (by decide) (by decide) (by decide) (of_decide_eq_true ho5) ⟨by decide, by decide⟩ dL_law_17 ?_
  refine j_astore_n C dL_law_19 rfl (by decide) (L' := [(3, .ref (M4.1.1)), (2, .ref (M2.1.1)), (1, .ref (Z.1)), (0, .ref a0)]) rfl ?_
  refine j_iconst C dL_law_20 (v := (1 : Int32)) (by decide) ?_
  obtain ⟨ho6, h⟩ := ck_spec h
  refine j_newa C (ln := 1) (t := 23) (Or.inr (Or.inr (Or.inr ⟨rfl, rfl⟩))) aw_23 (by decide) (by decide) (by decide) (of_decide_eq_true ho6) ⟨by decide, by decide⟩ dL_law_21 ?_
  refine j_astore C dL_law_23 (by decide) (L' := [(4, .ref ((zNew M4.1 22 1).1)), (3, .ref (M4.1.1)), (2, .ref (M2.1.1)), (1, .ref (Z.1)), (0, .ref a0)]) rfl ?_
  refine j_iconst C dL_law_25 (v := (0 : Int32)) (by decide) ?_
  refine j_istore C dL_law_26 (by decide) (L' := [(5, .int (0 : Int32)), (4, .ref ((zNew M4.1 22 1).1)), (3, .ref (M4.1.1)), (2, .ref (M2.1.1)), (1, .ref (Z.1)), (0, .ref a0)]) rfl ?_
  refine j_sub (L' := [(0, .ref a0), (1, .ref (Z.1)), (2, .ref (M2.1.1)), (3, .ref (M4.1.1)), (4, .ref ((zNew M4.1 22 1).1)), (5, .int (0 : Int32))]) [5, 4, 3, 2, 1, 0] rfl ?_
  exact tL_law_28 hend C N (zNew (zNew M4.1 22 1) 23 1) 513 a0 (Z.1) (M2.1.1) (M4.1.1) ((zNew M4.1 22 1).1) (0 : Int32) (mNew (mNew M4.2 (M4.1.1)) ((zNew M4.1 22 1).1)) _ _ _ _ (by decide) (by decide) h