def fL_law_1108 (N : Nat) (Z : mZ) (K28 : Nat → Nat → Nat → Nat → Nat → Int32 → mM → Option (Int32 × mM)) (v0 : Nat) (v1 : Nat) (v2 : Nat) (v3 : Nat) (v4 : Nat) (v5 : Int32) (M : mM) : Option (Int32 × mM) := ck (okI Z v0) (ck (inB (v5 + (1 : Int32)) (Z.2.2.1 v0)) (ck (inB (v5 + (2 : Int32)) (Z.2.2.1 v0)) (bnd2 (fL_steps N Z v1 (M.1 v0 ((v5 + (1 : Int32))).toNatClampNeg) (M.1 v0 ((v5 + (2 : Int32))).toNatClampNeg) v3 M) (fun r241 M241 => ck (okO Z v2 9) (bnd2 (fX9_steps N Z v2 (M241.1 v0 ((v5 + (1 : Int32))).toNatClampNeg) (M241.1 v0 ((v5 + (2 : Int32))).toNatClampNeg) M241) (fun r243 M243 => bnd2 (fX9_thrown N Z v2 M243) (fun r244 M244 => if r244 = r241 then if r241 = 0 then ck (okO Z v3 22) (ck (inB (0 : Int32) (Z.2.2.1 v3)) (if (lg_cmp (M244.2.1 v3 ((0 : Int32)).toNatClampNeg) ((r243).toInt64)) = 0 then K28 v0 v1 v2 v3 v4 (v5 + (5 : Int32)) M244 else none)) else K28 v0 v1 v2 v3 v4 (v5 + (5 : Int32)) M244 else none)))))))
set_option maxHeartbeats 4000000 in
set_option maxRecDepth 100000 in
theorem tL_law_1108 {G : mG} {p : Program} {l : Launch} {e : Env} {s : State} {m : MethodId} {args : Array Value} {below : List Frame} {meth : Method} {c : Code} {Q : State → Prop} {tb : List ExceptionTableEntry} (hend : ∀ (k n : Nat) (L : mL) (Z : mZ) (M : mM), k ≤ KM → n ≤ NMX → JJ G p l e room_1 s m args below meth c 9 Q k n 1877 L [.int 1] Z M) (C : Cx G p l s m args meth c RL cL_law 9 (some .boolean) tb) (N : Nat) (Z : mZ) (K28 : Nat → Nat → Nat → Nat → Nat → Int32 → mM → Option (Int32 × mM)) (fu : Nat) (hK28 : ∀ (v0 : Nat) (v1 : Nat) (v2 : Nat) (v3 : Nat) (v4 : Nat) (v5 : Int32) (M : mM) (r : Int32) (M' : mM), ∀ (kk nn : Nat), kk + fu ≤ KM → nn + 6 * fu ≤ NMX → K28 v0 v1 v2 v3 v4 v5 M = some (r, M') → JJ G p l e room_1 s m args below meth c 9 Q kk nn 28 [(0, .ref v0), (1, .ref v1), (2, .ref v2), (3, .ref v3), (4, .ref v4), (5, .int v5)] [] Z M) : ∀ (v0 : Nat) (v1 : Nat) (v2 : Nat) (v3 : Nat) (v4 : Nat) (v5 : Int32) (M : mM) (r : Int32) (M' : mM), ∀ (kk nn : Nat), kk + (fu + 1) ≤ KM → nn + 6 * (fu + 1) ≤ NMX → fL_law_1108 N Z K28 v0 v1 v2 v3 v4 v5 M = some (r, M') → JJ G p l e room_1 s m args below meth c 9 Q kk nn 1108 [(0, .ref v0), (1, .ref v1), (2, .ref v2), (3, .ref v3), (4, .ref v4), (5, .int v5)] [] Z M := by
  intro v0 v1 v2 v3 v4 v5 M r M' kk nn hk hn h
  unfold fL_law_1108 at h
  refine j_aload_n C dL_law_1108 rfl 1 rfl ?_
  refine j_aload_n C dL_law_1109 rfl 0 rfl ?_
  refine j_iload C dL_law_1110 5 rfl ?_
  refine j_iconst C dL_law_1112 (v := (1 : Int32)) (by decide) ?_
  refine j_iadd C dL_law_1113 ?_
  obtain ⟨ho238, h⟩ := ck_spec h
  obtain ⟨ho239, h⟩ := ck_spec h
  refine j_iald C ho238 ho239 dL_law_1114 ?_
  refine j_aload_n C dL_law_1115 rfl 0 rfl ?_
  refine j_iload C dL_law_1116 5 rfl ?_
  refine j_iconst C dL_law_1118 (v := (2 : Int32)) (by decide) ?_
  refine j_iadd C dL_law_1119 ?_
  obtain ⟨ho240, h⟩ := ck_spec h
  refine j_iald C ho238 ho240 dL_law_1120 ?_
  refine j_aload_n C dL_law_1121 rfl 3 rfl ?_
  obtain ⟨r241, M241, hq241, h⟩ := bnd2_spec h
  refine j_run1 (c_SX C (As := [.ref v1, .int (M.1 v0 ((v5 + (1 : Int32))).toNatClampNeg), .int (M.1 v0 ((v5 + (2 : Int32))).toNatClampNeg), .ref v3]) (rest := []) (ctL_steps C.2.2.2.2.2.2.2.2.1 N Z hq241) kcRL_161 oyL_steps ⟨by decide, by decide⟩ ⟨Nat.le_trans (show kk + 1 ≤ kk + (fu + 1) by omega) hk, Nat.le_trans (show nn + 6 ≤ nn + 6 * (fu + 1) by omega) hn⟩ (Nat.le_of_ble_eq_true rfl) rfl dL_law_1122) ?_
  refine j_istore C dL_law_1125 (by decide) (L' := [(6, .int r241), (0, .ref v0), (1, .ref v1), (2, .ref v2), (3, .ref v3), (4, .ref v4), (5, .int v5)]) rfl ?_
  refine j_aload_n C dL_law_1127 rfl 3 rfl ?_
  refine j_aload_n C dL_law_1128 rfl 1 rfl ?_
  refine j_iload C dL_law_1129 6 rfl ?_
  refine j_iconst C dL_law_1131 (v := (1 : Int32)) (by decide) ?_
  refine j_iadd C dL_law_1132 ?_
  refine j_iald C ho238 ho239 dL_law_1133 ?_
  refine j_aload_n C dL_law_1134 rfl 1 rfl ?_
  refine j_iload C dL_law_1135 6 rfl ?_
  refine j_iconst C dL_law_1137 (v := (2 : Int32)) (by decide) ?_
  refine j_iadd C dL_law_1138 ?_
  refine j_iald C ho238 ho240 dL_law_1139 ?_
  obtain ⟨ho242, h⟩ := ck_spec h
  obtain ⟨r243, M243, hq243, h⟩ := bnd2_spec h
  refine j_run1 (c_V C (As := [.int (M241.1 v0 ((v5 + (1 : Int32))).toNatClampNeg), .int (M241.1 v0 ((v5 + (2 : Int32))).toNatClampNeg)]) (rest := []) (ctX9_steps C.2.2.2.2.2.2.2.2.1 N Z hq243) kcRL_163 oyX9_steps (ci := 9) (T := TX9) (N := 23) rfl (by decide) ho242 ⟨by decide, by decide⟩ ⟨Nat.le_trans (show kk + 1 + 0 ≤ kk + (fu + 1) by omega) hk, Nat.le_trans (show nn + 6 + 0 ≤ nn + 6 * (fu + 1) by omega) hn⟩ (Nat.le_of_ble_eq_true rfl) rfl dL_law_1140) ?_
  refine j_istore C dL_law_1143 (by decide) (L' := [(7, .int r243), (6, .int r241), (0, .ref v0), (1, .ref v1), (2, .ref v2), (3, .ref v3), (4, .ref v4), (5, .int v5)]) rfl ?_
  refine j_aload_n C dL_law_1145 rfl 4 rfl ?_
  obtain ⟨r244, M244, hq244, h⟩ := bnd2_spec h
  refine j_run1 (c_V C (As := []) (rest := []) (ctX9_thrown C.2.2.2.2.2.2.2.2.1 N Z hq244) kcRL_118 oyX9_thrown (ci := 9) (T := TX9) (N := 23) rfl (by decide) ho242 ⟨by decide, by decide⟩ ⟨Nat.le_trans (show kk + 1 + 0 + 0 ≤ kk + (fu + 1) by omega) hk, Nat.le_trans (show nn + 6 + 0 + 0 ≤ nn + 6 * (fu + 1) by omega) hn⟩ (Nat.le_of_ble_eq_true rfl) rfl dL_law_1146) ?_
  refine j_iload C dL_law_1149 1 rfl ?_
  refine j_icmp_eq C dL_law_1151 (tgt := 1156) (by decide) (fun hc245 => ?_) (fun hc245 => ?_)
  · rw [if_pos hc245] at h
    refine j_iload C dL_law_1156 1 rfl ?_
    refine j_if_ne C dL_law_1158 (tgt := 1173) (by decide) (fun hc246 => ?_) (fun hc246 => ?_)
    · rw [if_neg hc246] at h
      refine j_goto C dL_law_1173 (tgt := 1870) (by decide) ?_
      refine j_iinc C dL_law_1870 7 rfl (v := (v5 + (5 : Int32))) (by first | rfl | decide) (by decide) (L' := [(5, .int (v5 + (5 : Int32))), (7, .int r243), (6, .int r241), (0, .ref v0), (1, .ref v1), (2, .ref v2), (3, .ref v3), (4, .ref v4)]) rfl ?_
      refine j_goto C dL_law_1873 (tgt := 28) (by decide) ?_
      refine j_sub (L' := [(0, .ref v0), (1, .ref v1), (2, .ref v2), (3, .ref v3), (4, .ref v4), (5, .int (v5 + (5 : Int32)))]) [3, 4, 5, 6, 7, 0] rfl ?_
      exact hK28 v0 v1 v2 v3 v4 (v5 + (5 : Int32)) M244 r M' _ _ (Nat.le_trans (show kk + 1 + 0 + 0 + fu ≤ kk + (fu + 1) by omega) hk) (Nat.le_trans (show nn + 6 + 0 + 0 + 6 * fu ≤ nn + 6 * (fu + 1) by omega) hn) h
    · rw [if_pos hc246] at h
      refine j_aload_n C dL_law_1161 rfl 5 rfl ?_
      refine j_iconst C dL_law_1162 (v := (0 : Int32)) (by decide) ?_
      obtain ⟨ho247, h⟩ := ck_spec h
      obtain ⟨ho248, h⟩ := ck_spec h
      refine j_lald C ho247 ho248 dL_law_1163 ?_
      refine j_iload C dL_law_1164 0 rfl ?_
      refine j_i2l C dL_law_1166 ?_
      refine j_lcmp C dL_law_1167 ?_
      refine j_if_eq C dL_law_1168 (tgt := 1173) (by decide) (fun hc249 => ?_) (fun hc249 => ?_)
      · rw [if_pos hc249] at h
        refine j_goto C dL_law_1173 (tgt := 1870) (by decide) ?_
        refine j_iinc C dL_law_1870 7 rfl (v := (v5 + (5 : Int32))) (by first | rfl | decide) (by decide) (L' := [(5, .int (v5 + (5 : Int32))), (7, .int r243), (6, .int r241), (0, .ref v0), (1, .ref v1), (2, .ref v2), (3, .ref v3), (4, .ref v4)]) rfl ?_
        refine j_goto C dL_law_1873 (tgt := 28) (by decide) ?_
        refine j_sub (L' := [(0, .ref v0), (1, .ref v1), (2, .ref v2), (3, .ref v3), (4, .ref v4), (5, .int (v5 + (5 : Int32)))]) [3, 4, 5, 6, 7, 0] rfl ?_
        exact hK28 v0 v1 v2 v3 v4 (v5 + (5 : Int32)) M244 r M' _ _ (Nat.le_trans (show kk + 1 + 0 + 0 + fu ≤ kk + (fu + 1) by omega) hk) (Nat.le_trans (show nn + 6 + 0 + 0 + 6 * fu ≤ nn + 6 * (fu + 1) by omega) hn) h
      · rw [if_neg hc249] at h
        refine j_iconst C dL_law_1171 (v := (0 : Int32)) (by decide) ?_
        cases h
  · rw [if_neg hc245] at h
    refine j_iconst C dL_law_1154 (v := (0 : Int32)) (by decide) ?_
    cases h
def fL_law_1176 (N : Nat) (Z : mZ) (K28 : Nat → Nat → Nat → Nat → Nat → Int32 → mM → Option (Int32 × mM)) (v0 : Nat) (v1 : Nat) (v2 : Nat) (v3 : Nat) (v4 : Nat) (v5 : Int32) (M : mM) : Option (Int32 × mM) := ck (okI Z v0) (ck (inB (v5 + (1 : Int32)) (Z.2.2.1 v0)) (bnd2 (fL_fewestTies N Z v1 (M.1 v0 ((v5 + (1 : Int32))).toNatClampNeg) v3 M) (fun r253 M253 => ck (okO Z v2 9) (bnd2 (fX9_fewestTies N Z v2 (M253.1 v0 ((v5 + (1 : Int32))).toNatClampNeg) M253) (fun r255 M255 => bnd2 (fX9_thrown N Z v2 M255) (fun r256 M256 => if r256 = r253 then if r253 = 0 then ck (okO Z v3 22) (ck (inB (0 : Int32) (Z.2.2.1 v3)) (if (lg_cmp (M256.2.1 v3 ((0 : Int32)).toNatClampNeg) ((r255).toInt64)) = 0 then K28 v0 v1 v2 v3 v4 (v5 + (5 : Int32)) M256 else none)) else K28 v0 v1 v2 v3 v4 (v5 + (5 : Int32)) M256 else none))))))
set_option maxHeartbeats 4000000 in
set_option maxRecDepth 100000 in
theorem tL_law_1176 {G : mG} {p : Program} {l : Launch} {e : Env} {s : State} {m : MethodId} {args : Array Value} {below : List Frame} {meth : Method} {c : Code} {Q : State → Prop} {tb : List ExceptionTableEntry} (hend : ∀ (k n : Nat) (L : mL) (Z : mZ) (M : mM), k ≤ KM → n ≤ NMX → JJ G p l e room_1 s m args below meth c 9 Q k n 1877 L [.int 1] Z M) (C : Cx G p l s m args meth c RL cL_law 9 (some .boolean) tb) (N : Nat) (Z : mZ) (K28 : Nat → Nat → Nat → Nat → Nat → Int32 → mM → Option (Int32 × mM)) (fu : Nat) (hK28 : ∀ (v0 : Nat) (v1 : Nat) (v2 : Nat) (v3 : Nat) (v4 : Nat) (v5 : Int32) (M : mM) (r : Int32) (M' : mM), ∀ (kk nn : Nat), kk + fu ≤ KM → nn + 6 * fu ≤ NMX → K28 v0 v1 v2 v3 v4 v5 M = some (r, M') → JJ G p l e room_1 s m args below meth c 9 Q kk nn 28 [(0, .ref v0), (1, .ref v1), (2, .ref v2), (3, .ref v3), (4, .ref v4), (5, .int v5)] [] Z M) : ∀ (v0 : Nat) (v1 : Nat) (v2 : Nat) (v3 : Nat) (v4 : Nat) (v5 : Int32) (M : mM) (r : Int32) (M' : mM), ∀ (kk nn : Nat), kk + (fu + 1) ≤ KM → nn + 6 * (fu + 1) ≤ NMX → fL_law_1176 N Z K28 v0 v1 v2 v3 v4 v5 M = some (r, M') → JJ G p l e room_1 s m args below meth c 9 Q kk nn 1176 [(0, .ref v0), (1, .ref v1), (2, .ref v2), (3, .ref v3), (4, .ref v4), (5, .int v5)] [] Z M := by
  intro v0 v1 v2 v3 v4 v5 M r M' kk nn hk hn h
  unfold fL_law_1176 at h
  refine j_aload_n C dL_law_1176 rfl 1 rfl ?_
  refine j_aload_n C dL_law_1177 rfl 0 rfl ?_
  refine j_iload C dL_law_1178 5 rfl ?_
  refine j_iconst C dL_law_1180 (v := (1 : Int32)) (by decide) ?_
  refine j_iadd C dL_law_1181 ?_
  obtain ⟨ho251, h⟩ := ck_spec h
  obtain ⟨ho252, h⟩ := ck_spec h
  refine j_iald C ho251 ho252 dL_law_1182 ?_
  refine j_aload_n C dL_law_1183 rfl 3 rfl ?_
  obtain ⟨r253, M253, hq253, h⟩ := bnd2_spec h
  refine j_run1 (c_SX C (As := [.ref v1, .int (M.1 v0 ((v5 + (1 : Int32))).toNatClampNeg), .ref v3]) (rest := []) (ctL_fewestTies C.2.2.2.2.2.2.2.2.1 N Z hq253) kcRL_164 oyL_fewestTies ⟨by decide, by decide⟩ ⟨Nat.le_trans (show kk + 1 ≤ kk + (fu + 1) by omega) hk, Nat.le_trans (show nn + 6 ≤ nn + 6 * (fu + 1) by omega) hn⟩ (Nat.le_of_ble_eq_true rfl) rfl dL_law_1184) ?_
  refine j_istore C dL_law_1187 (by decide) (L' := [(6, .int r253), (0, .ref v0), (1, .ref v1), (2, .ref v2), (3, .ref v3), (4, .ref v4), (5, .int v5)]) rfl ?_
  refine j_aload_n C dL_law_1189 rfl 3 rfl ?_
  refine j_aload_n C dL_law_1190 rfl 1 rfl ?_
  refine j_iload C dL_law_1191 6 rfl ?_
  refine j_iconst C dL_law_1193 (v := (1 : Int32)) (by decide) ?_
  refine j_iadd C dL_law_1194 ?_
  refine j_iald C ho251 ho252 dL_law_1195 ?_
  obtain ⟨ho254, h⟩ := ck_spec h
  obtain ⟨r255, M255, hq255, h⟩ := bnd2_spec h
  refine j_run1 (c_V C (As := [.int (M253.1 v0 ((v5 + (1 : Int32))).toNatClampNeg)]) (rest := []) (ctX9_fewestTies C.2.2.2.2.2.2.2.2.1 N Z hq255) kcRL_166 oyX9_fewestTies (ci := 9) (T := TX9) (N := 23) rfl (by decide) ho254 ⟨by decide, by decide⟩ ⟨Nat.le_trans (show kk + 1 + 0 ≤ kk + (fu + 1) by omega) hk, Nat.le_trans (show nn + 6 + 0 ≤ nn + 6 * (fu + 1) by omega) hn⟩ (Nat.le_of_ble_eq_true rfl) rfl dL_law_1196) ?_
  refine j_istore C dL_law_1199 (by decide) (L' := [(7, .int r255), (6, .int r253), (0, .ref v0), (1, .ref v1), (2, .ref v2), (3, .ref v3), (4, .ref v4), (5, .int v5)]) rfl ?_
  refine j_aload_n C dL_law_1201 rfl 4 rfl ?_
  obtain ⟨r256, M256, hq256, h⟩ := bnd2_spec h
  refine j_run1 (c_V C (As := []) (rest := []) (ctX9_thrown C.2.2.2.2.2.2.2.2.1 N Z hq256) kcRL_118 oyX9_thrown (ci := 9) (T := TX9) (N := 23) rfl (by decide) ho254 ⟨by decide, by decide⟩ ⟨Nat.le_trans (show kk + 1 + 0 + 0 ≤ kk + (fu + 1) by omega) hk, Nat.le_trans (show nn + 6 + 0 + 0 ≤ nn + 6 * (fu + 1) by omega) hn⟩ (Nat.le_of_ble_eq_true rfl) rfl dL_law_1202) ?_
  refine j_iload C dL_law_1205 1 rfl ?_
  refine j_icmp_eq C dL_law_1207 (tgt := 1212) (by decide) (fun hc257 => ?_) (fun hc257 => ?_)
  · rw [if_pos hc257] at h
    refine j_iload C dL_law_1212 1 rfl ?_
    refine j_if_ne C dL_law_1214 (tgt := 1229) (by decide) (fun hc258 => ?_) (fun hc258 => ?_)
    · rw [if_neg hc258] at h
      refine j_goto C dL_law_1229 (tgt := 1870) (by decide) ?_
      refine j_iinc C dL_law_1870 7 rfl (v := (v5 + (5 : Int32))) (by first | rfl | decide) (by decide) (L' := [(5, .int (v5 + (5 : Int32))), (7, .int r255), (6, .int r253), (0, .ref v0), (1, .ref v1), (2, .ref v2), (3, .ref v3), (4, .ref v4)]) rfl ?_
      refine j_goto C dL_law_1873 (tgt := 28) (by decide) ?_
      refine j_sub (L' := [(0, .ref v0), (1, .ref v1), (2, .ref v2), (3, .ref v3), (4, .ref v4), (5, .int (v5 + (5 : Int32)))]) [3, 4, 5, 6, 7, 0] rfl ?_
      exact hK28 v0 v1 v2 v3 v4 (v5 + (5 : Int32)) M256 r M' _ _ (Nat.le_trans (show kk + 1 + 0 + 0 + fu ≤ kk + (fu + 1) by omega) hk) (Nat.le_trans (show nn + 6 + 0 + 0 + 6 * fu ≤ nn + 6 * (fu + 1) by omega) hn) h
    · rw [if_pos hc258] at h
      refine j_aload_n C dL_law_1217 rfl 5 rfl ?_
      refine j_iconst C dL_law_1218 (v := (0 : Int32)) (by decide) ?_
      obtain ⟨ho259, h⟩ := ck_spec h
      obtain ⟨ho260, h⟩ := ck_spec h
      refine j_lald C ho259 ho260 dL_law_1219 ?_
      refine j_iload C dL_law_1220 0 rfl ?_
      refine j_i2l C dL_law_1222 ?_
      refine j_lcmp C dL_law_1223 ?_
      refine j_if_eq C dL_law_1224 (tgt := 1229) (by decide) (fun hc261 => ?_) (fun hc261 => ?_)
      · rw [if_pos hc261] at h
        refine j_goto C dL_law_1229 (tgt := 1870) (by decide) ?_
        refine j_iinc C dL_law_1870 7 rfl (v := (v5 + (5 : Int32))) (by first | rfl | decide) (by decide) (L' := [(5, .int (v5 + (5 : Int32))), (7, .int r255), (6, .int r253), (0, .ref v0), (1, .ref v1), (2, .ref v2), (3, .ref v3), (4, .ref v4)]) rfl ?_
        refine j_goto C dL_law_1873 (tgt := 28) (by decide) ?_
        refine j_sub (L' := [(0, .ref v0), (1, .ref v1), (2, .ref v2), (3, .ref v3), (4, .ref v4), (5, .int (v5 + (5 : Int32)))]) [3, 4, 5, 6, 7, 0] rfl ?_
        exact hK28 v0 v1 v2 v3 v4 (v5 + (5 : Int32)) M256 r M' _ _ (Nat.le_trans (show kk + 1 + 0 + 0 + fu ≤ kk + (fu + 1) by omega) hk) (Nat.le_trans (show nn + 6 + 0 + 0 + 6 * fu ≤ nn + 6 * (fu + 1) by omega) hn) h
      · rw [if_neg hc261] at h
        refine j_iconst C dL_law_1227 (v := (0 : Int32)) (by decide) ?_
        cases h
  · rw [if_neg hc257] at h
    refine j_iconst C dL_law_1210 (v := (0 : Int32)) (by decide) ?_
    cases h
def fL_law_1232 (N : Nat) (Z : mZ) (K28 : Nat → Nat → Nat → Nat → Nat → Int32 → mM → Option (Int32 × mM)) (v0 : Nat) (v1 : Nat) (v2 : Nat) (v3 : Nat) (v4 : Nat) (v5 : Int32) (M : mM) : Option (Int32 × mM) := ck (okI Z v0) (ck (inB (v5 + (1 : Int32)) (Z.2.2.1 v0)) (bnd2 (fL_tieLevels N Z v1 (M.1 v0 ((v5 + (1 : Int32))).toNatClampNeg) v3 M) (fun r265 M265 => ck (okO Z v2 9) (bnd2 (fX9_tieLevels N Z v2 (M265.1 v0 ((v5 + (1 : Int32))).toNatClampNeg) M265) (fun r267 M267 => bnd2 (fX9_thrown N Z v2 M267) (fun r268 M268 => if r268 = r265 then if r265 = 0 then ck (okO Z v3 22) (ck (inB (0 : Int32) (Z.2.2.1 v3)) (if (lg_cmp (M268.2.1 v3 ((0 : Int32)).toNatClampNeg) ((r267).toInt64)) = 0 then K28 v0 v1 v2 v3 v4 (v5 + (5 : Int32)) M268 else none)) else K28 v0 v1 v2 v3 v4 (v5 + (5 : Int32)) M268 else none))))))
set_option maxHeartbeats 4000000 in
set_option maxRecDepth 100000 in
theorem tL_law_1232 {G : mG} {p : Program} {l : Launch} {e : Env} {s : State} {m : MethodId} {args : Array Value} {below : List Frame} {meth : Method} {c : Code} {Q : State → Prop} {tb : List ExceptionTableEntry} (hend : ∀ (k n : Nat) (L : mL) (Z : mZ) (M : mM), k ≤ KM → n ≤ NMX → JJ G p l e room_1 s m args below meth c 9 Q k n 1877 L [.int 1] Z M) (C : Cx G p l s m args meth c RL cL_law 9 (some .boolean) tb) (N : Nat) (Z : mZ) (K28 : Nat → Nat → Nat → Nat → Nat → Int32 → mM → Option (Int32 × mM)) (fu : Nat) (hK28 : ∀ (v0 : Nat) (v1 : Nat) (v2 : Nat) (v3 : Nat) (v4 : Nat) (v5 : Int32) (M : mM) (r : Int32) (M' : mM), ∀ (kk nn : Nat), kk + fu ≤ KM → nn + 6 * fu ≤ NMX → K28 v0 v1 v2 v3 v4 v5 M = some (r, M') → JJ G p l e room_1 s m args below meth c 9 Q kk nn 28 [(0, .ref v0), (1, .ref v1), (2, .ref v2), (3, .ref v3), (4, .ref v4), (5, .int v5)] [] Z M) : ∀ (v0 : Nat) (v1 : Nat) (v2 : Nat) (v3 : Nat) (v4 : Nat) (v5 : Int32) (M : mM) (r : Int32) (M' : mM), ∀ (kk nn : Nat), kk + (fu + 1) ≤ KM → nn + 6 * (fu + 1) ≤ NMX → fL_law_1232 N Z K28 v0 v1 v2 v3 v4 v5 M = some (r, M') → JJ G p l e room_1 s m args below meth c 9 Q kk nn 1232 [(0, .ref v0), (1, .ref v1), (2, .ref v2), (3, .ref v3), (4, .ref v4), (5, .int v5)] [] Z M := by
  intro v0 v1 v2 v3 v4 v5 M r M' kk nn hk hn h
  unfold fL_law_1232 at h
  refine j_aload_n C dL_law_1232 rfl 1 rfl ?_
  refine j_aload_n C dL_law_1233 rfl 0 rfl ?_
  refine j_iload C dL_law_1234 5 rfl ?_
  refine j_iconst C dL_law_1236 (v := (1 : Int32)) (by decide) ?_
  refine j_iadd C dL_law_1237 ?_
  obtain ⟨ho263, h⟩ := ck_spec h
  obtain ⟨ho264, h⟩ := ck_spec h
  refine j_iald C ho263 ho264 dL_law_1238 ?_
  refine j_aload_n C dL_law_1239 rfl 3 rfl ?_
  obtain ⟨r265, M265, hq265, h⟩ := bnd2_spec h
  refine j_run1 (c_SX C (As := [.ref v1, .int (M.1 v0 ((v5 + (1 : Int32))).toNatClampNeg), .ref v3]) (rest := []) (ctL_tieLevels C.2.2.2.2.2.2.2.2.1 N Z hq265) kcRL_167 oyL_tieLevels ⟨by decide, by decide⟩ ⟨Nat.le_trans (show kk + 1 ≤ kk + (fu + 1) by omega) hk, Nat.le_trans (show nn + 6 ≤ nn + 6 * (fu + 1) by omega) hn⟩ (Nat.le_of_ble_eq_true rfl) rfl dL_law_1240) ?_
  refine j_istore C dL_law_1243 (by decide) (L' := [(6, .int r265), (0, .ref v0), (1, .ref v1), (2, .ref v2), (3, .ref v3), (4, .ref v4), (5, .int v5)]) rfl ?_
  refine j_aload_n C dL_law_1245 rfl 3 rfl ?_
  refine j_aload_n C dL_law_1246 rfl 1 rfl ?_
  refine j_iload C dL_law_1247 6 rfl ?_
  refine j_iconst C dL_law_1249 (v := (1 : Int32)) (by decide) ?_
  refine j_iadd C dL_law_1250 ?_
  refine j_iald C ho263 ho264 dL_law_1251 ?_
  obtain ⟨ho266, h⟩ := ck_spec h
  obtain ⟨r267, M267, hq267, h⟩ := bnd2_spec h
  refine j_run1 (c_V C (As := [.int (M265.1 v0 ((v5 + (1 : Int32))).toNatClampNeg)]) (rest := []) (ctX9_tieLevels C.2.2.2.2.2.2.2.2.1 N Z hq267) kcRL_169 oyX9_tieLevels (ci := 9) (T := TX9) (N := 23) rfl (by decide) ho266 ⟨by decide, by decide⟩ ⟨Nat.le_trans (show kk + 1 + 0 ≤ kk + (fu + 1) by omega) hk, Nat.le_trans (show nn + 6 + 0 ≤ nn + 6 * (fu + 1) by omega) hn⟩ (Nat.le_of_ble_eq_true rfl) rfl dL_law_1252) ?_
  refine j_istore C dL_law_1255 (by decide) (L' := [(7, .int r267), (6, .int r265), (0, .ref v0), (1, .ref v1), (2, .ref v2), (3, .ref v3), (4, .ref v4), (5, .int v5)]) rfl ?_
  refine j_aload_n C dL_law_1257 rfl 4 rfl ?_
  obtain ⟨r268, M268, hq268, h⟩ := bnd2_spec h
  refine j_run1 (c_V C (As := []) (rest := []) (ctX9_thrown C.2.2.2.2.2.2.2.2.1 N Z hq268) kcRL_118 oyX9_thrown (ci := 9) (T := TX9) (N := 23) rfl (by decide) ho266 ⟨by decide, by decide⟩ ⟨Nat.le_trans (show kk + 1 + 0 + 0 ≤ kk + (fu + 1) by omega) hk, Nat.le_trans (show nn + 6 + 0 + 0 ≤ nn + 6 * (fu + 1) by omega) hn⟩ (Nat.le_of_ble_eq_true rfl) rfl dL_law_1258) ?_
  refine j_iload C dL_law_1261 1 rfl ?_
  refine j_icmp_eq C dL_law_1263 (tgt := 1268) (by decide) (fun hc269 => ?_) (fun hc269 => ?_)
  · rw [if_pos hc269] at h
    refine j_iload C dL_law_1268 1 rfl ?_
    refine j_if_ne C dL_law_1270 (tgt := 1285) (by decide) (fun hc270 => ?_) (fun hc270 => ?_)
    · rw [if_neg hc270] at h
      refine j_goto C dL_law_1285 (tgt := 1870) (by decide) ?_
      refine j_iinc C dL_law_1870 7 rfl (v := (v5 + (5 : Int32))) (by first | rfl | decide) (by decide) (L' := [(5, .int (v5 + (5 : Int32))), (7, .int r267), (6, .int r265), (0, .ref v0), (1, .ref v1), (2, .ref v2), (3, .ref v3), (4, .ref v4)]) rfl ?_
      refine j_goto C dL_law_1873 (tgt := 28) (by decide) ?_
      refine j_sub (L' := [(0, .ref v0), (1, .ref v1), (2, .ref v2), (3, .ref v3), (4, .ref v4), (5, .int (v5 + (5 : Int32)))]) [3, 4, 5, 6, 7, 0] rfl ?_
      exact hK28 v0 v1 v2 v3 v4 (v5 + (5 : Int32)) M268 r M' _ _ (Nat.le_trans (show kk + 1 + 0 + 0 + fu ≤ kk + (fu + 1) by omega) hk) (Nat.le_trans (show nn + 6 + 0 + 0 + 6 * fu ≤ nn + 6 * (fu + 1) by omega) hn) h
    · rw [if_pos hc270] at h
      refine j_aload_n C dL_law_1273 rfl 5 rfl ?_
      refine j_iconst C dL_law_1274 (v := (0 : Int32)) (by decide) ?_
      obtain ⟨ho271, h⟩ := ck_spec h
      obtain ⟨ho272, h⟩ := ck_spec h
      refine j_lald C ho271 ho272 dL_law_1275 ?_
      refine j_iload C dL_law_1276 0 rfl ?_
      refine j_i2l C dL_law_1278 ?_
      refine j_lcmp C dL_law_1279 ?_
      refine j_if_eq C dL_law_1280 (tgt := 1285) (by decide) (fun hc273 => ?_) (fun hc273 => ?_)
      · rw [if_pos hc273] at h
        refine j_goto C dL_law_1285 (tgt := 1870) (by decide) ?_
        refine j_iinc C dL_law_1870 7 rfl (v := (v5 + (5 : Int32))) (by first | rfl | decide) (by decide) (L' := [(5, .int (v5 + (5 : Int32))), (7, .int r267), (6, .int r265), (0, .ref v0), (1, .ref v1), (2, .ref v2), (3, .ref v3), (4, .ref v4)]) rfl ?_
        refine j_goto C dL_law_1873 (tgt := 28) (by decide) ?_
        refine j_sub (L' := [(0, .ref v0), (1, .ref v1), (2, .ref v2), (3, .ref v3), (4, .ref v4), (5, .int (v5 + (5 : Int32)))]) [3, 4, 5, 6, 7, 0] rfl ?_
        exact hK28 v0 v1 v2 v3 v4 (v5 + (5 : Int32)) M268 r M' _ _ (Nat.le_trans (show kk + 1 + 0 + 0 + fu ≤ kk + (fu + 1) by omega) hk) (Nat.le_trans (show nn + 6 + 0 + 0 + 6 * fu ≤ nn + 6 * (fu + 1) by omega) hn) h
      · rw [if_neg hc273] at h
        refine j_iconst C dL_law_1283 (v := (0 : Int32)) (by decide) ?_
        cases h
  · rw [if_neg hc269] at h
    refine j_iconst C dL_law_1266 (v := (0 : Int32)) (by decide) ?_
    cases h
def fL_law_1288 (N : Nat) (Z : mZ) (K28 : Nat → Nat → Nat → Nat → Nat → Int32 → mM → Option (Int32 × mM)) (v0 : Nat) (v1 : Nat) (v2 : Nat) (v3 : Nat) (v4 : Nat) (v5 : Int32) (M : mM) : Option (Int32 × mM) := ck (okI Z v0) (ck (inB (v5 + (1 : Int32)) (Z.2.2.1 v0)) (ck (inB (v5 + (2 : Int32)) (Z.2.2.1 v0)) (bnd2 (fL_missing N Z v1 (M.1 v0 ((v5 + (1 : Int32))).toNatClampNeg) (M.1 v0 ((v5 + (2 : Int32))).toNatClampNeg) v3 M) (fun r278 M278 => ck (okO Z v2 9) (bnd2 (fX9_missing N Z v2 (M278.1 v0 ((v5 + (1 : Int32))).toNatClampNeg) (M278.1 v0 ((v5 + (2 : Int32))).toNatClampNeg) M278) (fun r280 M280 => bnd2 (fX9_thrown N Z v2 M280) (fun r281 M281 => if r281 = r278 then if r278 = 0 then ck (okO Z v3 22) (ck (inB (0 : Int32) (Z.2.2.1 v3)) (if (lg_cmp (M281.2.1 v3 ((0 : Int32)).toNatClampNeg) ((r280).toInt64)) = 0 then K28 v0 v1 v2 v3 v4 (v5 + (5 : Int32)) M281 else none)) else K28 v0 v1 v2 v3 v4 (v5 + (5 : Int32)) M281 else none)))))))
set_option maxHeartbeats 4000000 in
set_option maxRecDepth 100000 in
theorem tL_law_1288 {G : mG} {p : Program} {l : Launch} {e : Env} {s : State} {m : MethodId} {args : Array Value} {below : List Frame} {meth : Method} {c : Code} {Q : State → Prop} {tb : List ExceptionTableEntry} (hend : ∀ (k n : Nat) (L : mL) (Z : mZ) (M : mM), k ≤ KM → n ≤ NMX → JJ G p l e room_1 s m args below meth c 9 Q k n 1877 L [.int 1] Z M) (C : Cx G p l s m args meth c RL cL_law 9 (some .boolean) tb) (N : Nat) (Z : mZ) (K28 : Nat → Nat → Nat → Nat → Nat → Int32 → mM → Option (Int32 × mM)) (fu : Nat) (hK28 : ∀ (v0 : Nat) (v1 : Nat) (v2 : Nat) (v3 : Nat) (v4 : Nat) (v5 : Int32) (M : mM) (r : Int32) (M' : mM), ∀ (kk nn : Nat), kk + fu ≤ KM → nn + 6 * fu ≤ NMX → K28 v0 v1 v2 v3 v4 v5 M = some (r, M') → JJ G p l e room_1 s m args below meth c 9 Q kk nn 28 [(0, .ref v0), (1, .ref v1), (2, .ref v2), (3, .ref v3), (4, .ref v4), (5, .int v5)] [] Z M) : ∀ (v0 : Nat) (v1 : Nat) (v2 : Nat) (v3 : Nat) (v4 : Nat) (v5 : Int32) (M : mM) (r : Int32) (M' : mM), ∀ (kk nn : Nat), kk + (fu + 1) ≤ KM → nn + 6 * (fu + 1) ≤ NMX → fL_law_1288 N Z K28 v0 v1 v2 v3 v4 v5 M = some (r, M') → JJ G p l e room_1 s m args below meth c 9 Q kk nn 1288 [(0, .ref v0), (1, .ref v1), (2, .ref v2), (3, .ref v3), (4, .ref v4), (5, .int v5)] [] Z M := by
  intro v0 v1 v2 v3 v4 v5 M r M' kk nn hk hn h
  unfold fL_law_1288 at h
  refine j_aload_n C dL_law_1288 rfl 1 rfl ?_
  refine j_aload_n C dL_law_1289 rfl 0 rfl ?_
  refine j_iload C dL_law_1290 5 rfl ?_
  refine j_iconst C dL_law_1292 (v := (1 : Int32)) (by decide) ?_
  refine j_iadd C dL_law_1293 ?_
  obtain ⟨ho275, h⟩ := ck_spec h
  obtain ⟨ho276, h⟩ := ck_spec h
  refine j_iald C ho275 ho276 dL_law_1294 ?_
  refine j_aload_n C dL_law_1295 rfl 0 rfl ?_
  refine j_iload C dL_law_1296 5 rfl ?_
  refine j_iconst C dL_law_1298 (v := (2 : Int32)) (by decide) ?_
  refine j_iadd C dL_law_1299 ?_
  obtain ⟨ho277, h⟩ := ck_spec h
  refine j_iald C ho275 ho277 dL_law_1300 ?_
  refine j_aload_n C dL_law_1301 rfl 3 rfl ?_
  obtain ⟨r278, M278, hq278, h⟩ := bnd2_spec h
  refine j_run1 (c_SX C (As := [.ref v1, .int (M.1 v0 ((v5 + (1 : Int32))).toNatClampNeg), .int (M.1 v0 ((v5 + (2 : Int32))).toNatClampNeg), .ref v3]) (rest := []) (ctL_missing C.2.2.2.2.2.2.2.2.1 N Z hq278) kcRL_170 oyL_missing ⟨by decide, by decide⟩ ⟨Nat.le_trans (show kk + 1 ≤ kk + (fu + 1) by omega) hk, Nat.le_trans (show nn + 6 ≤ nn + 6 * (fu + 1) by omega) hn⟩ (Nat.le_of_ble_eq_true rfl) rfl dL_law_1302) ?_
  refine j_istore C dL_law_1305 (by decide) (L' := [(6, .int r278), (0, .ref v0), (1, .ref v1), (2, .ref v2), (3, .ref v3), (4, .ref v4), (5, .int v5)]) rfl ?_
  refine j_aload_n C dL_law_1307 rfl 3 rfl ?_
  refine j_aload_n C dL_law_1308 rfl 1 rfl ?_
  refine j_iload C dL_law_1309 6 rfl ?_
  refine j_iconst C dL_law_1311 (v := (1 : Int32)) (by decide) ?_
  refine j_iadd C dL_law_1312 ?_
  refine j_iald C ho275 ho276 dL_law_1313 ?_
  refine j_aload_n C dL_law_1314 rfl 1 rfl ?_
  refine j_iload C dL_law_1315 6 rfl ?_
  refine j_iconst C dL_law_1317 (v := (2 : Int32)) (by decide) ?_
  refine j_iadd C dL_law_1318 ?_
  refine j_iald C ho275 ho277 dL_law_1319 ?_
  obtain ⟨ho279, h⟩ := ck_spec h
  obtain ⟨r280, M280, hq280, h⟩ := bnd2_spec h
  refine j_run1 (c_V C (As := [.int (M278.1 v0 ((v5 + (1 : Int32))).toNatClampNeg), .int (M278.1 v0 ((v5 + (2 : Int32))).toNatClampNeg)]) (rest := []) (ctX9_missing C.2.2.2.2.2.2.2.2.1 N Z hq280) kcRL_172 oyX9_missing (ci := 9) (T := TX9) (N := 23) rfl (by decide) ho279 ⟨by decide, by decide⟩ ⟨Nat.le_trans (show kk + 1 + 0 ≤ kk + (fu + 1) by omega) hk, Nat.le_trans (show nn + 6 + 0 ≤ nn + 6 * (fu + 1) by omega) hn⟩ (Nat.le_of_ble_eq_true rfl) rfl dL_law_1320) ?_
  refine j_istore C dL_law_1323 (by decide) (L' := [(7, .int r280), (6, .int r278), (0, .ref v0), (1, .ref v1), (2, .ref v2), (3, .ref v3), (4, .ref v4), (5, .int v5)]) rfl ?_
  refine j_aload_n C dL_law_1325 rfl 4 rfl ?_
  obtain ⟨r281, M281, hq281, h⟩ := bnd2_spec h
  refine j_run1 (c_V C (As := []) (rest := []) (ctX9_thrown C.2.2.2.2.2.2.2.2.1 N Z hq281) kcRL_118 oyX9_thrown (ci := 9) (T := TX9) (N := 23) rfl (by decide) ho279 ⟨by decide, by decide⟩ ⟨Nat.le_trans (show kk + 1 + 0 + 0 ≤ kk + (fu + 1) by omega) hk, Nat.le_trans (show nn + 6 + 0 + 0 ≤ nn + 6 * (fu + 1) by omega) hn⟩ (Nat.le_of_ble_eq_true rfl) rfl dL_law_1326) ?_
  refine j_iload C dL_law_1329 1 rfl ?_
  refine j_icmp_eq C dL_law_1331 (tgt := 1336) (by decide) (fun hc282 => ?_) (fun hc282 => ?_)
  · rw [if_pos hc282] at h
    refine j_iload C dL_law_1336 1 rfl ?_
    refine j_if_ne C dL_law_1338 (tgt := 1353) (by decide) (fun hc283 => ?_) (fun hc283 => ?_)
    · rw [if_neg hc283] at h
      refine j_goto C dL_law_1353 (tgt := 1870) (by decide) ?_
      refine j_iinc C dL_law_1870 7 rfl (v := (v5 + (5 : Int32))) (by first | rfl | decide) (by decide) (L' := [(5, .int (v5 + (5 : Int32))), (7, .int r280), (6, .int r278), (0, .ref v0), (1, .ref v1), (2, .ref v2), (3, .ref v3), (4, .ref v4)]) rfl ?_
      refine j_goto C dL_law_1873 (tgt := 28) (by decide) ?_
      refine j_sub (L' := [(0, .ref v0), (1, .ref v1), (2, .ref v2), (3, .ref v3), (4, .ref v4), (5, .int (v5 + (5 : Int32)))]) [3, 4, 5, 6, 7, 0] rfl ?_
      exact hK28 v0 v1 v2 v3 v4 (v5 + (5 : Int32)) M281 r M' _ _ (Nat.le_trans (show kk + 1 + 0 + 0 + fu ≤ kk + (fu + 1) by omega) hk) (Nat.le_trans (show nn + 6 + 0 + 0 + 6 * fu ≤ nn + 6 * (fu + 1) by omega) hn) h
    · rw [if_pos hc283] at h
      refine j_aload_n C dL_law_1341 rfl 5 rfl ?_
      refine j_iconst C dL_law_1342 (v := (0 : Int32)) (by decide) ?_
      obtain ⟨ho284, h⟩ := ck_spec h
      obtain ⟨ho285, h⟩ := ck_spec h
      refine j_lald C ho284 ho285 dL_law_1343 ?_
      refine j_iload C dL_law_1344 0 rfl ?_
      refine j_i2l C dL_law_1346 ?_
      refine j_lcmp C dL_law_1347 ?_
      refine j_if_eq C dL_law_1348 (tgt := 1353) (by decide) (fun hc286 => ?_) (fun hc286 => ?_)
      · rw [if_pos hc286] at h
        refine j_goto C dL_law_1353 (tgt := 1870) (by decide) ?_
        refine j_iinc C dL_law_1870 7 rfl (v := (v5 + (5 : Int32))) (by first | rfl | decide) (by decide) (L' := [(5, .int (v5 + (5 : Int32))), (7, .int r280), (6, .int r278), (0, .ref v0), (1, .ref v1), (2, .ref v2), (3, .ref v3), (4, .ref v4)]) rfl ?_
        refine j_goto C dL_law_1873 (tgt := 28) (by decide) ?_
        refine j_sub (L' := [(0, .ref v0), (1, .ref v1), (2, .ref v2), (3, .ref v3), (4, .ref v4), (5, .int (v5 + (5 : Int32)))]) [3, 4, 5, 6, 7, 0] rfl ?_
        exact hK28 v0 v1 v2 v3 v4 (v5 + (5 : Int32)) M281 r M' _ _ (Nat.le_trans (show kk + 1 + 0 + 0 + fu ≤ kk + (fu + 1) by omega) hk) (Nat.le_trans (show nn + 6 + 0 + 0 + 6 * fu ≤ nn + 6 * (fu + 1) by omega) hn) h
      · rw [if_neg hc286] at h
        refine j_iconst C dL_law_1351 (v := (0 : Int32)) (by decide) ?_
        cases h
  · rw [if_neg hc282] at h
    refine j_iconst C dL_law_1334 (v := (0 : Int32)) (by decide) ?_
    cases h
def fL_law_1356 (N : Nat) (Z : mZ) (K28 : Nat → Nat → Nat → Nat → Nat → Int32 → mM → Option (Int32 × mM)) (v0 : Nat) (v1 : Nat) (v2 : Nat) (v3 : Nat) (v4 : Nat) (v5 : Int32) (M : mM) : Option (Int32 × mM) := bnd2 (fL_dismantling N Z v1 v3 M) (fun r288 M288 => ck (okO Z v2 9) (bnd2 (fX9_dismantling N Z v2 M288) (fun r290 M290 => bnd2 (fX9_thrown N Z v2 M290) (fun r291 M291 => if r291 = r288 then if r288 = 0 then ck (okO Z v3 22) (ck (inB (0 : Int32) (Z.2.2.1 v3)) (if (lg_cmp (M291.2.1 v3 ((0 : Int32)).toNatClampNeg) ((r290).toInt64)) = 0 then K28 v0 v1 v2 v3 v4 (v5 + (5 : Int32)) M291 else none)) else K28 v0 v1 v2 v3 v4 (v5 + (5 : Int32)) M291 else none))))
set_option maxHeartbeats 4000000 in
set_option maxRecDepth 100000 in
theorem tL_law_1356 {G : mG} {p : Program} {l : Launch} {e : Env} {s : State} {m : MethodId} {args : Array Value} {below : List Frame} {meth : Method} {c : Code} {Q : State → Prop} {tb : List ExceptionTableEntry} (hend : ∀ (k n : Nat) (L : mL) (Z : mZ) (M : mM), k ≤ KM → n ≤ NMX → JJ G p l e room_1 s m args below meth c 9 Q k n 1877 L [.int 1] Z M) (C : Cx G p l s m args meth c RL cL_law 9 (some .boolean) tb) (N : Nat) (Z : mZ) (K28 : Nat → Nat → Nat → Nat → Nat → Int32 → mM → Option (Int32 × mM)) (fu : Nat) (hK28 : ∀ (v0 : Nat) (v1 : Nat) (v2 : Nat) (v3 : Nat) (v4 : Nat) (v5 : Int32) (M : mM) (r : Int32) (M' : mM), ∀ (kk nn : Nat), kk + fu ≤ KM → nn + 6 * fu ≤ NMX → K28 v0 v1 v2 v3 v4 v5 M = some (r, M') → JJ G p l e room_1 s m args below meth c 9 Q kk nn 28 [(0, .ref v0), (1, .ref v1), (2, .ref v2), (3, .ref v3), (4, .ref v4), (5, .int v5)] [] Z M) : ∀ (v0 : Nat) (v1 : Nat) (v2 : Nat) (v3 : Nat) (v4 : Nat) (v5 : Int32) (M : mM) (r : Int32) (M' : mM), ∀ (kk nn : Nat), kk + (fu + 1) ≤ KM → nn + 6 * (fu + 1) ≤ NMX → fL_law_1356 N Z K28 v0 v1 v2 v3 v4 v5 M = some (r, M') → JJ G p l e room_1 s m args below meth c 9 Q kk nn 1356 [(0, .ref v0), (1, .ref v1), (2, .ref v2), (3, .ref v3), (4, .ref v4), (5, .int v5)] [] Z M := by
  intro v0 v1 v2 v3 v4 v5 M r M' kk nn hk hn h
  unfold fL_law_1356 at h
  refine j_aload_n C dL_law_1356 rfl 1 rfl ?_
  refine j_aload_n C dL_law_1357 rfl 3 rfl ?_
  obtain ⟨r288, M288, hq288, h⟩ := bnd2_spec h
  refine j_run1 (c_SX C (As := [.ref v1, .ref v3]) (rest := []) (ctL_dismantling C.2.2.2.2.2.2.2.2.1 N Z hq288) kcRL_173 oyL_dismantling ⟨by decide, by decide⟩ ⟨Nat.le_trans (show kk + 1 ≤ kk + (fu + 1) by omega) hk, Nat.le_trans (show nn + 6 ≤ nn + 6 * (fu + 1) by omega) hn⟩ (Nat.le_of_ble_eq_true rfl) rfl dL_law_1358) ?_
  refine j_istore C dL_law_1361 (by decide) (L' := [(6, .int r288), (0, .ref v0), (1, .ref v1), (2, .ref v2), (3, .ref v3), (4, .ref v4), (5, .int v5)]) rfl ?_
  refine j_aload_n C dL_law_1363 rfl 3 rfl ?_
  obtain ⟨ho289, h⟩ := ck_spec h
  obtain ⟨r290, M290, hq290, h⟩ := bnd2_spec h
  refine j_run1 (c_V C (As := []) (rest := []) (ctX9_dismantling C.2.2.2.2.2.2.2.2.1 N Z hq290) kcRL_176 oyX9_dismantling (ci := 9) (T := TX9) (N := 23) rfl (by decide) ho289 ⟨by decide, by decide⟩ ⟨Nat.le_trans (show kk + 1 + 0 ≤ kk + (fu + 1) by omega) hk, Nat.le_trans (show nn + 6 + 0 ≤ nn + 6 * (fu + 1) by omega) hn⟩ (Nat.le_of_ble_eq_true rfl) rfl dL_law_1364) ?_
  refine j_istore C dL_law_1367 (by decide) (L' := [(7, .int r290), (6, .int r288), (0, .ref v0), (1, .ref v1), (2, .ref v2), (3, .ref v3), (4, .ref v4), (5, .int v5)]) rfl ?_
  refine j_aload_n C dL_law_1369 rfl 4 rfl ?_
  obtain ⟨r291, M291, hq291, h⟩ := bnd2_spec h
  refine j_run1 (c_V C (As := []) (rest := []) (ctX9_thrown C.2.2.2.2.2.2.2.2.1 N Z hq291) kcRL_118 oyX9_thrown (ci := 9) (T := TX9) (N := 23) rfl (by decide) ho289 ⟨by decide, by decide⟩ ⟨Nat.le_trans (show kk + 1 + 0 + 0 ≤ kk + (fu + 1) by omega) hk, Nat.le_trans (show nn + 6 + 0 + 0 ≤ nn + 6 * (fu + 1) by omega) hn⟩ (Nat.le_of_ble_eq_true rfl) rfl dL_law_1370) ?_
  refine j_iload C dL_law_1373 1 rfl ?_
  refine j_icmp_eq C dL_law_1375 (tgt := 1380) (by decide) (fun hc292 => ?_) (fun hc292 => ?_)
  · rw [if_pos hc292] at h
    refine j_iload C dL_law_1380 1 rfl ?_
    refine j_if_ne C dL_law_1382 (tgt := 1397) (by decide) (fun hc293 => ?_) (fun hc293 => ?_)
    · rw [if_neg hc293] at h
      refine j_goto C dL_law_1397 (tgt := 1870) (by decide) ?_
      refine j_iinc C dL_law_1870 7 rfl (v := (v5 + (5 : Int32))) (by first | rfl | decide) (by decide) (L' := [(5, .int (v5 + (5 : Int32))), (7, .int r290), (6, .int r288), (0, .ref v0), (1, .ref v1), (2, .ref v2), (3, .ref v3), (4, .ref v4)]) rfl ?_
      refine j_goto C dL_law_1873 (tgt := 28) (by decide) ?_
      refine j_sub (L' := [(0, .ref v0), (1, .ref v1), (2, .ref v2), (3, .ref v3), (4, .ref v4), (5, .int (v5 + (5 : Int32)))]) [3, 4, 5, 6, 7, 0] rfl ?_
      exact hK28 v0 v1 v2 v3 v4 (v5 + (5 : Int32)) M291 r M' _ _ (Nat.le_trans (show kk + 1 + 0 + 0 + fu ≤ kk + (fu + 1) by omega) hk) (Nat.le_trans (show nn + 6 + 0 + 0 + 6 * fu ≤ nn + 6 * (fu + 1) by omega) hn) h
    · rw [if_pos hc293] at h
      refine j_aload_n C dL_law_1385 rfl 5 rfl ?_
      refine j_iconst C dL_law_1386 (v := (0 : Int32)) (by decide) ?_
      obtain ⟨ho294, h⟩ := ck_spec h
      obtain ⟨ho295, h⟩ := ck_spec h
      refine j_lald C ho294 ho295 dL_law_1387 ?_
      refine j_iload C dL_law_1388 0 rfl ?_
      refine j_i2l C dL_law_1390 ?_
      refine j_lcmp C dL_law_1391 ?_
      refine j_if_eq C dL_law_1392 (tgt := 1397) (by decide) (fun hc296 => ?_) (fun hc296 => ?_)
      · rw [if_pos hc296] at h
        refine j_goto C dL_law_1397 (tgt := 1870) (by decide) ?_
        refine j_iinc C dL_law_1870 7 rfl (v := (v5 + (5 : Int32))) (by first | rfl | decide) (by decide) (L' := [(5, .int (v5 + (5 : Int32))), (7, .int r290), (6, .int r288), (0, .ref v0), (1, .ref v1), (2, .ref v2), (3, .ref v3), (4, .ref v4)]) rfl ?_
        refine j_goto C dL_law_1873 (tgt := 28) (by decide) ?_
        refine j_sub (L' := [(0, .ref v0), (1, .ref v1), (2, .ref v2), (3, .ref v3), (4, .ref v4), (5, .int (v5 + (5 : Int32)))]) [3, 4, 5, 6, 7, 0] rfl ?_
        exact hK28 v0 v1 v2 v3 v4 (v5 + (5 : Int32)) M291 r M' _ _ (Nat.le_trans (show kk + 1 + 0 + 0 + fu ≤ kk + (fu + 1) by omega) hk) (Nat.le_trans (show nn + 6 + 0 + 0 + 6 * fu ≤ nn + 6 * (fu + 1) by omega) hn) h
      · rw [if_neg hc296] at h
        refine j_iconst C dL_law_1395 (v := (0 : Int32)) (by decide) ?_
        cases h
  · rw [if_neg hc292] at h
    refine j_iconst C dL_law_1378 (v := (0 : Int32)) (by decide) ?_
    cases h
def fL_law_1400 (N : Nat) (Z : mZ) (K28 : Nat → Nat → Nat → Nat → Nat → Int32 → mM → Option (Int32 × mM)) (v0 : Nat) (v1 : Nat) (v2 : Nat) (v3 : Nat) (v4 : Nat) (v5 : Int32) (M : mM) : Option (Int32 × mM) := ck (okI Z v0) (ck (inB (v5 + (1 : Int32)) (Z.2.2.1 v0)) (ck (inB (v5 + (2 : Int32)) (Z.2.2.1 v0)) (bnd2 (fL_work N Z v1 (M.1 v0 ((v5 + (1 : Int32))).toNatClampNeg) (M.1 v0 ((v5 + (2 : Int32))).toNatClampNeg) v3 M) (fun r301 M301 => ck (okO Z v2 9) (bnd2 (fX9_work N Z v2 (M301.1 v0 ((v5 + (1 : Int32))).toNatClampNeg) (M301.1 v0 ((v5 + (2 : Int32))).toNatClampNeg) M301) (fun r303 M303 => bnd2 (fX9_thrown N Z v2 M303) (fun r304 M304 => if r304 = r301 then if r301 = 0 then ck (okO Z v3 22) (ck (inB (0 : Int32) (Z.2.2.1 v3)) (if (lg_cmp (M304.2.1 v3 ((0 : Int32)).toNatClampNeg) ((r303).toInt64)) = 0 then K28 v0 v1 v2 v3 v4 (v5 + (5 : Int32)) M304 else none)) else K28 v0 v1 v2 v3 v4 (v5 + (5 : Int32)) M304 else none)))))))
set_option maxHeartbeats 4000000 in
set_option maxRecDepth 100000 in
theorem tL_law_1400 {G : mG} {p : Program} {l : Launch} {e : Env} {s : State} {m : MethodId} {args : Array Value} {below : List Frame} {meth : Method} {c : Code} {Q : State → Prop} {tb : List ExceptionTableEntry} (hend : ∀ (k n : Nat) (L : mL) (Z : mZ) (M : mM), k ≤ KM → n ≤ NMX → JJ G p l e room_1 s m args below meth c 9 Q k n 1877 L [.int 1] Z M) (C : Cx G p l s m args meth c RL cL_law 9 (some .boolean) tb) (N : Nat) (Z : mZ) (K28 : Nat → Nat → Nat → Nat → Nat → Int32 → mM → Option (Int32 × mM)) (fu : Nat) (hK28 : ∀ (v0 : Nat) (v1 : Nat) (v2 : Nat) (v3 : Nat) (v4 : Nat) (v5 : Int32) (M : mM) (r : Int32) (M' : mM), ∀ (kk nn : Nat), kk + fu ≤ KM → nn + 6 * fu ≤ NMX → K28 v0 v1 v2 v3 v4 v5 M = some (r, M') → JJ G p l e room_1 s m args below meth c 9 Q kk nn 28 [(0, .ref v0), (1, .ref v1), (2, .ref v2), (3, .ref v3), (4, .ref v4), (5, .int v5)] [] Z M) : ∀ (v0 : Nat) (v1 : Nat) (v2 : Nat) (v3 : Nat) (v4 : Nat) (v5 : Int32) (M : mM) (r : Int32) (M' : mM), ∀ (kk nn : Nat), kk + (fu + 1) ≤ KM → nn + 6 * (fu + 1) ≤ NMX → fL_law_1400 N Z K28 v0 v1 v2 v3 v4 v5 M = some (r, M') → JJ G p l e room_1 s m args below meth c 9 Q kk nn 1400 [(0, .ref v0), (1, .ref v1), (2, .ref v2), (3, .ref v3), (4, .ref v4), (5, .int v5)] [] Z M := by
  intro v0 v1 v2 v3 v4 v5 M r M' kk nn hk hn h
  unfold fL_law_1400 at h
  refine j_aload_n C dL_law_1400 rfl 1 rfl ?_
  refine j_aload_n C dL_law_1401 rfl 0 rfl ?_
  refine j_iload C dL_law_1402 5 rfl ?_
  refine j_iconst C dL_law_1404 (v := (1 : Int32)) (by decide) ?_
  refine j_iadd C dL_law_1405 ?_
  obtain ⟨ho298, h⟩ := ck_spec h
  obtain ⟨ho299, h⟩ := ck_spec h
  refine j_iald C ho298 ho299 dL_law_1406 ?_
  refine j_aload_n C dL_law_1407 rfl 0 rfl ?_
  refine j_iload C dL_law_1408 5 rfl ?_
  refine j_iconst C dL_law_1410 (v := (2 : Int32)) (by decide) ?_
  refine j_iadd C dL_law_1411 ?_
  obtain ⟨ho300, h⟩ := ck_spec h
  refine j_iald C ho298 ho300 dL_law_1412 ?_
  refine j_aload_n C dL_law_1413 rfl 3 rfl ?_
  obtain ⟨r301, M301, hq301, h⟩ := bnd2_spec h
  refine j_run1 (c_SX C (As := [.ref v1, .int (M.1 v0 ((v5 + (1 : Int32))).toNatClampNeg), .int (M.1 v0 ((v5 + (2 : Int32))).toNatClampNeg), .ref v3]) (rest := []) (ctL_work C.2.2.2.2.2.2.2.2.1 N Z hq301) kcRL_177 oyL_work ⟨by decide, by decide⟩ ⟨Nat.le_trans (show kk + 1 ≤ kk + (fu + 1) by omega) hk, Nat.le_trans (show nn + 6 ≤ nn + 6 * (fu + 1) by omega) hn⟩ (Nat.le_of_ble_eq_true rfl) rfl dL_law_1414) ?_
  refine j_istore C dL_law_1417 (by decide) (L' := [(6, .int r301), (0, .ref v0), (1, .ref v1), (2, .ref v2), (3, .ref v3), (4, .ref v4), (5, .int v5)]) rfl ?_
  refine j_aload_n C dL_law_1419 rfl 3 rfl ?_
  refine j_aload_n C dL_law_1420 rfl 1 rfl ?_
  refine j_iload C dL_law_1421 6 rfl ?_
  refine j_iconst C dL_law_1423 (v := (1 : Int32)) (by decide) ?_
  refine j_iadd C dL_law_1424 ?_
  refine j_iald C ho298 ho299 dL_law_1425 ?_
  refine j_aload_n C dL_law_1426 rfl 1 rfl ?_
  refine j_iload C dL_law_1427 6 rfl ?_
  refine j_iconst C dL_law_1429 (v := (2 : Int32)) (by decide) ?_
  refine j_iadd C dL_law_1430 ?_
  refine j_iald C ho298 ho300 dL_law_1431 ?_
  obtain ⟨ho302, h⟩ := ck_spec h
  obtain ⟨r303, M303, hq303, h⟩ := bnd2_spec h
  refine j_run1 (c_V C (As := [.int (M301.1 v0 ((v5 + (1 : Int32))).toNatClampNeg), .int (M301.1 v0 ((v5 + (2 : Int32))).toNatClampNeg)]) (rest := []) (ctX9_work C.2.2.2.2.2.2.2.2.1 N Z hq303) kcRL_179 oyX9_work (ci := 9) (T := TX9) (N := 23) rfl (by decide) ho302 ⟨by decide, by decide⟩ ⟨Nat.le_trans (show kk + 1 + 0 ≤ kk + (fu + 1) by omega) hk, Nat.le_trans (show nn + 6 + 0 ≤ nn + 6 * (fu + 1) by omega) hn⟩ (Nat.le_of_ble_eq_true rfl) rfl dL_law_1432) ?_
  refine j_istore C dL_law_1435 (by decide) (L' := [(7, .int r303), (6, .int r301), (0, .ref v0), (1, .ref v1), (2, .ref v2), (3, .ref v3), (4, .ref v4), (5, .int v5)]) rfl ?_
  refine j_aload_n C dL_law_1437 rfl 4 rfl ?_
  obtain ⟨r304, M304, hq304, h⟩ := bnd2_spec h
  refine j_run1 (c_V C (As := []) (rest := []) (ctX9_thrown C.2.2.2.2.2.2.2.2.1 N Z hq304) kcRL_118 oyX9_thrown (ci := 9) (T := TX9) (N := 23) rfl (by decide) ho302 ⟨by decide, by decide⟩ ⟨Nat.le_trans (show kk + 1 + 0 + 0 ≤ kk + (fu + 1) by omega) hk, Nat.le_trans (show nn + 6 + 0 + 0 ≤ nn + 6 * (fu + 1) by omega) hn⟩ (Nat.le_of_ble_eq_true rfl) rfl dL_law_1438) ?_
  refine j_iload C dL_law_1441 1 rfl ?_
  refine j_icmp_eq C dL_law_1443 (tgt := 1448) (by decide) (fun hc305 => ?_) (fun hc305 => ?_)
  · rw [if_pos hc305] at h
    refine j_iload C dL_law_1448 1 rfl ?_
    refine j_if_ne C dL_law_1450 (tgt := 1465) (by decide) (fun hc306 => ?_) (fun hc306 => ?_)
    · rw [if_neg hc306] at h
      refine j_goto C dL_law_1465 (tgt := 1870) (by decide) ?_
      refine j_iinc C dL_law_1870 7 rfl (v := (v5 + (5 : Int32))) (by first | rfl | decide) (by decide) (L' := [(5, .int (v5 + (5 : Int32))), (7, .int r303), (6, .int r301), (0, .ref v0), (1, .ref v1), (2, .ref v2), (3, .ref v3), (4, .ref v4)]) rfl ?_
      refine j_goto C dL_law_1873 (tgt := 28) (by decide) ?_
      refine j_sub (L' := [(0, .ref v0), (1, .ref v1), (2, .ref v2), (3, .ref v3), (4, .ref v4), (5, .int (v5 + (5 : Int32)))]) [3, 4, 5, 6, 7, 0] rfl ?_
      exact hK28 v0 v1 v2 v3 v4 (v5 + (5 : Int32)) M304 r M' _ _ (Nat.le_trans (show kk + 1 + 0 + 0 + fu ≤ kk + (fu + 1) by omega) hk) (Nat.le_trans (show nn + 6 + 0 + 0 + 6 * fu ≤ nn + 6 * (fu + 1) by omega) hn) h
    · rw [if_pos hc306] at h
      refine j_aload_n C dL_law_1453 rfl 5 rfl ?_
      refine j_iconst C dL_law_1454 (v := (0 : Int32)) (by decide) ?_
      obtain ⟨ho307, h⟩ := ck_spec h
      obtain ⟨ho308, h⟩ := ck_spec h
      refine j_lald C ho307 ho308 dL_law_1455 ?_
      refine j_iload C dL_law_1456 0 rfl ?_
      refine j_i2l C dL_law_1458 ?_
      refine j_lcmp C dL_law_1459 ?_
      refine j_if_eq C dL_law_1460 (tgt := 1465) (by decide) (fun hc309 => ?_) (fun hc309 => ?_)
      · rw [if_pos hc309] at h
        refine j_goto C dL_law_1465 (tgt := 1870) (by decide) ?_
        refine j_iinc C dL_law_1870 7 rfl (v := (v5 + (5 : Int32))) (by first | rfl | decide) (by decide) (L' := [(5, .int (v5 + (5 : Int32))), (7, .int r303), (6, .int r301), (0, .ref v0), (1, .ref v1), (2, .ref v2), (3, .ref v3), (4, .ref v4)]) rfl ?_
        refine j_goto C dL_law_1873 (tgt := 28) (by decide) ?_
        refine j_sub (L' := [(0, .ref v0), (1, .ref v1), (2, .ref v2), (3, .ref v3), (4, .ref v4), (5, .int (v5 + (5 : Int32)))]) [3, 4, 5, 6, 7, 0] rfl ?_
        exact hK28 v0 v1 v2 v3 v4 (v5 + (5 : Int32)) M304 r M' _ _ (Nat.le_trans (show kk + 1 + 0 + 0 + fu ≤ kk + (fu + 1) by omega) hk) (Nat.le_trans (show nn + 6 + 0 + 0 + 6 * fu ≤ nn + 6 * (fu + 1) by omega) hn) h
      · rw [if_neg hc309] at h
        refine j_iconst C dL_law_1463 (v := (0 : Int32)) (by decide) ?_
        cases h
  · rw [if_neg hc305] at h
    refine j_iconst C dL_law_1446 (v := (0 : Int32)) (by decide) ?_
    cases h
def fL_law_1468 (N : Nat) (Z : mZ) (K28 : Nat → Nat → Nat → Nat → Nat → Int32 → mM → Option (Int32 × mM)) (v0 : Nat) (v1 : Nat) (v2 : Nat) (v3 : Nat) (v4 : Nat) (v5 : Int32) (M : mM) : Option (Int32 × mM) := ck (okI Z v0) (ck (inB (v5 + (1 : Int32)) (Z.2.2.1 v0)) (bnd2 (fL_account N Z v1 (M.1 v0 ((v5 + (1 : Int32))).toNatClampNeg) v3 M) (fun r313 M313 => ck (okO Z v2 9) (bnd2 (fX9_account N Z v2 (M313.1 v0 ((v5 + (1 : Int32))).toNatClampNeg) M313) (fun r315 M315 => bnd2 (fX9_thrown N Z v2 M315) (fun r316 M316 => if r316 = r313 then if r313 = 0 then ck (okO Z v3 22) (ck (inB (0 : Int32) (Z.2.2.1 v3)) (if (lg_cmp (M316.2.1 v3 ((0 : Int32)).toNatClampNeg) ((r315).toInt64)) = 0 then K28 v0 v1 v2 v3 v4 (v5 + (5 : Int32)) M316 else none)) else K28 v0 v1 v2 v3 v4 (v5 + (5 : Int32)) M316 else none))))))
set_option maxHeartbeats 4000000 in
set_option maxRecDepth 100000 in
theorem tL_law_1468 {G : mG} {p : Program} {l : Launch} {e : Env} {s : State} {m : MethodId} {args : Array Value} {below : List Frame} {meth : Method} {c : Code} {Q : State → Prop} {tb : List ExceptionTableEntry} (hend : ∀ (k n : Nat) (L : mL) (Z : mZ) (M : mM), k ≤ KM → n ≤ NMX → JJ G p l e room_1 s m args below meth c 9 Q k n 1877 L [.int 1] Z M) (C : Cx G p l s m args meth c RL cL_law 9 (some .boolean) tb) (N : Nat) (Z : mZ) (K28 : Nat → Nat → Nat → Nat → Nat → Int32 → mM → Option (Int32 × mM)) (fu : Nat) (hK28 : ∀ (v0 : Nat) (v1 : Nat) (v2 : Nat) (v3 : Nat) (v4 : Nat) (v5 : Int32) (M : mM) (r : Int32) (M' : mM), ∀ (kk nn : Nat), kk + fu ≤ KM → nn + 6 * fu ≤ NMX → K28 v0 v1 v2 v3 v4 v5 M = some (r, M') → JJ G p l e room_1 s m args below meth c 9 Q kk nn 28 [(0, .ref v0), (1, .ref v1), (2, .ref v2), (3, .ref v3), (4, .ref v4), (5, .int v5)] [] Z M) : ∀ (v0 : Nat) (v1 : Nat) (v2 : Nat) (v3 : Nat) (v4 : Nat) (v5 : Int32) (M : mM) (r : Int32) (M' : mM), ∀ (kk nn : Nat), kk + (fu + 1) ≤ KM → nn + 6 * (fu + 1) ≤ NMX → fL_law_1468 N Z K28 v0 v1 v2 v3 v4 v5 M = some (r, M') → JJ G p l e room_1 s m args below meth c 9 Q kk nn 1468 [(0, .ref v0), (1, .ref v1), (2, .ref v2), (3, .ref v3), (4, .ref v4), (5, .int v5)] [] Z M := by
  intro v0 v1 v2 v3 v4 v5 M r M' kk nn hk hn h
  unfold fL_law_1468 at h
  refine j_aload_n C dL_law_1468 rfl 1 rfl ?_
  refine j_aload_n C dL_law_1469 rfl 0 rfl ?_
  refine j_iload C dL_law_1470 5 rfl ?_
  refine j_iconst C dL_law_1472 (v := (1 : Int32)) (by decide) ?_
  refine j_iadd C dL_law_1473 ?_
  obtain ⟨ho311, h⟩ := ck_spec h
  obtain ⟨ho312, h⟩ := ck_spec h
  refine j_iald C ho311 ho312 dL_law_1474 ?_
  refine j_aload_n C dL_law_1475 rfl 3 rfl ?_
  obtain ⟨r313, M313, hq313, h⟩ := bnd2_spec h
  refine j_run1 (c_SX C (As := [.ref v1, .int (M.1 v0 ((v5 + (1 : Int32))).toNatClampNeg), .ref v3]) (rest := []) (ctL_account C.2.2.2.2.2.2.2.2.1 N Z hq313) kcRL_180 oyL_account ⟨by decide, by decide⟩ ⟨Nat.le_trans (show kk + 1 ≤ kk + (fu + 1) by omega) hk, Nat.le_trans (show nn + 6 ≤ nn + 6 * (fu + 1) by omega) hn⟩ (Nat.le_of_ble_eq_true rfl) rfl dL_law_1476) ?_
  refine j_istore C dL_law_1479 (by decide) (L' := [(6, .int r313), (0, .ref v0), (1, .ref v1), (2, .ref v2), (3, .ref v3), (4, .ref v4), (5, .int v5)]) rfl ?_
  refine j_aload_n C dL_law_1481 rfl 3 rfl ?_
  refine j_aload_n C dL_law_1482 rfl 1 rfl ?_
  refine j_iload C dL_law_1483 6 rfl ?_
  refine j_iconst C dL_law_1485 (v := (1 : Int32)) (by decide) ?_
  refine j_iadd C dL_law_1486 ?_
  refine j_iald C ho311 ho312 dL_law_1487 ?_
  obtain ⟨ho314, h⟩ := ck_spec h
  obtain ⟨r315, M315, hq315, h⟩ := bnd2_spec h
  refine j_run1 (c_V C (As := [.int (M313.1 v0 ((v5 + (1 : Int32))).toNatClampNeg)]) (rest := []) (ctX9_account C.2.2.2.2.2.2.2.2.1 N Z hq315) kcRL_182 oyX9_account (ci := 9) (T := TX9) (N := 23) rfl (by decide) ho314 ⟨by decide, by decide⟩ ⟨Nat.le_trans (show kk + 1 + 0 ≤ kk + (fu + 1) by omega) hk, Nat.le_trans (show nn + 6 + 0 ≤ nn + 6 * (fu + 1) by omega) hn⟩ (Nat.le_of_ble_eq_true rfl) rfl dL_law_1488) ?_
  refine j_istore C dL_law_1491 (by decide) (L' := [(7, .int r315), (6, .int r313), (0, .ref v0), (1, .ref v1), (2, .ref v2), (3, .ref v3), (4, .ref v4), (5, .int v5)]) rfl ?_
  refine j_aload_n C dL_law_1493 rfl 4 rfl ?_
  obtain ⟨r316, M316, hq316, h⟩ := bnd2_spec h
  refine j_run1 (c_V C (As := []) (rest := []) (ctX9_thrown C.2.2.2.2.2.2.2.2.1 N Z hq316) kcRL_118 oyX9_thrown (ci := 9) (T := TX9) (N := 23) rfl (by decide) ho314 ⟨by decide, by decide⟩ ⟨Nat.le_trans (show kk + 1 + 0 + 0 ≤ kk + (fu + 1) by omega) hk, Nat.le_trans (show nn + 6 + 0 + 0 ≤ nn + 6 * (fu + 1) by omega) hn⟩ (Nat.le_of_ble_eq_true rfl) rfl dL_law_1494) ?_
  refine j_iload C dL_law_1497 1 rfl ?_
  refine j_icmp_eq C dL_law_1499 (tgt := 1504) (by decide) (fun hc317 => ?_) (fun hc317 => ?_)
  · rw [if_pos hc317] at h
    refine j_iload C dL_law_1504 1 rfl ?_
    refine j_if_ne C dL_law_1506 (tgt := 1521) (by decide) (fun hc318 => ?_) (fun hc318 => ?_)
    · rw [if_neg hc318] at h
      refine j_goto C dL_law_1521 (tgt := 1870) (by decide) ?_
      refine j_iinc C dL_law_1870 7 rfl (v := (v5 + (5 : Int32))) (by first | rfl | decide) (by decide) (L' := [(5, .int (v5 + (5 : Int32))), (7, .int r315), (6, .int r313), (0, .ref v0), (1, .ref v1), (2, .ref v2), (3, .ref v3), (4, .ref v4)]) rfl ?_
      refine j_goto C dL_law_1873 (tgt := 28) (by decide) ?_
      refine j_sub (L' := [(0, .ref v0), (1, .ref v1), (2, .ref v2), (3, .ref v3), (4, .ref v4), (5, .int (v5 + (5 : Int32)))]) [3, 4, 5, 6, 7, 0] rfl ?_
      exact hK28 v0 v1 v2 v3 v4 (v5 + (5 : Int32)) M316 r M' _ _ (Nat.le_trans (show kk + 1 + 0 + 0 + fu ≤ kk + (fu + 1) by omega) hk) (Nat.le_trans (show nn + 6 + 0 + 0 + 6 * fu ≤ nn + 6 * (fu + 1) by omega) hn) h
    · rw [if_pos hc318] at h
      refine j_aload_n C dL_law_1509 rfl 5 rfl ?_
      refine j_iconst C dL_law_1510 (v := (0 : Int32)) (by decide) ?_
      obtain ⟨ho319, h⟩ := ck_spec h
      obtain ⟨ho320, h⟩ := ck_spec h
      refine j_lald C ho319 ho320 dL_law_1511 ?_
      refine j_iload C dL_law_1512 0 rfl ?_
      refine j_i2l C dL_law_1514 ?_
      refine j_lcmp C dL_law_1515 ?_
      refine j_if_eq C dL_law_1516 (tgt := 1521) (by decide) (fun hc321 => ?_) (fun hc321 => ?_)
      · rw [if_pos hc321] at h
        refine j_goto C dL_law_1521 (tgt := 1870) (by decide) ?_
        refine j_iinc C dL_law_1870 7 rfl (v := (v5 + (5 : Int32))) (by first | rfl | decide) (by decide) (L' := [(5, .int (v5 + (5 : Int32))), (7, .int r315), (6, .int r313), (0, .ref v0), (1, .ref v1), (2, .ref v2), (3, .ref v3), (4, .ref v4)]) rfl ?_
        refine j_goto C dL_law_1873 (tgt := 28) (by decide) ?_
        refine j_sub (L' := [(0, .ref v0), (1, .ref v1), (2, .ref v2), (3, .ref v3), (4, .ref v4), (5, .int (v5 + (5 : Int32)))]) [3, 4, 5, 6, 7, 0] rfl ?_
        exact hK28 v0 v1 v2 v3 v4 (v5 + (5 : Int32)) M316 r M' _ _ (Nat.le_trans (show kk + 1 + 0 + 0 + fu ≤ kk + (fu + 1) by omega) hk) (Nat.le_trans (show nn + 6 + 0 + 0 + 6 * fu ≤ nn + 6 * (fu + 1) by omega) hn) h
      · rw [if_neg hc321] at h
        refine j_iconst C dL_law_1519 (v := (0 : Int32)) (by decide) ?_
        cases h
  · rw [if_neg hc317] at h
    refine j_iconst C dL_law_1502 (v := (0 : Int32)) (by decide) ?_
    cases h
def fL_law_1524 (N : Nat) (Z : mZ) (K28 : Nat → Nat → Nat → Nat → Nat → Int32 → mM → Option (Int32 × mM)) (v0 : Nat) (v1 : Nat) (v2 : Nat) (v3 : Nat) (v4 : Nat) (v5 : Int32) (M : mM) : Option (Int32 × mM) := ck (okI Z v0) (ck (inB (v5 + (1 : Int32)) (Z.2.2.1 v0)) (bnd2 (fL_use N Z v1 (M.1 v0 ((v5 + (1 : Int32))).toNatClampNeg) v4 M) (fun r325 M325 => ck (okO Z v2 9) (bnd2 (fX9_use N Z v2 (M325.1 v0 ((v5 + (1 : Int32))).toNatClampNeg) M325) (fun r327 M327 => bnd2 (fX9_thrown N Z v2 M327) (fun r328 M328 => if r328 = r325 then if r325 = 0 then ck (okO Z v4 23) (ck (inB (0 : Int32) (Z.2.2.1 v4)) (ck (nn64 (FP.f2d r327)) (if (Op.cmpValue (FP.dcmp (M328.2.2.1 v4 ((0 : Int32)).toNatClampNeg) (FP.f2d r327)) CmpOp.l) = 0 then K28 v0 v1 v2 v3 v4 (v5 + (5 : Int32)) M328 else if (Op.cmpValue (FP.dcmp (M328.2.2.1 v4 ((0 : Int32)).toNatClampNeg) (M328.2.2.1 v4 ((0 : Int32)).toNatClampNeg)) CmpOp.l) = 0 then none else if (Op.cmpValue (FP.fcmp r327 r327) CmpOp.l) = 0 then none else K28 v0 v1 v2 v3 v4 (v5 + (5 : Int32)) M328))) else K28 v0 v1 v2 v3 v4 (v5 + (5 : Int32)) M328 else none))))))
set_option maxHeartbeats 4000000 in
set_option maxRecDepth 100000 in
theorem tL_law_1524 {G : mG} {p : Program} {l : Launch} {e : Env} {s : State} {m : MethodId} {args : Array Value} {below : List Frame} {meth : Method} {c : Code} {Q : State → Prop} {tb : List ExceptionTableEntry} (hend : ∀ (k n : Nat) (L : mL) (Z : mZ) (M : mM), k ≤ KM → n ≤ NMX → JJ G p l e room_1 s m args below meth c 9 Q k n 1877 L [.int 1] Z M) (C : Cx G p l s m args meth c RL cL_law 9 (some .boolean) tb) (N : Nat) (Z : mZ) (K28 : Nat → Nat → Nat → Nat → Nat → Int32 → mM → Option (Int32 × mM)) (fu : Nat) (hK28 : ∀ (v0 : Nat) (v1 : Nat) (v2 : Nat) (v3 : Nat) (v4 : Nat) (v5 : Int32) (M : mM) (r : Int32) (M' : mM), ∀ (kk nn : Nat), kk + fu ≤ KM → nn + 6 * fu ≤ NMX → K28 v0 v1 v2 v3 v4 v5 M = some (r, M') → JJ G p l e room_1 s m args below meth c 9 Q kk nn 28 [(0, .ref v0), (1, .ref v1), (2, .ref v2), (3, .ref v3), (4, .ref v4), (5, .int v5)] [] Z M) : ∀ (v0 : Nat) (v1 : Nat) (v2 : Nat) (v3 : Nat) (v4 : Nat) (v5 : Int32) (M : mM) (r : Int32) (M' : mM), ∀ (kk nn : Nat), kk + (fu + 1) ≤ KM → nn + 6 * (fu + 1) ≤ NMX → fL_law_1524 N Z K28 v0 v1 v2 v3 v4 v5 M = some (r, M') → JJ G p l e room_1 s m args below meth c 9 Q kk nn 1524 [(0, .ref v0), (1, .ref v1), (2, .ref v2), (3, .ref v3), (4, .ref v4), (5, .int v5)] [] Z M := by
  intro v0 v1 v2 v3 v4 v5 M r M' kk nn hk hn h
  unfold fL_law_1524 at h
  refine j_aload_n C dL_law_1524 rfl 1 rfl ?_
  refine j_aload_n C dL_law_1525 rfl 0 rfl ?_
  refine j_iload C dL_law_1526 5 rfl ?_
  refine j_iconst C dL_law_1528 (v := (1 : Int32)) (by decide) ?_
  refine j_iadd C dL_law_1529 ?_
  obtain ⟨ho323, h⟩ := ck_spec h
  obtain ⟨ho324, h⟩ := ck_spec h
  refine j_iald C ho323 ho324 dL_law_1530 ?_
  refine j_aload C dL_law_1531 4 rfl ?_
  obtain ⟨r325, M325, hq325, h⟩ := bnd2_spec h
  refine j_run1 (c_SX C (As := [.ref v1, .int (M.1 v0 ((v5 + (1 : Int32))).toNatClampNeg), .ref v4]) (rest := []) (ctL_use C.2.2.2.2.2.2.2.2.1 N Z hq325) kcRL_183 oyL_use ⟨by decide, by decide⟩ ⟨Nat.le_trans (show kk + 1 ≤ kk + (fu + 1) by omega) hk, Nat.le_trans (show nn + 6 ≤ nn + 6 * (fu + 1) by omega) hn⟩ (Nat.le_of_ble_eq_true rfl) rfl dL_law_1533) ?_
  refine j_istore C dL_law_1536 (by decide) (L' := [(6, .int r325), (0, .ref v0), (1, .ref v1), (2, .ref v2), (3, .ref v3), (4, .ref v4), (5, .int v5)]) rfl ?_
  refine j_aload_n C dL_law_1538 rfl 3 rfl ?_
  refine j_aload_n C dL_law_1539 rfl 1 rfl ?_
  refine j_iload C dL_law_1540 6 rfl ?_
  refine j_iconst C dL_law_1542 (v := (1 : Int32)) (by decide) ?_
  refine j_iadd C dL_law_1543 ?_
  refine j_iald C ho323 ho324 dL_law_1544 ?_
  obtain ⟨ho326, h⟩ := ck_spec h
  obtain ⟨r327, M327, hq327, h⟩ := bnd2_spec h
  refine j_run1 (c_V C (As := [.int (M325.1 v0 ((v5 + (1 : Int32))).toNatClampNeg)]) (rest := []) (ctX9_use C.2.2.2.2.2.2.2.2.1 N Z hq327) kcRL_186 oyX9_use (ci := 9) (T := TX9) (N := 23) rfl (by decide) ho326 ⟨by decide, by decide⟩ ⟨Nat.le_trans (show kk + 1 + 0 ≤ kk + (fu + 1) by omega) hk, Nat.le_trans (show nn + 6 + 0 ≤ nn + 6 * (fu + 1) by omega) hn⟩ (Nat.le_of_ble_eq_true rfl) rfl dL_law_1545) ?_
  refine j_fstore C dL_law_1548 (by decide) (L' := [(7, .float r327), (6, .int r325), (0, .ref v0), (1, .ref v1), (2, .ref v2), (3, .ref v3), (4, .ref v4), (5, .int v5)]) rfl ?_
  refine j_aload_n C dL_law_1550 rfl 4 rfl ?_
  obtain ⟨r328, M328, hq328, h⟩ := bnd2_spec h
  refine j_run1 (c_V C (As := []) (rest := []) (ctX9_thrown C.2.2.2.2.2.2.2.2.1 N Z hq328) kcRL_118 oyX9_thrown (ci := 9) (T := TX9) (N := 23) rfl (by decide) ho326 ⟨by decide, by decide⟩ ⟨Nat.le_trans (show kk + 1 + 0 + 0 ≤ kk + (fu + 1) by omega) hk, Nat.le_trans (show nn + 6 + 0 + 0 ≤ nn + 6 * (fu + 1) by omega) hn⟩ (Nat.le_of_ble_eq_true rfl) rfl dL_law_1551) ?_
  refine j_iload C dL_law_1554 1 rfl ?_
  refine j_icmp_eq C dL_law_1556 (tgt := 1561) (by decide) (fun hc329 => ?_) (fun hc329 => ?_)
  · rw [if_pos hc329] at h
    refine j_iload C dL_law_1561 1 rfl ?_
    refine j_if_ne C dL_law_1563 (tgt := 1599) (by decide) (fun hc330 => ?_) (fun hc330 => ?_)
    · rw [if_neg hc330] at h
      refine j_goto C dL_law_1599 (tgt := 1870) (by decide) ?_
      refine j_iinc C dL_law_1870 7 rfl (v := (v5 + (5 : Int32))) (by first | rfl | decide) (by decide) (L' := [(5, .int (v5 + (5 : Int32))), (7, .float r327), (6, .int r325), (0, .ref v0), (1, .ref v1), (2, .ref v2), (3, .ref v3), (4, .ref v4)]) rfl ?_
      refine j_goto C dL_law_1873 (tgt := 28) (by decide) ?_
      refine j_sub (L' := [(0, .ref v0), (1, .ref v1), (2, .ref v2), (3, .ref v3), (4, .ref v4), (5, .int (v5 + (5 : Int32)))]) [3, 4, 5, 6, 7, 0] rfl ?_
      exact hK28 v0 v1 v2 v3 v4 (v5 + (5 : Int32)) M328 r M' _ _ (Nat.le_trans (show kk + 1 + 0 + 0 + fu ≤ kk + (fu + 1) by omega) hk) (Nat.le_trans (show nn + 6 + 0 + 0 + 6 * fu ≤ nn + 6 * (fu + 1) by omega) hn) h
    · rw [if_pos hc330] at h
      refine j_aload C dL_law_1566 6 rfl ?_
      refine j_iconst C dL_law_1568 (v := (0 : Int32)) (by decide) ?_
      obtain ⟨ho331, h⟩ := ck_spec h
      obtain ⟨ho332, h⟩ := ck_spec h
      refine j_dald C ho331 ho332 dL_law_1569 ?_
      refine j_fload C dL_law_1570 0 rfl ?_
      obtain ⟨ho333, h⟩ := ck_spec h
      refine j_f2d C dL_law_1572 (nn64_spec ho333) ?_
      refine j_dcmp C dL_law_1573 ?_
      refine j_if_eq C dL_law_1574 (tgt := 1599) (by decide) (fun hc334 => ?_) (fun hc334 => ?_)
      · rw [if_pos hc334] at h
        refine j_goto C dL_law_1599 (tgt := 1870) (by decide) ?_
        refine j_iinc C dL_law_1870 7 rfl (v := (v5 + (5 : Int32))) (by first | rfl | decide) (by decide) (L' := [(5, .int (v5 + (5 : Int32))), (7, .float r327), (6, .int r325), (0, .ref v0), (1, .ref v1), (2, .ref v2), (3, .ref v3), (4, .ref v4)]) rfl ?_
        refine j_goto C dL_law_1873 (tgt := 28) (by decide) ?_
        refine j_sub (L' := [(0, .ref v0), (1, .ref v1), (2, .ref v2), (3, .ref v3), (4, .ref v4), (5, .int (v5 + (5 : Int32)))]) [3, 4, 5, 6, 7, 0] rfl ?_
        exact hK28 v0 v1 v2 v3 v4 (v5 + (5 : Int32)) M328 r M' _ _ (Nat.le_trans (show kk + 1 + 0 + 0 + fu ≤ kk + (fu + 1) by omega) hk) (Nat.le_trans (show nn + 6 + 0 + 0 + 6 * fu ≤ nn + 6 * (fu + 1) by omega) hn) h
      · rw [if_neg hc334] at h
        refine j_aload C dL_law_1577 6 rfl ?_
        refine j_iconst C dL_law_1579 (v := (0 : Int32)) (by decide) ?_
        refine j_dald C ho331 ho332 dL_law_1580 ?_
        refine j_aload C dL_law_1581 6 rfl ?_
        refine j_iconst C dL_law_1583 (v := (0 : Int32)) (by decide) ?_
        refine j_dald C ho331 ho332 dL_law_1584 ?_
        refine j_dcmp C dL_law_1585 ?_
        refine j_if_eq C dL_law_1586 (tgt := 1597) (by decide) (fun hc335 => ?_) (fun hc335 => ?_)
        · rw [if_pos hc335] at h
          refine j_iconst C dL_law_1597 (v := (0 : Int32)) (by decide) ?_
          cases h
        · rw [if_neg hc335] at h
          refine j_fload C dL_law_1589 0 rfl ?_
          refine j_fload C dL_law_1591 0 rfl ?_
          refine j_fcmp C dL_law_1593 ?_
          refine j_if_ne C dL_law_1594 (tgt := 1599) (by decide) (fun hc336 => ?_) (fun hc336 => ?_)
          · rw [if_neg hc336] at h
            refine j_goto C dL_law_1599 (tgt := 1870) (by decide) ?_
            refine j_iinc C dL_law_1870 7 rfl (v := (v5 + (5 : Int32))) (by first | rfl | decide) (by decide) (L' := [(5, .int (v5 + (5 : Int32))), (7, .float r327), (6, .int r325), (0, .ref v0), (1, .ref v1), (2, .ref v2), (3, .ref v3), (4, .ref v4)]) rfl ?_
            refine j_goto C dL_law_1873 (tgt := 28) (by decide) ?_
            refine j_sub (L' := [(0, .ref v0), (1, .ref v1), (2, .ref v2), (3, .ref v3), (4, .ref v4), (5, .int (v5 + (5 : Int32)))]) [3, 4, 5, 6, 7, 0] rfl ?_
            exact hK28 v0 v1 v2 v3 v4 (v5 + (5 : Int32)) M328 r M' _ _ (Nat.le_trans (show kk + 1 + 0 + 0 + fu ≤ kk + (fu + 1) by omega) hk) (Nat.le_trans (show nn + 6 + 0 + 0 + 6 * fu ≤ nn + 6 * (fu + 1) by omega) hn) h
          · rw [if_pos hc336] at h
            refine j_iconst C dL_law_1597 (v := (0 : Int32)) (by decide) ?_
            cases h
  · rw [if_neg hc329] at h
    refine j_iconst C dL_law_1559 (v := (0 : Int32)) (by decide) ?_
    cases h
def fL_law_1602 (N : Nat) (Z : mZ) (K28 : Nat → Nat → Nat → Nat → Nat → Int32 → mM → Option (Int32 × mM)) (v0 : Nat) (v1 : Nat) (v2 : Nat) (v3 : Nat) (v4 : Nat) (v5 : Int32) (M : mM) : Option (Int32 × mM) := bnd2 (fL_meanClass N Z v1 v4 M) (fun r338 M338 => ck (okO Z v2 9) (bnd2 (fX9_meanClass N Z v2 M338) (fun r340 M340 => bnd2 (fX9_thrown N Z v2 M340) (fun r341 M341 => if r341 = r338 then if r338 = 0 then ck (okO Z v4 23) (ck (inB (0 : Int32) (Z.2.2.1 v4)) (if (Op.cmpValue (FP.dcmp (M341.2.2.1 v4 ((0 : Int32)).toNatClampNeg) r340) CmpOp.l) = 0 then K28 v0 v1 v2 v3 v4 (v5 + (5 : Int32)) M341 else if (Op.cmpValue (FP.dcmp (M341.2.2.1 v4 ((0 : Int32)).toNatClampNeg) (M341.2.2.1 v4 ((0 : Int32)).toNatClampNeg)) CmpOp.l) = 0 then none else if (Op.cmpValue (FP.dcmp r340 r340) CmpOp.l) = 0 then none else K28 v0 v1 v2 v3 v4 (v5 + (5 : Int32)) M341)) else K28 v0 v1 v2 v3 v4 (v5 + (5 : Int32)) M341 else none))))
set_option maxHeartbeats 4000000 in
set_option maxRecDepth 100000 in
theorem tL_law_1602 {G : mG} {p : Program} {l : Launch} {e : Env} {s : State} {m : MethodId} {args : Array Value} {below : List Frame} {meth : Method} {c : Code} {Q : State → Prop} {tb : List ExceptionTableEntry} (hend : ∀ (k n : Nat) (L : mL) (Z : mZ) (M : mM), k ≤ KM → n ≤ NMX → JJ G p l e room_1 s m args below meth c 9 Q k n 1877 L [.int 1] Z M) (C : Cx G p l s m args meth c RL cL_law 9 (some .boolean) tb) (N : Nat) (Z : mZ) (K28 : Nat → Nat → Nat → Nat → Nat → Int32 → mM → Option (Int32 × mM)) (fu : Nat) (hK28 : ∀ (v0 : Nat) (v1 : Nat) (v2 : Nat) (v3 : Nat) (v4 : Nat) (v5 : Int32) (M : mM) (r : Int32) (M' : mM), ∀ (kk nn : Nat), kk + fu ≤ KM → nn + 6 * fu ≤ NMX → K28 v0 v1 v2 v3 v4 v5 M = some (r, M') → JJ G p l e room_1 s m args below meth c 9 Q kk nn 28 [(0, .ref v0), (1, .ref v1), (2, .ref v2), (3, .ref v3), (4, .ref v4), (5, .int v5)] [] Z M) : ∀ (v0 : Nat) (v1 : Nat) (v2 : Nat) (v3 : Nat) (v4 : Nat) (v5 : Int32) (M : mM) (r : Int32) (M' : mM), ∀ (kk nn : Nat), kk + (fu + 1) ≤ KM → nn + 6 * (fu + 1) ≤ NMX → fL_law_1602 N Z K28 v0 v1 v2 v3 v4 v5 M = some (r, M') → JJ G p l e room_1 s m args below meth c 9 Q kk nn 1602 [(0, .ref v0), (1, .ref v1), (2, .ref v2), (3, .ref v3), (4, .ref v4), (5, .int v5)] [] Z M := by
  intro v0 v1 v2 v3 v4 v5 M r M' kk nn hk hn h
  unfold fL_law_1602 at h
  refine j_aload_n C dL_law_1602 rfl 1 rfl ?_
  refine j_aload C dL_law_1603 4 rfl ?_
  obtain ⟨r338, M338, hq338, h⟩ := bnd2_spec h
  refine j_run1 (c_SX C (As := [.ref v1, .ref v4]) (rest := []) (ctL_meanClass C.2.2.2.2.2.2.2.2.1 N Z hq338) kcRL_187 oyL_meanClass ⟨by decide, by decide⟩ ⟨Nat.le_trans (show kk + 1 ≤ kk + (fu + 1) by omega) hk, Nat.le_trans (show nn + 6 ≤ nn + 6 * (fu + 1) by omega) hn⟩ (Nat.le_of_ble_eq_true rfl) rfl dL_law_1605) ?_
  refine j_istore C dL_law_1608 (by decide) (L' := [(6, .int r338), (0, .ref v0), (1, .ref v1), (2, .ref v2), (3, .ref v3), (4, .ref v4), (5, .int v5)]) rfl ?_
  refine j_aload_n C dL_law_1610 rfl 3 rfl ?_
  obtain ⟨ho339, h⟩ := ck_spec h
  obtain ⟨r340, M340, hq340, h⟩ := bnd2_spec h
  refine j_run1 (c_V C (As := []) (rest := []) (ctX9_meanClass C.2.2.2.2.2.2.2.2.1 N Z hq340) kcRL_190 oyX9_meanClass (ci := 9) (T := TX9) (N := 23) rfl (by decide) ho339 ⟨by decide, by decide⟩ ⟨Nat.le_trans (show kk + 1 + 0 ≤ kk + (fu + 1) by omega) hk, Nat.le_trans (show nn + 6 + 0 ≤ nn + 6 * (fu + 1) by omega) hn⟩ (Nat.le_of_ble_eq_true rfl) rfl dL_law_1611) ?_
  refine j_dstore C dL_law_1614 (by decide) (L' := [(7, .double r340), (6, .int r338), (0, .ref v0), (1, .ref v1), (2, .ref v2), (3, .ref v3), (4, .ref v4), (5, .int v5)]) rfl ?_
  refine j_aload_n C dL_law_1616 rfl 4 rfl ?_
  obtain ⟨r341, M341, hq341, h⟩ := bnd2_spec h
  refine j_run1 (c_V C (As := []) (rest := []) (ctX9_thrown C.2.2.2.2.2.2.2.2.1 N Z hq341) kcRL_118 oyX9_thrown (ci := 9) (T := TX9) (N := 23) rfl (by decide) ho339 ⟨by decide, by decide⟩ ⟨Nat.le_trans (show kk + 1 + 0 + 0 ≤ kk + (fu + 1) by omega) hk, Nat.le_trans (show nn + 6 + 0 + 0 ≤ nn + 6 * (fu + 1) by omega) hn⟩ (Nat.le_of_ble_eq_true rfl) rfl dL_law_1617) ?_
  refine j_iload C dL_law_1620 1 rfl ?_
  refine j_icmp_eq C dL_law_1622 (tgt := 1627) (by decide) (fun hc342 => ?_) (fun hc342 => ?_)
  · rw [if_pos hc342] at h
    refine j_iload C dL_law_1627 1 rfl ?_
    refine j_if_ne C dL_law_1629 (tgt := 1664) (by decide) (fun hc343 => ?_) (fun hc343 => ?_)
    · rw [if_neg hc343] at h
      refine j_goto C dL_law_1664 (tgt := 1870) (by decide) ?_
      refine j_iinc C dL_law_1870 7 rfl (v := (v5 + (5 : Int32))) (by first | rfl | decide) (by decide) (L' := [(5, .int (v5 + (5 : Int32))), (7, .double r340), (6, .int r338), (0, .ref v0), (1, .ref v1), (2, .ref v2), (3, .ref v3), (4, .ref v4)]) rfl ?_
      refine j_goto C dL_law_1873 (tgt := 28) (by decide) ?_
      refine j_sub (L' := [(0, .ref v0), (1, .ref v1), (2, .ref v2), (3, .ref v3), (4, .ref v4), (5, .int (v5 + (5 : Int32)))]) [3, 4, 5, 6, 7, 0] rfl ?_
      exact hK28 v0 v1 v2 v3 v4 (v5 + (5 : Int32)) M341 r M' _ _ (Nat.le_trans (show kk + 1 + 0 + 0 + fu ≤ kk + (fu + 1) by omega) hk) (Nat.le_trans (show nn + 6 + 0 + 0 + 6 * fu ≤ nn + 6 * (fu + 1) by omega) hn) h
    · rw [if_pos hc343] at h
      refine j_aload C dL_law_1632 6 rfl ?_
      refine j_iconst C dL_law_1634 (v := (0 : Int32)) (by decide) ?_
      obtain ⟨ho344, h⟩ := ck_spec h
      obtain ⟨ho345, h⟩ := ck_spec h
      refine j_dald C ho344 ho345 dL_law_1635 ?_
      refine j_dload C dL_law_1636 0 rfl ?_
      refine j_dcmp C dL_law_1638 ?_
      refine j_if_eq C dL_law_1639 (tgt := 1664) (by decide) (fun hc346 => ?_) (fun hc346 => ?_)
      · rw [if_pos hc346] at h
        refine j_goto C dL_law_1664 (tgt := 1870) (by decide) ?_
        refine j_iinc C dL_law_1870 7 rfl (v := (v5 + (5 : Int32))) (by first | rfl | decide) (by decide) (L' := [(5, .int (v5 + (5 : Int32))), (7, .double r340), (6, .int r338), (0, .ref v0), (1, .ref v1), (2, .ref v2), (3, .ref v3), (4, .ref v4)]) rfl ?_
        refine j_goto C dL_law_1873 (tgt := 28) (by decide) ?_
        refine j_sub (L' := [(0, .ref v0), (1, .ref v1), (2, .ref v2), (3, .ref v3), (4, .ref v4), (5, .int (v5 + (5 : Int32)))]) [3, 4, 5, 6, 7, 0] rfl ?_
        exact hK28 v0 v1 v2 v3 v4 (v5 + (5 : Int32)) M341 r M' _ _ (Nat.le_trans (show kk + 1 + 0 + 0 + fu ≤ kk + (fu + 1) by omega) hk) (Nat.le_trans (show nn + 6 + 0 + 0 + 6 * fu ≤ nn + 6 * (fu + 1) by omega) hn) h
      · rw [if_neg hc346] at h
        refine j_aload C dL_law_1642 6 rfl ?_
        refine j_iconst C dL_law_1644 (v := (0 : Int32)) (by decide) ?_
        refine j_dald C ho344 ho345 dL_law_1645 ?_
        refine j_aload C dL_law_1646 6 rfl ?_
        refine j_iconst C dL_law_1648 (v := (0 : Int32)) (by decide) ?_
        refine j_dald C ho344 ho345 dL_law_1649 ?_
        refine j_dcmp C dL_law_1650 ?_
        refine j_if_eq C dL_law_1651 (tgt := 1662) (by decide) (fun hc347 => ?_) (fun hc347 => ?_)
        · rw [if_pos hc347] at h
          refine j_iconst C dL_law_1662 (v := (0 : Int32)) (by decide) ?_
          cases h
        · rw [if_neg hc347] at h
          refine j_dload C dL_law_1654 0 rfl ?_
          refine j_dload C dL_law_1656 0 rfl ?_
          refine j_dcmp C dL_law_1658 ?_
          refine j_if_ne C dL_law_1659 (tgt := 1664) (by decide) (fun hc348 => ?_) (fun hc348 => ?_)
          · rw [if_neg hc348] at h
            refine j_goto C dL_law_1664 (tgt := 1870) (by decide) ?_
            refine j_iinc C dL_law_1870 7 rfl (v := (v5 + (5 : Int32))) (by first | rfl | decide) (by decide) (L' := [(5, .int (v5 + (5 : Int32))), (7, .double r340), (6, .int r338), (0, .ref v0), (1, .ref v1), (2, .ref v2), (3, .ref v3), (4, .ref v4)]) rfl ?_
            refine j_goto C dL_law_1873 (tgt := 28) (by decide) ?_
            refine j_sub (L' := [(0, .ref v0), (1, .ref v1), (2, .ref v2), (3, .ref v3), (4, .ref v4), (5, .int (v5 + (5 : Int32)))]) [3, 4, 5, 6, 7, 0] rfl ?_
            exact hK28 v0 v1 v2 v3 v4 (v5 + (5 : Int32)) M341 r M' _ _ (Nat.le_trans (show kk + 1 + 0 + 0 + fu ≤ kk + (fu + 1) by omega) hk) (Nat.le_trans (show nn + 6 + 0 + 0 + 6 * fu ≤ nn + 6 * (fu + 1) by omega) hn) h
          · rw [if_pos hc348] at h
            refine j_iconst C dL_law_1662 (v := (0 : Int32)) (by decide) ?_
            cases h
  · rw [if_neg hc342] at h
    refine j_iconst C dL_law_1625 (v := (0 : Int32)) (by decide) ?_
    cases h
def fL_law_1667 (N : Nat) (Z : mZ) (K28 : Nat → Nat → Nat → Nat → Nat → Int32 → mM → Option (Int32 × mM)) (v0 : Nat) (v1 : Nat) (v2 : Nat) (v3 : Nat) (v4 : Nat) (v5 : Int32) (M : mM) : Option (Int32 × mM) := ck (okI Z v0) (ck (inB (v5 + (1 : Int32)) (Z.2.2.1 v0)) (bnd2 (fL_feed N Z v1 ((((M.1 v0 ((v5 + (1 : Int32))).toNatClampNeg)).toUInt32 % 65536).toInt32) v3 M) (fun r352 M352 => ck (okO Z v2 9) (bnd2 (fX9_feed N Z v2 ((((M352.1 v0 ((v5 + (1 : Int32))).toNatClampNeg)).toUInt32 % 65536).toInt32) M352) (fun r354 M354 => bnd2 (fX9_thrown N Z v2 M354) (fun r355 M355 => if r355 = r352 then if r352 = 0 then ck (okO Z v3 22) (ck (inB (0 : Int32) (Z.2.2.1 v3)) (if (lg_cmp (M355.2.1 v3 ((0 : Int32)).toNatClampNeg) ((r354).toInt64)) = 0 then K28 v0 v1 v2 v3 v4 (v5 + (5 : Int32)) M355 else none)) else K28 v0 v1 v2 v3 v4 (v5 + (5 : Int32)) M355 else none))))))
set_option maxHeartbeats 4000000 in
set_option maxRecDepth 100000 in
theorem tL_law_1667 {G : mG} {p : Program} {l : Launch} {e : Env} {s : State} {m : MethodId} {args : Array Value} {below : List Frame} {meth : Method} {c : Code} {Q : State → Prop} {tb : List ExceptionTableEntry} (hend : ∀ (k n : Nat) (L : mL) (Z : mZ) (M : mM), k ≤ KM → n ≤ NMX → JJ G p l e room_1 s m args below meth c 9 Q k n 1877 L [.int 1] Z M) (C : Cx G p l s m args meth c RL cL_law 9 (some .boolean) tb) (N : Nat) (Z : mZ) (K28 : Nat → Nat → Nat → Nat → Nat → Int32 → mM → Option (Int32 × mM)) (fu : Nat) (hK28 : ∀ (v0 : Nat) (v1 : Nat) (v2 : Nat) (v3 : Nat) (v4 : Nat) (v5 : Int32) (M : mM) (r : Int32) (M' : mM), ∀ (kk nn : Nat), kk + fu ≤ KM → nn + 6 * fu ≤ NMX → K28 v0 v1 v2 v3 v4 v5 M = some (r, M') → JJ G p l e room_1 s m args below meth c 9 Q kk nn 28 [(0, .ref v0), (1, .ref v1), (2, .ref v2), (3, .ref v3), (4, .ref v4), (5, .int v5)] [] Z M) : ∀ (v0 : Nat) (v1 : Nat) (v2 : Nat) (v3 : Nat) (v4 : Nat) (v5 : Int32) (M : mM) (r : Int32) (M' : mM), ∀ (kk nn : Nat), kk + (fu + 1) ≤ KM → nn + 6 * (fu + 1) ≤ NMX → fL_law_1667 N Z K28 v0 v1 v2 v3 v4 v5 M = some (r, M') → JJ G p l e room_1 s m args below meth c 9 Q kk nn 1667 [(0, .ref v0), (1, .ref v1), (2, .ref v2), (3, .ref v3), (4, .ref v4), (5, .int v5)] [] Z M := by
  intro v0 v1 v2 v3 v4 v5 M r M' kk nn hk hn h
  unfold fL_law_1667 at h
  refine j_aload_n C dL_law_1667 rfl 1 rfl ?_
  refine j_aload_n C dL_law_1668 rfl 0 rfl ?_
  refine j_iload C dL_law_1669 5 rfl ?_
  refine j_iconst C dL_law_1671 (v := (1 : Int32)) (by decide) ?_
  refine j_iadd C dL_law_1672 ?_
  obtain ⟨ho350, h⟩ := ck_spec h
  obtain ⟨ho351, h⟩ := ck_spec h
  refine j_iald C ho350 ho351 dL_law_1673 ?_
  refine j_i2c C dL_law_1674 ?_
  refine j_aload_n C dL_law_1675 rfl 3 rfl ?_
  obtain ⟨r352, M352, hq352, h⟩ := bnd2_spec h
  refine j_run1 (c_SX C (As := [.ref v1, .int ((((M.1 v0 ((v5 + (1 : Int32))).toNatClampNeg)).toUInt32 % 65536).toInt32), .ref v3]) (rest := []) (ctL_feed C.2.2.2.2.2.2.2.2.1 N Z hq352) kcRL_191 oyL_feed ⟨by decide, by decide⟩ ⟨Nat.le_trans (show kk + 1 ≤ kk + (fu + 1) by omega) hk, Nat.le_trans (show nn + 6 ≤ nn + 6 * (fu + 1) by omega) hn⟩ (Nat.le_of_ble_eq_true rfl) rfl dL_law_1676) ?_
  refine j_istore C dL_law_1679 (by decide) (L' := [(6, .int r352), (0, .ref v0), (1, .ref v1), (2, .ref v2), (3, .ref v3), (4, .ref v4), (5, .int v5)]) rfl ?_
  refine j_aload_n C dL_law_1681 rfl 3 rfl ?_
  refine j_aload_n C dL_law_1682 rfl 1 rfl ?_
  refine j_iload C dL_law_1683 6 rfl ?_
  refine j_iconst C dL_law_1685 (v := (1 : Int32)) (by decide) ?_
  refine j_iadd C dL_law_1686 ?_
  refine j_iald C ho350 ho351 dL_law_1687 ?_
  refine j_i2c C dL_law_1688 ?_
  obtain ⟨ho353, h⟩ := ck_spec h
  obtain ⟨r354, M354, hq354, h⟩ := bnd2_spec h
  refine j_run1 (c_V C (As := [.int ((((M352.1 v0 ((v5 + (1 : Int32))).toNatClampNeg)).toUInt32 % 65536).toInt32)]) (rest := []) (ctX9_feed C.2.2.2.2.2.2.2.2.1 N Z hq354) kcRL_194 oyX9_feed (ci := 9) (T := TX9) (N := 23) rfl (by decide) ho353 ⟨by decide, by decide⟩ ⟨Nat.le_trans (show kk + 1 + 0 ≤ kk + (fu + 1) by omega) hk, Nat.le_trans (show nn + 6 + 0 ≤ nn + 6 * (fu + 1) by omega) hn⟩ (Nat.le_of_ble_eq_true rfl) rfl dL_law_1689) ?_
  refine j_istore C dL_law_1692 (by decide) (L' := [(7, .int r354), (6, .int r352), (0, .ref v0), (1, .ref v1), (2, .ref v2), (3, .ref v3), (4, .ref v4), (5, .int v5)]) rfl ?_
  refine j_aload_n C dL_law_1694 rfl 4 rfl ?_
  obtain ⟨r355, M355, hq355, h⟩ := bnd2_spec h
  refine j_run1 (c_V C (As := []) (rest := []) (ctX9_thrown C.2.2.2.2.2.2.2.2.1 N Z hq355) kcRL_118 oyX9_thrown (ci := 9) (T := TX9) (N := 23) rfl (by decide) ho353 ⟨by decide, by decide⟩ ⟨Nat.le_trans (show kk + 1 + 0 + 0 ≤ kk + (fu + 1) by omega) hk, Nat.le_trans (show nn + 6 + 0 + 0 ≤ nn + 6 * (fu + 1) by omega) hn⟩ (Nat.le_of_ble_eq_true rfl) rfl dL_law_1695) ?_
  refine j_iload C dL_law_1698 1 rfl ?_
  refine j_icmp_eq C dL_law_1700 (tgt := 1705) (by decide) (fun hc356 => ?_) (fun hc356 => ?_)
  · rw [if_pos hc356] at h
    refine j_iload C dL_law_1705 1 rfl ?_
    refine j_if_ne C dL_law_1707 (tgt := 1722) (by decide) (fun hc357 => ?_) (fun hc357 => ?_)
    · rw [if_neg hc357] at h
      refine j_goto C dL_law_1722 (tgt := 1870) (by decide) ?_
      refine j_iinc C dL_law_1870 7 rfl (v := (v5 + (5 : Int32))) (by first | rfl | decide) (by decide) (L' := [(5, .int (v5 + (5 : Int32))), (7, .int r354), (6, .int r352), (0, .ref v0), (1, .ref v1), (2, .ref v2), (3, .ref v3), (4, .ref v4)]) rfl ?_
      refine j_goto C dL_law_1873 (tgt := 28) (by decide) ?_
      refine j_sub (L' := [(0, .ref v0), (1, .ref v1), (2, .ref v2), (3, .ref v3), (4, .ref v4), (5, .int (v5 + (5 : Int32)))]) [3, 4, 5, 6, 7, 0] rfl ?_
      exact hK28 v0 v1 v2 v3 v4 (v5 + (5 : Int32)) M355 r M' _ _ (Nat.le_trans (show kk + 1 + 0 + 0 + fu ≤ kk + (fu + 1) by omega) hk) (Nat.le_trans (show nn + 6 + 0 + 0 + 6 * fu ≤ nn + 6 * (fu + 1) by omega) hn) h
    · rw [if_pos hc357] at h
      refine j_aload_n C dL_law_1710 rfl 5 rfl ?_
      refine j_iconst C dL_law_1711 (v := (0 : Int32)) (by decide) ?_
      obtain ⟨ho358, h⟩ := ck_spec h
      obtain ⟨ho359, h⟩ := ck_spec h
      refine j_lald C ho358 ho359 dL_law_1712 ?_
      refine j_iload C dL_law_1713 0 rfl ?_
      refine j_i2l C dL_law_1715 ?_
      refine j_lcmp C dL_law_1716 ?_
      refine j_if_eq C dL_law_1717 (tgt := 1722) (by decide) (fun hc360 => ?_) (fun hc360 => ?_)
      · rw [if_pos hc360] at h
        refine j_goto C dL_law_1722 (tgt := 1870) (by decide) ?_
        refine j_iinc C dL_law_1870 7 rfl (v := (v5 + (5 : Int32))) (by first | rfl | decide) (by decide) (L' := [(5, .int (v5 + (5 : Int32))), (7, .int r354), (6, .int r352), (0, .ref v0), (1, .ref v1), (2, .ref v2), (3, .ref v3), (4, .ref v4)]) rfl ?_
        refine j_goto C dL_law_1873 (tgt := 28) (by decide) ?_
        refine j_sub (L' := [(0, .ref v0), (1, .ref v1), (2, .ref v2), (3, .ref v3), (4, .ref v4), (5, .int (v5 + (5 : Int32)))]) [3, 4, 5, 6, 7, 0] rfl ?_
        exact hK28 v0 v1 v2 v3 v4 (v5 + (5 : Int32)) M355 r M' _ _ (Nat.le_trans (show kk + 1 + 0 + 0 + fu ≤ kk + (fu + 1) by omega) hk) (Nat.le_trans (show nn + 6 + 0 + 0 + 6 * fu ≤ nn + 6 * (fu + 1) by omega) hn) h
      · rw [if_neg hc360] at h
        refine j_iconst C dL_law_1720 (v := (0 : Int32)) (by decide) ?_
        cases h
  · rw [if_neg hc356] at h
    refine j_iconst C dL_law_1703 (v := (0 : Int32)) (by decide) ?_
    cases h
