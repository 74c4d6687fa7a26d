-- ScaffoldPlannerLaw law
theorem cwRL_8 : Cond.classLink RL 8 RX8 ∈ gw ∧ Cond.instantiable RX8 11 ∈ gw ∧ Cond.initialized RX8 ∈ gw := ⟨by decide +kernel, by decide +kernel, by decide +kernel⟩
theorem ntX8 : ∀ j, j < 11 → tyX8 j = m_ty 8 j ∧ (m_ty 8 j = .int ∨ m_ty 8 j = .boolean ∨ isRefT (m_ty 8 j) = true) := by decide
theorem kcRL_108 : okN RL 108 yX8_init (.code yX8_init cX8_init 1 none) = true := by decide +kernel
theorem oyX8_init : okY yX8_init 0 := ⟨by decide +kernel, by decide +kernel, by decide +kernel⟩
theorem cwRL_109 : Cond.classLink RL 109 RX9 ∈ gw ∧ Cond.instantiable RX9 23 ∈ gw ∧ Cond.initialized RX9 ∈ gw := ⟨by decide +kernel, by decide +kernel, by decide +kernel⟩
theorem ntX9 : ∀ j, j < 23 → tyX9 j = m_ty 9 j ∧ (m_ty 9 j = .int ∨ m_ty 9 j = .boolean ∨ isRefT (m_ty 9 j) = true) := by decide
theorem kcRL_111 : okN RL 111 yX9_init (.code yX9_init cX9_init 1 none) = true := by decide +kernel
theorem oyX9_init : okY yX9_init 0 := ⟨by decide +kernel, by decide +kernel, by decide +kernel⟩
theorem kcRL_112 : okS RL 112 yL_start (.codeWith yL_start cL_start 4 (some .int) [(0, 9, 12, 13)]) = true := by decide +kernel
theorem oyL_start : okY yL_start 3 := ⟨by decide +kernel, by decide +kernel, by decide +kernel⟩
theorem kcRL_117 : okV RL 117 yX9_start (.code yX9_start cX9_start 3 (some .int)) = true := by decide +kernel
theorem oyX9_start : okY yX9_start 1 := ⟨by decide +kernel, by decide +kernel, by decide +kernel⟩
theorem kcRL_118 : okV RL 118 yX9_thrown (.code yX9_thrown cX9_thrown 1 (some .int)) = true := by decide +kernel
theorem oyX9_thrown : okY yX9_thrown 0 := ⟨by decide +kernel, by decide +kernel, by decide +kernel⟩
theorem kcRL_121 : okS RL 121 yL_set (.codeWith yL_set cL_set 5 (some .int) [(0, 10, 13, 13), (0, 10, 17, 19)]) = true := by decide +kernel
theorem oyL_set : okY yL_set 4 := ⟨by decide +kernel, by decide +kernel, by decide +kernel⟩
theorem kcRL_124 : okV RL 124 yX9_set (.code yX9_set cX9_set 5 (some .int)) = true := by decide +kernel
theorem oyX9_set : okY yX9_set 2 := ⟨by decide +kernel, by decide +kernel, by decide +kernel⟩
theorem kcRL_125 : okS RL 125 yL_stock (.codeWith yL_stock cL_stock 5 (some .int) [(0, 10, 13, 24), (0, 10, 17, 13)]) = true := by decide +kernel
theorem oyL_stock : okY yL_stock 4 := ⟨by decide +kernel, by decide +kernel, by decide +kernel⟩
theorem kcRL_127 : okV RL 127 yX9_stock (.code yX9_stock cX9_stock 4 (some .int)) = true := by decide +kernel
theorem oyX9_stock : okY yX9_stock 2 := ⟨by decide +kernel, by decide +kernel, by decide +kernel⟩
theorem kcRL_128 : okS RL 128 yL_erect (.codeWith yL_erect cL_erect 4 (some .int) [(0, 9, 12, 24), (0, 9, 15, 29)]) = true := by decide +kernel
theorem oyL_erect : okY yL_erect 3 := ⟨by decide +kernel, by decide +kernel, by decide +kernel⟩
theorem kcRL_130 : okV RL 130 yX9_erect (.code yX9_erect cX9_erect 2 (some .int)) = true := by decide +kernel
theorem oyX9_erect : okY yX9_erect 1 := ⟨by decide +kernel, by decide +kernel, by decide +kernel⟩
theorem kcRL_131 : okS RL 131 yL_lower (.codeWith yL_lower cL_lower 4 (some .int) [(0, 9, 12, 24), (0, 9, 15, 29)]) = true := by decide +kernel
theorem oyL_lower : okY yL_lower 3 := ⟨by decide +kernel, by decide +kernel, by decide +kernel⟩
theorem kcRL_133 : okV RL 133 yX9_lower (.code yX9_lower cX9_lower 2 (some .int)) = true := by decide +kernel
theorem oyX9_lower : okY yX9_lower 1 := ⟨by decide +kernel, by decide +kernel, by decide +kernel⟩
theorem kcRL_134 : okS RL 134 yL_deck (.codeWith yL_deck cL_deck 6 (some .int) [(0, 12, 15, 24), (0, 12, 19, 13), (0, 12, 23, 29)]) = true := by decide +kernel
theorem oyL_deck : okY yL_deck 5 := ⟨by decide +kernel, by decide +kernel, by decide +kernel⟩
theorem kcRL_137 : okV RL 137 yX9_deck (.code yX9_deck cX9_deck 4 (some .int)) = true := by decide +kernel
theorem oyX9_deck : okY yX9_deck 3 := ⟨by decide +kernel, by decide +kernel, by decide +kernel⟩
theorem kcRL_138 : okS RL 138 yL_put (.codeWith yL_put cL_put 6 (some .int) [(0, 12, 15, 13), (0, 12, 19, 24), (0, 12, 23, 29)]) = true := by decide +kernel
theorem oyL_put : okY yL_put 5 := ⟨by decide +kernel, by decide +kernel, by decide +kernel⟩
theorem kcRL_140 : okV RL 140 yX9_put (.code yX9_put cX9_put 4 (some .int)) = true := by decide +kernel
theorem oyX9_put : okY yX9_put 3 := ⟨by decide +kernel, by decide +kernel, by decide +kernel⟩
theorem kcRL_141 : okS RL 141 yL_take (.codeWith yL_take cL_take 6 (some .int) [(0, 12, 15, 13), (0, 12, 19, 24), (0, 12, 23, 29)]) = true := by decide +kernel
theorem oyL_take : okY yL_take 5 := ⟨by decide +kernel, by decide +kernel, by decide +kernel⟩
theorem kcRL_143 : okV RL 143 yX9_take (.code yX9_take cX9_take 4 (some .int)) = true := by decide +kernel
theorem oyX9_take : okY yX9_take 3 := ⟨by decide +kernel, by decide +kernel, by decide +kernel⟩
theorem kcRL_144 : okS RL 144 yL_refusal (.codeWith yL_refusal cL_refusal 7 (some .int) [(0, 14, 17, 13), (0, 14, 21, 24)]) = true := by decide +kernel
theorem oyL_refusal : okY yL_refusal 6 := ⟨by decide +kernel, by decide +kernel, by decide +kernel⟩
theorem kcRL_147 : okV RL 147 yX9_refusal (.code yX9_refusal cX9_refusal 5 (some .int)) = true := by decide +kernel
theorem oyX9_refusal : okY yX9_refusal 4 := ⟨by decide +kernel, by decide +kernel, by decide +kernel⟩
theorem kcRL_148 : okS RL 148 yL_report (.codeWith yL_report cL_report 5 (some .int) [(0, 10, 13, 52)]) = true := by decide +kernel
theorem oyL_report : okY yL_report 4 := ⟨by decide +kernel, by decide +kernel, by decide +kernel⟩
theorem kcRL_151 : okV RL 151 yX9_report (.code yX9_report cX9_report 3 (some .int)) = true := by decide +kernel
theorem oyX9_report : okY yX9_report 2 := ⟨by decide +kernel, by decide +kernel, by decide +kernel⟩
theorem kcRL_152 : okS RL 152 yL_bay (.codeWith yL_bay cL_bay 5 (some .int) [(0, 10, 13, 24), (0, 10, 17, 13)]) = true := by decide +kernel
theorem oyL_bay : okY yL_bay 4 := ⟨by decide +kernel, by decide +kernel, by decide +kernel⟩
theorem kcRL_154 : okV RL 154 yX9_bay (.code yX9_bay cX9_bay 3 (some .int)) = true := by decide +kernel
theorem oyX9_bay : okY yX9_bay 2 := ⟨by decide +kernel, by decide +kernel, by decide +kernel⟩
theorem kcRL_155 : okS RL 155 yL_post (.codeWith yL_post cL_post 5 (some .int) [(0, 10, 13, 24), (0, 10, 17, 13)]) = true := by decide +kernel
theorem oyL_post : okY yL_post 4 := ⟨by decide +kernel, by decide +kernel, by decide +kernel⟩
theorem kcRL_157 : okV RL 157 yX9_post (.code yX9_post cX9_post 3 (some .int)) = true := by decide +kernel
theorem oyX9_post : okY yX9_post 2 := ⟨by decide +kernel, by decide +kernel, by decide +kernel⟩
theorem kcRL_158 : okS RL 158 yL_load (.codeWith yL_load cL_load 5 (some .int) [(0, 10, 13, 24), (0, 10, 17, 52)]) = true := by decide +kernel
theorem oyL_load : okY yL_load 4 := ⟨by decide +kernel, by decide +kernel, by decide +kernel⟩
theorem kcRL_160 : okV RL 160 yX9_load (.code yX9_load cX9_load 3 (some .int)) = true := by decide +kernel
theorem oyX9_load : okY yX9_load 2 := ⟨by decide +kernel, by decide +kernel, by decide +kernel⟩
theorem kcRL_161 : okS RL 161 yL_steps (.codeWith yL_steps cL_steps 5 (some .int) [(0, 10, 13, 24), (0, 10, 17, 52)]) = true := by decide +kernel
theorem oyL_steps : okY yL_steps 4 := ⟨by decide +kernel, by decide +kernel, by decide +kernel⟩
theorem kcRL_163 : okV RL 163 yX9_steps (.code yX9_steps cX9_steps 3 (some .int)) = true := by decide +kernel
theorem oyX9_steps : okY yX9_steps 2 := ⟨by decide +kernel, by decide +kernel, by decide +kernel⟩
theorem kcRL_164 : okS RL 164 yL_fewestTies (.codeWith yL_fewestTies cL_fewestTies 4 (some .int) [(0, 9, 12, 13)]) = true := by decide +kernel
theorem oyL_fewestTies : okY yL_fewestTies 3 := ⟨by decide +kernel, by decide +kernel, by decide +kernel⟩
theorem kcRL_166 : okV RL 166 yX9_fewestTies (.code yX9_fewestTies cX9_fewestTies 2 (some .int)) = true := by decide +kernel
theorem oyX9_fewestTies : okY yX9_fewestTies 1 := ⟨by decide +kernel, by decide +kernel, by decide +kernel⟩
theorem kcRL_167 : okS RL 167 yL_tieLevels (.codeWith yL_tieLevels cL_tieLevels 4 (some .int) [(0, 9, 12, 13)]) = true := by decide +kernel
theorem oyL_tieLevels : okY yL_tieLevels 3 := ⟨by decide +kernel, by decide +kernel, by decide +kernel⟩
theorem kcRL_169 : okV RL 169 yX9_tieLevels (.code yX9_tieLevels cX9_tieLevels 2 (some .int)) = true := by decide +kernel
theorem oyX9_tieLevels : okY yX9_tieLevels 1 := ⟨by decide +kernel, by decide +kernel, by decide +kernel⟩
theorem kcRL_170 : okS RL 170 yL_missing (.codeWith yL_missing cL_missing 5 (some .int) [(0, 10, 13, 13)]) = true := by decide +kernel
theorem oyL_missing : okY yL_missing 4 := ⟨by decide +kernel, by decide +kernel, by decide +kernel⟩
theorem kcRL_172 : okV RL 172 yX9_missing (.code yX9_missing cX9_missing 5 (some .int)) = true := by decide +kernel
theorem oyX9_missing : okY yX9_missing 2 := ⟨by decide +kernel, by decide +kernel, by decide +kernel⟩
theorem kcRL_173 : okS RL 173 yL_dismantling (.codeWith yL_dismantling cL_dismantling 3 (some .int) [(0, 8, 11, 52)]) = true := by decide +kernel
theorem oyL_dismantling : okY yL_dismantling 2 := ⟨by decide +kernel, by decide +kernel, by decide +kernel⟩
theorem kcRL_176 : okV RL 176 yX9_dismantling (.code yX9_dismantling cX9_dismantling 1 (some .int)) = true := by decide +kernel
theorem oyX9_dismantling : okY yX9_dismantling 0 := ⟨by decide +kernel, by decide +kernel, by decide +kernel⟩
theorem kcRL_177 : okS RL 177 yL_work (.codeWith yL_work cL_work 5 (some .int) [(0, 10, 13, 13), (0, 10, 17, 24)]) = true := by decide +kernel
theorem oyL_work : okY yL_work 4 := ⟨by decide +kernel, by decide +kernel, by decide +kernel⟩
theorem kcRL_179 : okV RL 179 yX9_work (.code yX9_work cX9_work 3 (some .int)) = true := by decide +kernel
theorem oyX9_work : okY yX9_work 2 := ⟨by decide +kernel, by decide +kernel, by decide +kernel⟩
theorem kcRL_180 : okS RL 180 yL_account (.codeWith yL_account cL_account 4 (some .int) [(0, 9, 12, 13)]) = true := by decide +kernel
theorem oyL_account : okY yL_account 3 := ⟨by decide +kernel, by decide +kernel, by decide +kernel⟩
theorem kcRL_182 : okV RL 182 yX9_account (.code yX9_account cX9_account 2 (some .int)) = true := by decide +kernel
theorem oyX9_account : okY yX9_account 1 := ⟨by decide +kernel, by decide +kernel, by decide +kernel⟩
theorem kcRL_183 : okS RL 183 yL_use (.codeWith yL_use cL_use 4 (some .int) [(0, 9, 12, 24)]) = true := by decide +kernel
theorem oyL_use : okY yL_use 3 := ⟨by decide +kernel, by decide +kernel, by decide +kernel⟩
theorem kcRL_186 : okV RL 186 yX9_use (.code yX9_use cX9_use 2 (some .float)) = true := by decide +kernel
theorem oyX9_use : okY yX9_use 1 := ⟨by decide +kernel, by decide +kernel, by decide +kernel⟩
theorem kcRL_187 : okS RL 187 yL_meanClass (.codeWith yL_meanClass cL_meanClass 3 (some .int) [(0, 7, 10, 93)]) = true := by decide +kernel
theorem oyL_meanClass : okY yL_meanClass 2 := ⟨by decide +kernel, by decide +kernel, by decide +kernel⟩
theorem kcRL_190 : okV RL 190 yX9_meanClass (.code yX9_meanClass cX9_meanClass 4 (some .double)) = true := by decide +kernel
theorem oyX9_meanClass : okY yX9_meanClass 0 := ⟨by decide +kernel, by decide +kernel, by decide +kernel⟩
theorem kcRL_191 : okS RL 191 yL_feed (.codeWith yL_feed cL_feed 4 (some .int) [(0, 9, 12, 19)]) = true := by decide +kernel
theorem oyL_feed : okY yL_feed 3 := ⟨by decide +kernel, by decide +kernel, by decide +kernel⟩
theorem kcRL_194 : okV RL 194 yX9_feed (.code yX9_feed cX9_feed 2 (some .int)) = true := by decide +kernel
theorem oyX9_feed : okY yX9_feed 1 := ⟨by decide +kernel, by decide +kernel, by decide +kernel⟩
theorem kcRL_195 : okS RL 195 yL_perform (.codeWith yL_perform cL_perform 3 (some .int) [(0, 8, 11, 29)]) = true := by decide +kernel
theorem oyL_perform : okY yL_perform 2 := ⟨by decide +kernel, by decide +kernel, by decide +kernel⟩
theorem kcRL_197 : okV RL 197 yX9_perform (.code yX9_perform cX9_perform 7 (some .int)) = true := by decide +kernel
theorem oyX9_perform : okY yX9_perform 0 := ⟨by decide +kernel, by decide +kernel, by decide +kernel⟩
theorem kcRL_198 : okS RL 198 yL_undo (.codeWith yL_undo cL_undo 3 (some .int) [(0, 8, 11, 19)]) = true := by decide +kernel
theorem oyL_undo : okY yL_undo 2 := ⟨by decide +kernel, by decide +kernel, by decide +kernel⟩
theorem kcRL_200 : okV RL 200 yX9_undo (.code yX9_undo cX9_undo 2 (some .int)) = true := by decide +kernel
theorem oyX9_undo : okY yX9_undo 0 := ⟨by decide +kernel, by decide +kernel, by decide +kernel⟩
theorem kcRL_201 : okV RL 201 yX8_save (.code yX8_save cX8_save 1 (some .int)) = true := by decide +kernel
theorem oyX8_save : okY yX8_save 0 := ⟨by decide +kernel, by decide +kernel, by decide +kernel⟩
theorem kcRL_204 : okV RL 204 yX9_save (.code yX9_save cX9_save 1 (some .int)) = true := by decide +kernel
theorem oyX9_save : okY yX9_save 0 := ⟨by decide +kernel, by decide +kernel, by decide +kernel⟩
theorem kcRL_205 : okS RL 205 yL_restore (.codeWith yL_restore cL_restore 3 (some .int) [(0, 8, 11, 19)]) = true := by decide +kernel
theorem oyL_restore : okY yL_restore 2 := ⟨by decide +kernel, by decide +kernel, by decide +kernel⟩
theorem kcRL_207 : okV RL 207 yX9_restore (.code yX9_restore cX9_restore 1 (some .int)) = true := by decide +kernel
theorem oyX9_restore : okY yX9_restore 0 := ⟨by decide +kernel, by decide +kernel, by decide +kernel⟩
def fL_law_168 (N : Nat) (Z : mZ) (K28 : Nat → Nat → Nat → Nat → Nat → Int32 → mM → Option (Int32 × mM)) (v0 : Nat) (v1 : Nat) (v2 : Nat) (v3 : Nat) (v4 : Nat) (v5 : Int32) (M : mM) : Option (Int32 × mM) := ck (okI Z v0) (ck (inB (v5 + (1 : Int32)) (Z.2.2.1 v0)) (bnd2 (fL_start N Z v1 (M.1 v0 ((v5 + (1 : Int32))).toNatClampNeg) v3 M) (fun r13 M13 => ck (okO Z v2 9) (bnd2 (fX9_start N Z v2 (M13.1 v0 ((v5 + (1 : Int32))).toNatClampNeg) M13) (fun r15 M15 => bnd2 (fX9_thrown N Z v2 M15) (fun r16 M16 => if r16 = r13 then if r13 = 0 then ck (okO Z v3 22) (ck (inB (0 : Int32) (Z.2.2.1 v3)) (if (lg_cmp (M16.2.1 v3 ((0 : Int32)).toNatClampNeg) ((r15).toInt64)) = 0 then K28 v0 v1 v2 v3 v4 (v5 + (5 : Int32)) M16 else none)) else K28 v0 v1 v2 v3 v4 (v5 + (5 : Int32)) M16 else none))))))
set_option maxHeartbeats 4000000 in
set_option maxRecDepth 100000 in
theorem tL_law_168 {G : mG} {p : Program} {l : Launch} {e : Env} {s : State} {m : MethodId} {args : Array Value} {below : List Frame} {meth : Method} {c : Code} {Q : State → Prop} {tb : List ExceptionTableEntry} (hend : ∀ (k n : Nat) (L : mL) (Z : mZ) (M : mM), k ≤ KM → n ≤ NMX → JJ G p l e room_1 s m args below meth c 9 Q k n 1877 L [.int 1] Z M) (C : Cx G p l s m args meth c RL cL_law 9 (some .boolean) tb) (N : Nat) (Z : mZ) (K28 : Nat → Nat → Nat → Nat → Nat → Int32 → mM → Option (Int32 × mM)) (fu : Nat) (hK28 : ∀ (v0 : Nat) (v1 : Nat) (v2 : Nat) (v3 : Nat) (v4 : Nat) (v5 : Int32) (M : mM) (r : Int32) (M' : mM), ∀ (kk nn : Nat), kk + fu ≤ KM → nn + 6 * fu ≤ NMX → K28 v0 v1 v2 v3 v4 v5 M = some (r, M') → JJ G p l e room_1 s m args below meth c 9 Q kk nn 28 [(0, .ref v0), (1, .ref v1), (2, .ref v2), (3, .ref v3), (4, .ref v4), (5, .int v5)] [] Z M) : ∀ (v0 : Nat) (v1 : Nat) (v2 : Nat) (v3 : Nat) (v4 : Nat) (v5 : Int32) (M : mM) (r : Int32) (M' : mM), ∀ (kk nn : Nat), kk + (fu + 1) ≤ KM → nn + 6 * (fu + 1) ≤ NMX → fL_law_168 N Z K28 v0 v1 v2 v3 v4 v5 M = some (r, M') → JJ G p l e room_1 s m args below meth c 9 Q kk nn 168 [(0, .ref v0), (1, .ref v1), (2, .ref v2), (3, .ref v3), (4, .ref v4), (5, .int v5)] [] Z M := by
  intro v0 v1 v2 v3 v4 v5 M r M' kk nn hk hn h
  unfold fL_law_168 at h
  refine j_aload_n C dL_law_168 rfl 1 rfl ?_
  refine j_aload_n C dL_law_169 rfl 0 rfl ?_
  refine j_iload C dL_law_170 5 rfl ?_
  refine j_iconst C dL_law_172 (v := (1 : Int32)) (by decide) ?_
  refine j_iadd C dL_law_173 ?_
  obtain ⟨ho11, h⟩ := ck_spec h
  obtain ⟨ho12, h⟩ := ck_spec h
  refine j_iald C ho11 ho12 dL_law_174 ?_
  refine j_aload_n C dL_law_175 rfl 3 rfl ?_
  obtain ⟨r13, M13, hq13, h⟩ := bnd2_spec h
  refine j_run1 (c_SX C (As := [.ref v1, .int (M.1 v0 ((v5 + (1 : Int32))).toNatClampNeg), .ref v3]) (rest := []) (ctL_start C.2.2.2.2.2.2.2.2.1 N Z hq13) kcRL_112 oyL_start ⟨by decide, by decide⟩ ⟨Nat.le_trans (show kk + 1 ≤ kk + (fu + 1) by omega) hk, Nat.le_trans (show nn + 6 ≤ nn + 6 * (fu + 1) by omega) hn⟩ (Nat.le_of_ble_eq_true rfl) rfl dL_law_176) ?_
  refine j_istore C dL_law_179 (by decide) (L' := [(6, .int r13), (0, .ref v0), (1, .ref v1), (2, .ref v2), (3, .ref v3), (4, .ref v4), (5, .int v5)]) rfl ?_
  refine j_aload_n C dL_law_181 rfl 3 rfl ?_
  refine j_aload_n C dL_law_182 rfl 1 rfl ?_
  refine j_iload C dL_law_183 6 rfl ?_
  refine j_iconst C dL_law_185 (v := (1 : Int32)) (by decide) ?_
  refine j_iadd C dL_law_186 ?_
  refine j_iald C ho11 ho12 dL_law_187 ?_
  obtain ⟨ho14, h⟩ := ck_spec h
  obtain ⟨r15, M15, hq15, h⟩ := bnd2_spec h
  refine j_run1 (c_V C (As := [.int (M13.1 v0 ((v5 + (1 : Int32))).toNatClampNeg)]) (rest := []) (ctX9_start C.2.2.2.2.2.2.2.2.1 N Z hq15) kcRL_117 oyX9_start (ci := 9) (T := TX9) (N := 23) rfl (by decide) ho14 ⟨by decide, by decide⟩ ⟨Nat.le_trans (show kk + 1 + 0 ≤ kk + (fu + 1) by omega) hk, Nat.le_trans (show nn + 6 + 0 ≤ nn + 6 * (fu + 1) by omega) hn⟩ (Nat.le_of_ble_eq_true rfl) rfl dL_law_188) ?_
  refine j_istore C dL_law_191 (by decide) (L' := [(7, .int r15), (6, .int r13), (0, .ref v0), (1, .ref v1), (2, .ref v2), (3, .ref v3), (4, .ref v4), (5, .int v5)]) rfl ?_
  refine j_aload_n C dL_law_193 rfl 4 rfl ?_
  obtain ⟨r16, M16, hq16, h⟩ := bnd2_spec h
  refine j_run1 (c_V C (As := []) (rest := []) (ctX9_thrown C.2.2.2.2.2.2.2.2.1 N Z hq16) kcRL_118 oyX9_thrown (ci := 9) (T := TX9) (N := 23) rfl (by decide) ho14 ⟨by decide, by decide⟩ ⟨Nat.le_trans (show kk + 1 + 0 + 0 ≤ kk + (fu + 1) by omega) hk, Nat.le_trans (show nn + 6 + 0 + 0 ≤ nn + 6 * (fu + 1) by omega) hn⟩ (Nat.le_of_ble_eq_true rfl) rfl dL_law_194) ?_
  refine j_iload C dL_law_197 1 rfl ?_
  refine j_icmp_eq C dL_law_199 (tgt := 204) (by decide) (fun hc17 => ?_) (fun hc17 => ?_)
  · rw [if_pos hc17] at h
    refine j_iload C dL_law_204 1 rfl ?_
    refine j_if_ne C dL_law_206 (tgt := 221) (by decide) (fun hc18 => ?_) (fun hc18 => ?_)
    · rw [if_neg hc18] at h
      refine j_goto C dL_law_221 (tgt := 1870) (by decide) ?_
      refine j_iinc C dL_law_1870 7 rfl (v := (v5 + (5 : Int32))) (by first | rfl | decide) (by decide) (L' := [(5, .int (v5 + (5 : Int32))), (7, .int r15), (6, .int r13), (0, .ref v0), (1, .ref v1), (2, .ref v2), (3, .ref v3), (4, .ref v4)]) rfl ?_
      refine j_goto C dL_law_1873 (tgt := 28) (by decide) ?_
      refine j_sub (L' := [(0, .ref v0), (1, .ref v1), (2, .ref v2), (3, .ref v3), (4, .ref v4), (5, .int (v5 + (5 : Int32)))]) [3, 4, 5, 6, 7, 0] rfl ?_
      exact hK28 v0 v1 v2 v3 v4 (v5 + (5 : Int32)) M16 r M' _ _ (Nat.le_trans (show kk + 1 + 0 + 0 + fu ≤ kk + (fu + 1) by omega) hk) (Nat.le_trans (show nn + 6 + 0 + 0 + 6 * fu ≤ nn + 6 * (fu + 1) by omega) hn) h
    · rw [if_pos hc18] at h
      refine j_aload_n C dL_law_209 rfl 5 rfl ?_
      refine j_iconst C dL_law_210 (v := (0 : Int32)) (by decide) ?_
      obtain ⟨ho19, h⟩ := ck_spec h
      obtain ⟨ho20, h⟩ := ck_spec h
      refine j_lald C ho19 ho20 dL_law_211 ?_
      refine j_iload C dL_law_212 0 rfl ?_
      refine j_i2l C dL_law_214 ?_
      refine j_lcmp C dL_law_215 ?_
      refine j_if_eq C dL_law_216 (tgt := 221) (by decide) (fun hc21 => ?_) (fun hc21 => ?_)
      · rw [if_pos hc21] at h
        refine j_goto C dL_law_221 (tgt := 1870) (by decide) ?_
        refine j_iinc C dL_law_1870 7 rfl (v := (v5 + (5 : Int32))) (by first | rfl | decide) (by decide) (L' := [(5, .int (v5 + (5 : Int32))), (7, .int r15), (6, .int r13), (0, .ref v0), (1, .ref v1), (2, .ref v2), (3, .ref v3), (4, .ref v4)]) rfl ?_
        refine j_goto C dL_law_1873 (tgt := 28) (by decide) ?_
        refine j_sub (L' := [(0, .ref v0), (1, .ref v1), (2, .ref v2), (3, .ref v3), (4, .ref v4), (5, .int (v5 + (5 : Int32)))]) [3, 4, 5, 6, 7, 0] rfl ?_
        exact hK28 v0 v1 v2 v3 v4 (v5 + (5 : Int32)) M16 r M' _ _ (Nat.le_trans (show kk + 1 + 0 + 0 + fu ≤ kk + (fu + 1) by omega) hk) (Nat.le_trans (show nn + 6 + 0 + 0 + 6 * fu ≤ nn + 6 * (fu + 1) by omega) hn) h
      · rw [if_neg hc21] at h
        refine j_iconst C dL_law_219 (v := (0 : Int32)) (by decide) ?_
        cases h
  · rw [if_neg hc17] at h
    refine j_iconst C dL_law_202 (v := (0 : Int32)) (by decide) ?_
    cases h
def fL_law_224 (N : Nat) (Z : mZ) (K28 : Nat → Nat → Nat → Nat → Nat → Int32 → mM → Option (Int32 × mM)) (v0 : Nat) (v1 : Nat) (v2 : Nat) (v3 : Nat) (v4 : Nat) (v5 : Int32) (M : mM) : Option (Int32 × mM) := ck (okI Z v0) (ck (inB (v5 + (1 : Int32)) (Z.2.2.1 v0)) (ck (inB (v5 + (2 : Int32)) (Z.2.2.1 v0)) (bnd2 (fL_set N Z v1 (M.1 v0 ((v5 + (1 : Int32))).toNatClampNeg) (M.1 v0 ((v5 + (2 : Int32))).toNatClampNeg) v3 M) (fun r26 M26 => ck (okO Z v2 9) (bnd2 (fX9_set N Z v2 (M26.1 v0 ((v5 + (1 : Int32))).toNatClampNeg) (M26.1 v0 ((v5 + (2 : Int32))).toNatClampNeg) M26) (fun r28 M28 => bnd2 (fX9_thrown N Z v2 M28) (fun r29 M29 => if r29 = r26 then if r26 = 0 then ck (okO Z v3 22) (ck (inB (0 : Int32) (Z.2.2.1 v3)) (if (lg_cmp (M29.2.1 v3 ((0 : Int32)).toNatClampNeg) ((r28).toInt64)) = 0 then K28 v0 v1 v2 v3 v4 (v5 + (5 : Int32)) M29 else none)) else K28 v0 v1 v2 v3 v4 (v5 + (5 : Int32)) M29 else none)))))))
set_option maxHeartbeats 4000000 in
set_option maxRecDepth 100000 in
theorem tL_law_224 {G : mG} {p : Program} {l : Launch} {e : Env} {s : State} {m : MethodId} {args : Array Value} {below : List Frame} {meth : Method} {c : Code} {Q : State → Prop} {tb : List ExceptionTableEntry} (hend : ∀ (k n : Nat) (L : mL) (Z : mZ) (M : mM), k ≤ KM → n ≤ NMX → JJ G p l e room_1 s m args below meth c 9 Q k n 1877 L [.int 1] Z M) (C : Cx G p l s m args meth c RL cL_law 9 (some .boolean) tb) (N : Nat) (Z : mZ) (K28 : Nat → Nat → Nat → Nat → Nat → Int32 → mM → Option (Int32 × mM)) (fu : Nat) (hK28 : ∀ (v0 : Nat) (v1 : Nat) (v2 : Nat) (v3 : Nat) (v4 : Nat) (v5 : Int32) (M : mM) (r : Int32) (M' : mM), ∀ (kk nn : Nat), kk + fu ≤ KM → nn + 6 * fu ≤ NMX → K28 v0 v1 v2 v3 v4 v5 M = some (r, M') → JJ G p l e room_1 s m args below meth c 9 Q kk nn 28 [(0, .ref v0), (1, .ref v1), (2, .ref v2), (3, .ref v3), (4, .ref v4), (5, .int v5)] [] Z M) : ∀ (v0 : Nat) (v1 : Nat) (v2 : Nat) (v3 : Nat) (v4 : Nat) (v5 : Int32) (M : mM) (r : Int32) (M' : mM), ∀ (kk nn : Nat), kk + (fu + 1) ≤ KM → nn + 6 * (fu + 1) ≤ NMX → fL_law_224 N Z K28 v0 v1 v2 v3 v4 v5 M = some (r, M') → JJ G p l e room_1 s m args below meth c 9 Q kk nn 224 [(0, .ref v0), (1, .ref v1), (2, .ref v2), (3, .ref v3), (4, .ref v4), (5, .int v5)] [] Z M := by
  intro v0 v1 v2 v3 v4 v5 M r M' kk nn hk hn h
  unfold fL_law_224 at h
  refine j_aload_n C dL_law_224 rfl 1 rfl ?_
  refine j_aload_n C dL_law_225 rfl 0 rfl ?_
  refine j_iload C dL_law_226 5 rfl ?_
  refine j_iconst C dL_law_228 (v := (1 : Int32)) (by decide) ?_
  refine j_iadd C dL_law_229 ?_
  obtain ⟨ho23, h⟩ := ck_spec h
  obtain ⟨ho24, h⟩ := ck_spec h
  refine j_iald C ho23 ho24 dL_law_230 ?_
  refine j_aload_n C dL_law_231 rfl 0 rfl ?_
  refine j_iload C dL_law_232 5 rfl ?_
  refine j_iconst C dL_law_234 (v := (2 : Int32)) (by decide) ?_
  refine j_iadd C dL_law_235 ?_
  obtain ⟨ho25, h⟩ := ck_spec h
  refine j_iald C ho23 ho25 dL_law_236 ?_
  refine j_aload_n C dL_law_237 rfl 3 rfl ?_
  obtain ⟨r26, M26, hq26, h⟩ := bnd2_spec h
  refine j_run1 (c_SX C (As := [.ref v1, .int (M.1 v0 ((v5 + (1 : Int32))).toNatClampNeg), .int (M.1 v0 ((v5 + (2 : Int32))).toNatClampNeg), .ref v3]) (rest := []) (ctL_set C.2.2.2.2.2.2.2.2.1 N Z hq26) kcRL_121 oyL_set ⟨by decide, by decide⟩ ⟨Nat.le_trans (show kk + 1 ≤ kk + (fu + 1) by omega) hk, Nat.le_trans (show nn + 6 ≤ nn + 6 * (fu + 1) by omega) hn⟩ (Nat.le_of_ble_eq_true rfl) rfl dL_law_238) ?_
  refine j_istore C dL_law_241 (by decide) (L' := [(6, .int r26), (0, .ref v0), (1, .ref v1), (2, .ref v2), (3, .ref v3), (4, .ref v4), (5, .int v5)]) rfl ?_
  refine j_aload_n C dL_law_243 rfl 3 rfl ?_
  refine j_aload_n C dL_law_244 rfl 1 rfl ?_
  refine j_iload C dL_law_245 6 rfl ?_
  refine j_iconst C dL_law_247 (v := (1 : Int32)) (by decide) ?_
  refine j_iadd C dL_law_248 ?_
  refine j_iald C ho23 ho24 dL_law_249 ?_
  refine j_aload_n C dL_law_250 rfl 1 rfl ?_
  refine j_iload C dL_law_251 6 rfl ?_
  refine j_iconst C dL_law_253 (v := (2 : Int32)) (by decide) ?_
  refine j_iadd C dL_law_254 ?_
  refine j_iald C ho23 ho25 dL_law_255 ?_
  obtain ⟨ho27, h⟩ := ck_spec h
  obtain ⟨r28, M28, hq28, h⟩ := bnd2_spec h
  refine j_run1 (c_V C (As := [.int (M26.1 v0 ((v5 + (1 : Int32))).toNatClampNeg), .int (M26.1 v0 ((v5 + (2 : Int32))).toNatClampNeg)]) (rest := []) (ctX9_set C.2.2.2.2.2.2.2.2.1 N Z hq28) kcRL_124 oyX9_set (ci := 9) (T := TX9) (N := 23) rfl (by decide) ho27 ⟨by decide, by decide⟩ ⟨Nat.le_trans (show kk + 1 + 0 ≤ kk + (fu + 1) by omega) hk, Nat.le_trans (show nn + 6 + 0 ≤ nn + 6 * (fu + 1) by omega) hn⟩ (Nat.le_of_ble_eq_true rfl) rfl dL_law_256) ?_
  refine j_istore C dL_law_259 (by decide) (L' := [(7, .int r28), (6, .int r26), (0, .ref v0), (1, .ref v1), (2, .ref v2), (3, .ref v3), (4, .ref v4), (5, .int v5)]) rfl ?_
  refine j_aload_n C dL_law_261 rfl 4 rfl ?_
  obtain ⟨r29, M29, hq29, h⟩ := bnd2_spec h
  refine j_run1 (c_V C (As := []) (rest := []) (ctX9_thrown C.2.2.2.2.2.2.2.2.1 N Z hq29) kcRL_118 oyX9_thrown (ci := 9) (T := TX9) (N := 23) rfl (by decide) ho27 ⟨by decide, by decide⟩ ⟨Nat.le_trans (show kk + 1 + 0 + 0 ≤ kk + (fu + 1) by omega) hk, Nat.le_trans (show nn + 6 + 0 + 0 ≤ nn + 6 * (fu + 1) by omega) hn⟩ (Nat.le_of_ble_eq_true rfl) rfl dL_law_262) ?_
  refine j_iload C dL_law_265 1 rfl ?_
  refine j_icmp_eq C dL_law_267 (tgt := 272) (by decide) (fun hc30 => ?_) (fun hc30 => ?_)
  · rw [if_pos hc30] at h
    refine j_iload C dL_law_272 1 rfl ?_
    refine j_if_ne C dL_law_274 (tgt := 289) (by decide) (fun hc31 => ?_) (fun hc31 => ?_)
    · rw [if_neg hc31] at h
      refine j_goto C dL_law_289 (tgt := 1870) (by decide) ?_
      refine j_iinc C dL_law_1870 7 rfl (v := (v5 + (5 : Int32))) (by first | rfl | decide) (by decide) (L' := [(5, .int (v5 + (5 : Int32))), (7, .int r28), (6, .int r26), (0, .ref v0), (1, .ref v1), (2, .ref v2), (3, .ref v3), (4, .ref v4)]) rfl ?_
      refine j_goto C dL_law_1873 (tgt := 28) (by decide) ?_
      refine j_sub (L' := [(0, .ref v0), (1, .ref v1), (2, .ref v2), (3, .ref v3), (4, .ref v4), (5, .int (v5 + (5 : Int32)))]) [3, 4, 5, 6, 7, 0] rfl ?_
      exact hK28 v0 v1 v2 v3 v4 (v5 + (5 : Int32)) M29 r M' _ _ (Nat.le_trans (show kk + 1 + 0 + 0 + fu ≤ kk + (fu + 1) by omega) hk) (Nat.le_trans (show nn + 6 + 0 + 0 + 6 * fu ≤ nn + 6 * (fu + 1) by omega) hn) h
    · rw [if_pos hc31] at h
      refine j_aload_n C dL_law_277 rfl 5 rfl ?_
      refine j_iconst C dL_law_278 (v := (0 : Int32)) (by decide) ?_
      obtain ⟨ho32, h⟩ := ck_spec h
      obtain ⟨ho33, h⟩ := ck_spec h
      refine j_lald C ho32 ho33 dL_law_279 ?_
      refine j_iload C dL_law_280 0 rfl ?_
      refine j_i2l C dL_law_282 ?_
      refine j_lcmp C dL_law_283 ?_
      refine j_if_eq C dL_law_284 (tgt := 289) (by decide) (fun hc34 => ?_) (fun hc34 => ?_)
      · rw [if_pos hc34] at h
        refine j_goto C dL_law_289 (tgt := 1870) (by decide) ?_
        refine j_iinc C dL_law_1870 7 rfl (v := (v5 + (5 : Int32))) (by first | rfl | decide) (by decide) (L' := [(5, .int (v5 + (5 : Int32))), (7, .int r28), (6, .int r26), (0, .ref v0), (1, .ref v1), (2, .ref v2), (3, .ref v3), (4, .ref v4)]) rfl ?_
        refine j_goto C dL_law_1873 (tgt := 28) (by decide) ?_
        refine j_sub (L' := [(0, .ref v0), (1, .ref v1), (2, .ref v2), (3, .ref v3), (4, .ref v4), (5, .int (v5 + (5 : Int32)))]) [3, 4, 5, 6, 7, 0] rfl ?_
        exact hK28 v0 v1 v2 v3 v4 (v5 + (5 : Int32)) M29 r M' _ _ (Nat.le_trans (show kk + 1 + 0 + 0 + fu ≤ kk + (fu + 1) by omega) hk) (Nat.le_trans (show nn + 6 + 0 + 0 + 6 * fu ≤ nn + 6 * (fu + 1) by omega) hn) h
      · rw [if_neg hc34] at h
        refine j_iconst C dL_law_287 (v := (0 : Int32)) (by decide) ?_
        cases h
  · rw [if_neg hc30] at h
    refine j_iconst C dL_law_270 (v := (0 : Int32)) (by decide) ?_
    cases h
def fL_law_292 (N : Nat) (Z : mZ) (K28 : Nat → Nat → Nat → Nat → Nat → Int32 → mM → Option (Int32 × mM)) (v0 : Nat) (v1 : Nat) (v2 : Nat) (v3 : Nat) (v4 : Nat) (v5 : Int32) (M : mM) : Option (Int32 × mM) := ck (okI Z v0) (ck (inB (v5 + (1 : Int32)) (Z.2.2.1 v0)) (ck (inB (v5 + (2 : Int32)) (Z.2.2.1 v0)) (bnd2 (fL_stock N Z v1 (M.1 v0 ((v5 + (1 : Int32))).toNatClampNeg) (M.1 v0 ((v5 + (2 : Int32))).toNatClampNeg) v3 M) (fun r39 M39 => ck (okO Z v2 9) (bnd2 (fX9_stock N Z v2 (M39.1 v0 ((v5 + (1 : Int32))).toNatClampNeg) (M39.1 v0 ((v5 + (2 : Int32))).toNatClampNeg) M39) (fun r41 M41 => bnd2 (fX9_thrown N Z v2 M41) (fun r42 M42 => if r42 = r39 then if r39 = 0 then ck (okO Z v3 22) (ck (inB (0 : Int32) (Z.2.2.1 v3)) (if (lg_cmp (M42.2.1 v3 ((0 : Int32)).toNatClampNeg) ((r41).toInt64)) = 0 then K28 v0 v1 v2 v3 v4 (v5 + (5 : Int32)) M42 else none)) else K28 v0 v1 v2 v3 v4 (v5 + (5 : Int32)) M42 else none)))))))
set_option maxHeartbeats 4000000 in
set_option maxRecDepth 100000 in
theorem tL_law_292 {G : mG} {p : Program} {l : Launch} {e : Env} {s : State} {m : MethodId} {args : Array Value} {below : List Frame} {meth : Method} {c : Code} {Q : State → Prop} {tb : List ExceptionTableEntry} (hend : ∀ (k n : Nat) (L : mL) (Z : mZ) (M : mM), k ≤ KM → n ≤ NMX → JJ G p l e room_1 s m args below meth c 9 Q k n 1877 L [.int 1] Z M) (C : Cx G p l s m args meth c RL cL_law 9 (some .boolean) tb) (N : Nat) (Z : mZ) (K28 : Nat → Nat → Nat → Nat → Nat → Int32 → mM → Option (Int32 × mM)) (fu : Nat) (hK28 : ∀ (v0 : Nat) (v1 : Nat) (v2 : Nat) (v3 : Nat) (v4 : Nat) (v5 : Int32) (M : mM) (r : Int32) (M' : mM), ∀ (kk nn : Nat), kk + fu ≤ KM → nn + 6 * fu ≤ NMX → K28 v0 v1 v2 v3 v4 v5 M = some (r, M') → JJ G p l e room_1 s m args below meth c 9 Q kk nn 28 [(0, .ref v0), (1, .ref v1), (2, .ref v2), (3, .ref v3), (4, .ref v4), (5, .int v5)] [] Z M) : ∀ (v0 : Nat) (v1 : Nat) (v2 : Nat) (v3 : Nat) (v4 : Nat) (v5 : Int32) (M : mM) (r : Int32) (M' : mM), ∀ (kk nn : Nat), kk + (fu + 1) ≤ KM → nn + 6 * (fu + 1) ≤ NMX → fL_law_292 N Z K28 v0 v1 v2 v3 v4 v5 M = some (r, M') → JJ G p l e room_1 s m args below meth c 9 Q kk nn 292 [(0, .ref v0), (1, .ref v1), (2, .ref v2), (3, .ref v3), (4, .ref v4), (5, .int v5)] [] Z M := by
  intro v0 v1 v2 v3 v4 v5 M r M' kk nn hk hn h
  unfold fL_law_292 at h
  refine j_aload_n C dL_law_292 rfl 1 rfl ?_
  refine j_aload_n C dL_law_293 rfl 0 rfl ?_
  refine j_iload C dL_law_294 5 rfl ?_
  refine j_iconst C dL_law_296 (v := (1 : Int32)) (by decide) ?_
  refine j_iadd C dL_law_297 ?_
  obtain ⟨ho36, h⟩ := ck_spec h
  obtain ⟨ho37, h⟩ := ck_spec h
  refine j_iald C ho36 ho37 dL_law_298 ?_
  refine j_aload_n C dL_law_299 rfl 0 rfl ?_
  refine j_iload C dL_law_300 5 rfl ?_
  refine j_iconst C dL_law_302 (v := (2 : Int32)) (by decide) ?_
  refine j_iadd C dL_law_303 ?_
  obtain ⟨ho38, h⟩ := ck_spec h
  refine j_iald C ho36 ho38 dL_law_304 ?_
  refine j_aload_n C dL_law_305 rfl 3 rfl ?_
  obtain ⟨r39, M39, hq39, h⟩ := bnd2_spec h
  refine j_run1 (c_SX C (As := [.ref v1, .int (M.1 v0 ((v5 + (1 : Int32))).toNatClampNeg), .int (M.1 v0 ((v5 + (2 : Int32))).toNatClampNeg), .ref v3]) (rest := []) (ctL_stock C.2.2.2.2.2.2.2.2.1 N Z hq39) kcRL_125 oyL_stock ⟨by decide, by decide⟩ ⟨Nat.le_trans (show kk + 1 ≤ kk + (fu + 1) by omega) hk, Nat.le_trans (show nn + 6 ≤ nn + 6 * (fu + 1) by omega) hn⟩ (Nat.le_of_ble_eq_true rfl) rfl dL_law_306) ?_
  refine j_istore C dL_law_309 (by decide) (L' := [(6, .int r39), (0, .ref v0), (1, .ref v1), (2, .ref v2), (3, .ref v3), (4, .ref v4), (5, .int v5)]) rfl ?_
  refine j_aload_n C dL_law_311 rfl 3 rfl ?_
  refine j_aload_n C dL_law_312 rfl 1 rfl ?_
  refine j_iload C dL_law_313 6 rfl ?_
  refine j_iconst C dL_law_315 (v := (1 : Int32)) (by decide) ?_
  refine j_iadd C dL_law_316 ?_
  refine j_iald C ho36 ho37 dL_law_317 ?_
  refine j_aload_n C dL_law_318 rfl 1 rfl ?_
  refine j_iload C dL_law_319 6 rfl ?_
  refine j_iconst C dL_law_321 (v := (2 : Int32)) (by decide) ?_
  refine j_iadd C dL_law_322 ?_
  refine j_iald C ho36 ho38 dL_law_323 ?_
  obtain ⟨ho40, h⟩ := ck_spec h
  obtain ⟨r41, M41, hq41, h⟩ := bnd2_spec h
  refine j_run1 (c_V C (As := [.int (M39.1 v0 ((v5 + (1 : Int32))).toNatClampNeg), .int (M39.1 v0 ((v5 + (2 : Int32))).toNatClampNeg)]) (rest := []) (ctX9_stock C.2.2.2.2.2.2.2.2.1 N Z hq41) kcRL_127 oyX9_stock (ci := 9) (T := TX9) (N := 23) rfl (by decide) ho40 ⟨by decide, by decide⟩ ⟨Nat.le_trans (show kk + 1 + 0 ≤ kk + (fu + 1) by omega) hk, Nat.le_trans (show nn + 6 + 0 ≤ nn + 6 * (fu + 1) by omega) hn⟩ (Nat.le_of_ble_eq_true rfl) rfl dL_law_324) ?_
  refine j_istore C dL_law_327 (by decide) (L' := [(7, .int r41), (6, .int r39), (0, .ref v0), (1, .ref v1), (2, .ref v2), (3, .ref v3), (4, .ref v4), (5, .int v5)]) rfl ?_
  refine j_aload_n C dL_law_329 rfl 4 rfl ?_
  obtain ⟨r42, M42, hq42, h⟩ := bnd2_spec h
  refine j_run1 (c_V C (As := []) (rest := []) (ctX9_thrown C.2.2.2.2.2.2.2.2.1 N Z hq42) kcRL_118 oyX9_thrown (ci := 9) (T := TX9) (N := 23) rfl (by decide) ho40 ⟨by decide, by decide⟩ ⟨Nat.le_trans (show kk + 1 + 0 + 0 ≤ kk + (fu + 1) by omega) hk, Nat.le_trans (show nn + 6 + 0 + 0 ≤ nn + 6 * (fu + 1) by omega) hn⟩ (Nat.le_of_ble_eq_true rfl) rfl dL_law_330) ?_
  refine j_iload C dL_law_333 1 rfl ?_
  refine j_icmp_eq C dL_law_335 (tgt := 340) (by decide) (fun hc43 => ?_) (fun hc43 => ?_)
  · rw [if_pos hc43] at h
    refine j_iload C dL_law_340 1 rfl ?_
    refine j_if_ne C dL_law_342 (tgt := 357) (by decide) (fun hc44 => ?_) (fun hc44 => ?_)
    · rw [if_neg hc44] at h
      refine j_goto C dL_law_357 (tgt := 1870) (by decide) ?_
      refine j_iinc C dL_law_1870 7 rfl (v := (v5 + (5 : Int32))) (by first | rfl | decide) (by decide) (L' := [(5, .int (v5 + (5 : Int32))), (7, .int r41), (6, .int r39), (0, .ref v0), (1, .ref v1), (2, .ref v2), (3, .ref v3), (4, .ref v4)]) rfl ?_
      refine j_goto C dL_law_1873 (tgt := 28) (by decide) ?_
      refine j_sub (L' := [(0, .ref v0), (1, .ref v1), (2, .ref v2), (3, .ref v3), (4, .ref v4), (5, .int (v5 + (5 : Int32)))]) [3, 4, 5, 6, 7, 0] rfl ?_
      exact hK28 v0 v1 v2 v3 v4 (v5 + (5 : Int32)) M42 r M' _ _ (Nat.le_trans (show kk + 1 + 0 + 0 + fu ≤ kk + (fu + 1) by omega) hk) (Nat.le_trans (show nn + 6 + 0 + 0 + 6 * fu ≤ nn + 6 * (fu + 1) by omega) hn) h
    · rw [if_pos hc44] at h
      refine j_aload_n C dL_law_345 rfl 5 rfl ?_
      refine j_iconst C dL_law_346 (v := (0 : Int32)) (by decide) ?_
      obtain ⟨ho45, h⟩ := ck_spec h
      obtain ⟨ho46, h⟩ := ck_spec h
      refine j_lald C ho45 ho46 dL_law_347 ?_
      refine j_iload C dL_law_348 0 rfl ?_
      refine j_i2l C dL_law_350 ?_
      refine j_lcmp C dL_law_351 ?_
      refine j_if_eq C dL_law_352 (tgt := 357) (by decide) (fun hc47 => ?_) (fun hc47 => ?_)
      · rw [if_pos hc47] at h
        refine j_goto C dL_law_357 (tgt := 1870) (by decide) ?_
        refine j_iinc C dL_law_1870 7 rfl (v := (v5 + (5 : Int32))) (by first | rfl | decide) (by decide) (L' := [(5, .int (v5 + (5 : Int32))), (7, .int r41), (6, .int r39), (0, .ref v0), (1, .ref v1), (2, .ref v2), (3, .ref v3), (4, .ref v4)]) rfl ?_
        refine j_goto C dL_law_1873 (tgt := 28) (by decide) ?_
        refine j_sub (L' := [(0, .ref v0), (1, .ref v1), (2, .ref v2), (3, .ref v3), (4, .ref v4), (5, .int (v5 + (5 : Int32)))]) [3, 4, 5, 6, 7, 0] rfl ?_
        exact hK28 v0 v1 v2 v3 v4 (v5 + (5 : Int32)) M42 r M' _ _ (Nat.le_trans (show kk + 1 + 0 + 0 + fu ≤ kk + (fu + 1) by omega) hk) (Nat.le_trans (show nn + 6 + 0 + 0 + 6 * fu ≤ nn + 6 * (fu + 1) by omega) hn) h
      · rw [if_neg hc47] at h
        refine j_iconst C dL_law_355 (v := (0 : Int32)) (by decide) ?_
        cases h
  · rw [if_neg hc43] at h
    refine j_iconst C dL_law_338 (v := (0 : Int32)) (by decide) ?_
    cases h
def fL_law_360 (N : Nat) (Z : mZ) (K28 : Nat → Nat → Nat → Nat → Nat → Int32 → mM → Option (Int32 × mM)) (v0 : Nat) (v1 : Nat) (v2 : Nat) (v3 : Nat) (v4 : Nat) (v5 : Int32) (M : mM) : Option (Int32 × mM) := ck (okI Z v0) (ck (inB (v5 + (1 : Int32)) (Z.2.2.1 v0)) (bnd2 (fL_erect N Z v1 (M.1 v0 ((v5 + (1 : Int32))).toNatClampNeg) v3 M) (fun r51 M51 => ck (okO Z v2 9) (bnd2 (fX9_erect N Z v2 (M51.1 v0 ((v5 + (1 : Int32))).toNatClampNeg) M51) (fun r53 M53 => bnd2 (fX9_thrown N Z v2 M53) (fun r54 M54 => if r54 = r51 then if r51 = 0 then ck (okO Z v3 22) (ck (inB (0 : Int32) (Z.2.2.1 v3)) (if (lg_cmp (M54.2.1 v3 ((0 : Int32)).toNatClampNeg) ((r53).toInt64)) = 0 then K28 v0 v1 v2 v3 v4 (v5 + (5 : Int32)) M54 else none)) else K28 v0 v1 v2 v3 v4 (v5 + (5 : Int32)) M54 else none))))))
set_option maxHeartbeats 4000000 in
set_option maxRecDepth 100000 in
theorem tL_law_360 {G : mG} {p : Program} {l : Launch} {e : Env} {s : State} {m : MethodId} {args : Array Value} {below : List Frame} {meth : Method} {c : Code} {Q : State → Prop} {tb : List ExceptionTableEntry} (hend : ∀ (k n : Nat) (L : mL) (Z : mZ) (M : mM), k ≤ KM → n ≤ NMX → JJ G p l e room_1 s m args below meth c 9 Q k n 1877 L [.int 1] Z M) (C : Cx G p l s m args meth c RL cL_law 9 (some .boolean) tb) (N : Nat) (Z : mZ) (K28 : Nat → Nat → Nat → Nat → Nat → Int32 → mM → Option (Int32 × mM)) (fu : Nat) (hK28 : ∀ (v0 : Nat) (v1 : Nat) (v2 : Nat) (v3 : Nat) (v4 : Nat) (v5 : Int32) (M : mM) (r : Int32) (M' : mM), ∀ (kk nn : Nat), kk + fu ≤ KM → nn + 6 * fu ≤ NMX → K28 v0 v1 v2 v3 v4 v5 M = some (r, M') → JJ G p l e room_1 s m args below meth c 9 Q kk nn 28 [(0, .ref v0), (1, .ref v1), (2, .ref v2), (3, .ref v3), (4, .ref v4), (5, .int v5)] [] Z M) : ∀ (v0 : Nat) (v1 : Nat) (v2 : Nat) (v3 : Nat) (v4 : Nat) (v5 : Int32) (M : mM) (r : Int32) (M' : mM), ∀ (kk nn : Nat), kk + (fu + 1) ≤ KM → nn + 6 * (fu + 1) ≤ NMX → fL_law_360 N Z K28 v0 v1 v2 v3 v4 v5 M = some (r, M') → JJ G p l e room_1 s m args below meth c 9 Q kk nn 360 [(0, .ref v0), (1, .ref v1), (2, .ref v2), (3, .ref v3), (4, .ref v4), (5, .int v5)] [] Z M := by
  intro v0 v1 v2 v3 v4 v5 M r M' kk nn hk hn h
  unfold fL_law_360 at h
  refine j_aload_n C dL_law_360 rfl 1 rfl ?_
  refine j_aload_n C dL_law_361 rfl 0 rfl ?_
  refine j_iload C dL_law_362 5 rfl ?_
  refine j_iconst C dL_law_364 (v := (1 : Int32)) (by decide) ?_
  refine j_iadd C dL_law_365 ?_
  obtain ⟨ho49, h⟩ := ck_spec h
  obtain ⟨ho50, h⟩ := ck_spec h
  refine j_iald C ho49 ho50 dL_law_366 ?_
  refine j_aload_n C dL_law_367 rfl 3 rfl ?_
  obtain ⟨r51, M51, hq51, h⟩ := bnd2_spec h
  refine j_run1 (c_SX C (As := [.ref v1, .int (M.1 v0 ((v5 + (1 : Int32))).toNatClampNeg), .ref v3]) (rest := []) (ctL_erect C.2.2.2.2.2.2.2.2.1 N Z hq51) kcRL_128 oyL_erect ⟨by decide, by decide⟩ ⟨Nat.le_trans (show kk + 1 ≤ kk + (fu + 1) by omega) hk, Nat.le_trans (show nn + 6 ≤ nn + 6 * (fu + 1) by omega) hn⟩ (Nat.le_of_ble_eq_true rfl) rfl dL_law_368) ?_
  refine j_istore C dL_law_371 (by decide) (L' := [(6, .int r51), (0, .ref v0), (1, .ref v1), (2, .ref v2), (3, .ref v3), (4, .ref v4), (5, .int v5)]) rfl ?_
  refine j_aload_n C dL_law_373 rfl 3 rfl ?_
  refine j_aload_n C dL_law_374 rfl 1 rfl ?_
  refine j_iload C dL_law_375 6 rfl ?_
  refine j_iconst C dL_law_377 (v := (1 : Int32)) (by decide) ?_
  refine j_iadd C dL_law_378 ?_
  refine j_iald C ho49 ho50 dL_law_379 ?_
  obtain ⟨ho52, h⟩ := ck_spec h
  obtain ⟨r53, M53, hq53, h⟩ := bnd2_spec h
  refine j_run1 (c_V C (As := [.int (M51.1 v0 ((v5 + (1 : Int32))).toNatClampNeg)]) (rest := []) (ctX9_erect C.2.2.2.2.2.2.2.2.1 N Z hq53) kcRL_130 oyX9_erect (ci := 9) (T := TX9) (N := 23) rfl (by decide) ho52 ⟨by decide, by decide⟩ ⟨Nat.le_trans (show kk + 1 + 0 ≤ kk + (fu + 1) by omega) hk, Nat.le_trans (show nn + 6 + 0 ≤ nn + 6 * (fu + 1) by omega) hn⟩ (Nat.le_of_ble_eq_true rfl) rfl dL_law_380) ?_
  refine j_istore C dL_law_383 (by decide) (L' := [(7, .int r53), (6, .int r51), (0, .ref v0), (1, .ref v1), (2, .ref v2), (3, .ref v3), (4, .ref v4), (5, .int v5)]) rfl ?_
  refine j_aload_n C dL_law_385 rfl 4 rfl ?_
  obtain ⟨r54, M54, hq54, h⟩ := bnd2_spec h
  refine j_run1 (c_V C (As := []) (rest := []) (ctX9_thrown C.2.2.2.2.2.2.2.2.1 N Z hq54) kcRL_118 oyX9_thrown (ci := 9) (T := TX9) (N := 23) rfl (by decide) ho52 ⟨by decide, by decide⟩ ⟨Nat.le_trans (show kk + 1 + 0 + 0 ≤ kk + (fu + 1) by omega) hk, Nat.le_trans (show nn + 6 + 0 + 0 ≤ nn + 6 * (fu + 1) by omega) hn⟩ (Nat.le_of_ble_eq_true rfl) rfl dL_law_386) ?_
  refine j_iload C dL_law_389 1 rfl ?_
  refine j_icmp_eq C dL_law_391 (tgt := 396) (by decide) (fun hc55 => ?_) (fun hc55 => ?_)
  · rw [if_pos hc55] at h
    refine j_iload C dL_law_396 1 rfl ?_
    refine j_if_ne C dL_law_398 (tgt := 413) (by decide) (fun hc56 => ?_) (fun hc56 => ?_)
    · rw [if_neg hc56] at h
      refine j_goto C dL_law_413 (tgt := 1870) (by decide) ?_
      refine j_iinc C dL_law_1870 7 rfl (v := (v5 + (5 : Int32))) (by first | rfl | decide) (by decide) (L' := [(5, .int (v5 + (5 : Int32))), (7, .int r53), (6, .int r51), (0, .ref v0), (1, .ref v1), (2, .ref v2), (3, .ref v3), (4, .ref v4)]) rfl ?_
      refine j_goto C dL_law_1873 (tgt := 28) (by decide) ?_
      refine j_sub (L' := [(0, .ref v0), (1, .ref v1), (2, .ref v2), (3, .ref v3), (4, .ref v4), (5, .int (v5 + (5 : Int32)))]) [3, 4, 5, 6, 7, 0] rfl ?_
      exact hK28 v0 v1 v2 v3 v4 (v5 + (5 : Int32)) M54 r M' _ _ (Nat.le_trans (show kk + 1 + 0 + 0 + fu ≤ kk + (fu + 1) by omega) hk) (Nat.le_trans (show nn + 6 + 0 + 0 + 6 * fu ≤ nn + 6 * (fu + 1) by omega) hn) h
    · rw [if_pos hc56] at h
      refine j_aload_n C dL_law_401 rfl 5 rfl ?_
      refine j_iconst C dL_law_402 (v := (0 : Int32)) (by decide) ?_
      obtain ⟨ho57, h⟩ := ck_spec h
      obtain ⟨ho58, h⟩ := ck_spec h
      refine j_lald C ho57 ho58 dL_law_403 ?_
      refine j_iload C dL_law_404 0 rfl ?_
      refine j_i2l C dL_law_406 ?_
      refine j_lcmp C dL_law_407 ?_
      refine j_if_eq C dL_law_408 (tgt := 413) (by decide) (fun hc59 => ?_) (fun hc59 => ?_)
      · rw [if_pos hc59] at h
        refine j_goto C dL_law_413 (tgt := 1870) (by decide) ?_
        refine j_iinc C dL_law_1870 7 rfl (v := (v5 + (5 : Int32))) (by first | rfl | decide) (by decide) (L' := [(5, .int (v5 + (5 : Int32))), (7, .int r53), (6, .int r51), (0, .ref v0), (1, .ref v1), (2, .ref v2), (3, .ref v3), (4, .ref v4)]) rfl ?_
        refine j_goto C dL_law_1873 (tgt := 28) (by decide) ?_
        refine j_sub (L' := [(0, .ref v0), (1, .ref v1), (2, .ref v2), (3, .ref v3), (4, .ref v4), (5, .int (v5 + (5 : Int32)))]) [3, 4, 5, 6, 7, 0] rfl ?_
        exact hK28 v0 v1 v2 v3 v4 (v5 + (5 : Int32)) M54 r M' _ _ (Nat.le_trans (show kk + 1 + 0 + 0 + fu ≤ kk + (fu + 1) by omega) hk) (Nat.le_trans (show nn + 6 + 0 + 0 + 6 * fu ≤ nn + 6 * (fu + 1) by omega) hn) h
      · rw [if_neg hc59] at h
        refine j_iconst C dL_law_411 (v := (0 : Int32)) (by decide) ?_
        cases h
  · rw [if_neg hc55] at h
    refine j_iconst C dL_law_394 (v := (0 : Int32)) (by decide) ?_
    cases h
def fL_law_416 (N : Nat) (Z : mZ) (K28 : Nat → Nat → Nat → Nat → Nat → Int32 → mM → Option (Int32 × mM)) (v0 : Nat) (v1 : Nat) (v2 : Nat) (v3 : Nat) (v4 : Nat) (v5 : Int32) (M : mM) : Option (Int32 × mM) := ck (okI Z v0) (ck (inB (v5 + (1 : Int32)) (Z.2.2.1 v0)) (bnd2 (fL_lower N Z v1 (M.1 v0 ((v5 + (1 : Int32))).toNatClampNeg) v3 M) (fun r63 M63 => ck (okO Z v2 9) (bnd2 (fX9_lower N Z v2 (M63.1 v0 ((v5 + (1 : Int32))).toNatClampNeg) M63) (fun r65 M65 => bnd2 (fX9_thrown N Z v2 M65) (fun r66 M66 => if r66 = r63 then if r63 = 0 then ck (okO Z v3 22) (ck (inB (0 : Int32) (Z.2.2.1 v3)) (if (lg_cmp (M66.2.1 v3 ((0 : Int32)).toNatClampNeg) ((r65).toInt64)) = 0 then K28 v0 v1 v2 v3 v4 (v5 + (5 : Int32)) M66 else none)) else K28 v0 v1 v2 v3 v4 (v5 + (5 : Int32)) M66 else none))))))
set_option maxHeartbeats 4000000 in
set_option maxRecDepth 100000 in
theorem tL_law_416 {G : mG} {p : Program} {l : Launch} {e : Env} {s : State} {m : MethodId} {args : Array Value} {below : List Frame} {meth : Method} {c : Code} {Q : State → Prop} {tb : List ExceptionTableEntry} (hend : ∀ (k n : Nat) (L : mL) (Z : mZ) (M : mM), k ≤ KM → n ≤ NMX → JJ G p l e room_1 s m args below meth c 9 Q k n 1877 L [.int 1] Z M) (C : Cx G p l s m args meth c RL cL_law 9 (some .boolean) tb) (N : Nat) (Z : mZ) (K28 : Nat → Nat → Nat → Nat → Nat → Int32 → mM → Option (Int32 × mM)) (fu : Nat) (hK28 : ∀ (v0 : Nat) (v1 : Nat) (v2 : Nat) (v3 : Nat) (v4 : Nat) (v5 : Int32) (M : mM) (r : Int32) (M' : mM), ∀ (kk nn : Nat), kk + fu ≤ KM → nn + 6 * fu ≤ NMX → K28 v0 v1 v2 v3 v4 v5 M = some (r, M') → JJ G p l e room_1 s m args below meth c 9 Q kk nn 28 [(0, .ref v0), (1, .ref v1), (2, .ref v2), (3, .ref v3), (4, .ref v4), (5, .int v5)] [] Z M) : ∀ (v0 : Nat) (v1 : Nat) (v2 : Nat) (v3 : Nat) (v4 : Nat) (v5 : Int32) (M : mM) (r : Int32) (M' : mM), ∀ (kk nn : Nat), kk + (fu + 1) ≤ KM → nn + 6 * (fu + 1) ≤ NMX → fL_law_416 N Z K28 v0 v1 v2 v3 v4 v5 M = some (r, M') → JJ G p l e room_1 s m args below meth c 9 Q kk nn 416 [(0, .ref v0), (1, .ref v1), (2, .ref v2), (3, .ref v3), (4, .ref v4), (5, .int v5)] [] Z M := by
  intro v0 v1 v2 v3 v4 v5 M r M' kk nn hk hn h
  unfold fL_law_416 at h
  refine j_aload_n C dL_law_416 rfl 1 rfl ?_
  refine j_aload_n C dL_law_417 rfl 0 rfl ?_
  refine j_iload C dL_law_418 5 rfl ?_
  refine j_iconst C dL_law_420 (v := (1 : Int32)) (by decide) ?_
  refine j_iadd C dL_law_421 ?_
  obtain ⟨ho61, h⟩ := ck_spec h
  obtain ⟨ho62, h⟩ := ck_spec h
  refine j_iald C ho61 ho62 dL_law_422 ?_
  refine j_aload_n C dL_law_423 rfl 3 rfl ?_
  obtain ⟨r63, M63, hq63, h⟩ := bnd2_spec h
  refine j_run1 (c_SX C (As := [.ref v1, .int (M.1 v0 ((v5 + (1 : Int32))).toNatClampNeg), .ref v3]) (rest := []) (ctL_lower C.2.2.2.2.2.2.2.2.1 N Z hq63) kcRL_131 oyL_lower ⟨by decide, by decide⟩ ⟨Nat.le_trans (show kk + 1 ≤ kk + (fu + 1) by omega) hk, Nat.le_trans (show nn + 6 ≤ nn + 6 * (fu + 1) by omega) hn⟩ (Nat.le_of_ble_eq_true rfl) rfl dL_law_424) ?_
  refine j_istore C dL_law_427 (by decide) (L' := [(6, .int r63), (0, .ref v0), (1, .ref v1), (2, .ref v2), (3, .ref v3), (4, .ref v4), (5, .int v5)]) rfl ?_
  refine j_aload_n C dL_law_429 rfl 3 rfl ?_
  refine j_aload_n C dL_law_430 rfl 1 rfl ?_
  refine j_iload C dL_law_431 6 rfl ?_
  refine j_iconst C dL_law_433 (v := (1 : Int32)) (by decide) ?_
  refine j_iadd C dL_law_434 ?_
  refine j_iald C ho61 ho62 dL_law_435 ?_
  obtain ⟨ho64, h⟩ := ck_spec h
  obtain ⟨r65, M65, hq65, h⟩ := bnd2_spec h
  refine j_run1 (c_V C (As := [.int (M63.1 v0 ((v5 + (1 : Int32))).toNatClampNeg)]) (rest := []) (ctX9_lower C.2.2.2.2.2.2.2.2.1 N Z hq65) kcRL_133 oyX9_lower (ci := 9) (T := TX9) (N := 23) rfl (by decide) ho64 ⟨by decide, by decide⟩ ⟨Nat.le_trans (show kk + 1 + 0 ≤ kk + (fu + 1) by omega) hk, Nat.le_trans (show nn + 6 + 0 ≤ nn + 6 * (fu + 1) by omega) hn⟩ (Nat.le_of_ble_eq_true rfl) rfl dL_law_436) ?_
  refine j_istore C dL_law_439 (by decide) (L' := [(7, .int r65), (6, .int r63), (0, .ref v0), (1, .ref v1), (2, .ref v2), (3, .ref v3), (4, .ref v4), (5, .int v5)]) rfl ?_
  refine j_aload_n C dL_law_441 rfl 4 rfl ?_
  obtain ⟨r66, M66, hq66, h⟩ := bnd2_spec h
  refine j_run1 (c_V C (As := []) (rest := []) (ctX9_thrown C.2.2.2.2.2.2.2.2.1 N Z hq66) kcRL_118 oyX9_thrown (ci := 9) (T := TX9) (N := 23) rfl (by decide) ho64 ⟨by decide, by decide⟩ ⟨Nat.le_trans (show kk + 1 + 0 + 0 ≤ kk + (fu + 1) by omega) hk, Nat.le_trans (show nn + 6 + 0 + 0 ≤ nn + 6 * (fu + 1) by omega) hn⟩ (Nat.le_of_ble_eq_true rfl) rfl dL_law_442) ?_
  refine j_iload C dL_law_445 1 rfl ?_
  refine j_icmp_eq C dL_law_447 (tgt := 452) (by decide) (fun hc67 => ?_) (fun hc67 => ?_)
  · rw [if_pos hc67] at h
    refine j_iload C dL_law_452 1 rfl ?_
    refine j_if_ne C dL_law_454 (tgt := 469) (by decide) (fun hc68 => ?_) (fun hc68 => ?_)
    · rw [if_neg hc68] at h
      refine j_goto C dL_law_469 (tgt := 1870) (by decide) ?_
      refine j_iinc C dL_law_1870 7 rfl (v := (v5 + (5 : Int32))) (by first | rfl | decide) (by decide) (L' := [(5, .int (v5 + (5 : Int32))), (7, .int r65), (6, .int r63), (0, .ref v0), (1, .ref v1), (2, .ref v2), (3, .ref v3), (4, .ref v4)]) rfl ?_
      refine j_goto C dL_law_1873 (tgt := 28) (by decide) ?_
      refine j_sub (L' := [(0, .ref v0), (1, .ref v1), (2, .ref v2), (3, .ref v3), (4, .ref v4), (5, .int (v5 + (5 : Int32)))]) [3, 4, 5, 6, 7, 0] rfl ?_
      exact hK28 v0 v1 v2 v3 v4 (v5 + (5 : Int32)) M66 r M' _ _ (Nat.le_trans (show kk + 1 + 0 + 0 + fu ≤ kk + (fu + 1) by omega) hk) (Nat.le_trans (show nn + 6 + 0 + 0 + 6 * fu ≤ nn + 6 * (fu + 1) by omega) hn) h
    · rw [if_pos hc68] at h
      refine j_aload_n C dL_law_457 rfl 5 rfl ?_
      refine j_iconst C dL_law_458 (v := (0 : Int32)) (by decide) ?_
      obtain ⟨ho69, h⟩ := ck_spec h
      obtain ⟨ho70, h⟩ := ck_spec h
      refine j_lald C ho69 ho70 dL_law_459 ?_
      refine j_iload C dL_law_460 0 rfl ?_
      refine j_i2l C dL_law_462 ?_
      refine j_lcmp C dL_law_463 ?_
      refine j_if_eq C dL_law_464 (tgt := 469) (by decide) (fun hc71 => ?_) (fun hc71 => ?_)
      · rw [if_pos hc71] at h
        refine j_goto C dL_law_469 (tgt := 1870) (by decide) ?_
        refine j_iinc C dL_law_1870 7 rfl (v := (v5 + (5 : Int32))) (by first | rfl | decide) (by decide) (L' := [(5, .int (v5 + (5 : Int32))), (7, .int r65), (6, .int r63), (0, .ref v0), (1, .ref v1), (2, .ref v2), (3, .ref v3), (4, .ref v4)]) rfl ?_
        refine j_goto C dL_law_1873 (tgt := 28) (by decide) ?_
        refine j_sub (L' := [(0, .ref v0), (1, .ref v1), (2, .ref v2), (3, .ref v3), (4, .ref v4), (5, .int (v5 + (5 : Int32)))]) [3, 4, 5, 6, 7, 0] rfl ?_
        exact hK28 v0 v1 v2 v3 v4 (v5 + (5 : Int32)) M66 r M' _ _ (Nat.le_trans (show kk + 1 + 0 + 0 + fu ≤ kk + (fu + 1) by omega) hk) (Nat.le_trans (show nn + 6 + 0 + 0 + 6 * fu ≤ nn + 6 * (fu + 1) by omega) hn) h
      · rw [if_neg hc71] at h
        refine j_iconst C dL_law_467 (v := (0 : Int32)) (by decide) ?_
        cases h
  · rw [if_neg hc67] at h
    refine j_iconst C dL_law_450 (v := (0 : Int32)) (by decide) ?_
    cases h
def fL_law_472 (N : Nat) (Z : mZ) (K28 : Nat → Nat → Nat → Nat → Nat → Int32 → mM → Option (Int32 × mM)) (v0 : Nat) (v1 : Nat) (v2 : Nat) (v3 : Nat) (v4 : Nat) (v5 : Int32) (M : mM) : Option (Int32 × mM) := ck (okI Z v0) (ck (inB (v5 + (1 : Int32)) (Z.2.2.1 v0)) (ck (inB (v5 + (2 : Int32)) (Z.2.2.1 v0)) (ck (inB (v5 + (3 : Int32)) (Z.2.2.1 v0)) (bnd2 (fL_deck N Z v1 (M.1 v0 ((v5 + (1 : Int32))).toNatClampNeg) (M.1 v0 ((v5 + (2 : Int32))).toNatClampNeg) (M.1 v0 ((v5 + (3 : Int32))).toNatClampNeg) v3 M) (fun r77 M77 => ck (okO Z v2 9) (bnd2 (fX9_deck N Z v2 (M77.1 v0 ((v5 + (1 : Int32))).toNatClampNeg) (M77.1 v0 ((v5 + (2 : Int32))).toNatClampNeg) (M77.1 v0 ((v5 + (3 : Int32))).toNatClampNeg) M77) (fun r79 M79 => bnd2 (fX9_thrown N Z v2 M79) (fun r80 M80 => if r80 = r77 then if r77 = 0 then ck (okO Z v3 22) (ck (inB (0 : Int32) (Z.2.2.1 v3)) (if (lg_cmp (M80.2.1 v3 ((0 : Int32)).toNatClampNeg) ((r79).toInt64)) = 0 then K28 v0 v1 v2 v3 v4 (v5 + (5 : Int32)) M80 else none)) else K28 v0 v1 v2 v3 v4 (v5 + (5 : Int32)) M80 else none))))))))
set_option maxHeartbeats 4000000 in
set_option maxRecDepth 100000 in
theorem tL_law_472 {G : mG} {p : Program} {l : Launch} {e : Env} {s : State} {m : MethodId} {args : Array Value} {below : List Frame} {meth : Method} {c : Code} {Q : State → Prop} {tb : List ExceptionTableEntry} (hend : ∀ (k n : Nat) (L : mL) (Z : mZ) (M : mM), k ≤ KM → n ≤ NMX → JJ G p l e room_1 s m args below meth c 9 Q k n 1877 L [.int 1] Z M) (C : Cx G p l s m args meth c RL cL_law 9 (some .boolean) tb) (N : Nat) (Z : mZ) (K28 : Nat → Nat → Nat → Nat → Nat → Int32 → mM → Option (Int32 × mM)) (fu : Nat) (hK28 : ∀ (v0 : Nat) (v1 : Nat) (v2 : Nat) (v3 : Nat) (v4 : Nat) (v5 : Int32) (M : mM) (r : Int32) (M' : mM), ∀ (kk nn : Nat), kk + fu ≤ KM → nn + 6 * fu ≤ NMX → K28 v0 v1 v2 v3 v4 v5 M = some (r, M') → JJ G p l e room_1 s m args below meth c 9 Q kk nn 28 [(0, .ref v0), (1, .ref v1), (2, .ref v2), (3, .ref v3), (4, .ref v4), (5, .int v5)] [] Z M) : ∀ (v0 : Nat) (v1 : Nat) (v2 : Nat) (v3 : Nat) (v4 : Nat) (v5 : Int32) (M : mM) (r : Int32) (M' : mM), ∀ (kk nn : Nat), kk + (fu + 1) ≤ KM → nn + 6 * (fu + 1) ≤ NMX → fL_law_472 N Z K28 v0 v1 v2 v3 v4 v5 M = some (r, M') → JJ G p l e room_1 s m args below meth c 9 Q kk nn 472 [(0, .ref v0), (1, .ref v1), (2, .ref v2), (3, .ref v3), (4, .ref v4), (5, .int v5)] [] Z M := by
  intro v0 v1 v2 v3 v4 v5 M r M' kk nn hk hn h
  unfold fL_law_472 at h
  refine j_aload_n C dL_law_472 rfl 1 rfl ?_
  refine j_aload_n C dL_law_473 rfl 0 rfl ?_
  refine j_iload C dL_law_474 5 rfl ?_
  refine j_iconst C dL_law_476 (v := (1 : Int32)) (by decide) ?_
  refine j_iadd C dL_law_477 ?_
  obtain ⟨ho73, h⟩ := ck_spec h
  obtain ⟨ho74, h⟩ := ck_spec h
  refine j_iald C ho73 ho74 dL_law_478 ?_
  refine j_aload_n C dL_law_479 rfl 0 rfl ?_
  refine j_iload C dL_law_480 5 rfl ?_
  refine j_iconst C dL_law_482 (v := (2 : Int32)) (by decide) ?_
  refine j_iadd C dL_law_483 ?_
  obtain ⟨ho75, h⟩ := ck_spec h
  refine j_iald C ho73 ho75 dL_law_484 ?_
  refine j_aload_n C dL_law_485 rfl 0 rfl ?_
  refine j_iload C dL_law_486 5 rfl ?_
  refine j_iconst C dL_law_488 (v := (3 : Int32)) (by decide) ?_
  refine j_iadd C dL_law_489 ?_
  obtain ⟨ho76, h⟩ := ck_spec h
  refine j_iald C ho73 ho76 dL_law_490 ?_
  refine j_aload_n C dL_law_491 rfl 3 rfl ?_
  obtain ⟨r77, M77, hq77, h⟩ := bnd2_spec h
  refine j_run1 (c_SX C (As := [.ref v1, .int (M.1 v0 ((v5 + (1 : Int32))).toNatClampNeg), .int (M.1 v0 ((v5 + (2 : Int32))).toNatClampNeg), .int (M.1 v0 ((v5 + (3 : Int32))).toNatClampNeg), .ref v3]) (rest := []) (ctL_deck C.2.2.2.2.2.2.2.2.1 N Z hq77) kcRL_134 oyL_deck ⟨by decide, by decide⟩ ⟨Nat.le_trans (show kk + 1 ≤ kk + (fu + 1) by omega) hk, Nat.le_trans (show nn + 6 ≤ nn + 6 * (fu + 1) by omega) hn⟩ (Nat.le_of_ble_eq_true rfl) rfl dL_law_492) ?_
  refine j_istore C dL_law_495 (by decide) (L' := [(6, .int r77), (0, .ref v0), (1, .ref v1), (2, .ref v2), (3, .ref v3), (4, .ref v4), (5, .int v5)]) rfl ?_
  refine j_aload_n C dL_law_497 rfl 3 rfl ?_
  refine j_aload_n C dL_law_498 rfl 1 rfl ?_
  refine j_iload C dL_law_499 6 rfl ?_
  refine j_iconst C dL_law_501 (v := (1 : Int32)) (by decide) ?_
  refine j_iadd C dL_law_502 ?_
  refine j_iald C ho73 ho74 dL_law_503 ?_
  refine j_aload_n C dL_law_504 rfl 1 rfl ?_
  refine j_iload C dL_law_505 6 rfl ?_
  refine j_iconst C dL_law_507 (v := (2 : Int32)) (by decide) ?_
  refine j_iadd C dL_law_508 ?_
  refine j_iald C ho73 ho75 dL_law_509 ?_
  refine j_aload_n C dL_law_510 rfl 1 rfl ?_
  refine j_iload C dL_law_511 6 rfl ?_
  refine j_iconst C dL_law_513 (v := (3 : Int32)) (by decide) ?_
  refine j_iadd C dL_law_514 ?_
  refine j_iald C ho73 ho76 dL_law_515 ?_
  obtain ⟨ho78, h⟩ := ck_spec h
  obtain ⟨r79, M79, hq79, h⟩ := bnd2_spec h
  refine j_run1 (c_V C (As := [.int (M77.1 v0 ((v5 + (1 : Int32))).toNatClampNeg), .int (M77.1 v0 ((v5 + (2 : Int32))).toNatClampNeg), .int (M77.1 v0 ((v5 + (3 : Int32))).toNatClampNeg)]) (rest := []) (ctX9_deck C.2.2.2.2.2.2.2.2.1 N Z hq79) kcRL_137 oyX9_deck (ci := 9) (T := TX9) (N := 23) rfl (by decide) ho78 ⟨by decide, by decide⟩ ⟨Nat.le_trans (show kk + 1 + 0 ≤ kk + (fu + 1) by omega) hk, Nat.le_trans (show nn + 6 + 0 ≤ nn + 6 * (fu + 1) by omega) hn⟩ (Nat.le_of_ble_eq_true rfl) rfl dL_law_516) ?_
  refine j_istore C dL_law_519 (by decide) (L' := [(7, .int r79), (6, .int r77), (0, .ref v0), (1, .ref v1), (2, .ref v2), (3, .ref v3), (4, .ref v4), (5, .int v5)]) rfl ?_
  refine j_aload_n C dL_law_521 rfl 4 rfl ?_
  obtain ⟨r80, M80, hq80, h⟩ := bnd2_spec h
  refine j_run1 (c_V C (As := []) (rest := []) (ctX9_thrown C.2.2.2.2.2.2.2.2.1 N Z hq80) kcRL_118 oyX9_thrown (ci := 9) (T := TX9) (N := 23) rfl (by decide) ho78 ⟨by decide, by decide⟩ ⟨Nat.le_trans (show kk + 1 + 0 + 0 ≤ kk + (fu + 1) by omega) hk, Nat.le_trans (show nn + 6 + 0 + 0 ≤ nn + 6 * (fu + 1) by omega) hn⟩ (Nat.le_of_ble_eq_true rfl) rfl dL_law_522) ?_
  refine j_iload C dL_law_525 1 rfl ?_
  refine j_icmp_eq C dL_law_527 (tgt := 532) (by decide) (fun hc81 => ?_) (fun hc81 => ?_)
  · rw [if_pos hc81] at h
    refine j_iload C dL_law_532 1 rfl ?_
    refine j_if_ne C dL_law_534 (tgt := 549) (by decide) (fun hc82 => ?_) (fun hc82 => ?_)
    · rw [if_neg hc82] at h
      refine j_goto C dL_law_549 (tgt := 1870) (by decide) ?_
      refine j_iinc C dL_law_1870 7 rfl (v := (v5 + (5 : Int32))) (by first | rfl | decide) (by decide) (L' := [(5, .int (v5 + (5 : Int32))), (7, .int r79), (6, .int r77), (0, .ref v0), (1, .ref v1), (2, .ref v2), (3, .ref v3), (4, .ref v4)]) rfl ?_
      refine j_goto C dL_law_1873 (tgt := 28) (by decide) ?_
      refine j_sub (L' := [(0, .ref v0), (1, .ref v1), (2, .ref v2), (3, .ref v3), (4, .ref v4), (5, .int (v5 + (5 : Int32)))]) [3, 4, 5, 6, 7, 0] rfl ?_
      exact hK28 v0 v1 v2 v3 v4 (v5 + (5 : Int32)) M80 r M' _ _ (Nat.le_trans (show kk + 1 + 0 + 0 + fu ≤ kk + (fu + 1) by omega) hk) (Nat.le_trans (show nn + 6 + 0 + 0 + 6 * fu ≤ nn + 6 * (fu + 1) by omega) hn) h
    · rw [if_pos hc82] at h
      refine j_aload_n C dL_law_537 rfl 5 rfl ?_
      refine j_iconst C dL_law_538 (v := (0 : Int32)) (by decide) ?_
      obtain ⟨ho83, h⟩ := ck_spec h
      obtain ⟨ho84, h⟩ := ck_spec h
      refine j_lald C ho83 ho84 dL_law_539 ?_
      refine j_iload C dL_law_540 0 rfl ?_
      refine j_i2l C dL_law_542 ?_
      refine j_lcmp C dL_law_543 ?_
      refine j_if_eq C dL_law_544 (tgt := 549) (by decide) (fun hc85 => ?_) (fun hc85 => ?_)
      · rw [if_pos hc85] at h
        refine j_goto C dL_law_549 (tgt := 1870) (by decide) ?_
        refine j_iinc C dL_law_1870 7 rfl (v := (v5 + (5 : Int32))) (by first | rfl | decide) (by decide) (L' := [(5, .int (v5 + (5 : Int32))), (7, .int r79), (6, .int r77), (0, .ref v0), (1, .ref v1), (2, .ref v2), (3, .ref v3), (4, .ref v4)]) rfl ?_
        refine j_goto C dL_law_1873 (tgt := 28) (by decide) ?_
        refine j_sub (L' := [(0, .ref v0), (1, .ref v1), (2, .ref v2), (3, .ref v3), (4, .ref v4), (5, .int (v5 + (5 : Int32)))]) [3, 4, 5, 6, 7, 0] rfl ?_
        exact hK28 v0 v1 v2 v3 v4 (v5 + (5 : Int32)) M80 r M' _ _ (Nat.le_trans (show kk + 1 + 0 + 0 + fu ≤ kk + (fu + 1) by omega) hk) (Nat.le_trans (show nn + 6 + 0 + 0 + 6 * fu ≤ nn + 6 * (fu + 1) by omega) hn) h
      · rw [if_neg hc85] at h
        refine j_iconst C dL_law_547 (v := (0 : Int32)) (by decide) ?_
        cases h
  · rw [if_neg hc81] at h
    refine j_iconst C dL_law_530 (v := (0 : Int32)) (by decide) ?_
    cases h
def fL_law_552 (N : Nat) (Z : mZ) (K28 : Nat → Nat → Nat → Nat → Nat → Int32 → mM → Option (Int32 × mM)) (v0 : Nat) (v1 : Nat) (v2 : Nat) (v3 : Nat) (v4 : Nat) (v5 : Int32) (M : mM) : Option (Int32 × mM) := ck (okI Z v0) (ck (inB (v5 + (1 : Int32)) (Z.2.2.1 v0)) (ck (inB (v5 + (2 : Int32)) (Z.2.2.1 v0)) (ck (inB (v5 + (3 : Int32)) (Z.2.2.1 v0)) (bnd2 (fL_put N Z v1 (M.1 v0 ((v5 + (1 : Int32))).toNatClampNeg) (M.1 v0 ((v5 + (2 : Int32))).toNatClampNeg) (M.1 v0 ((v5 + (3 : Int32))).toNatClampNeg) v3 M) (fun r91 M91 => ck (okO Z v2 9) (bnd2 (fX9_put N Z v2 (M91.1 v0 ((v5 + (1 : Int32))).toNatClampNeg) (M91.1 v0 ((v5 + (2 : Int32))).toNatClampNeg) (M91.1 v0 ((v5 + (3 : Int32))).toNatClampNeg) M91) (fun r93 M93 => bnd2 (fX9_thrown N Z v2 M93) (fun r94 M94 => if r94 = r91 then if r91 = 0 then ck (okO Z v3 22) (ck (inB (0 : Int32) (Z.2.2.1 v3)) (if (lg_cmp (M94.2.1 v3 ((0 : Int32)).toNatClampNeg) ((r93).toInt64)) = 0 then K28 v0 v1 v2 v3 v4 (v5 + (5 : Int32)) M94 else none)) else K28 v0 v1 v2 v3 v4 (v5 + (5 : Int32)) M94 else none))))))))
set_option maxHeartbeats 4000000 in
set_option maxRecDepth 100000 in
theorem tL_law_552 {G : mG} {p : Program} {l : Launch} {e : Env} {s : State} {m : MethodId} {args : Array Value} {below : List Frame} {meth : Method} {c : Code} {Q : State → Prop} {tb : List ExceptionTableEntry} (hend : ∀ (k n : Nat) (L : mL) (Z : mZ) (M : mM), k ≤ KM → n ≤ NMX → JJ G p l e room_1 s m args below meth c 9 Q k n 1877 L [.int 1] Z M) (C : Cx G p l s m args meth c RL cL_law 9 (some .boolean) tb) (N : Nat) (Z : mZ) (K28 : Nat → Nat → Nat → Nat → Nat → Int32 → mM → Option (Int32 × mM)) (fu : Nat) (hK28 : ∀ (v0 : Nat) (v1 : Nat) (v2 : Nat) (v3 : Nat) (v4 : Nat) (v5 : Int32) (M : mM) (r : Int32) (M' : mM), ∀ (kk nn : Nat), kk + fu ≤ KM → nn + 6 * fu ≤ NMX → K28 v0 v1 v2 v3 v4 v5 M = some (r, M') → JJ G p l e room_1 s m args below meth c 9 Q kk nn 28 [(0, .ref v0), (1, .ref v1), (2, .ref v2), (3, .ref v3), (4, .ref v4), (5, .int v5)] [] Z M) : ∀ (v0 : Nat) (v1 : Nat) (v2 : Nat) (v3 : Nat) (v4 : Nat) (v5 : Int32) (M : mM) (r : Int32) (M' : mM), ∀ (kk nn : Nat), kk + (fu + 1) ≤ KM → nn + 6 * (fu + 1) ≤ NMX → fL_law_552 N Z K28 v0 v1 v2 v3 v4 v5 M = some (r, M') → JJ G p l e room_1 s m args below meth c 9 Q kk nn 552 [(0, .ref v0), (1, .ref v1), (2, .ref v2), (3, .ref v3), (4, .ref v4), (5, .int v5)] [] Z M := by
  intro v0 v1 v2 v3 v4 v5 M r M' kk nn hk hn h
  unfold fL_law_552 at h
  refine j_aload_n C dL_law_552 rfl 1 rfl ?_
  refine j_aload_n C dL_law_553 rfl 0 rfl ?_
  refine j_iload C dL_law_554 5 rfl ?_
  refine j_iconst C dL_law_556 (v := (1 : Int32)) (by decide) ?_
  refine j_iadd C dL_law_557 ?_
  obtain ⟨ho87, h⟩ := ck_spec h
  obtain ⟨ho88, h⟩ := ck_spec h
  refine j_iald C ho87 ho88 dL_law_558 ?_
  refine j_aload_n C dL_law_559 rfl 0 rfl ?_
  refine j_iload C dL_law_560 5 rfl ?_
  refine j_iconst C dL_law_562 (v := (2 : Int32)) (by decide) ?_
  refine j_iadd C dL_law_563 ?_
  obtain ⟨ho89, h⟩ := ck_spec h
  refine j_iald C ho87 ho89 dL_law_564 ?_
  refine j_aload_n C dL_law_565 rfl 0 rfl ?_
  refine j_iload C dL_law_566 5 rfl ?_
  refine j_iconst C dL_law_568 (v := (3 : Int32)) (by decide) ?_
  refine j_iadd C dL_law_569 ?_
  obtain ⟨ho90, h⟩ := ck_spec h
  refine j_iald C ho87 ho90 dL_law_570 ?_
  refine j_aload_n C dL_law_571 rfl 3 rfl ?_
  obtain ⟨r91, M91, hq91, h⟩ := bnd2_spec h
  refine j_run1 (c_SX C (As := [.ref v1, .int (M.1 v0 ((v5 + (1 : Int32))).toNatClampNeg), .int (M.1 v0 ((v5 + (2 : Int32))).toNatClampNeg), .int (M.1 v0 ((v5 + (3 : Int32))).toNatClampNeg), .ref v3]) (rest := []) (ctL_put C.2.2.2.2.2.2.2.2.1 N Z hq91) kcRL_138 oyL_put ⟨by decide, by decide⟩ ⟨Nat.le_trans (show kk + 1 ≤ kk + (fu + 1) by omega) hk, Nat.le_trans (show nn + 6 ≤ nn + 6 * (fu + 1) by omega) hn⟩ (Nat.le_of_ble_eq_true rfl) rfl dL_law_572) ?_
  refine j_istore C dL_law_575 (by decide) (L' := [(6, .int r91), (0, .ref v0), (1, .ref v1), (2, .ref v2), (3, .ref v3), (4, .ref v4), (5, .int v5)]) rfl ?_
  refine j_aload_n C dL_law_577 rfl 3 rfl ?_
  refine j_aload_n C dL_law_578 rfl 1 rfl ?_
  refine j_iload C dL_law_579 6 rfl ?_
  refine j_iconst C dL_law_581 (v := (1 : Int32)) (by decide) ?_
  refine j_iadd C dL_law_582 ?_
  refine j_iald C ho87 ho88 dL_law_583 ?_
  refine j_aload_n C dL_law_584 rfl 1 rfl ?_
  refine j_iload C dL_law_585 6 rfl ?_
  refine j_iconst C dL_law_587 (v := (2 : Int32)) (by decide) ?_
  refine j_iadd C dL_law_588 ?_
  refine j_iald C ho87 ho89 dL_law_589 ?_
  refine j_aload_n C dL_law_590 rfl 1 rfl ?_
  refine j_iload C dL_law_591 6 rfl ?_
  refine j_iconst C dL_law_593 (v := (3 : Int32)) (by decide) ?_
  refine j_iadd C dL_law_594 ?_
  refine j_iald C ho87 ho90 dL_law_595 ?_
  obtain ⟨ho92, h⟩ := ck_spec h
  obtain ⟨r93, M93, hq93, h⟩ := bnd2_spec h
  refine j_run1 (c_V C (As := [.int (M91.1 v0 ((v5 + (1 : Int32))).toNatClampNeg), .int (M91.1 v0 ((v5 + (2 : Int32))).toNatClampNeg), .int (M91.1 v0 ((v5 + (3 : Int32))).toNatClampNeg)]) (rest := []) (ctX9_put C.2.2.2.2.2.2.2.2.1 N Z hq93) kcRL_140 oyX9_put (ci := 9) (T := TX9) (N := 23) rfl (by decide) ho92 ⟨by decide, by decide⟩ ⟨Nat.le_trans (show kk + 1 + 0 ≤ kk + (fu + 1) by omega) hk, Nat.le_trans (show nn + 6 + 0 ≤ nn + 6 * (fu + 1) by omega) hn⟩ (Nat.le_of_ble_eq_true rfl) rfl dL_law_596) ?_
  refine j_istore C dL_law_599 (by decide) (L' := [(7, .int r93), (6, .int r91), (0, .ref v0), (1, .ref v1), (2, .ref v2), (3, .ref v3), (4, .ref v4), (5, .int v5)]) rfl ?_
  refine j_aload_n C dL_law_601 rfl 4 rfl ?_
  obtain ⟨r94, M94, hq94, h⟩ := bnd2_spec h
  refine j_run1 (c_V C (As := []) (rest := []) (ctX9_thrown C.2.2.2.2.2.2.2.2.1 N Z hq94) kcRL_118 oyX9_thrown (ci := 9) (T := TX9) (N := 23) rfl (by decide) ho92 ⟨by decide, by decide⟩ ⟨Nat.le_trans (show kk + 1 + 0 + 0 ≤ kk + (fu + 1) by omega) hk, Nat.le_trans (show nn + 6 + 0 + 0 ≤ nn + 6 * (fu + 1) by omega) hn⟩ (Nat.le_of_ble_eq_true rfl) rfl dL_law_602) ?_
  refine j_iload C dL_law_605 1 rfl ?_
  refine j_icmp_eq C dL_law_607 (tgt := 612) (by decide) (fun hc95 => ?_) (fun hc95 => ?_)
  · rw [if_pos hc95] at h
    refine j_iload C dL_law_612 1 rfl ?_
    refine j_if_ne C dL_law_614 (tgt := 629) (by decide) (fun hc96 => ?_) (fun hc96 => ?_)
    · rw [if_neg hc96] at h
      refine j_goto C dL_law_629 (tgt := 1870) (by decide) ?_
      refine j_iinc C dL_law_1870 7 rfl (v := (v5 + (5 : Int32))) (by first | rfl | decide) (by decide) (L' := [(5, .int (v5 + (5 : Int32))), (7, .int r93), (6, .int r91), (0, .ref v0), (1, .ref v1), (2, .ref v2), (3, .ref v3), (4, .ref v4)]) rfl ?_
      refine j_goto C dL_law_1873 (tgt := 28) (by decide) ?_
      refine j_sub (L' := [(0, .ref v0), (1, .ref v1), (2, .ref v2), (3, .ref v3), (4, .ref v4), (5, .int (v5 + (5 : Int32)))]) [3, 4, 5, 6, 7, 0] rfl ?_
      exact hK28 v0 v1 v2 v3 v4 (v5 + (5 : Int32)) M94 r M' _ _ (Nat.le_trans (show kk + 1 + 0 + 0 + fu ≤ kk + (fu + 1) by omega) hk) (Nat.le_trans (show nn + 6 + 0 + 0 + 6 * fu ≤ nn + 6 * (fu + 1) by omega) hn) h
    · rw [if_pos hc96] at h
      refine j_aload_n C dL_law_617 rfl 5 rfl ?_
      refine j_iconst C dL_law_618 (v := (0 : Int32)) (by decide) ?_
      obtain ⟨ho97, h⟩ := ck_spec h
      obtain ⟨ho98, h⟩ := ck_spec h
      refine j_lald C ho97 ho98 dL_law_619 ?_
      refine j_iload C dL_law_620 0 rfl ?_
      refine j_i2l C dL_law_622 ?_
      refine j_lcmp C dL_law_623 ?_
      refine j_if_eq C dL_law_624 (tgt := 629) (by decide) (fun hc99 => ?_) (fun hc99 => ?_)
      · rw [if_pos hc99] at h
        refine j_goto C dL_law_629 (tgt := 1870) (by decide) ?_
        refine j_iinc C dL_law_1870 7 rfl (v := (v5 + (5 : Int32))) (by first | rfl | decide) (by decide) (L' := [(5, .int (v5 + (5 : Int32))), (7, .int r93), (6, .int r91), (0, .ref v0), (1, .ref v1), (2, .ref v2), (3, .ref v3), (4, .ref v4)]) rfl ?_
        refine j_goto C dL_law_1873 (tgt := 28) (by decide) ?_
        refine j_sub (L' := [(0, .ref v0), (1, .ref v1), (2, .ref v2), (3, .ref v3), (4, .ref v4), (5, .int (v5 + (5 : Int32)))]) [3, 4, 5, 6, 7, 0] rfl ?_
        exact hK28 v0 v1 v2 v3 v4 (v5 + (5 : Int32)) M94 r M' _ _ (Nat.le_trans (show kk + 1 + 0 + 0 + fu ≤ kk + (fu + 1) by omega) hk) (Nat.le_trans (show nn + 6 + 0 + 0 + 6 * fu ≤ nn + 6 * (fu + 1) by omega) hn) h
      · rw [if_neg hc99] at h
        refine j_iconst C dL_law_627 (v := (0 : Int32)) (by decide) ?_
        cases h
  · rw [if_neg hc95] at h
    refine j_iconst C dL_law_610 (v := (0 : Int32)) (by decide) ?_
    cases h
def fL_law_632 (N : Nat) (Z : mZ) (K28 : Nat → Nat → Nat → Nat → Nat → Int32 → mM → Option (Int32 × mM)) (v0 : Nat) (v1 : Nat) (v2 : Nat) (v3 : Nat) (v4 : Nat) (v5 : Int32) (M : mM) : Option (Int32 × mM) := ck (okI Z v0) (ck (inB (v5 + (1 : Int32)) (Z.2.2.1 v0)) (ck (inB (v5 + (2 : Int32)) (Z.2.2.1 v0)) (ck (inB (v5 + (3 : Int32)) (Z.2.2.1 v0)) (bnd2 (fL_take N Z v1 (M.1 v0 ((v5 + (1 : Int32))).toNatClampNeg) (M.1 v0 ((v5 + (2 : Int32))).toNatClampNeg) (M.1 v0 ((v5 + (3 : Int32))).toNatClampNeg) v3 M) (fun r105 M105 => ck (okO Z v2 9) (bnd2 (fX9_take N Z v2 (M105.1 v0 ((v5 + (1 : Int32))).toNatClampNeg) (M105.1 v0 ((v5 + (2 : Int32))).toNatClampNeg) (M105.1 v0 ((v5 + (3 : Int32))).toNatClampNeg) M105) (fun r107 M107 => bnd2 (fX9_thrown N Z v2 M107) (fun r108 M108 => if r108 = r105 then if r105 = 0 then ck (okO Z v3 22) (ck (inB (0 : Int32) (Z.2.2.1 v3)) (if (lg_cmp (M108.2.1 v3 ((0 : Int32)).toNatClampNeg) ((r107).toInt64)) = 0 then K28 v0 v1 v2 v3 v4 (v5 + (5 : Int32)) M108 else none)) else K28 v0 v1 v2 v3 v4 (v5 + (5 : Int32)) M108 else none))))))))
set_option maxHeartbeats 4000000 in
set_option maxRecDepth 100000 in
theorem tL_law_632 {G : mG} {p : Program} {l : Launch} {e : Env} {s : State} {m : MethodId} {args : Array Value} {below : List Frame} {meth : Method} {c : Code} {Q : State → Prop} {tb : List ExceptionTableEntry} (hend : ∀ (k n : Nat) (L : mL) (Z : mZ) (M : mM), k ≤ KM → n ≤ NMX → JJ G p l e room_1 s m args below meth c 9 Q k n 1877 L [.int 1] Z M) (C : Cx G p l s m args meth c RL cL_law 9 (some .boolean) tb) (N : Nat) (Z : mZ) (K28 : Nat → Nat → Nat → Nat → Nat → Int32 → mM → Option (Int32 × mM)) (fu : Nat) (hK28 : ∀ (v0 : Nat) (v1 : Nat) (v2 : Nat) (v3 : Nat) (v4 : Nat) (v5 : Int32) (M : mM) (r : Int32) (M' : mM), ∀ (kk nn : Nat), kk + fu ≤ KM → nn + 6 * fu ≤ NMX → K28 v0 v1 v2 v3 v4 v5 M = some (r, M') → JJ G p l e room_1 s m args below meth c 9 Q kk nn 28 [(0, .ref v0), (1, .ref v1), (2, .ref v2), (3, .ref v3), (4, .ref v4), (5, .int v5)] [] Z M) : ∀ (v0 : Nat) (v1 : Nat) (v2 : Nat) (v3 : Nat) (v4 : Nat) (v5 : Int32) (M : mM) (r : Int32) (M' : mM), ∀ (kk nn : Nat), kk + (fu + 1) ≤ KM → nn + 6 * (fu + 1) ≤ NMX → fL_law_632 N Z K28 v0 v1 v2 v3 v4 v5 M = some (r, M') → JJ G p l e room_1 s m args below meth c 9 Q kk nn 632 [(0, .ref v0), (1, .ref v1), (2, .ref v2), (3, .ref v3), (4, .ref v4), (5, .int v5)] [] Z M := by
  intro v0 v1 v2 v3 v4 v5 M r M' kk nn hk hn h
  unfold fL_law_632 at h
  refine j_aload_n C dL_law_632 rfl 1 rfl ?_
  refine j_aload_n C dL_law_633 rfl 0 rfl ?_
  refine j_iload C dL_law_634 5 rfl ?_
  refine j_iconst C dL_law_636 (v := (1 : Int32)) (by decide) ?_
  refine j_iadd C dL_law_637 ?_
  obtain ⟨ho101, h⟩ := ck_spec h
  obtain ⟨ho102, h⟩ := ck_spec h
  refine j_iald C ho101 ho102 dL_law_638 ?_
  refine j_aload_n C dL_law_639 rfl 0 rfl ?_
  refine j_iload C dL_law_640 5 rfl ?_
  refine j_iconst C dL_law_642 (v := (2 : Int32)) (by decide) ?_
  refine j_iadd C dL_law_643 ?_
  obtain ⟨ho103, h⟩ := ck_spec h
  refine j_iald C ho101 ho103 dL_law_644 ?_
  refine j_aload_n C dL_law_645 rfl 0 rfl ?_
  refine j_iload C dL_law_646 5 rfl ?_
  refine j_iconst C dL_law_648 (v := (3 : Int32)) (by decide) ?_
  refine j_iadd C dL_law_649 ?_
  obtain ⟨ho104, h⟩ := ck_spec h
  refine j_iald C ho101 ho104 dL_law_650 ?_
  refine j_aload_n C dL_law_651 rfl 3 rfl ?_
  obtain ⟨r105, M105, hq105, h⟩ := bnd2_spec h
  refine j_run1 (c_SX C (As := [.ref v1, .int (M.1 v0 ((v5 + (1 : Int32))).toNatClampNeg), .int (M.1 v0 ((v5 + (2 : Int32))).toNatClampNeg), .int (M.1 v0 ((v5 + (3 : Int32))).toNatClampNeg), .ref v3]) (rest := []) (ctL_take C.2.2.2.2.2.2.2.2.1 N Z hq105) kcRL_141 oyL_take ⟨by decide, by decide⟩ ⟨Nat.le_trans (show kk + 1 ≤ kk + (fu + 1) by omega) hk, Nat.le_trans (show nn + 6 ≤ nn + 6 * (fu + 1) by omega) hn⟩ (Nat.le_of_ble_eq_true rfl) rfl dL_law_652) ?_
  refine j_istore C dL_law_655 (by decide) (L' := [(6, .int r105), (0, .ref v0), (1, .ref v1), (2, .ref v2), (3, .ref v3), (4, .ref v4), (5, .int v5)]) rfl ?_
  refine j_aload_n C dL_law_657 rfl 3 rfl ?_
  refine j_aload_n C dL_law_658 rfl 1 rfl ?_
  refine j_iload C dL_law_659 6 rfl ?_
  refine j_iconst C dL_law_661 (v := (1 : Int32)) (by decide) ?_
  refine j_iadd C dL_law_662 ?_
  refine j_iald C ho101 ho102 dL_law_663 ?_
  refine j_aload_n C dL_law_664 rfl 1 rfl ?_
  refine j_iload C dL_law_665 6 rfl ?_
  refine j_iconst C dL_law_667 (v := (2 : Int32)) (by decide) ?_
  refine j_iadd C dL_law_668 ?_
  refine j_iald C ho101 ho103 dL_law_669 ?_
  refine j_aload_n C dL_law_670 rfl 1 rfl ?_
  refine j_iload C dL_law_671 6 rfl ?_
  refine j_iconst C dL_law_673 (v := (3 : Int32)) (by decide) ?_
  refine j_iadd C dL_law_674 ?_
  refine j_iald C ho101 ho104 dL_law_675 ?_
  obtain ⟨ho106, h⟩ := ck_spec h
  obtain ⟨r107, M107, hq107, h⟩ := bnd2_spec h
  refine j_run1 (c_V C (As := [.int (M105.1 v0 ((v5 + (1 : Int32))).toNatClampNeg), .int (M105.1 v0 ((v5 + (2 : Int32))).toNatClampNeg), .int (M105.1 v0 ((v5 + (3 : Int32))).toNatClampNeg)]) (rest := []) (ctX9_take C.2.2.2.2.2.2.2.2.1 N Z hq107) kcRL_143 oyX9_take (ci := 9) (T := TX9) (N := 23) rfl (by decide) ho106 ⟨by decide, by decide⟩ ⟨Nat.le_trans (show kk + 1 + 0 ≤ kk + (fu + 1) by omega) hk, Nat.le_trans (show nn + 6 + 0 ≤ nn + 6 * (fu + 1) by omega) hn⟩ (Nat.le_of_ble_eq_true rfl) rfl dL_law_676) ?_
  refine j_istore C dL_law_679 (by decide) (L' := [(7, .int r107), (6, .int r105), (0, .ref v0), (1, .ref v1), (2, .ref v2), (3, .ref v3), (4, .ref v4), (5, .int v5)]) rfl ?_
  refine j_aload_n C dL_law_681 rfl 4 rfl ?_
  obtain ⟨r108, M108, hq108, h⟩ := bnd2_spec h
  refine j_run1 (c_V C (As := []) (rest := []) (ctX9_thrown C.2.2.2.2.2.2.2.2.1 N Z hq108) kcRL_118 oyX9_thrown (ci := 9) (T := TX9) (N := 23) rfl (by decide) ho106 ⟨by decide, by decide⟩ ⟨Nat.le_trans (show kk + 1 + 0 + 0 ≤ kk + (fu + 1) by omega) hk, Nat.le_trans (show nn + 6 + 0 + 0 ≤ nn + 6 * (fu + 1) by omega) hn⟩ (Nat.le_of_ble_eq_true rfl) rfl dL_law_682) ?_
  refine j_iload C dL_law_685 1 rfl ?_
  refine j_icmp_eq C dL_law_687 (tgt := 692) (by decide) (fun hc109 => ?_) (fun hc109 => ?_)
  · rw [if_pos hc109] at h
    refine j_iload C dL_law_692 1 rfl ?_
    refine j_if_ne C dL_law_694 (tgt := 709) (by decide) (fun hc110 => ?_) (fun hc110 => ?_)
    · rw [if_neg hc110] at h
      refine j_goto C dL_law_709 (tgt := 1870) (by decide) ?_
      refine j_iinc C dL_law_1870 7 rfl (v := (v5 + (5 : Int32))) (by first | rfl | decide) (by decide) (L' := [(5, .int (v5 + (5 : Int32))), (7, .int r107), (6, .int r105), (0, .ref v0), (1, .ref v1), (2, .ref v2), (3, .ref v3), (4, .ref v4)]) rfl ?_
      refine j_goto C dL_law_1873 (tgt := 28) (by decide) ?_
      refine j_sub (L' := [(0, .ref v0), (1, .ref v1), (2, .ref v2), (3, .ref v3), (4, .ref v4), (5, .int (v5 + (5 : Int32)))]) [3, 4, 5, 6, 7, 0] rfl ?_
      exact hK28 v0 v1 v2 v3 v4 (v5 + (5 : Int32)) M108 r M' _ _ (Nat.le_trans (show kk + 1 + 0 + 0 + fu ≤ kk + (fu + 1) by omega) hk) (Nat.le_trans (show nn + 6 + 0 + 0 + 6 * fu ≤ nn + 6 * (fu + 1) by omega) hn) h
    · rw [if_pos hc110] at h
      refine j_aload_n C dL_law_697 rfl 5 rfl ?_
      refine j_iconst C dL_law_698 (v := (0 : Int32)) (by decide) ?_
      obtain ⟨ho111, h⟩ := ck_spec h
      obtain ⟨ho112, h⟩ := ck_spec h
      refine j_lald C ho111 ho112 dL_law_699 ?_
      refine j_iload C dL_law_700 0 rfl ?_
      refine j_i2l C dL_law_702 ?_
      refine j_lcmp C dL_law_703 ?_
      refine j_if_eq C dL_law_704 (tgt := 709) (by decide) (fun hc113 => ?_) (fun hc113 => ?_)
      · rw [if_pos hc113] at h
        refine j_goto C dL_law_709 (tgt := 1870) (by decide) ?_
        refine j_iinc C dL_law_1870 7 rfl (v := (v5 + (5 : Int32))) (by first | rfl | decide) (by decide) (L' := [(5, .int (v5 + (5 : Int32))), (7, .int r107), (6, .int r105), (0, .ref v0), (1, .ref v1), (2, .ref v2), (3, .ref v3), (4, .ref v4)]) rfl ?_
        refine j_goto C dL_law_1873 (tgt := 28) (by decide) ?_
        refine j_sub (L' := [(0, .ref v0), (1, .ref v1), (2, .ref v2), (3, .ref v3), (4, .ref v4), (5, .int (v5 + (5 : Int32)))]) [3, 4, 5, 6, 7, 0] rfl ?_
        exact hK28 v0 v1 v2 v3 v4 (v5 + (5 : Int32)) M108 r M' _ _ (Nat.le_trans (show kk + 1 + 0 + 0 + fu ≤ kk + (fu + 1) by omega) hk) (Nat.le_trans (show nn + 6 + 0 + 0 + 6 * fu ≤ nn + 6 * (fu + 1) by omega) hn) h
      · rw [if_neg hc113] at h
        refine j_iconst C dL_law_707 (v := (0 : Int32)) (by decide) ?_
        cases h
  · rw [if_neg hc109] at h
    refine j_iconst C dL_law_690 (v := (0 : Int32)) (by decide) ?_
    cases h
