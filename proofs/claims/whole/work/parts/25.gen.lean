-- ScaffoldPlannerLaw law
theorem cwRL_8 : Cond.classLink RL 8 RX8 ∈ gw ∧ Cond.instantiable RX8 11 ∈ gw ∧ Cond.initialized RX8 ∈ gw := ⟨by decide +kernel, by decide +kernel, by decide +kernel⟩
theorem ntX8 : ∀ j, j < 11 → tyX8 j = m_ty 8 j ∧ (m_ty 8 j = .int ∨ m_ty 8 j = .boolean ∨ isRefT (m_ty 8 j) = true) := by decide
theorem kcRL_108 : okN RL 108 yX8_init (.code yX8_init cX8_init 1 none) = true := by decide +kernel
theorem oyX8_init : okY yX8_init 0 := ⟨by decide +kernel, by decide +kernel, by decide +kernel⟩
theorem cwRL_109 : Cond.classLink RL 109 RX9 ∈ gw ∧ Cond.instantiable RX9 23 ∈ gw ∧ Cond.initialized RX9 ∈ gw := ⟨by decide +kernel, by decide +kernel, by decide +kernel⟩
theorem ntX9 : ∀ j, j < 23 → tyX9 j = m_ty 9 j ∧ (m_ty 9 j = .int ∨ m_ty 9 j = .boolean ∨ isRefT (m_ty 9 j) = true) := by decide
theorem kcRL_111 : okN RL 111 yX9_init (.code yX9_init cX9_init 1 none) = true := by decide +kernel
theorem oyX9_init : okY yX9_init 0 := ⟨by decide +kernel, by decide +kernel, by decide +kernel⟩
theorem kcRL_112 : okS RL 112 yL_start (.codeWith yL_start cL_start 4 (some .int) [(0, 9, 12, 13)]) = true := by decide +kernel
theorem oyL_start : okY yL_start 3 := ⟨by decide +kernel, by decide +kernel, by decide +kernel⟩
theorem kcRL_117 : okV RL 117 yX9_start (.code yX9_start cX9_start 3 (some .int)) = true := by decide +kernel
theorem oyX9_start : okY yX9_start 1 := ⟨by decide +kernel, by decide +kernel, by decide +kernel⟩
theorem kcRL_118 : okV RL 118 yX9_thrown (.code yX9_thrown cX9_thrown 1 (some .int)) = true := by decide +kernel
theorem oyX9_thrown : okY yX9_thrown 0 := ⟨by decide +kernel, by decide +kernel, by decide +kernel⟩
theorem kcRL_121 : okS RL 121 yL_set (.codeWith yL_set cL_set 5 (some .int) [(0, 10, 13, 13), (0, 10, 17, 19)]) = true := by decide +kernel
theorem oyL_set : okY yL_set 4 := ⟨by decide +kernel, by decide +kernel, by decide +kernel⟩
theorem kcRL_124 : okV RL 124 yX9_set (.code yX9_set cX9_set 5 (some .int)) = true := by decide +kernel
theorem oyX9_set : okY yX9_set 2 := ⟨by decide +kernel, by decide +kernel, by decide +kernel⟩
theorem kcRL_125 : okS RL 125 yL_stock (.codeWith yL_stock cL_stock 5 (some .int) [(0, 10, 13, 24), (0, 10, 17, 13)]) = true := by decide +kernel
theorem oyL_stock : okY yL_stock 4 := ⟨by decide +kernel, by decide +kernel, by decide +kernel⟩
theorem kcRL_127 : okV RL 127 yX9_stock (.code yX9_stock cX9_stock 4 (some .int)) = true := by decide +kernel
theorem oyX9_stock : okY yX9_stock 2 := ⟨by decide +kernel, by decide +kernel, by decide +kernel⟩
theorem kcRL_128 : okS RL 128 yL_erect (.codeWith yL_erect cL_erect 4 (some .int) [(0, 9, 12, 24), (0, 9, 15, 29)]) = true := by decide +kernel
theorem oyL_erect : okY yL_erect 3 := ⟨by decide +kernel, by decide +kernel, by decide +kernel⟩
theorem kcRL_130 : okV RL 130 yX9_erect (.code yX9_erect cX9_erect 2 (some .int)) = true := by decide +kernel
theorem oyX9_erect : okY yX9_erect 1 := ⟨by decide +kernel, by decide +kernel, by decide +kernel⟩
theorem kcRL_131 : okS RL 131 yL_lower (.codeWith yL_lower cL_lower 4 (some .int) [(0, 9, 12, 24), (0, 9, 15, 29)]) = true := by decide +kernel
theorem oyL_lower : okY yL_lower 3 := ⟨by decide +kernel, by decide +kernel, by decide +kernel⟩
theorem kcRL_133 : okV RL 133 yX9_lower (.code yX9_lower cX9_lower 2 (some .int)) = true := by decide +kernel
theorem oyX9_lower : okY yX9_lower 1 := ⟨by decide +kernel, by decide +kernel, by decide +kernel⟩
theorem kcRL_134 : okS RL 134 yL_deck (.codeWith yL_deck cL_deck 6 (some .int) [(0, 12, 15, 24), (0, 12, 19, 13), (0, 12, 23, 29)]) = true := by decide +kernel
theorem oyL_deck : okY yL_deck 5 := ⟨by decide +kernel, by decide +kernel, by decide +kernel⟩
theorem kcRL_137 : okV RL 137 yX9_deck (.code yX9_deck cX9_deck 4 (some .int)) = true := by decide +kernel
theorem oyX9_deck : okY yX9_deck 3 := ⟨by decide +kernel, by decide +kernel, by decide +kernel⟩
theorem kcRL_138 : okS RL 138 yL_put (.codeWith yL_put cL_put 6 (some .int) [(0, 12, 15, 13), (0, 12, 19, 24), (0, 12, 23, 29)]) = true := by decide +kernel
theorem oyL_put : okY yL_put 5 := ⟨by decide +kernel, by decide +kernel, by decide +kernel⟩
theorem kcRL_140 : okV RL 140 yX9_put (.code yX9_put cX9_put 4 (some .int)) = true := by decide +kernel
theorem oyX9_put : okY yX9_put 3 := ⟨by decide +kernel, by decide +kernel, by decide +kernel⟩
theorem kcRL_141 : okS RL 141 yL_take (.codeWith yL_take cL_take 6 (some .int) [(0, 12, 15, 13), (0, 12, 19, 24), (0, 12, 23, 29)]) = true := by decide +kernel
theorem oyL_take : okY yL_take 5 := ⟨by decide +kernel, by decide +kernel, by decide +kernel⟩
theorem kcRL_143 : okV RL 143 yX9_take (.code yX9_take cX9_take 4 (some .int)) = true := by decide +kernel
theorem oyX9_take : okY yX9_take 3 := ⟨by decide +kernel, by decide +kernel, by decide +kernel⟩
theorem kcRL_144 : okS RL 144 yL_refusal (.codeWith yL_refusal cL_refusal 7 (some .int) [(0, 14, 17, 13), (0, 14, 21, 24)]) = true := by decide +kernel
theorem oyL_refusal : okY yL_refusal 6 := ⟨by decide +kernel, by decide +kernel, by decide +kernel⟩
theorem kcRL_147 : okV RL 147 yX9_refusal (.code yX9_refusal cX9_refusal 5 (some .int)) = true := by decide +kernel
theorem oyX9_refusal : okY yX9_refusal 4 := ⟨by decide +kernel, by decide +kernel, by decide +kernel⟩
theorem kcRL_148 : okS RL 148 yL_report (.codeWith yL_report cL_report 5 (some .int) [(0, 10, 13, 52)]) = true := by decide +kernel
theorem oyL_report : okY yL_report 4 := ⟨by decide +kernel, by decide +kernel, by decide +kernel⟩
theorem kcRL_151 : okV RL 151 yX9_report (.code yX9_report cX9_report 3 (some .int)) = true := by decide +kernel
theorem oyX9_report : okY yX9_report 2 := ⟨by decide +kernel, by decide +kernel, by decide +kernel⟩
theorem kcRL_152 : okS RL 152 yL_bay (.codeWith yL_bay cL_bay 5 (some .int) [(0, 10, 13, 24), (0, 10, 17, 13)]) = true := by decide +kernel
theorem oyL_bay : okY yL_bay 4 := ⟨by decide +kernel, by decide +kernel, by decide +kernel⟩
theorem kcRL_154 : okV RL 154 yX9_bay (.code yX9_bay cX9_bay 3 (some .int)) = true := by decide +kernel
theorem oyX9_bay : okY yX9_bay 2 := ⟨by decide +kernel, by decide +kernel, by decide +kernel⟩
theorem kcRL_155 : okS RL 155 yL_post (.codeWith yL_post cL_post 5 (some .int) [(0, 10, 13, 24), (0, 10, 17, 13)]) = true := by decide +kernel
theorem oyL_post : okY yL_post 4 := ⟨by decide +kernel, by decide +kernel, by decide +kernel⟩
theorem kcRL_157 : okV RL 157 yX9_post (.code yX9_post cX9_post 3 (some .int)) = true := by decide +kernel
theorem oyX9_post : okY yX9_post 2 := ⟨by decide +kernel, by decide +kernel, by decide +kernel⟩
theorem kcRL_158 : okS RL 158 yL_load (.codeWith yL_load cL_load 5 (some .int) [(0, 10, 13, 24), (0, 10, 17, 52)]) = true := by decide +kernel
theorem oyL_load : okY yL_load 4 := ⟨by decide +kernel, by decide +kernel, by decide +kernel⟩
theorem kcRL_160 : okV RL 160 yX9_load (.code yX9_load cX9_load 3 (some .int)) = true := by decide +kernel
theorem oyX9_load : okY yX9_load 2 := ⟨by decide +kernel, by decide +kernel, by decide +kernel⟩
theorem kcRL_161 : okS RL 161 yL_steps (.codeWith yL_steps cL_steps 5 (some .int) [(0, 10, 13, 24), (0, 10, 17, 52)]) = true := by decide +kernel
theorem oyL_steps : okY yL_steps 4 := ⟨by decide +kernel, by decide +kernel, by decide +kernel⟩
theorem kcRL_163 : okV RL 163 yX9_steps (.code yX9_steps cX9_steps 3 (some .int)) = true := by decide +kernel
theorem oyX9_steps : okY yX9_steps 2 := ⟨by decide +kernel, by decide +kernel, by decide +kernel⟩
theorem kcRL_164 : okS RL 164 yL_fewestTies (.codeWith yL_fewestTies cL_fewestTies 4 (some .int) [(0, 9, 12, 13)]) = true := by decide +kernel
theorem oyL_fewestTies : okY yL_fewestTies 3 := ⟨by decide +kernel, by decide +kernel, by decide +kernel⟩
theorem kcRL_166 : okV RL 166 yX9_fewestTies (.code yX9_fewestTies cX9_fewestTies 2 (some .int)) = true := by decide +kernel
theorem oyX9_fewestTies : okY yX9_fewestTies 1 := ⟨by decide +kernel, by decide +kernel, by decide +kernel⟩
theorem kcRL_167 : okS RL 167 yL_tieLevels (.codeWith yL_tieLevels cL_tieLevels 4 (some .int) [(0, 9, 12, 13)]) = true := by decide +kernel
theorem oyL_tieLevels : okY yL_tieLevels 3 := ⟨by decide +kernel, by decide +kernel, by decide +kernel⟩
theorem kcRL_169 : okV RL 169 yX9_tieLevels (.code yX9_tieLevels cX9_tieLevels 2 (some .int)) = true := by decide +kernel
theorem oyX9_tieLevels : okY yX9_tieLevels 1 := ⟨by decide +kernel, by decide +kernel, by decide +kernel⟩
theorem kcRL_170 : okS RL 170 yL_missing (.codeWith yL_missing cL_missing 5 (some .int) [(0, 10, 13, 13)]) = true := by decide +kernel
theorem oyL_missing : okY yL_missing 4 := ⟨by decide +kernel, by decide +kernel, by decide +kernel⟩
theorem kcRL_172 : okV RL 172 yX9_missing (.code yX9_missing cX9_missing 5 (some .int)) = true := by decide +kernel
theorem oyX9_missing : okY yX9_missing 2 := ⟨by decide +kernel, by decide +kernel, by decide +kernel⟩
theorem kcRL_173 : okS RL 173 yL_dismantling (.codeWith yL_dismantling cL_dismantling 3 (some .int) [(0, 8, 11, 52)]) = true := by decide +kernel
theorem oyL_dismantling : okY yL_dismantling 2 := ⟨by decide +kernel, by decide +kernel, by decide +kernel⟩
theorem kcRL_176 : okV RL 176 yX9_dismantling (.code yX9_dismantling cX9_dismantling 1 (some .int)) = true := by decide +kernel
theorem oyX9_dismantling : okY yX9_dismantling 0 := ⟨by decide +kernel, by decide +kernel, by decide +kernel⟩
theorem kcRL_177 : okS RL 177 yL_work (.codeWith yL_work cL_work 5 (some .int) [(0, 10, 13, 13), (0, 10, 17, 24)]) = true := by decide +kernel
theorem oyL_work : okY yL_work 4 := ⟨by decide +kernel, by decide +kernel, by decide +kernel⟩
theorem kcRL_179 : okV RL 179 yX9_work (.code yX9_work cX9_work 3 (some .int)) = true := by decide +kernel
theorem oyX9_work : okY yX9_work 2 := ⟨by decide +kernel, by decide +kernel, by decide +kernel⟩
theorem kcRL_180 : okS RL 180 yL_account (.codeWith yL_account cL_account 4 (some .int) [(0, 9, 12, 13)]) = true := by decide +kernel
theorem oyL_account : okY yL_account 3 := ⟨by decide +kernel, by decide +kernel, by decide +kernel⟩
theorem kcRL_182 : okV RL 182 yX9_account (.code yX9_account cX9_account 2 (some .int)) = true := by decide +kernel
theorem oyX9_account : okY yX9_account 1 := ⟨by decide +kernel, by decide +kernel, by decide +kernel⟩
theorem kcRL_183 : okS RL 183 yL_use (.codeWith yL_use cL_use 4 (some .int) [(0, 9, 12, 24)]) = true := by decide +kernel
theorem oyL_use : okY yL_use 3 := ⟨by decide +kernel, by decide +kernel, by decide +kernel⟩
theorem kcRL_186 : okV RL 186 yX9_use (.code yX9_use cX9_use 2 (some .float)) = true := by decide +kernel
theorem oyX9_use : okY yX9_use 1 := ⟨by decide +kernel, by decide +kernel, by decide +kernel⟩
theorem kcRL_187 : okS RL 187 yL_meanClass (.codeWith yL_meanClass cL_meanClass 3 (some .int) [(0, 7, 10, 93)]) = true := by decide +kernel
theorem oyL_meanClass : okY yL_meanClass 2 := ⟨by decide +kernel, by decide +kernel, by decide +kernel⟩
theorem kcRL_190 : okV RL 190 yX9_meanClass (.code yX9_meanClass cX9_meanClass 4 (some .double)) = true := by decide +kernel
theorem oyX9_meanClass : okY yX9_meanClass 0 := ⟨by decide +kernel, by decide +kernel, by decide +kernel⟩
theorem kcRL_191 : okS RL 191 yL_feed (.codeWith yL_feed cL_feed 4 (some .int) [(0, 9, 12, 19)]) = true := by decide +kernel
theorem oyL_feed : okY yL_feed 3 := ⟨by decide +kernel, by decide +kernel, by decide +kernel⟩
theorem kcRL_194 : okV RL 194 yX9_feed (.code yX9_feed cX9_feed 2 (some .int)) = true := by decide +kernel
theorem oyX9_feed : okY yX9_feed 1 := ⟨by decide +kernel, by decide +kernel, by decide +kernel⟩
theorem kcRL_195 : okS RL 195 yL_perform (.codeWith yL_perform cL_perform 3 (some .int) [(0, 8, 11, 29)]) = true := by decide +kernel
theorem oyL_perform : okY yL_perform 2 := ⟨by decide +kernel, by decide +kernel, by decide +kernel⟩
theorem kcRL_197 : okV RL 197 yX9_perform (.code yX9_perform cX9_perform 7 (some .int)) = true := by decide +kernel
theorem oyX9_perform : okY yX9_perform 0 := ⟨by decide +kernel, by decide +kernel, by decide +kernel⟩
theorem kcRL_198 : okS RL 198 yL_undo (.codeWith yL_undo cL_undo 3 (some .int) [(0, 8, 11, 19)]) = true := by decide +kernel
theorem oyL_undo : okY yL_undo 2 := ⟨by decide +kernel, by decide +kernel, by decide +kernel⟩
theorem kcRL_200 : okV RL 200 yX9_undo (.code yX9_undo cX9_undo 2 (some .int)) = true := by decide +kernel
theorem oyX9_undo : okY yX9_undo 0 := ⟨by decide +kernel, by decide +kernel, by decide +kernel⟩
theorem kcRL_201 : okV RL 201 yX8_save (.code yX8_save cX8_save 1 (some .int)) = true := by decide +kernel
theorem oyX8_save : okY yX8_save 0 := ⟨by decide +kernel, by decide +kernel, by decide +kernel⟩
theorem kcRL_204 : okV RL 204 yX9_save (.code yX9_save cX9_save 1 (some .int)) = true := by decide +kernel
theorem oyX9_save : okY yX9_save 0 := ⟨by decide +kernel, by decide +kernel, by decide +kernel⟩
theorem kcRL_205 : okS RL 205 yL_restore (.codeWith yL_restore cL_restore 3 (some .int) [(0, 8, 11, 19)]) = true := by decide +kernel
theorem oyL_restore : okY yL_restore 2 := ⟨by decide +kernel, by decide +kernel, by decide +kernel⟩
theorem kcRL_207 : okV RL 207 yX9_restore (.code yX9_restore cX9_restore 1 (some .int)) = true := by decide +kernel
theorem oyX9_restore : okY yX9_restore 0 := ⟨by decide +kernel, by decide +kernel, by decide +kernel⟩
theorem dL_law_0 : decode cL_law 0 = .ok (.new 8, 3) := by decide +kernel
theorem dL_law_3 : decode cL_law 3 = .ok (.dup, 1) := by decide +kernel
theorem dL_law_4 : decode cL_law 4 = .ok (.invokespecial 108, 3) := by decide +kernel
theorem dL_law_7 : decode cL_law 7 = .ok (.astore_n 1, 1) := by decide +kernel
theorem dL_law_8 : decode cL_law 8 = .ok (.new 109, 3) := by decide +kernel
theorem dL_law_11 : decode cL_law 11 = .ok (.dup, 1) := by decide +kernel
theorem dL_law_12 : decode cL_law 12 = .ok (.invokespecial 111, 3) := by decide +kernel
theorem dL_law_15 : decode cL_law 15 = .ok (.astore_n 2, 1) := by decide +kernel
theorem dL_law_16 : decode cL_law 16 = .ok (.iconst 1, 1) := by decide +kernel
theorem dL_law_17 : decode cL_law 17 = .ok (.newarray .long, 2) := by decide +kernel
theorem dL_law_19 : decode cL_law 19 = .ok (.astore_n 3, 1) := by decide +kernel
theorem dL_law_20 : decode cL_law 20 = .ok (.iconst 1, 1) := by decide +kernel
theorem dL_law_21 : decode cL_law 21 = .ok (.newarray .double, 2) := by decide +kernel
theorem dL_law_23 : decode cL_law 23 = .ok (.astore 4, 2) := by decide +kernel
theorem dL_law_25 : decode cL_law 25 = .ok (.iconst 0, 1) := by decide +kernel
theorem dL_law_26 : decode cL_law 26 = .ok (.istore 5, 2) := by decide +kernel
theorem dL_law_28 : decode cL_law 28 = .ok (.iload 5, 2) := by decide +kernel
theorem dL_law_30 : decode cL_law 30 = .ok (.aload_n 0, 1) := by decide +kernel
theorem dL_law_31 : decode cL_law 31 = .ok (.arraylength, 1) := by decide +kernel
theorem dL_law_32 : decode cL_law 32 = .ok (.iconst 5, 1) := by decide +kernel
theorem dL_law_33 : decode cL_law 33 = .ok (.isub, 1) := by decide +kernel
theorem dL_law_34 : decode cL_law 34 = .ok (.if_icmp .gt 1842, 3) := by decide +kernel
theorem dL_law_37 : decode cL_law 37 = .ok (.aload_n 0, 1) := by decide +kernel
theorem dL_law_38 : decode cL_law 38 = .ok (.iload 5, 2) := by decide +kernel
theorem dL_law_40 : decode cL_law 40 = .ok (.iaload, 1) := by decide +kernel
theorem dL_law_41 : decode cL_law 41 = .ok (.bipush 31, 2) := by decide +kernel
theorem dL_law_43 : decode cL_law 43 = .ok (.iand, 1) := by decide +kernel
theorem dL_law_44 : decode cL_law 44 = .ok (.tableswitch 1826 0 26 #[124, 180, 248, 316, 372, 428, 508, 588, 668, 776, 860, 928, 996, 1064, 1132, 1188, 1244, 1312, 1356, 1424, 1480, 1558, 1623, 1681, 1725, 1769, 1782], 124) := by decide +kernel
theorem dL_law_168 : decode cL_law 168 = .ok (.aload_n 1, 1) := by decide +kernel
theorem dL_law_169 : decode cL_law 169 = .ok (.aload_n 0, 1) := by decide +kernel
theorem dL_law_170 : decode cL_law 170 = .ok (.iload 5, 2) := by decide +kernel
theorem dL_law_172 : decode cL_law 172 = .ok (.iconst 1, 1) := by decide +kernel
theorem dL_law_173 : decode cL_law 173 = .ok (.iadd, 1) := by decide +kernel
theorem dL_law_174 : decode cL_law 174 = .ok (.iaload, 1) := by decide +kernel
theorem dL_law_175 : decode cL_law 175 = .ok (.aload_n 3, 1) := by decide +kernel
theorem dL_law_176 : decode cL_law 176 = .ok (.invokestatic 112, 3) := by decide +kernel
theorem dL_law_179 : decode cL_law 179 = .ok (.istore 6, 2) := by decide +kernel
theorem dL_law_181 : decode cL_law 181 = .ok (.aload_n 2, 1) := by decide +kernel
theorem dL_law_182 : decode cL_law 182 = .ok (.aload_n 0, 1) := by decide +kernel
theorem dL_law_183 : decode cL_law 183 = .ok (.iload 5, 2) := by decide +kernel
theorem dL_law_185 : decode cL_law 185 = .ok (.iconst 1, 1) := by decide +kernel
theorem dL_law_186 : decode cL_law 186 = .ok (.iadd, 1) := by decide +kernel
theorem dL_law_187 : decode cL_law 187 = .ok (.iaload, 1) := by decide +kernel
theorem dL_law_188 : decode cL_law 188 = .ok (.invokevirtual 117, 3) := by decide +kernel
theorem dL_law_191 : decode cL_law 191 = .ok (.istore 7, 2) := by decide +kernel
theorem dL_law_193 : decode cL_law 193 = .ok (.aload_n 2, 1) := by decide +kernel
theorem dL_law_194 : decode cL_law 194 = .ok (.invokevirtual 118, 3) := by decide +kernel
theorem dL_law_197 : decode cL_law 197 = .ok (.iload 6, 2) := by decide +kernel
theorem dL_law_199 : decode cL_law 199 = .ok (.if_icmp .eq 5, 3) := by decide +kernel
theorem dL_law_202 : decode cL_law 202 = .ok (.iconst 0, 1) := by decide +kernel
theorem dL_law_203 : decode cL_law 203 = .ok (.ireturn, 1) := by decide +kernel
theorem dL_law_204 : decode cL_law 204 = .ok (.iload 6, 2) := by decide +kernel
theorem dL_law_206 : decode cL_law 206 = .ok (.ifCond .ne 15, 3) := by decide +kernel
theorem dL_law_209 : decode cL_law 209 = .ok (.aload_n 3, 1) := by decide +kernel
theorem dL_law_210 : decode cL_law 210 = .ok (.iconst 0, 1) := by decide +kernel
theorem dL_law_211 : decode cL_law 211 = .ok (.laload, 1) := by decide +kernel
theorem dL_law_212 : decode cL_law 212 = .ok (.iload 7, 2) := by decide +kernel
theorem dL_law_214 : decode cL_law 214 = .ok (.i2l, 1) := by decide +kernel
theorem dL_law_215 : decode cL_law 215 = .ok (.lcmp, 1) := by decide +kernel
theorem dL_law_216 : decode cL_law 216 = .ok (.ifCond .eq 5, 3) := by decide +kernel
theorem dL_law_219 : decode cL_law 219 = .ok (.iconst 0, 1) := by decide +kernel
theorem dL_law_220 : decode cL_law 220 = .ok (.ireturn, 1) := by decide +kernel
theorem dL_law_221 : decode cL_law 221 = .ok (.goto 1649, 3) := by decide +kernel
theorem dL_law_224 : decode cL_law 224 = .ok (.aload_n 1, 1) := by decide +kernel
theorem dL_law_225 : decode cL_law 225 = .ok (.aload_n 0, 1) := by decide +kernel
theorem dL_law_226 : decode cL_law 226 = .ok (.iload 5, 2) := by decide +kernel
theorem dL_law_228 : decode cL_law 228 = .ok (.iconst 1, 1) := by decide +kernel
theorem dL_law_229 : decode cL_law 229 = .ok (.iadd, 1) := by decide +kernel
theorem dL_law_230 : decode cL_law 230 = .ok (.iaload, 1) := by decide +kernel
theorem dL_law_231 : decode cL_law 231 = .ok (.aload_n 0, 1) := by decide +kernel
theorem dL_law_232 : decode cL_law 232 = .ok (.iload 5, 2) := by decide +kernel
theorem dL_law_234 : decode cL_law 234 = .ok (.iconst 2, 1) := by decide +kernel
theorem dL_law_235 : decode cL_law 235 = .ok (.iadd, 1) := by decide +kernel
theorem dL_law_236 : decode cL_law 236 = .ok (.iaload, 1) := by decide +kernel
theorem dL_law_237 : decode cL_law 237 = .ok (.aload_n 3, 1) := by decide +kernel
theorem dL_law_238 : decode cL_law 238 = .ok (.invokestatic 121, 3) := by decide +kernel
theorem dL_law_241 : decode cL_law 241 = .ok (.istore 6, 2) := by decide +kernel
theorem dL_law_243 : decode cL_law 243 = .ok (.aload_n 2, 1) := by decide +kernel
theorem dL_law_244 : decode cL_law 244 = .ok (.aload_n 0, 1) := by decide +kernel
theorem dL_law_245 : decode cL_law 245 = .ok (.iload 5, 2) := by decide +kernel
theorem dL_law_247 : decode cL_law 247 = .ok (.iconst 1, 1) := by decide +kernel
theorem dL_law_248 : decode cL_law 248 = .ok (.iadd, 1) := by decide +kernel
theorem dL_law_249 : decode cL_law 249 = .ok (.iaload, 1) := by decide +kernel
theorem dL_law_250 : decode cL_law 250 = .ok (.aload_n 0, 1) := by decide +kernel
theorem dL_law_251 : decode cL_law 251 = .ok (.iload 5, 2) := by decide +kernel
theorem dL_law_253 : decode cL_law 253 = .ok (.iconst 2, 1) := by decide +kernel
theorem dL_law_254 : decode cL_law 254 = .ok (.iadd, 1) := by decide +kernel
theorem dL_law_255 : decode cL_law 255 = .ok (.iaload, 1) := by decide +kernel
theorem dL_law_256 : decode cL_law 256 = .ok (.invokevirtual 124, 3) := by decide +kernel
theorem dL_law_259 : decode cL_law 259 = .ok (.istore 7, 2) := by decide +kernel
theorem dL_law_261 : decode cL_law 261 = .ok (.aload_n 2, 1) := by decide +kernel
theorem dL_law_262 : decode cL_law 262 = .ok (.invokevirtual 118, 3) := by decide +kernel
theorem dL_law_265 : decode cL_law 265 = .ok (.iload 6, 2) := by decide +kernel
theorem dL_law_267 : decode cL_law 267 = .ok (.if_icmp .eq 5, 3) := by decide +kernel
theorem dL_law_270 : decode cL_law 270 = .ok (.iconst 0, 1) := by decide +kernel
theorem dL_law_271 : decode cL_law 271 = .ok (.ireturn, 1) := by decide +kernel
theorem dL_law_272 : decode cL_law 272 = .ok (.iload 6, 2) := by decide +kernel
theorem dL_law_274 : decode cL_law 274 = .ok (.ifCond .ne 15, 3) := by decide +kernel
theorem dL_law_277 : decode cL_law 277 = .ok (.aload_n 3, 1) := by decide +kernel
theorem dL_law_278 : decode cL_law 278 = .ok (.iconst 0, 1) := by decide +kernel
theorem dL_law_279 : decode cL_law 279 = .ok (.laload, 1) := by decide +kernel
theorem dL_law_280 : decode cL_law 280 = .ok (.iload 7, 2) := by decide +kernel
theorem dL_law_282 : decode cL_law 282 = .ok (.i2l, 1) := by decide +kernel
theorem dL_law_283 : decode cL_law 283 = .ok (.lcmp, 1) := by decide +kernel
theorem dL_law_284 : decode cL_law 284 = .ok (.ifCond .eq 5, 3) := by decide +kernel
theorem dL_law_287 : decode cL_law 287 = .ok (.iconst 0, 1) := by decide +kernel
theorem dL_law_288 : decode cL_law 288 = .ok (.ireturn, 1) := by decide +kernel
theorem dL_law_289 : decode cL_law 289 = .ok (.goto 1581, 3) := by decide +kernel
theorem dL_law_292 : decode cL_law 292 = .ok (.aload_n 1, 1) := by decide +kernel
theorem dL_law_293 : decode cL_law 293 = .ok (.aload_n 0, 1) := by decide +kernel
theorem dL_law_294 : decode cL_law 294 = .ok (.iload 5, 2) := by decide +kernel
theorem dL_law_296 : decode cL_law 296 = .ok (.iconst 1, 1) := by decide +kernel
theorem dL_law_297 : decode cL_law 297 = .ok (.iadd, 1) := by decide +kernel
theorem dL_law_298 : decode cL_law 298 = .ok (.iaload, 1) := by decide +kernel
theorem dL_law_299 : decode cL_law 299 = .ok (.aload_n 0, 1) := by decide +kernel
theorem dL_law_300 : decode cL_law 300 = .ok (.iload 5, 2) := by decide +kernel
theorem dL_law_302 : decode cL_law 302 = .ok (.iconst 2, 1) := by decide +kernel
theorem dL_law_303 : decode cL_law 303 = .ok (.iadd, 1) := by decide +kernel
theorem dL_law_304 : decode cL_law 304 = .ok (.iaload, 1) := by decide +kernel
theorem dL_law_305 : decode cL_law 305 = .ok (.aload_n 3, 1) := by decide +kernel
theorem dL_law_306 : decode cL_law 306 = .ok (.invokestatic 125, 3) := by decide +kernel
theorem dL_law_309 : decode cL_law 309 = .ok (.istore 6, 2) := by decide +kernel
theorem dL_law_311 : decode cL_law 311 = .ok (.aload_n 2, 1) := by decide +kernel
theorem dL_law_312 : decode cL_law 312 = .ok (.aload_n 0, 1) := by decide +kernel
theorem dL_law_313 : decode cL_law 313 = .ok (.iload 5, 2) := by decide +kernel
theorem dL_law_315 : decode cL_law 315 = .ok (.iconst 1, 1) := by decide +kernel
theorem dL_law_316 : decode cL_law 316 = .ok (.iadd, 1) := by decide +kernel
theorem dL_law_317 : decode cL_law 317 = .ok (.iaload, 1) := by decide +kernel
theorem dL_law_318 : decode cL_law 318 = .ok (.aload_n 0, 1) := by decide +kernel
theorem dL_law_319 : decode cL_law 319 = .ok (.iload 5, 2) := by decide +kernel
theorem dL_law_321 : decode cL_law 321 = .ok (.iconst 2, 1) := by decide +kernel
theorem dL_law_322 : decode cL_law 322 = .ok (.iadd, 1) := by decide +kernel
theorem dL_law_323 : decode cL_law 323 = .ok (.iaload, 1) := by decide +kernel
theorem dL_law_324 : decode cL_law 324 = .ok (.invokevirtual 127, 3) := by decide +kernel
theorem dL_law_327 : decode cL_law 327 = .ok (.istore 7, 2) := by decide +kernel
theorem dL_law_329 : decode cL_law 329 = .ok (.aload_n 2, 1) := by decide +kernel
theorem dL_law_330 : decode cL_law 330 = .ok (.invokevirtual 118, 3) := by decide +kernel
theorem dL_law_333 : decode cL_law 333 = .ok (.iload 6, 2) := by decide +kernel
theorem dL_law_335 : decode cL_law 335 = .ok (.if_icmp .eq 5, 3) := by decide +kernel
theorem dL_law_338 : decode cL_law 338 = .ok (.iconst 0, 1) := by decide +kernel
theorem dL_law_339 : decode cL_law 339 = .ok (.ireturn, 1) := by decide +kernel
theorem dL_law_340 : decode cL_law 340 = .ok (.iload 6, 2) := by decide +kernel
theorem dL_law_342 : decode cL_law 342 = .ok (.ifCond .ne 15, 3) := by decide +kernel
theorem dL_law_345 : decode cL_law 345 = .ok (.aload_n 3, 1) := by decide +kernel
theorem dL_law_346 : decode cL_law 346 = .ok (.iconst 0, 1) := by decide +kernel
theorem dL_law_347 : decode cL_law 347 = .ok (.laload, 1) := by decide +kernel
theorem dL_law_348 : decode cL_law 348 = .ok (.iload 7, 2) := by decide +kernel
theorem dL_law_350 : decode cL_law 350 = .ok (.i2l, 1) := by decide +kernel
theorem dL_law_351 : decode cL_law 351 = .ok (.lcmp, 1) := by decide +kernel
theorem dL_law_352 : decode cL_law 352 = .ok (.ifCond .eq 5, 3) := by decide +kernel
theorem dL_law_355 : decode cL_law 355 = .ok (.iconst 0, 1) := by decide +kernel
theorem dL_law_356 : decode cL_law 356 = .ok (.ireturn, 1) := by decide +kernel
theorem dL_law_357 : decode cL_law 357 = .ok (.goto 1513, 3) := by decide +kernel
theorem dL_law_360 : decode cL_law 360 = .ok (.aload_n 1, 1) := by decide +kernel
theorem dL_law_361 : decode cL_law 361 = .ok (.aload_n 0, 1) := by decide +kernel
theorem dL_law_362 : decode cL_law 362 = .ok (.iload 5, 2) := by decide +kernel
theorem dL_law_364 : decode cL_law 364 = .ok (.iconst 1, 1) := by decide +kernel
theorem dL_law_365 : decode cL_law 365 = .ok (.iadd, 1) := by decide +kernel
theorem dL_law_366 : decode cL_law 366 = .ok (.iaload, 1) := by decide +kernel
theorem dL_law_367 : decode cL_law 367 = .ok (.aload_n 3, 1) := by decide +kernel
theorem dL_law_368 : decode cL_law 368 = .ok (.invokestatic 128, 3) := by decide +kernel
theorem dL_law_371 : decode cL_law 371 = .ok (.istore 6, 2) := by decide +kernel
theorem dL_law_373 : decode cL_law 373 = .ok (.aload_n 2, 1) := by decide +kernel
theorem dL_law_374 : decode cL_law 374 = .ok (.aload_n 0, 1) := by decide +kernel
theorem dL_law_375 : decode cL_law 375 = .ok (.iload 5, 2) := by decide +kernel
theorem dL_law_377 : decode cL_law 377 = .ok (.iconst 1, 1) := by decide +kernel
theorem dL_law_378 : decode cL_law 378 = .ok (.iadd, 1) := by decide +kernel
theorem dL_law_379 : decode cL_law 379 = .ok (.iaload, 1) := by decide +kernel
theorem dL_law_380 : decode cL_law 380 = .ok (.invokevirtual 130, 3) := by decide +kernel
theorem dL_law_383 : decode cL_law 383 = .ok (.istore 7, 2) := by decide +kernel
theorem dL_law_385 : decode cL_law 385 = .ok (.aload_n 2, 1) := by decide +kernel
theorem dL_law_386 : decode cL_law 386 = .ok (.invokevirtual 118, 3) := by decide +kernel
theorem dL_law_389 : decode cL_law 389 = .ok (.iload 6, 2) := by decide +kernel
theorem dL_law_391 : decode cL_law 391 = .ok (.if_icmp .eq 5, 3) := by decide +kernel
theorem dL_law_394 : decode cL_law 394 = .ok (.iconst 0, 1) := by decide +kernel
theorem dL_law_395 : decode cL_law 395 = .ok (.ireturn, 1) := by decide +kernel
theorem dL_law_396 : decode cL_law 396 = .ok (.iload 6, 2) := by decide +kernel
theorem dL_law_398 : decode cL_law 398 = .ok (.ifCond .ne 15, 3) := by decide +kernel
theorem dL_law_401 : decode cL_law 401 = .ok (.aload_n 3, 1) := by decide +kernel
theorem dL_law_402 : decode cL_law 402 = .ok (.iconst 0, 1) := by decide +kernel
theorem dL_law_403 : decode cL_law 403 = .ok (.laload, 1) := by decide +kernel
theorem dL_law_404 : decode cL_law 404 = .ok (.iload 7, 2) := by decide +kernel
theorem dL_law_406 : decode cL_law 406 = .ok (.i2l, 1) := by decide +kernel
theorem dL_law_407 : decode cL_law 407 = .ok (.lcmp, 1) := by decide +kernel
theorem dL_law_408 : decode cL_law 408 = .ok (.ifCond .eq 5, 3) := by decide +kernel
theorem dL_law_411 : decode cL_law 411 = .ok (.iconst 0, 1) := by decide +kernel
theorem dL_law_412 : decode cL_law 412 = .ok (.ireturn, 1) := by decide +kernel
theorem dL_law_413 : decode cL_law 413 = .ok (.goto 1457, 3) := by decide +kernel
theorem dL_law_416 : decode cL_law 416 = .ok (.aload_n 1, 1) := by decide +kernel
theorem dL_law_417 : decode cL_law 417 = .ok (.aload_n 0, 1) := by decide +kernel
theorem dL_law_418 : decode cL_law 418 = .ok (.iload 5, 2) := by decide +kernel
theorem dL_law_420 : decode cL_law 420 = .ok (.iconst 1, 1) := by decide +kernel
theorem dL_law_421 : decode cL_law 421 = .ok (.iadd, 1) := by decide +kernel
theorem dL_law_422 : decode cL_law 422 = .ok (.iaload, 1) := by decide +kernel
theorem dL_law_423 : decode cL_law 423 = .ok (.aload_n 3, 1) := by decide +kernel
theorem dL_law_424 : decode cL_law 424 = .ok (.invokestatic 131, 3) := by decide +kernel
theorem dL_law_427 : decode cL_law 427 = .ok (.istore 6, 2) := by decide +kernel
theorem dL_law_429 : decode cL_law 429 = .ok (.aload_n 2, 1) := by decide +kernel
theorem dL_law_430 : decode cL_law 430 = .ok (.aload_n 0, 1) := by decide +kernel
theorem dL_law_431 : decode cL_law 431 = .ok (.iload 5, 2) := by decide +kernel
theorem dL_law_433 : decode cL_law 433 = .ok (.iconst 1, 1) := by decide +kernel
theorem dL_law_434 : decode cL_law 434 = .ok (.iadd, 1) := by decide +kernel
theorem dL_law_435 : decode cL_law 435 = .ok (.iaload, 1) := by decide +kernel
theorem dL_law_436 : decode cL_law 436 = .ok (.invokevirtual 133, 3) := by decide +kernel
theorem dL_law_439 : decode cL_law 439 = .ok (.istore 7, 2) := by decide +kernel
theorem dL_law_441 : decode cL_law 441 = .ok (.aload_n 2, 1) := by decide +kernel
theorem dL_law_442 : decode cL_law 442 = .ok (.invokevirtual 118, 3) := by decide +kernel
theorem dL_law_445 : decode cL_law 445 = .ok (.iload 6, 2) := by decide +kernel
theorem dL_law_447 : decode cL_law 447 = .ok (.if_icmp .eq 5, 3) := by decide +kernel
theorem dL_law_450 : decode cL_law 450 = .ok (.iconst 0, 1) := by decide +kernel
theorem dL_law_451 : decode cL_law 451 = .ok (.ireturn, 1) := by decide +kernel
theorem dL_law_452 : decode cL_law 452 = .ok (.iload 6, 2) := by decide +kernel
theorem dL_law_454 : decode cL_law 454 = .ok (.ifCond .ne 15, 3) := by decide +kernel
theorem dL_law_457 : decode cL_law 457 = .ok (.aload_n 3, 1) := by decide +kernel
theorem dL_law_458 : decode cL_law 458 = .ok (.iconst 0, 1) := by decide +kernel
theorem dL_law_459 : decode cL_law 459 = .ok (.laload, 1) := by decide +kernel
theorem dL_law_460 : decode cL_law 460 = .ok (.iload 7, 2) := by decide +kernel
theorem dL_law_462 : decode cL_law 462 = .ok (.i2l, 1) := by decide +kernel
theorem dL_law_463 : decode cL_law 463 = .ok (.lcmp, 1) := by decide +kernel
theorem dL_law_464 : decode cL_law 464 = .ok (.ifCond .eq 5, 3) := by decide +kernel
theorem dL_law_467 : decode cL_law 467 = .ok (.iconst 0, 1) := by decide +kernel
theorem dL_law_468 : decode cL_law 468 = .ok (.ireturn, 1) := by decide +kernel
theorem dL_law_469 : decode cL_law 469 = .ok (.goto 1401, 3) := by decide +kernel
theorem dL_law_472 : decode cL_law 472 = .ok (.aload_n 1, 1) := by decide +kernel
theorem dL_law_473 : decode cL_law 473 = .ok (.aload_n 0, 1) := by decide +kernel
theorem dL_law_474 : decode cL_law 474 = .ok (.iload 5, 2) := by decide +kernel
theorem dL_law_476 : decode cL_law 476 = .ok (.iconst 1, 1) := by decide +kernel
theorem dL_law_477 : decode cL_law 477 = .ok (.iadd, 1) := by decide +kernel
theorem dL_law_478 : decode cL_law 478 = .ok (.iaload, 1) := by decide +kernel
theorem dL_law_479 : decode cL_law 479 = .ok (.aload_n 0, 1) := by decide +kernel
theorem dL_law_480 : decode cL_law 480 = .ok (.iload 5, 2) := by decide +kernel
theorem dL_law_482 : decode cL_law 482 = .ok (.iconst 2, 1) := by decide +kernel
theorem dL_law_483 : decode cL_law 483 = .ok (.iadd, 1) := by decide +kernel
theorem dL_law_484 : decode cL_law 484 = .ok (.iaload, 1) := by decide +kernel
theorem dL_law_485 : decode cL_law 485 = .ok (.aload_n 0, 1) := by decide +kernel
theorem dL_law_486 : decode cL_law 486 = .ok (.iload 5, 2) := by decide +kernel
theorem dL_law_488 : decode cL_law 488 = .ok (.iconst 3, 1) := by decide +kernel
theorem dL_law_489 : decode cL_law 489 = .ok (.iadd, 1) := by decide +kernel
theorem dL_law_490 : decode cL_law 490 = .ok (.iaload, 1) := by decide +kernel
theorem dL_law_491 : decode cL_law 491 = .ok (.aload_n 3, 1) := by decide +kernel
theorem dL_law_492 : decode cL_law 492 = .ok (.invokestatic 134, 3) := by decide +kernel
theorem dL_law_495 : decode cL_law 495 = .ok (.istore 6, 2) := by decide +kernel
theorem dL_law_497 : decode cL_law 497 = .ok (.aload_n 2, 1) := by decide +kernel
theorem dL_law_498 : decode cL_law 498 = .ok (.aload_n 0, 1) := by decide +kernel
theorem dL_law_499 : decode cL_law 499 = .ok (.iload 5, 2) := by decide +kernel
theorem dL_law_501 : decode cL_law 501 = .ok (.iconst 1, 1) := by decide +kernel
theorem dL_law_502 : decode cL_law 502 = .ok (.iadd, 1) := by decide +kernel
theorem dL_law_503 : decode cL_law 503 = .ok (.iaload, 1) := by decide +kernel
theorem dL_law_504 : decode cL_law 504 = .ok (.aload_n 0, 1) := by decide +kernel
theorem dL_law_505 : decode cL_law 505 = .ok (.iload 5, 2) := by decide +kernel
theorem dL_law_507 : decode cL_law 507 = .ok (.iconst 2, 1) := by decide +kernel
theorem dL_law_508 : decode cL_law 508 = .ok (.iadd, 1) := by decide +kernel
theorem dL_law_509 : decode cL_law 509 = .ok (.iaload, 1) := by decide +kernel
theorem dL_law_510 : decode cL_law 510 = .ok (.aload_n 0, 1) := by decide +kernel
theorem dL_law_511 : decode cL_law 511 = .ok (.iload 5, 2) := by decide +kernel
theorem dL_law_513 : decode cL_law 513 = .ok (.iconst 3, 1) := by decide +kernel
theorem dL_law_514 : decode cL_law 514 = .ok (.iadd, 1) := by decide +kernel
theorem dL_law_515 : decode cL_law 515 = .ok (.iaload, 1) := by decide +kernel
theorem dL_law_516 : decode cL_law 516 = .ok (.invokevirtual 137, 3) := by decide +kernel
theorem dL_law_519 : decode cL_law 519 = .ok (.istore 7, 2) := by decide +kernel
theorem dL_law_521 : decode cL_law 521 = .ok (.aload_n 2, 1) := by decide +kernel
theorem dL_law_522 : decode cL_law 522 = .ok (.invokevirtual 118, 3) := by decide +kernel
theorem dL_law_525 : decode cL_law 525 = .ok (.iload 6, 2) := by decide +kernel
theorem dL_law_527 : decode cL_law 527 = .ok (.if_icmp .eq 5, 3) := by decide +kernel
theorem dL_law_530 : decode cL_law 530 = .ok (.iconst 0, 1) := by decide +kernel
theorem dL_law_531 : decode cL_law 531 = .ok (.ireturn, 1) := by decide +kernel
theorem dL_law_532 : decode cL_law 532 = .ok (.iload 6, 2) := by decide +kernel
theorem dL_law_534 : decode cL_law 534 = .ok (.ifCond .ne 15, 3) := by decide +kernel
theorem dL_law_537 : decode cL_law 537 = .ok (.aload_n 3, 1) := by decide +kernel
theorem dL_law_538 : decode cL_law 538 = .ok (.iconst 0, 1) := by decide +kernel
theorem dL_law_539 : decode cL_law 539 = .ok (.laload, 1) := by decide +kernel
theorem dL_law_540 : decode cL_law 540 = .ok (.iload 7, 2) := by decide +kernel
theorem dL_law_542 : decode cL_law 542 = .ok (.i2l, 1) := by decide +kernel
theorem dL_law_543 : decode cL_law 543 = .ok (.lcmp, 1) := by decide +kernel
theorem dL_law_544 : decode cL_law 544 = .ok (.ifCond .eq 5, 3) := by decide +kernel
theorem dL_law_547 : decode cL_law 547 = .ok (.iconst 0, 1) := by decide +kernel
theorem dL_law_548 : decode cL_law 548 = .ok (.ireturn, 1) := by decide +kernel
theorem dL_law_549 : decode cL_law 549 = .ok (.goto 1321, 3) := by decide +kernel
theorem dL_law_552 : decode cL_law 552 = .ok (.aload_n 1, 1) := by decide +kernel
theorem dL_law_553 : decode cL_law 553 = .ok (.aload_n 0, 1) := by decide +kernel
theorem dL_law_554 : decode cL_law 554 = .ok (.iload 5, 2) := by decide +kernel
theorem dL_law_556 : decode cL_law 556 = .ok (.iconst 1, 1) := by decide +kernel
theorem dL_law_557 : decode cL_law 557 = .ok (.iadd, 1) := by decide +kernel
theorem dL_law_558 : decode cL_law 558 = .ok (.iaload, 1) := by decide +kernel
theorem dL_law_559 : decode cL_law 559 = .ok (.aload_n 0, 1) := by decide +kernel
theorem dL_law_560 : decode cL_law 560 = .ok (.iload 5, 2) := by decide +kernel
theorem dL_law_562 : decode cL_law 562 = .ok (.iconst 2, 1) := by decide +kernel
theorem dL_law_563 : decode cL_law 563 = .ok (.iadd, 1) := by decide +kernel
theorem dL_law_564 : decode cL_law 564 = .ok (.iaload, 1) := by decide +kernel
theorem dL_law_565 : decode cL_law 565 = .ok (.aload_n 0, 1) := by decide +kernel
theorem dL_law_566 : decode cL_law 566 = .ok (.iload 5, 2) := by decide +kernel
theorem dL_law_568 : decode cL_law 568 = .ok (.iconst 3, 1) := by decide +kernel
theorem dL_law_569 : decode cL_law 569 = .ok (.iadd, 1) := by decide +kernel
theorem dL_law_570 : decode cL_law 570 = .ok (.iaload, 1) := by decide +kernel
theorem dL_law_571 : decode cL_law 571 = .ok (.aload_n 3, 1) := by decide +kernel
theorem dL_law_572 : decode cL_law 572 = .ok (.invokestatic 138, 3) := by decide +kernel
theorem dL_law_575 : decode cL_law 575 = .ok (.istore 6, 2) := by decide +kernel
theorem dL_law_577 : decode cL_law 577 = .ok (.aload_n 2, 1) := by decide +kernel
theorem dL_law_578 : decode cL_law 578 = .ok (.aload_n 0, 1) := by decide +kernel
theorem dL_law_579 : decode cL_law 579 = .ok (.iload 5, 2) := by decide +kernel
theorem dL_law_581 : decode cL_law 581 = .ok (.iconst 1, 1) := by decide +kernel
theorem dL_law_582 : decode cL_law 582 = .ok (.iadd, 1) := by decide +kernel
theorem dL_law_583 : decode cL_law 583 = .ok (.iaload, 1) := by decide +kernel
theorem dL_law_584 : decode cL_law 584 = .ok (.aload_n 0, 1) := by decide +kernel
theorem dL_law_585 : decode cL_law 585 = .ok (.iload 5, 2) := by decide +kernel
theorem dL_law_587 : decode cL_law 587 = .ok (.iconst 2, 1) := by decide +kernel
theorem dL_law_588 : decode cL_law 588 = .ok (.iadd, 1) := by decide +kernel
theorem dL_law_589 : decode cL_law 589 = .ok (.iaload, 1) := by decide +kernel
theorem dL_law_590 : decode cL_law 590 = .ok (.aload_n 0, 1) := by decide +kernel
theorem dL_law_591 : decode cL_law 591 = .ok (.iload 5, 2) := by decide +kernel
theorem dL_law_593 : decode cL_law 593 = .ok (.iconst 3, 1) := by decide +kernel
theorem dL_law_594 : decode cL_law 594 = .ok (.iadd, 1) := by decide +kernel
theorem dL_law_595 : decode cL_law 595 = .ok (.iaload, 1) := by decide +kernel
theorem dL_law_596 : decode cL_law 596 = .ok (.invokevirtual 140, 3) := by decide +kernel
theorem dL_law_599 : decode cL_law 599 = .ok (.istore 7, 2) := by decide +kernel
theorem dL_law_601 : decode cL_law 601 = .ok (.aload_n 2, 1) := by decide +kernel
theorem dL_law_602 : decode cL_law 602 = .ok (.invokevirtual 118, 3) := by decide +kernel
theorem dL_law_605 : decode cL_law 605 = .ok (.iload 6, 2) := by decide +kernel
theorem dL_law_607 : decode cL_law 607 = .ok (.if_icmp .eq 5, 3) := by decide +kernel
theorem dL_law_610 : decode cL_law 610 = .ok (.iconst 0, 1) := by decide +kernel
theorem dL_law_611 : decode cL_law 611 = .ok (.ireturn, 1) := by decide +kernel
theorem dL_law_612 : decode cL_law 612 = .ok (.iload 6, 2) := by decide +kernel
theorem dL_law_614 : decode cL_law 614 = .ok (.ifCond .ne 15, 3) := by decide +kernel
theorem dL_law_617 : decode cL_law 617 = .ok (.aload_n 3, 1) := by decide +kernel
theorem dL_law_618 : decode cL_law 618 = .ok (.iconst 0, 1) := by decide +kernel
theorem dL_law_619 : decode cL_law 619 = .ok (.laload, 1) := by decide +kernel
theorem dL_law_620 : decode cL_law 620 = .ok (.iload 7, 2) := by decide +kernel
theorem dL_law_622 : decode cL_law 622 = .ok (.i2l, 1) := by decide +kernel
theorem dL_law_623 : decode cL_law 623 = .ok (.lcmp, 1) := by decide +kernel
theorem dL_law_624 : decode cL_law 624 = .ok (.ifCond .eq 5, 3) := by decide +kernel
theorem dL_law_627 : decode cL_law 627 = .ok (.iconst 0, 1) := by decide +kernel
theorem dL_law_628 : decode cL_law 628 = .ok (.ireturn, 1) := by decide +kernel
theorem dL_law_629 : decode cL_law 629 = .ok (.goto 1241, 3) := by decide +kernel
theorem dL_law_632 : decode cL_law 632 = .ok (.aload_n 1, 1) := by decide +kernel
theorem dL_law_633 : decode cL_law 633 = .ok (.aload_n 0, 1) := by decide +kernel
theorem dL_law_634 : decode cL_law 634 = .ok (.iload 5, 2) := by decide +kernel
theorem dL_law_636 : decode cL_law 636 = .ok (.iconst 1, 1) := by decide +kernel
theorem dL_law_637 : decode cL_law 637 = .ok (.iadd, 1) := by decide +kernel
theorem dL_law_638 : decode cL_law 638 = .ok (.iaload, 1) := by decide +kernel
theorem dL_law_639 : decode cL_law 639 = .ok (.aload_n 0, 1) := by decide +kernel
theorem dL_law_640 : decode cL_law 640 = .ok (.iload 5, 2) := by decide +kernel
theorem dL_law_642 : decode cL_law 642 = .ok (.iconst 2, 1) := by decide +kernel
theorem dL_law_643 : decode cL_law 643 = .ok (.iadd, 1) := by decide +kernel
theorem dL_law_644 : decode cL_law 644 = .ok (.iaload, 1) := by decide +kernel
theorem dL_law_645 : decode cL_law 645 = .ok (.aload_n 0, 1) := by decide +kernel
theorem dL_law_646 : decode cL_law 646 = .ok (.iload 5, 2) := by decide +kernel
theorem dL_law_648 : decode cL_law 648 = .ok (.iconst 3, 1) := by decide +kernel
theorem dL_law_649 : decode cL_law 649 = .ok (.iadd, 1) := by decide +kernel
theorem dL_law_650 : decode cL_law 650 = .ok (.iaload, 1) := by decide +kernel
theorem dL_law_651 : decode cL_law 651 = .ok (.aload_n 3, 1) := by decide +kernel
theorem dL_law_652 : decode cL_law 652 = .ok (.invokestatic 141, 3) := by decide +kernel
theorem dL_law_655 : decode cL_law 655 = .ok (.istore 6, 2) := by decide +kernel
theorem dL_law_657 : decode cL_law 657 = .ok (.aload_n 2, 1) := by decide +kernel
theorem dL_law_658 : decode cL_law 658 = .ok (.aload_n 0, 1) := by decide +kernel
theorem dL_law_659 : decode cL_law 659 = .ok (.iload 5, 2) := by decide +kernel
theorem dL_law_661 : decode cL_law 661 = .ok (.iconst 1, 1) := by decide +kernel
theorem dL_law_662 : decode cL_law 662 = .ok (.iadd, 1) := by decide +kernel
theorem dL_law_663 : decode cL_law 663 = .ok (.iaload, 1) := by decide +kernel
theorem dL_law_664 : decode cL_law 664 = .ok (.aload_n 0, 1) := by decide +kernel
theorem dL_law_665 : decode cL_law 665 = .ok (.iload 5, 2) := by decide +kernel
theorem dL_law_667 : decode cL_law 667 = .ok (.iconst 2, 1) := by decide +kernel
theorem dL_law_668 : decode cL_law 668 = .ok (.iadd, 1) := by decide +kernel
theorem dL_law_669 : decode cL_law 669 = .ok (.iaload, 1) := by decide +kernel
theorem dL_law_670 : decode cL_law 670 = .ok (.aload_n 0, 1) := by decide +kernel
theorem dL_law_671 : decode cL_law 671 = .ok (.iload 5, 2) := by decide +kernel
theorem dL_law_673 : decode cL_law 673 = .ok (.iconst 3, 1) := by decide +kernel
theorem dL_law_674 : decode cL_law 674 = .ok (.iadd, 1) := by decide +kernel
theorem dL_law_675 : decode cL_law 675 = .ok (.iaload, 1) := by decide +kernel
theorem dL_law_676 : decode cL_law 676 = .ok (.invokevirtual 143, 3) := by decide +kernel
theorem dL_law_679 : decode cL_law 679 = .ok (.istore 7, 2) := by decide +kernel
theorem dL_law_681 : decode cL_law 681 = .ok (.aload_n 2, 1) := by decide +kernel
theorem dL_law_682 : decode cL_law 682 = .ok (.invokevirtual 118, 3) := by decide +kernel
theorem dL_law_685 : decode cL_law 685 = .ok (.iload 6, 2) := by decide +kernel
theorem dL_law_687 : decode cL_law 687 = .ok (.if_icmp .eq 5, 3) := by decide +kernel
theorem dL_law_690 : decode cL_law 690 = .ok (.iconst 0, 1) := by decide +kernel
theorem dL_law_691 : decode cL_law 691 = .ok (.ireturn, 1) := by decide +kernel
theorem dL_law_692 : decode cL_law 692 = .ok (.iload 6, 2) := by decide +kernel
theorem dL_law_694 : decode cL_law 694 = .ok (.ifCond .ne 15, 3) := by decide +kernel
theorem dL_law_697 : decode cL_law 697 = .ok (.aload_n 3, 1) := by decide +kernel
theorem dL_law_698 : decode cL_law 698 = .ok (.iconst 0, 1) := by decide +kernel
theorem dL_law_699 : decode cL_law 699 = .ok (.laload, 1) := by decide +kernel
theorem dL_law_700 : decode cL_law 700 = .ok (.iload 7, 2) := by decide +kernel
theorem dL_law_702 : decode cL_law 702 = .ok (.i2l, 1) := by decide +kernel
theorem dL_law_703 : decode cL_law 703 = .ok (.lcmp, 1) := by decide +kernel
theorem dL_law_704 : decode cL_law 704 = .ok (.ifCond .eq 5, 3) := by decide +kernel
theorem dL_law_707 : decode cL_law 707 = .ok (.iconst 0, 1) := by decide +kernel
theorem dL_law_708 : decode cL_law 708 = .ok (.ireturn, 1) := by decide +kernel
theorem dL_law_709 : decode cL_law 709 = .ok (.goto 1161, 3) := by decide +kernel
theorem dL_law_712 : decode cL_law 712 = .ok (.aload_n 1, 1) := by decide +kernel
theorem dL_law_713 : decode cL_law 713 = .ok (.aload_n 0, 1) := by decide +kernel
theorem dL_law_714 : decode cL_law 714 = .ok (.iload 5, 2) := by decide +kernel
theorem dL_law_716 : decode cL_law 716 = .ok (.iconst 1, 1) := by decide +kernel
theorem dL_law_717 : decode cL_law 717 = .ok (.iadd, 1) := by decide +kernel
theorem dL_law_718 : decode cL_law 718 = .ok (.iaload, 1) := by decide +kernel
theorem dL_law_719 : decode cL_law 719 = .ok (.aload_n 0, 1) := by decide +kernel
theorem dL_law_720 : decode cL_law 720 = .ok (.iload 5, 2) := by decide +kernel
theorem dL_law_722 : decode cL_law 722 = .ok (.iconst 2, 1) := by decide +kernel
theorem dL_law_723 : decode cL_law 723 = .ok (.iadd, 1) := by decide +kernel
theorem dL_law_724 : decode cL_law 724 = .ok (.iaload, 1) := by decide +kernel
theorem dL_law_725 : decode cL_law 725 = .ok (.aload_n 0, 1) := by decide +kernel
theorem dL_law_726 : decode cL_law 726 = .ok (.iload 5, 2) := by decide +kernel
theorem dL_law_728 : decode cL_law 728 = .ok (.iconst 3, 1) := by decide +kernel
theorem dL_law_729 : decode cL_law 729 = .ok (.iadd, 1) := by decide +kernel
theorem dL_law_730 : decode cL_law 730 = .ok (.iaload, 1) := by decide +kernel
theorem dL_law_731 : decode cL_law 731 = .ok (.aload_n 0, 1) := by decide +kernel
theorem dL_law_732 : decode cL_law 732 = .ok (.iload 5, 2) := by decide +kernel
theorem dL_law_734 : decode cL_law 734 = .ok (.iconst 4, 1) := by decide +kernel
theorem dL_law_735 : decode cL_law 735 = .ok (.iadd, 1) := by decide +kernel
theorem dL_law_736 : decode cL_law 736 = .ok (.iaload, 1) := by decide +kernel
theorem dL_law_737 : decode cL_law 737 = .ok (.ifCond .eq 7, 3) := by decide +kernel
theorem dL_law_740 : decode cL_law 740 = .ok (.iconst 1, 1) := by decide +kernel
theorem dL_law_741 : decode cL_law 741 = .ok (.goto 4, 3) := by decide +kernel
theorem dL_law_744 : decode cL_law 744 = .ok (.iconst 0, 1) := by decide +kernel
theorem dL_law_745 : decode cL_law 745 = .ok (.aload_n 3, 1) := by decide +kernel
theorem dL_law_746 : decode cL_law 746 = .ok (.invokestatic 144, 3) := by decide +kernel
theorem dL_law_749 : decode cL_law 749 = .ok (.istore 6, 2) := by decide +kernel
theorem dL_law_751 : decode cL_law 751 = .ok (.aload_n 2, 1) := by decide +kernel
theorem dL_law_752 : decode cL_law 752 = .ok (.aload_n 0, 1) := by decide +kernel
theorem dL_law_753 : decode cL_law 753 = .ok (.iload 5, 2) := by decide +kernel
theorem dL_law_755 : decode cL_law 755 = .ok (.iconst 1, 1) := by decide +kernel
theorem dL_law_756 : decode cL_law 756 = .ok (.iadd, 1) := by decide +kernel
theorem dL_law_757 : decode cL_law 757 = .ok (.iaload, 1) := by decide +kernel
theorem dL_law_758 : decode cL_law 758 = .ok (.aload_n 0, 1) := by decide +kernel
theorem dL_law_759 : decode cL_law 759 = .ok (.iload 5, 2) := by decide +kernel
theorem dL_law_761 : decode cL_law 761 = .ok (.iconst 2, 1) := by decide +kernel
theorem dL_law_762 : decode cL_law 762 = .ok (.iadd, 1) := by decide +kernel
theorem dL_law_763 : decode cL_law 763 = .ok (.iaload, 1) := by decide +kernel
theorem dL_law_764 : decode cL_law 764 = .ok (.aload_n 0, 1) := by decide +kernel
theorem dL_law_765 : decode cL_law 765 = .ok (.iload 5, 2) := by decide +kernel
theorem dL_law_767 : decode cL_law 767 = .ok (.iconst 3, 1) := by decide +kernel
theorem dL_law_768 : decode cL_law 768 = .ok (.iadd, 1) := by decide +kernel
theorem dL_law_769 : decode cL_law 769 = .ok (.iaload, 1) := by decide +kernel
theorem dL_law_770 : decode cL_law 770 = .ok (.aload_n 0, 1) := by decide +kernel
theorem dL_law_771 : decode cL_law 771 = .ok (.iload 5, 2) := by decide +kernel
theorem dL_law_773 : decode cL_law 773 = .ok (.iconst 4, 1) := by decide +kernel
theorem dL_law_774 : decode cL_law 774 = .ok (.iadd, 1) := by decide +kernel
theorem dL_law_775 : decode cL_law 775 = .ok (.iaload, 1) := by decide +kernel
theorem dL_law_776 : decode cL_law 776 = .ok (.ifCond .eq 7, 3) := by decide +kernel
theorem dL_law_779 : decode cL_law 779 = .ok (.iconst 1, 1) := by decide +kernel
theorem dL_law_780 : decode cL_law 780 = .ok (.goto 4, 3) := by decide +kernel
theorem dL_law_783 : decode cL_law 783 = .ok (.iconst 0, 1) := by decide +kernel
theorem dL_law_784 : decode cL_law 784 = .ok (.invokevirtual 147, 3) := by decide +kernel
theorem dL_law_787 : decode cL_law 787 = .ok (.istore 7, 2) := by decide +kernel
theorem dL_law_789 : decode cL_law 789 = .ok (.aload_n 2, 1) := by decide +kernel
theorem dL_law_790 : decode cL_law 790 = .ok (.invokevirtual 118, 3) := by decide +kernel
theorem dL_law_793 : decode cL_law 793 = .ok (.iload 6, 2) := by decide +kernel
theorem dL_law_795 : decode cL_law 795 = .ok (.if_icmp .eq 5, 3) := by decide +kernel
theorem dL_law_798 : decode cL_law 798 = .ok (.iconst 0, 1) := by decide +kernel
theorem dL_law_799 : decode cL_law 799 = .ok (.ireturn, 1) := by decide +kernel
theorem dL_law_800 : decode cL_law 800 = .ok (.iload 6, 2) := by decide +kernel
theorem dL_law_802 : decode cL_law 802 = .ok (.ifCond .ne 15, 3) := by decide +kernel
theorem dL_law_805 : decode cL_law 805 = .ok (.aload_n 3, 1) := by decide +kernel
theorem dL_law_806 : decode cL_law 806 = .ok (.iconst 0, 1) := by decide +kernel
theorem dL_law_807 : decode cL_law 807 = .ok (.laload, 1) := by decide +kernel
theorem dL_law_808 : decode cL_law 808 = .ok (.iload 7, 2) := by decide +kernel
theorem dL_law_810 : decode cL_law 810 = .ok (.i2l, 1) := by decide +kernel
theorem dL_law_811 : decode cL_law 811 = .ok (.lcmp, 1) := by decide +kernel
theorem dL_law_812 : decode cL_law 812 = .ok (.ifCond .eq 5, 3) := by decide +kernel
theorem dL_law_815 : decode cL_law 815 = .ok (.iconst 0, 1) := by decide +kernel
theorem dL_law_816 : decode cL_law 816 = .ok (.ireturn, 1) := by decide +kernel
theorem dL_law_817 : decode cL_law 817 = .ok (.goto 1053, 3) := by decide +kernel
theorem dL_law_820 : decode cL_law 820 = .ok (.aload_n 1, 1) := by decide +kernel
theorem dL_law_821 : decode cL_law 821 = .ok (.aload_n 0, 1) := by decide +kernel
theorem dL_law_822 : decode cL_law 822 = .ok (.iload 5, 2) := by decide +kernel
theorem dL_law_824 : decode cL_law 824 = .ok (.iconst 1, 1) := by decide +kernel
theorem dL_law_825 : decode cL_law 825 = .ok (.iadd, 1) := by decide +kernel
theorem dL_law_826 : decode cL_law 826 = .ok (.iaload, 1) := by decide +kernel
theorem dL_law_827 : decode cL_law 827 = .ok (.aload_n 0, 1) := by decide +kernel
theorem dL_law_828 : decode cL_law 828 = .ok (.iload 5, 2) := by decide +kernel
theorem dL_law_830 : decode cL_law 830 = .ok (.iconst 2, 1) := by decide +kernel
theorem dL_law_831 : decode cL_law 831 = .ok (.iadd, 1) := by decide +kernel
theorem dL_law_832 : decode cL_law 832 = .ok (.iaload, 1) := by decide +kernel
theorem dL_law_833 : decode cL_law 833 = .ok (.ifCond .eq 7, 3) := by decide +kernel
theorem dL_law_836 : decode cL_law 836 = .ok (.iconst 1, 1) := by decide +kernel
theorem dL_law_837 : decode cL_law 837 = .ok (.goto 4, 3) := by decide +kernel
theorem dL_law_840 : decode cL_law 840 = .ok (.iconst 0, 1) := by decide +kernel
theorem dL_law_841 : decode cL_law 841 = .ok (.aload_n 3, 1) := by decide +kernel
theorem dL_law_842 : decode cL_law 842 = .ok (.invokestatic 148, 3) := by decide +kernel
theorem dL_law_845 : decode cL_law 845 = .ok (.istore 6, 2) := by decide +kernel
theorem dL_law_847 : decode cL_law 847 = .ok (.aload_n 2, 1) := by decide +kernel
theorem dL_law_848 : decode cL_law 848 = .ok (.aload_n 0, 1) := by decide +kernel
theorem dL_law_849 : decode cL_law 849 = .ok (.iload 5, 2) := by decide +kernel
theorem dL_law_851 : decode cL_law 851 = .ok (.iconst 1, 1) := by decide +kernel
theorem dL_law_852 : decode cL_law 852 = .ok (.iadd, 1) := by decide +kernel
theorem dL_law_853 : decode cL_law 853 = .ok (.iaload, 1) := by decide +kernel
theorem dL_law_854 : decode cL_law 854 = .ok (.aload_n 0, 1) := by decide +kernel
theorem dL_law_855 : decode cL_law 855 = .ok (.iload 5, 2) := by decide +kernel
theorem dL_law_857 : decode cL_law 857 = .ok (.iconst 2, 1) := by decide +kernel
theorem dL_law_858 : decode cL_law 858 = .ok (.iadd, 1) := by decide +kernel
theorem dL_law_859 : decode cL_law 859 = .ok (.iaload, 1) := by decide +kernel
theorem dL_law_860 : decode cL_law 860 = .ok (.ifCond .eq 7, 3) := by decide +kernel
theorem dL_law_863 : decode cL_law 863 = .ok (.iconst 1, 1) := by decide +kernel
theorem dL_law_864 : decode cL_law 864 = .ok (.goto 4, 3) := by decide +kernel
theorem dL_law_867 : decode cL_law 867 = .ok (.iconst 0, 1) := by decide +kernel
theorem dL_law_868 : decode cL_law 868 = .ok (.invokevirtual 151, 3) := by decide +kernel
theorem dL_law_871 : decode cL_law 871 = .ok (.istore 7, 2) := by decide +kernel
theorem dL_law_873 : decode cL_law 873 = .ok (.aload_n 2, 1) := by decide +kernel
theorem dL_law_874 : decode cL_law 874 = .ok (.invokevirtual 118, 3) := by decide +kernel
theorem dL_law_877 : decode cL_law 877 = .ok (.iload 6, 2) := by decide +kernel
theorem dL_law_879 : decode cL_law 879 = .ok (.if_icmp .eq 5, 3) := by decide +kernel
theorem dL_law_882 : decode cL_law 882 = .ok (.iconst 0, 1) := by decide +kernel
theorem dL_law_883 : decode cL_law 883 = .ok (.ireturn, 1) := by decide +kernel
theorem dL_law_884 : decode cL_law 884 = .ok (.iload 6, 2) := by decide +kernel
theorem dL_law_886 : decode cL_law 886 = .ok (.ifCond .ne 15, 3) := by decide +kernel
theorem dL_law_889 : decode cL_law 889 = .ok (.aload_n 3, 1) := by decide +kernel
theorem dL_law_890 : decode cL_law 890 = .ok (.iconst 0, 1) := by decide +kernel
theorem dL_law_891 : decode cL_law 891 = .ok (.laload, 1) := by decide +kernel
theorem dL_law_892 : decode cL_law 892 = .ok (.iload 7, 2) := by decide +kernel
theorem dL_law_894 : decode cL_law 894 = .ok (.i2l, 1) := by decide +kernel
theorem dL_law_895 : decode cL_law 895 = .ok (.lcmp, 1) := by decide +kernel
theorem dL_law_896 : decode cL_law 896 = .ok (.ifCond .eq 5, 3) := by decide +kernel
theorem dL_law_899 : decode cL_law 899 = .ok (.iconst 0, 1) := by decide +kernel
theorem dL_law_900 : decode cL_law 900 = .ok (.ireturn, 1) := by decide +kernel
theorem dL_law_901 : decode cL_law 901 = .ok (.goto 969, 3) := by decide +kernel
theorem dL_law_904 : decode cL_law 904 = .ok (.aload_n 1, 1) := by decide +kernel
theorem dL_law_905 : decode cL_law 905 = .ok (.aload_n 0, 1) := by decide +kernel
theorem dL_law_906 : decode cL_law 906 = .ok (.iload 5, 2) := by decide +kernel
theorem dL_law_908 : decode cL_law 908 = .ok (.iconst 1, 1) := by decide +kernel
theorem dL_law_909 : decode cL_law 909 = .ok (.iadd, 1) := by decide +kernel
theorem dL_law_910 : decode cL_law 910 = .ok (.iaload, 1) := by decide +kernel
theorem dL_law_911 : decode cL_law 911 = .ok (.aload_n 0, 1) := by decide +kernel
theorem dL_law_912 : decode cL_law 912 = .ok (.iload 5, 2) := by decide +kernel
theorem dL_law_914 : decode cL_law 914 = .ok (.iconst 2, 1) := by decide +kernel
theorem dL_law_915 : decode cL_law 915 = .ok (.iadd, 1) := by decide +kernel
theorem dL_law_916 : decode cL_law 916 = .ok (.iaload, 1) := by decide +kernel
theorem dL_law_917 : decode cL_law 917 = .ok (.aload_n 3, 1) := by decide +kernel
theorem dL_law_918 : decode cL_law 918 = .ok (.invokestatic 152, 3) := by decide +kernel
theorem dL_law_921 : decode cL_law 921 = .ok (.istore 6, 2) := by decide +kernel
theorem dL_law_923 : decode cL_law 923 = .ok (.aload_n 2, 1) := by decide +kernel
theorem dL_law_924 : decode cL_law 924 = .ok (.aload_n 0, 1) := by decide +kernel
theorem dL_law_925 : decode cL_law 925 = .ok (.iload 5, 2) := by decide +kernel
theorem dL_law_927 : decode cL_law 927 = .ok (.iconst 1, 1) := by decide +kernel
theorem dL_law_928 : decode cL_law 928 = .ok (.iadd, 1) := by decide +kernel
theorem dL_law_929 : decode cL_law 929 = .ok (.iaload, 1) := by decide +kernel
theorem dL_law_930 : decode cL_law 930 = .ok (.aload_n 0, 1) := by decide +kernel
theorem dL_law_931 : decode cL_law 931 = .ok (.iload 5, 2) := by decide +kernel
theorem dL_law_933 : decode cL_law 933 = .ok (.iconst 2, 1) := by decide +kernel
theorem dL_law_934 : decode cL_law 934 = .ok (.iadd, 1) := by decide +kernel
theorem dL_law_935 : decode cL_law 935 = .ok (.iaload, 1) := by decide +kernel
theorem dL_law_936 : decode cL_law 936 = .ok (.invokevirtual 154, 3) := by decide +kernel
theorem dL_law_939 : decode cL_law 939 = .ok (.istore 7, 2) := by decide +kernel
theorem dL_law_941 : decode cL_law 941 = .ok (.aload_n 2, 1) := by decide +kernel
theorem dL_law_942 : decode cL_law 942 = .ok (.invokevirtual 118, 3) := by decide +kernel
theorem dL_law_945 : decode cL_law 945 = .ok (.iload 6, 2) := by decide +kernel
theorem dL_law_947 : decode cL_law 947 = .ok (.if_icmp .eq 5, 3) := by decide +kernel
theorem dL_law_950 : decode cL_law 950 = .ok (.iconst 0, 1) := by decide +kernel
theorem dL_law_951 : decode cL_law 951 = .ok (.ireturn, 1) := by decide +kernel
theorem dL_law_952 : decode cL_law 952 = .ok (.iload 6, 2) := by decide +kernel
theorem dL_law_954 : decode cL_law 954 = .ok (.ifCond .ne 15, 3) := by decide +kernel
theorem dL_law_957 : decode cL_law 957 = .ok (.aload_n 3, 1) := by decide +kernel
theorem dL_law_958 : decode cL_law 958 = .ok (.iconst 0, 1) := by decide +kernel
theorem dL_law_959 : decode cL_law 959 = .ok (.laload, 1) := by decide +kernel
theorem dL_law_960 : decode cL_law 960 = .ok (.iload 7, 2) := by decide +kernel
theorem dL_law_962 : decode cL_law 962 = .ok (.i2l, 1) := by decide +kernel
theorem dL_law_963 : decode cL_law 963 = .ok (.lcmp, 1) := by decide +kernel
theorem dL_law_964 : decode cL_law 964 = .ok (.ifCond .eq 5, 3) := by decide +kernel
theorem dL_law_967 : decode cL_law 967 = .ok (.iconst 0, 1) := by decide +kernel
theorem dL_law_968 : decode cL_law 968 = .ok (.ireturn, 1) := by decide +kernel
theorem dL_law_969 : decode cL_law 969 = .ok (.goto 901, 3) := by decide +kernel
theorem dL_law_972 : decode cL_law 972 = .ok (.aload_n 1, 1) := by decide +kernel
theorem dL_law_973 : decode cL_law 973 = .ok (.aload_n 0, 1) := by decide +kernel
theorem dL_law_974 : decode cL_law 974 = .ok (.iload 5, 2) := by decide +kernel
theorem dL_law_976 : decode cL_law 976 = .ok (.iconst 1, 1) := by decide +kernel
theorem dL_law_977 : decode cL_law 977 = .ok (.iadd, 1) := by decide +kernel
theorem dL_law_978 : decode cL_law 978 = .ok (.iaload, 1) := by decide +kernel
theorem dL_law_979 : decode cL_law 979 = .ok (.aload_n 0, 1) := by decide +kernel
theorem dL_law_980 : decode cL_law 980 = .ok (.iload 5, 2) := by decide +kernel
theorem dL_law_982 : decode cL_law 982 = .ok (.iconst 2, 1) := by decide +kernel
theorem dL_law_983 : decode cL_law 983 = .ok (.iadd, 1) := by decide +kernel
theorem dL_law_984 : decode cL_law 984 = .ok (.iaload, 1) := by decide +kernel
theorem dL_law_985 : decode cL_law 985 = .ok (.aload_n 3, 1) := by decide +kernel
theorem dL_law_986 : decode cL_law 986 = .ok (.invokestatic 155, 3) := by decide +kernel
theorem dL_law_989 : decode cL_law 989 = .ok (.istore 6, 2) := by decide +kernel
theorem dL_law_991 : decode cL_law 991 = .ok (.aload_n 2, 1) := by decide +kernel
theorem dL_law_992 : decode cL_law 992 = .ok (.aload_n 0, 1) := by decide +kernel
theorem dL_law_993 : decode cL_law 993 = .ok (.iload 5, 2) := by decide +kernel
theorem dL_law_995 : decode cL_law 995 = .ok (.iconst 1, 1) := by decide +kernel
theorem dL_law_996 : decode cL_law 996 = .ok (.iadd, 1) := by decide +kernel
theorem dL_law_997 : decode cL_law 997 = .ok (.iaload, 1) := by decide +kernel
theorem dL_law_998 : decode cL_law 998 = .ok (.aload_n 0, 1) := by decide +kernel
theorem dL_law_999 : decode cL_law 999 = .ok (.iload 5, 2) := by decide +kernel
theorem dL_law_1001 : decode cL_law 1001 = .ok (.iconst 2, 1) := by decide +kernel
theorem dL_law_1002 : decode cL_law 1002 = .ok (.iadd, 1) := by decide +kernel
theorem dL_law_1003 : decode cL_law 1003 = .ok (.iaload, 1) := by decide +kernel
theorem dL_law_1004 : decode cL_law 1004 = .ok (.invokevirtual 157, 3) := by decide +kernel
theorem dL_law_1007 : decode cL_law 1007 = .ok (.istore 7, 2) := by decide +kernel
theorem dL_law_1009 : decode cL_law 1009 = .ok (.aload_n 2, 1) := by decide +kernel
theorem dL_law_1010 : decode cL_law 1010 = .ok (.invokevirtual 118, 3) := by decide +kernel
theorem dL_law_1013 : decode cL_law 1013 = .ok (.iload 6, 2) := by decide +kernel
theorem dL_law_1015 : decode cL_law 1015 = .ok (.if_icmp .eq 5, 3) := by decide +kernel
theorem dL_law_1018 : decode cL_law 1018 = .ok (.iconst 0, 1) := by decide +kernel
theorem dL_law_1019 : decode cL_law 1019 = .ok (.ireturn, 1) := by decide +kernel
theorem dL_law_1020 : decode cL_law 1020 = .ok (.iload 6, 2) := by decide +kernel
theorem dL_law_1022 : decode cL_law 1022 = .ok (.ifCond .ne 15, 3) := by decide +kernel
theorem dL_law_1025 : decode cL_law 1025 = .ok (.aload_n 3, 1) := by decide +kernel
theorem dL_law_1026 : decode cL_law 1026 = .ok (.iconst 0, 1) := by decide +kernel
theorem dL_law_1027 : decode cL_law 1027 = .ok (.laload, 1) := by decide +kernel
theorem dL_law_1028 : decode cL_law 1028 = .ok (.iload 7, 2) := by decide +kernel
theorem dL_law_1030 : decode cL_law 1030 = .ok (.i2l, 1) := by decide +kernel
theorem dL_law_1031 : decode cL_law 1031 = .ok (.lcmp, 1) := by decide +kernel
theorem dL_law_1032 : decode cL_law 1032 = .ok (.ifCond .eq 5, 3) := by decide +kernel
theorem dL_law_1035 : decode cL_law 1035 = .ok (.iconst 0, 1) := by decide +kernel
theorem dL_law_1036 : decode cL_law 1036 = .ok (.ireturn, 1) := by decide +kernel
theorem dL_law_1037 : decode cL_law 1037 = .ok (.goto 833, 3) := by decide +kernel
theorem dL_law_1040 : decode cL_law 1040 = .ok (.aload_n 1, 1) := by decide +kernel
theorem dL_law_1041 : decode cL_law 1041 = .ok (.aload_n 0, 1) := by decide +kernel
theorem dL_law_1042 : decode cL_law 1042 = .ok (.iload 5, 2) := by decide +kernel
theorem dL_law_1044 : decode cL_law 1044 = .ok (.iconst 1, 1) := by decide +kernel
theorem dL_law_1045 : decode cL_law 1045 = .ok (.iadd, 1) := by decide +kernel
theorem dL_law_1046 : decode cL_law 1046 = .ok (.iaload, 1) := by decide +kernel
theorem dL_law_1047 : decode cL_law 1047 = .ok (.aload_n 0, 1) := by decide +kernel
theorem dL_law_1048 : decode cL_law 1048 = .ok (.iload 5, 2) := by decide +kernel
theorem dL_law_1050 : decode cL_law 1050 = .ok (.iconst 2, 1) := by decide +kernel
theorem dL_law_1051 : decode cL_law 1051 = .ok (.iadd, 1) := by decide +kernel
theorem dL_law_1052 : decode cL_law 1052 = .ok (.iaload, 1) := by decide +kernel
theorem dL_law_1053 : decode cL_law 1053 = .ok (.aload_n 3, 1) := by decide +kernel
theorem dL_law_1054 : decode cL_law 1054 = .ok (.invokestatic 158, 3) := by decide +kernel
theorem dL_law_1057 : decode cL_law 1057 = .ok (.istore 6, 2) := by decide +kernel
theorem dL_law_1059 : decode cL_law 1059 = .ok (.aload_n 2, 1) := by decide +kernel
theorem dL_law_1060 : decode cL_law 1060 = .ok (.aload_n 0, 1) := by decide +kernel
theorem dL_law_1061 : decode cL_law 1061 = .ok (.iload 5, 2) := by decide +kernel
theorem dL_law_1063 : decode cL_law 1063 = .ok (.iconst 1, 1) := by decide +kernel
theorem dL_law_1064 : decode cL_law 1064 = .ok (.iadd, 1) := by decide +kernel
theorem dL_law_1065 : decode cL_law 1065 = .ok (.iaload, 1) := by decide +kernel
theorem dL_law_1066 : decode cL_law 1066 = .ok (.aload_n 0, 1) := by decide +kernel
theorem dL_law_1067 : decode cL_law 1067 = .ok (.iload 5, 2) := by decide +kernel
theorem dL_law_1069 : decode cL_law 1069 = .ok (.iconst 2, 1) := by decide +kernel
theorem dL_law_1070 : decode cL_law 1070 = .ok (.iadd, 1) := by decide +kernel
theorem dL_law_1071 : decode cL_law 1071 = .ok (.iaload, 1) := by decide +kernel
theorem dL_law_1072 : decode cL_law 1072 = .ok (.invokevirtual 160, 3) := by decide +kernel
theorem dL_law_1075 : decode cL_law 1075 = .ok (.istore 7, 2) := by decide +kernel
theorem dL_law_1077 : decode cL_law 1077 = .ok (.aload_n 2, 1) := by decide +kernel
theorem dL_law_1078 : decode cL_law 1078 = .ok (.invokevirtual 118, 3) := by decide +kernel
theorem dL_law_1081 : decode cL_law 1081 = .ok (.iload 6, 2) := by decide +kernel
theorem dL_law_1083 : decode cL_law 1083 = .ok (.if_icmp .eq 5, 3) := by decide +kernel
theorem dL_law_1086 : decode cL_law 1086 = .ok (.iconst 0, 1) := by decide +kernel
theorem dL_law_1087 : decode cL_law 1087 = .ok (.ireturn, 1) := by decide +kernel
theorem dL_law_1088 : decode cL_law 1088 = .ok (.iload 6, 2) := by decide +kernel
theorem dL_law_1090 : decode cL_law 1090 = .ok (.ifCond .ne 15, 3) := by decide +kernel
theorem dL_law_1093 : decode cL_law 1093 = .ok (.aload_n 3, 1) := by decide +kernel
theorem dL_law_1094 : decode cL_law 1094 = .ok (.iconst 0, 1) := by decide +kernel
theorem dL_law_1095 : decode cL_law 1095 = .ok (.laload, 1) := by decide +kernel
theorem dL_law_1096 : decode cL_law 1096 = .ok (.iload 7, 2) := by decide +kernel
theorem dL_law_1098 : decode cL_law 1098 = .ok (.i2l, 1) := by decide +kernel
theorem dL_law_1099 : decode cL_law 1099 = .ok (.lcmp, 1) := by decide +kernel
theorem dL_law_1100 : decode cL_law 1100 = .ok (.ifCond .eq 5, 3) := by decide +kernel
theorem dL_law_1103 : decode cL_law 1103 = .ok (.iconst 0, 1) := by decide +kernel
theorem dL_law_1104 : decode cL_law 1104 = .ok (.ireturn, 1) := by decide +kernel
theorem dL_law_1105 : decode cL_law 1105 = .ok (.goto 765, 3) := by decide +kernel
theorem dL_law_1108 : decode cL_law 1108 = .ok (.aload_n 1, 1) := by decide +kernel
theorem dL_law_1109 : decode cL_law 1109 = .ok (.aload_n 0, 1) := by decide +kernel
theorem dL_law_1110 : decode cL_law 1110 = .ok (.iload 5, 2) := by decide +kernel
theorem dL_law_1112 : decode cL_law 1112 = .ok (.iconst 1, 1) := by decide +kernel
theorem dL_law_1113 : decode cL_law 1113 = .ok (.iadd, 1) := by decide +kernel
theorem dL_law_1114 : decode cL_law 1114 = .ok (.iaload, 1) := by decide +kernel
theorem dL_law_1115 : decode cL_law 1115 = .ok (.aload_n 0, 1) := by decide +kernel
theorem dL_law_1116 : decode cL_law 1116 = .ok (.iload 5, 2) := by decide +kernel
theorem dL_law_1118 : decode cL_law 1118 = .ok (.iconst 2, 1) := by decide +kernel
theorem dL_law_1119 : decode cL_law 1119 = .ok (.iadd, 1) := by decide +kernel
theorem dL_law_1120 : decode cL_law 1120 = .ok (.iaload, 1) := by decide +kernel
theorem dL_law_1121 : decode cL_law 1121 = .ok (.aload_n 3, 1) := by decide +kernel
theorem dL_law_1122 : decode cL_law 1122 = .ok (.invokestatic 161, 3) := by decide +kernel
theorem dL_law_1125 : decode cL_law 1125 = .ok (.istore 6, 2) := by decide +kernel
theorem dL_law_1127 : decode cL_law 1127 = .ok (.aload_n 2, 1) := by decide +kernel
theorem dL_law_1128 : decode cL_law 1128 = .ok (.aload_n 0, 1) := by decide +kernel
theorem dL_law_1129 : decode cL_law 1129 = .ok (.iload 5, 2) := by decide +kernel
theorem dL_law_1131 : decode cL_law 1131 = .ok (.iconst 1, 1) := by decide +kernel
theorem dL_law_1132 : decode cL_law 1132 = .ok (.iadd, 1) := by decide +kernel
theorem dL_law_1133 : decode cL_law 1133 = .ok (.iaload, 1) := by decide +kernel
theorem dL_law_1134 : decode cL_law 1134 = .ok (.aload_n 0, 1) := by decide +kernel
theorem dL_law_1135 : decode cL_law 1135 = .ok (.iload 5, 2) := by decide +kernel
theorem dL_law_1137 : decode cL_law 1137 = .ok (.iconst 2, 1) := by decide +kernel
theorem dL_law_1138 : decode cL_law 1138 = .ok (.iadd, 1) := by decide +kernel
theorem dL_law_1139 : decode cL_law 1139 = .ok (.iaload, 1) := by decide +kernel
theorem dL_law_1140 : decode cL_law 1140 = .ok (.invokevirtual 163, 3) := by decide +kernel
theorem dL_law_1143 : decode cL_law 1143 = .ok (.istore 7, 2) := by decide +kernel
theorem dL_law_1145 : decode cL_law 1145 = .ok (.aload_n 2, 1) := by decide +kernel
theorem dL_law_1146 : decode cL_law 1146 = .ok (.invokevirtual 118, 3) := by decide +kernel
theorem dL_law_1149 : decode cL_law 1149 = .ok (.iload 6, 2) := by decide +kernel
theorem dL_law_1151 : decode cL_law 1151 = .ok (.if_icmp .eq 5, 3) := by decide +kernel
theorem dL_law_1154 : decode cL_law 1154 = .ok (.iconst 0, 1) := by decide +kernel
theorem dL_law_1155 : decode cL_law 1155 = .ok (.ireturn, 1) := by decide +kernel
theorem dL_law_1156 : decode cL_law 1156 = .ok (.iload 6, 2) := by decide +kernel
theorem dL_law_1158 : decode cL_law 1158 = .ok (.ifCond .ne 15, 3) := by decide +kernel
theorem dL_law_1161 : decode cL_law 1161 = .ok (.aload_n 3, 1) := by decide +kernel
theorem dL_law_1162 : decode cL_law 1162 = .ok (.iconst 0, 1) := by decide +kernel
theorem dL_law_1163 : decode cL_law 1163 = .ok (.laload, 1) := by decide +kernel
theorem dL_law_1164 : decode cL_law 1164 = .ok (.iload 7, 2) := by decide +kernel
theorem dL_law_1166 : decode cL_law 1166 = .ok (.i2l, 1) := by decide +kernel
theorem dL_law_1167 : decode cL_law 1167 = .ok (.lcmp, 1) := by decide +kernel
theorem dL_law_1168 : decode cL_law 1168 = .ok (.ifCond .eq 5, 3) := by decide +kernel
theorem dL_law_1171 : decode cL_law 1171 = .ok (.iconst 0, 1) := by decide +kernel
theorem dL_law_1172 : decode cL_law 1172 = .ok (.ireturn, 1) := by decide +kernel
theorem dL_law_1173 : decode cL_law 1173 = .ok (.goto 697, 3) := by decide +kernel
theorem dL_law_1176 : decode cL_law 1176 = .ok (.aload_n 1, 1) := by decide +kernel
theorem dL_law_1177 : decode cL_law 1177 = .ok (.aload_n 0, 1) := by decide +kernel
theorem dL_law_1178 : decode cL_law 1178 = .ok (.iload 5, 2) := by decide +kernel
theorem dL_law_1180 : decode cL_law 1180 = .ok (.iconst 1, 1) := by decide +kernel
theorem dL_law_1181 : decode cL_law 1181 = .ok (.iadd, 1) := by decide +kernel
theorem dL_law_1182 : decode cL_law 1182 = .ok (.iaload, 1) := by decide +kernel
theorem dL_law_1183 : decode cL_law 1183 = .ok (.aload_n 3, 1) := by decide +kernel
theorem dL_law_1184 : decode cL_law 1184 = .ok (.invokestatic 164, 3) := by decide +kernel
theorem dL_law_1187 : decode cL_law 1187 = .ok (.istore 6, 2) := by decide +kernel
theorem dL_law_1189 : decode cL_law 1189 = .ok (.aload_n 2, 1) := by decide +kernel
theorem dL_law_1190 : decode cL_law 1190 = .ok (.aload_n 0, 1) := by decide +kernel
theorem dL_law_1191 : decode cL_law 1191 = .ok (.iload 5, 2) := by decide +kernel
theorem dL_law_1193 : decode cL_law 1193 = .ok (.iconst 1, 1) := by decide +kernel
theorem dL_law_1194 : decode cL_law 1194 = .ok (.iadd, 1) := by decide +kernel
theorem dL_law_1195 : decode cL_law 1195 = .ok (.iaload, 1) := by decide +kernel
theorem dL_law_1196 : decode cL_law 1196 = .ok (.invokevirtual 166, 3) := by decide +kernel
theorem dL_law_1199 : decode cL_law 1199 = .ok (.istore 7, 2) := by decide +kernel
theorem dL_law_1201 : decode cL_law 1201 = .ok (.aload_n 2, 1) := by decide +kernel
theorem dL_law_1202 : decode cL_law 1202 = .ok (.invokevirtual 118, 3) := by decide +kernel
theorem dL_law_1205 : decode cL_law 1205 = .ok (.iload 6, 2) := by decide +kernel
theorem dL_law_1207 : decode cL_law 1207 = .ok (.if_icmp .eq 5, 3) := by decide +kernel
theorem dL_law_1210 : decode cL_law 1210 = .ok (.iconst 0, 1) := by decide +kernel
theorem dL_law_1211 : decode cL_law 1211 = .ok (.ireturn, 1) := by decide +kernel
theorem dL_law_1212 : decode cL_law 1212 = .ok (.iload 6, 2) := by decide +kernel
theorem dL_law_1214 : decode cL_law 1214 = .ok (.ifCond .ne 15, 3) := by decide +kernel
theorem dL_law_1217 : decode cL_law 1217 = .ok (.aload_n 3, 1) := by decide +kernel
theorem dL_law_1218 : decode cL_law 1218 = .ok (.iconst 0, 1) := by decide +kernel
theorem dL_law_1219 : decode cL_law 1219 = .ok (.laload, 1) := by decide +kernel
theorem dL_law_1220 : decode cL_law 1220 = .ok (.iload 7, 2) := by decide +kernel
theorem dL_law_1222 : decode cL_law 1222 = .ok (.i2l, 1) := by decide +kernel
theorem dL_law_1223 : decode cL_law 1223 = .ok (.lcmp, 1) := by decide +kernel
theorem dL_law_1224 : decode cL_law 1224 = .ok (.ifCond .eq 5, 3) := by decide +kernel
theorem dL_law_1227 : decode cL_law 1227 = .ok (.iconst 0, 1) := by decide +kernel
theorem dL_law_1228 : decode cL_law 1228 = .ok (.ireturn, 1) := by decide +kernel
theorem dL_law_1229 : decode cL_law 1229 = .ok (.goto 641, 3) := by decide +kernel
theorem dL_law_1232 : decode cL_law 1232 = .ok (.aload_n 1, 1) := by decide +kernel
theorem dL_law_1233 : decode cL_law 1233 = .ok (.aload_n 0, 1) := by decide +kernel
theorem dL_law_1234 : decode cL_law 1234 = .ok (.iload 5, 2) := by decide +kernel
theorem dL_law_1236 : decode cL_law 1236 = .ok (.iconst 1, 1) := by decide +kernel
theorem dL_law_1237 : decode cL_law 1237 = .ok (.iadd, 1) := by decide +kernel
theorem dL_law_1238 : decode cL_law 1238 = .ok (.iaload, 1) := by decide +kernel
theorem dL_law_1239 : decode cL_law 1239 = .ok (.aload_n 3, 1) := by decide +kernel
theorem dL_law_1240 : decode cL_law 1240 = .ok (.invokestatic 167, 3) := by decide +kernel
theorem dL_law_1243 : decode cL_law 1243 = .ok (.istore 6, 2) := by decide +kernel
theorem dL_law_1245 : decode cL_law 1245 = .ok (.aload_n 2, 1) := by decide +kernel
theorem dL_law_1246 : decode cL_law 1246 = .ok (.aload_n 0, 1) := by decide +kernel
theorem dL_law_1247 : decode cL_law 1247 = .ok (.iload 5, 2) := by decide +kernel
theorem dL_law_1249 : decode cL_law 1249 = .ok (.iconst 1, 1) := by decide +kernel
theorem dL_law_1250 : decode cL_law 1250 = .ok (.iadd, 1) := by decide +kernel
theorem dL_law_1251 : decode cL_law 1251 = .ok (.iaload, 1) := by decide +kernel
theorem dL_law_1252 : decode cL_law 1252 = .ok (.invokevirtual 169, 3) := by decide +kernel
theorem dL_law_1255 : decode cL_law 1255 = .ok (.istore 7, 2) := by decide +kernel
theorem dL_law_1257 : decode cL_law 1257 = .ok (.aload_n 2, 1) := by decide +kernel
theorem dL_law_1258 : decode cL_law 1258 = .ok (.invokevirtual 118, 3) := by decide +kernel
theorem dL_law_1261 : decode cL_law 1261 = .ok (.iload 6, 2) := by decide +kernel
theorem dL_law_1263 : decode cL_law 1263 = .ok (.if_icmp .eq 5, 3) := by decide +kernel
theorem dL_law_1266 : decode cL_law 1266 = .ok (.iconst 0, 1) := by decide +kernel
theorem dL_law_1267 : decode cL_law 1267 = .ok (.ireturn, 1) := by decide +kernel
theorem dL_law_1268 : decode cL_law 1268 = .ok (.iload 6, 2) := by decide +kernel
theorem dL_law_1270 : decode cL_law 1270 = .ok (.ifCond .ne 15, 3) := by decide +kernel
theorem dL_law_1273 : decode cL_law 1273 = .ok (.aload_n 3, 1) := by decide +kernel
theorem dL_law_1274 : decode cL_law 1274 = .ok (.iconst 0, 1) := by decide +kernel
theorem dL_law_1275 : decode cL_law 1275 = .ok (.laload, 1) := by decide +kernel
theorem dL_law_1276 : decode cL_law 1276 = .ok (.iload 7, 2) := by decide +kernel
theorem dL_law_1278 : decode cL_law 1278 = .ok (.i2l, 1) := by decide +kernel
theorem dL_law_1279 : decode cL_law 1279 = .ok (.lcmp, 1) := by decide +kernel
theorem dL_law_1280 : decode cL_law 1280 = .ok (.ifCond .eq 5, 3) := by decide +kernel
theorem dL_law_1283 : decode cL_law 1283 = .ok (.iconst 0, 1) := by decide +kernel
theorem dL_law_1284 : decode cL_law 1284 = .ok (.ireturn, 1) := by decide +kernel
theorem dL_law_1285 : decode cL_law 1285 = .ok (.goto 585, 3) := by decide +kernel
theorem dL_law_1288 : decode cL_law 1288 = .ok (.aload_n 1, 1) := by decide +kernel
theorem dL_law_1289 : decode cL_law 1289 = .ok (.aload_n 0, 1) := by decide +kernel
theorem dL_law_1290 : decode cL_law 1290 = .ok (.iload 5, 2) := by decide +kernel
theorem dL_law_1292 : decode cL_law 1292 = .ok (.iconst 1, 1) := by decide +kernel
theorem dL_law_1293 : decode cL_law 1293 = .ok (.iadd, 1) := by decide +kernel
theorem dL_law_1294 : decode cL_law 1294 = .ok (.iaload, 1) := by decide +kernel
theorem dL_law_1295 : decode cL_law 1295 = .ok (.aload_n 0, 1) := by decide +kernel
theorem dL_law_1296 : decode cL_law 1296 = .ok (.iload 5, 2) := by decide +kernel
theorem dL_law_1298 : decode cL_law 1298 = .ok (.iconst 2, 1) := by decide +kernel
theorem dL_law_1299 : decode cL_law 1299 = .ok (.iadd, 1) := by decide +kernel
theorem dL_law_1300 : decode cL_law 1300 = .ok (.iaload, 1) := by decide +kernel
theorem dL_law_1301 : decode cL_law 1301 = .ok (.aload_n 3, 1) := by decide +kernel
theorem dL_law_1302 : decode cL_law 1302 = .ok (.invokestatic 170, 3) := by decide +kernel
theorem dL_law_1305 : decode cL_law 1305 = .ok (.istore 6, 2) := by decide +kernel
theorem dL_law_1307 : decode cL_law 1307 = .ok (.aload_n 2, 1) := by decide +kernel
theorem dL_law_1308 : decode cL_law 1308 = .ok (.aload_n 0, 1) := by decide +kernel
theorem dL_law_1309 : decode cL_law 1309 = .ok (.iload 5, 2) := by decide +kernel
theorem dL_law_1311 : decode cL_law 1311 = .ok (.iconst 1, 1) := by decide +kernel
theorem dL_law_1312 : decode cL_law 1312 = .ok (.iadd, 1) := by decide +kernel
theorem dL_law_1313 : decode cL_law 1313 = .ok (.iaload, 1) := by decide +kernel
theorem dL_law_1314 : decode cL_law 1314 = .ok (.aload_n 0, 1) := by decide +kernel
theorem dL_law_1315 : decode cL_law 1315 = .ok (.iload 5, 2) := by decide +kernel
theorem dL_law_1317 : decode cL_law 1317 = .ok (.iconst 2, 1) := by decide +kernel
theorem dL_law_1318 : decode cL_law 1318 = .ok (.iadd, 1) := by decide +kernel
theorem dL_law_1319 : decode cL_law 1319 = .ok (.iaload, 1) := by decide +kernel
theorem dL_law_1320 : decode cL_law 1320 = .ok (.invokevirtual 172, 3) := by decide +kernel
theorem dL_law_1323 : decode cL_law 1323 = .ok (.istore 7, 2) := by decide +kernel
theorem dL_law_1325 : decode cL_law 1325 = .ok (.aload_n 2, 1) := by decide +kernel
theorem dL_law_1326 : decode cL_law 1326 = .ok (.invokevirtual 118, 3) := by decide +kernel
theorem dL_law_1329 : decode cL_law 1329 = .ok (.iload 6, 2) := by decide +kernel
theorem dL_law_1331 : decode cL_law 1331 = .ok (.if_icmp .eq 5, 3) := by decide +kernel
theorem dL_law_1334 : decode cL_law 1334 = .ok (.iconst 0, 1) := by decide +kernel
theorem dL_law_1335 : decode cL_law 1335 = .ok (.ireturn, 1) := by decide +kernel
theorem dL_law_1336 : decode cL_law 1336 = .ok (.iload 6, 2) := by decide +kernel
theorem dL_law_1338 : decode cL_law 1338 = .ok (.ifCond .ne 15, 3) := by decide +kernel
theorem dL_law_1341 : decode cL_law 1341 = .ok (.aload_n 3, 1) := by decide +kernel
theorem dL_law_1342 : decode cL_law 1342 = .ok (.iconst 0, 1) := by decide +kernel
theorem dL_law_1343 : decode cL_law 1343 = .ok (.laload, 1) := by decide +kernel
theorem dL_law_1344 : decode cL_law 1344 = .ok (.iload 7, 2) := by decide +kernel
theorem dL_law_1346 : decode cL_law 1346 = .ok (.i2l, 1) := by decide +kernel
theorem dL_law_1347 : decode cL_law 1347 = .ok (.lcmp, 1) := by decide +kernel
theorem dL_law_1348 : decode cL_law 1348 = .ok (.ifCond .eq 5, 3) := by decide +kernel
theorem dL_law_1351 : decode cL_law 1351 = .ok (.iconst 0, 1) := by decide +kernel
theorem dL_law_1352 : decode cL_law 1352 = .ok (.ireturn, 1) := by decide +kernel
theorem dL_law_1353 : decode cL_law 1353 = .ok (.goto 517, 3) := by decide +kernel
theorem dL_law_1356 : decode cL_law 1356 = .ok (.aload_n 1, 1) := by decide +kernel
theorem dL_law_1357 : decode cL_law 1357 = .ok (.aload_n 3, 1) := by decide +kernel
theorem dL_law_1358 : decode cL_law 1358 = .ok (.invokestatic 173, 3) := by decide +kernel
theorem dL_law_1361 : decode cL_law 1361 = .ok (.istore 6, 2) := by decide +kernel
theorem dL_law_1363 : decode cL_law 1363 = .ok (.aload_n 2, 1) := by decide +kernel
theorem dL_law_1364 : decode cL_law 1364 = .ok (.invokevirtual 176, 3) := by decide +kernel
theorem dL_law_1367 : decode cL_law 1367 = .ok (.istore 7, 2) := by decide +kernel
theorem dL_law_1369 : decode cL_law 1369 = .ok (.aload_n 2, 1) := by decide +kernel
theorem dL_law_1370 : decode cL_law 1370 = .ok (.invokevirtual 118, 3) := by decide +kernel
theorem dL_law_1373 : decode cL_law 1373 = .ok (.iload 6, 2) := by decide +kernel
theorem dL_law_1375 : decode cL_law 1375 = .ok (.if_icmp .eq 5, 3) := by decide +kernel
theorem dL_law_1378 : decode cL_law 1378 = .ok (.iconst 0, 1) := by decide +kernel
theorem dL_law_1379 : decode cL_law 1379 = .ok (.ireturn, 1) := by decide +kernel
theorem dL_law_1380 : decode cL_law 1380 = .ok (.iload 6, 2) := by decide +kernel
theorem dL_law_1382 : decode cL_law 1382 = .ok (.ifCond .ne 15, 3) := by decide +kernel
theorem dL_law_1385 : decode cL_law 1385 = .ok (.aload_n 3, 1) := by decide +kernel
theorem dL_law_1386 : decode cL_law 1386 = .ok (.iconst 0, 1) := by decide +kernel
theorem dL_law_1387 : decode cL_law 1387 = .ok (.laload, 1) := by decide +kernel
theorem dL_law_1388 : decode cL_law 1388 = .ok (.iload 7, 2) := by decide +kernel
theorem dL_law_1390 : decode cL_law 1390 = .ok (.i2l, 1) := by decide +kernel
theorem dL_law_1391 : decode cL_law 1391 = .ok (.lcmp, 1) := by decide +kernel
theorem dL_law_1392 : decode cL_law 1392 = .ok (.ifCond .eq 5, 3) := by decide +kernel
theorem dL_law_1395 : decode cL_law 1395 = .ok (.iconst 0, 1) := by decide +kernel
theorem dL_law_1396 : decode cL_law 1396 = .ok (.ireturn, 1) := by decide +kernel
theorem dL_law_1397 : decode cL_law 1397 = .ok (.goto 473, 3) := by decide +kernel
theorem dL_law_1400 : decode cL_law 1400 = .ok (.aload_n 1, 1) := by decide +kernel
theorem dL_law_1401 : decode cL_law 1401 = .ok (.aload_n 0, 1) := by decide +kernel
theorem dL_law_1402 : decode cL_law 1402 = .ok (.iload 5, 2) := by decide +kernel
theorem dL_law_1404 : decode cL_law 1404 = .ok (.iconst 1, 1) := by decide +kernel
theorem dL_law_1405 : decode cL_law 1405 = .ok (.iadd, 1) := by decide +kernel
theorem dL_law_1406 : decode cL_law 1406 = .ok (.iaload, 1) := by decide +kernel
theorem dL_law_1407 : decode cL_law 1407 = .ok (.aload_n 0, 1) := by decide +kernel
theorem dL_law_1408 : decode cL_law 1408 = .ok (.iload 5, 2) := by decide +kernel
theorem dL_law_1410 : decode cL_law 1410 = .ok (.iconst 2, 1) := by decide +kernel
theorem dL_law_1411 : decode cL_law 1411 = .ok (.iadd, 1) := by decide +kernel
theorem dL_law_1412 : decode cL_law 1412 = .ok (.iaload, 1) := by decide +kernel
theorem dL_law_1413 : decode cL_law 1413 = .ok (.aload_n 3, 1) := by decide +kernel
theorem dL_law_1414 : decode cL_law 1414 = .ok (.invokestatic 177, 3) := by decide +kernel
theorem dL_law_1417 : decode cL_law 1417 = .ok (.istore 6, 2) := by decide +kernel
theorem dL_law_1419 : decode cL_law 1419 = .ok (.aload_n 2, 1) := by decide +kernel
theorem dL_law_1420 : decode cL_law 1420 = .ok (.aload_n 0, 1) := by decide +kernel
theorem dL_law_1421 : decode cL_law 1421 = .ok (.iload 5, 2) := by decide +kernel
theorem dL_law_1423 : decode cL_law 1423 = .ok (.iconst 1, 1) := by decide +kernel
theorem dL_law_1424 : decode cL_law 1424 = .ok (.iadd, 1) := by decide +kernel
theorem dL_law_1425 : decode cL_law 1425 = .ok (.iaload, 1) := by decide +kernel
theorem dL_law_1426 : decode cL_law 1426 = .ok (.aload_n 0, 1) := by decide +kernel
theorem dL_law_1427 : decode cL_law 1427 = .ok (.iload 5, 2) := by decide +kernel
theorem dL_law_1429 : decode cL_law 1429 = .ok (.iconst 2, 1) := by decide +kernel
theorem dL_law_1430 : decode cL_law 1430 = .ok (.iadd, 1) := by decide +kernel
theorem dL_law_1431 : decode cL_law 1431 = .ok (.iaload, 1) := by decide +kernel
theorem dL_law_1432 : decode cL_law 1432 = .ok (.invokevirtual 179, 3) := by decide +kernel
theorem dL_law_1435 : decode cL_law 1435 = .ok (.istore 7, 2) := by decide +kernel
theorem dL_law_1437 : decode cL_law 1437 = .ok (.aload_n 2, 1) := by decide +kernel
theorem dL_law_1438 : decode cL_law 1438 = .ok (.invokevirtual 118, 3) := by decide +kernel
theorem dL_law_1441 : decode cL_law 1441 = .ok (.iload 6, 2) := by decide +kernel
theorem dL_law_1443 : decode cL_law 1443 = .ok (.if_icmp .eq 5, 3) := by decide +kernel
theorem dL_law_1446 : decode cL_law 1446 = .ok (.iconst 0, 1) := by decide +kernel
theorem dL_law_1447 : decode cL_law 1447 = .ok (.ireturn, 1) := by decide +kernel
theorem dL_law_1448 : decode cL_law 1448 = .ok (.iload 6, 2) := by decide +kernel
theorem dL_law_1450 : decode cL_law 1450 = .ok (.ifCond .ne 15, 3) := by decide +kernel
theorem dL_law_1453 : decode cL_law 1453 = .ok (.aload_n 3, 1) := by decide +kernel
theorem dL_law_1454 : decode cL_law 1454 = .ok (.iconst 0, 1) := by decide +kernel
theorem dL_law_1455 : decode cL_law 1455 = .ok (.laload, 1) := by decide +kernel
theorem dL_law_1456 : decode cL_law 1456 = .ok (.iload 7, 2) := by decide +kernel
theorem dL_law_1458 : decode cL_law 1458 = .ok (.i2l, 1) := by decide +kernel
theorem dL_law_1459 : decode cL_law 1459 = .ok (.lcmp, 1) := by decide +kernel
theorem dL_law_1460 : decode cL_law 1460 = .ok (.ifCond .eq 5, 3) := by decide +kernel
theorem dL_law_1463 : decode cL_law 1463 = .ok (.iconst 0, 1) := by decide +kernel
theorem dL_law_1464 : decode cL_law 1464 = .ok (.ireturn, 1) := by decide +kernel
theorem dL_law_1465 : decode cL_law 1465 = .ok (.goto 405, 3) := by decide +kernel
theorem dL_law_1468 : decode cL_law 1468 = .ok (.aload_n 1, 1) := by decide +kernel
theorem dL_law_1469 : decode cL_law 1469 = .ok (.aload_n 0, 1) := by decide +kernel
theorem dL_law_1470 : decode cL_law 1470 = .ok (.iload 5, 2) := by decide +kernel
theorem dL_law_1472 : decode cL_law 1472 = .ok (.iconst 1, 1) := by decide +kernel
theorem dL_law_1473 : decode cL_law 1473 = .ok (.iadd, 1) := by decide +kernel
theorem dL_law_1474 : decode cL_law 1474 = .ok (.iaload, 1) := by decide +kernel
theorem dL_law_1475 : decode cL_law 1475 = .ok (.aload_n 3, 1) := by decide +kernel
theorem dL_law_1476 : decode cL_law 1476 = .ok (.invokestatic 180, 3) := by decide +kernel
theorem dL_law_1479 : decode cL_law 1479 = .ok (.istore 6, 2) := by decide +kernel
theorem dL_law_1481 : decode cL_law 1481 = .ok (.aload_n 2, 1) := by decide +kernel
theorem dL_law_1482 : decode cL_law 1482 = .ok (.aload_n 0, 1) := by decide +kernel
theorem dL_law_1483 : decode cL_law 1483 = .ok (.iload 5, 2) := by decide +kernel
theorem dL_law_1485 : decode cL_law 1485 = .ok (.iconst 1, 1) := by decide +kernel
theorem dL_law_1486 : decode cL_law 1486 = .ok (.iadd, 1) := by decide +kernel
theorem dL_law_1487 : decode cL_law 1487 = .ok (.iaload, 1) := by decide +kernel
theorem dL_law_1488 : decode cL_law 1488 = .ok (.invokevirtual 182, 3) := by decide +kernel
theorem dL_law_1491 : decode cL_law 1491 = .ok (.istore 7, 2) := by decide +kernel
theorem dL_law_1493 : decode cL_law 1493 = .ok (.aload_n 2, 1) := by decide +kernel
theorem dL_law_1494 : decode cL_law 1494 = .ok (.invokevirtual 118, 3) := by decide +kernel
theorem dL_law_1497 : decode cL_law 1497 = .ok (.iload 6, 2) := by decide +kernel
theorem dL_law_1499 : decode cL_law 1499 = .ok (.if_icmp .eq 5, 3) := by decide +kernel
theorem dL_law_1502 : decode cL_law 1502 = .ok (.iconst 0, 1) := by decide +kernel
theorem dL_law_1503 : decode cL_law 1503 = .ok (.ireturn, 1) := by decide +kernel
theorem dL_law_1504 : decode cL_law 1504 = .ok (.iload 6, 2) := by decide +kernel
theorem dL_law_1506 : decode cL_law 1506 = .ok (.ifCond .ne 15, 3) := by decide +kernel
theorem dL_law_1509 : decode cL_law 1509 = .ok (.aload_n 3, 1) := by decide +kernel
theorem dL_law_1510 : decode cL_law 1510 = .ok (.iconst 0, 1) := by decide +kernel
theorem dL_law_1511 : decode cL_law 1511 = .ok (.laload, 1) := by decide +kernel
theorem dL_law_1512 : decode cL_law 1512 = .ok (.iload 7, 2) := by decide +kernel
theorem dL_law_1514 : decode cL_law 1514 = .ok (.i2l, 1) := by decide +kernel
theorem dL_law_1515 : decode cL_law 1515 = .ok (.lcmp, 1) := by decide +kernel
theorem dL_law_1516 : decode cL_law 1516 = .ok (.ifCond .eq 5, 3) := by decide +kernel
theorem dL_law_1519 : decode cL_law 1519 = .ok (.iconst 0, 1) := by decide +kernel
theorem dL_law_1520 : decode cL_law 1520 = .ok (.ireturn, 1) := by decide +kernel
theorem dL_law_1521 : decode cL_law 1521 = .ok (.goto 349, 3) := by decide +kernel
theorem dL_law_1524 : decode cL_law 1524 = .ok (.aload_n 1, 1) := by decide +kernel
theorem dL_law_1525 : decode cL_law 1525 = .ok (.aload_n 0, 1) := by decide +kernel
theorem dL_law_1526 : decode cL_law 1526 = .ok (.iload 5, 2) := by decide +kernel
theorem dL_law_1528 : decode cL_law 1528 = .ok (.iconst 1, 1) := by decide +kernel
theorem dL_law_1529 : decode cL_law 1529 = .ok (.iadd, 1) := by decide +kernel
theorem dL_law_1530 : decode cL_law 1530 = .ok (.iaload, 1) := by decide +kernel
theorem dL_law_1531 : decode cL_law 1531 = .ok (.aload 4, 2) := by decide +kernel
theorem dL_law_1533 : decode cL_law 1533 = .ok (.invokestatic 183, 3) := by decide +kernel
theorem dL_law_1536 : decode cL_law 1536 = .ok (.istore 6, 2) := by decide +kernel
theorem dL_law_1538 : decode cL_law 1538 = .ok (.aload_n 2, 1) := by decide +kernel
theorem dL_law_1539 : decode cL_law 1539 = .ok (.aload_n 0, 1) := by decide +kernel
theorem dL_law_1540 : decode cL_law 1540 = .ok (.iload 5, 2) := by decide +kernel
theorem dL_law_1542 : decode cL_law 1542 = .ok (.iconst 1, 1) := by decide +kernel
theorem dL_law_1543 : decode cL_law 1543 = .ok (.iadd, 1) := by decide +kernel
theorem dL_law_1544 : decode cL_law 1544 = .ok (.iaload, 1) := by decide +kernel
theorem dL_law_1545 : decode cL_law 1545 = .ok (.invokevirtual 186, 3) := by decide +kernel
theorem dL_law_1548 : decode cL_law 1548 = .ok (.fstore 7, 2) := by decide +kernel
theorem dL_law_1550 : decode cL_law 1550 = .ok (.aload_n 2, 1) := by decide +kernel
theorem dL_law_1551 : decode cL_law 1551 = .ok (.invokevirtual 118, 3) := by decide +kernel
theorem dL_law_1554 : decode cL_law 1554 = .ok (.iload 6, 2) := by decide +kernel
theorem dL_law_1556 : decode cL_law 1556 = .ok (.if_icmp .eq 5, 3) := by decide +kernel
theorem dL_law_1559 : decode cL_law 1559 = .ok (.iconst 0, 1) := by decide +kernel
theorem dL_law_1560 : decode cL_law 1560 = .ok (.ireturn, 1) := by decide +kernel
theorem dL_law_1561 : decode cL_law 1561 = .ok (.iload 6, 2) := by decide +kernel
theorem dL_law_1563 : decode cL_law 1563 = .ok (.ifCond .ne 36, 3) := by decide +kernel
theorem dL_law_1566 : decode cL_law 1566 = .ok (.aload 4, 2) := by decide +kernel
theorem dL_law_1568 : decode cL_law 1568 = .ok (.iconst 0, 1) := by decide +kernel
theorem dL_law_1569 : decode cL_law 1569 = .ok (.daload, 1) := by decide +kernel
theorem dL_law_1570 : decode cL_law 1570 = .ok (.fload 7, 2) := by decide +kernel
theorem dL_law_1572 : decode cL_law 1572 = .ok (.f2d, 1) := by decide +kernel
theorem dL_law_1573 : decode cL_law 1573 = .ok (.dcmp .l, 1) := by decide +kernel
theorem dL_law_1574 : decode cL_law 1574 = .ok (.ifCond .eq 25, 3) := by decide +kernel
theorem dL_law_1577 : decode cL_law 1577 = .ok (.aload 4, 2) := by decide +kernel
theorem dL_law_1579 : decode cL_law 1579 = .ok (.iconst 0, 1) := by decide +kernel
theorem dL_law_1580 : decode cL_law 1580 = .ok (.daload, 1) := by decide +kernel
theorem dL_law_1581 : decode cL_law 1581 = .ok (.aload 4, 2) := by decide +kernel
theorem dL_law_1583 : decode cL_law 1583 = .ok (.iconst 0, 1) := by decide +kernel
theorem dL_law_1584 : decode cL_law 1584 = .ok (.daload, 1) := by decide +kernel
theorem dL_law_1585 : decode cL_law 1585 = .ok (.dcmp .l, 1) := by decide +kernel
theorem dL_law_1586 : decode cL_law 1586 = .ok (.ifCond .eq 11, 3) := by decide +kernel
theorem dL_law_1589 : decode cL_law 1589 = .ok (.fload 7, 2) := by decide +kernel
theorem dL_law_1591 : decode cL_law 1591 = .ok (.fload 7, 2) := by decide +kernel
theorem dL_law_1593 : decode cL_law 1593 = .ok (.fcmp .l, 1) := by decide +kernel
theorem dL_law_1594 : decode cL_law 1594 = .ok (.ifCond .ne 5, 3) := by decide +kernel
theorem dL_law_1597 : decode cL_law 1597 = .ok (.iconst 0, 1) := by decide +kernel
theorem dL_law_1598 : decode cL_law 1598 = .ok (.ireturn, 1) := by decide +kernel
theorem dL_law_1599 : decode cL_law 1599 = .ok (.goto 271, 3) := by decide +kernel
theorem dL_law_1602 : decode cL_law 1602 = .ok (.aload_n 1, 1) := by decide +kernel
theorem dL_law_1603 : decode cL_law 1603 = .ok (.aload 4, 2) := by decide +kernel
theorem dL_law_1605 : decode cL_law 1605 = .ok (.invokestatic 187, 3) := by decide +kernel
theorem dL_law_1608 : decode cL_law 1608 = .ok (.istore 6, 2) := by decide +kernel
theorem dL_law_1610 : decode cL_law 1610 = .ok (.aload_n 2, 1) := by decide +kernel
theorem dL_law_1611 : decode cL_law 1611 = .ok (.invokevirtual 190, 3) := by decide +kernel
theorem dL_law_1614 : decode cL_law 1614 = .ok (.dstore 7, 2) := by decide +kernel
theorem dL_law_1616 : decode cL_law 1616 = .ok (.aload_n 2, 1) := by decide +kernel
theorem dL_law_1617 : decode cL_law 1617 = .ok (.invokevirtual 118, 3) := by decide +kernel
theorem dL_law_1620 : decode cL_law 1620 = .ok (.iload 6, 2) := by decide +kernel
theorem dL_law_1622 : decode cL_law 1622 = .ok (.if_icmp .eq 5, 3) := by decide +kernel
theorem dL_law_1625 : decode cL_law 1625 = .ok (.iconst 0, 1) := by decide +kernel
theorem dL_law_1626 : decode cL_law 1626 = .ok (.ireturn, 1) := by decide +kernel
theorem dL_law_1627 : decode cL_law 1627 = .ok (.iload 6, 2) := by decide +kernel
theorem dL_law_1629 : decode cL_law 1629 = .ok (.ifCond .ne 35, 3) := by decide +kernel
theorem dL_law_1632 : decode cL_law 1632 = .ok (.aload 4, 2) := by decide +kernel
theorem dL_law_1634 : decode cL_law 1634 = .ok (.iconst 0, 1) := by decide +kernel
theorem dL_law_1635 : decode cL_law 1635 = .ok (.daload, 1) := by decide +kernel
theorem dL_law_1636 : decode cL_law 1636 = .ok (.dload 7, 2) := by decide +kernel
theorem dL_law_1638 : decode cL_law 1638 = .ok (.dcmp .l, 1) := by decide +kernel
theorem dL_law_1639 : decode cL_law 1639 = .ok (.ifCond .eq 25, 3) := by decide +kernel
theorem dL_law_1642 : decode cL_law 1642 = .ok (.aload 4, 2) := by decide +kernel
theorem dL_law_1644 : decode cL_law 1644 = .ok (.iconst 0, 1) := by decide +kernel
theorem dL_law_1645 : decode cL_law 1645 = .ok (.daload, 1) := by decide +kernel
theorem dL_law_1646 : decode cL_law 1646 = .ok (.aload 4, 2) := by decide +kernel
theorem dL_law_1648 : decode cL_law 1648 = .ok (.iconst 0, 1) := by decide +kernel
theorem dL_law_1649 : decode cL_law 1649 = .ok (.daload, 1) := by decide +kernel
theorem dL_law_1650 : decode cL_law 1650 = .ok (.dcmp .l, 1) := by decide +kernel
theorem dL_law_1651 : decode cL_law 1651 = .ok (.ifCond .eq 11, 3) := by decide +kernel
theorem dL_law_1654 : decode cL_law 1654 = .ok (.dload 7, 2) := by decide +kernel
theorem dL_law_1656 : decode cL_law 1656 = .ok (.dload 7, 2) := by decide +kernel
theorem dL_law_1658 : decode cL_law 1658 = .ok (.dcmp .l, 1) := by decide +kernel
theorem dL_law_1659 : decode cL_law 1659 = .ok (.ifCond .ne 5, 3) := by decide +kernel
theorem dL_law_1662 : decode cL_law 1662 = .ok (.iconst 0, 1) := by decide +kernel
theorem dL_law_1663 : decode cL_law 1663 = .ok (.ireturn, 1) := by decide +kernel
theorem dL_law_1664 : decode cL_law 1664 = .ok (.goto 206, 3) := by decide +kernel
theorem dL_law_1667 : decode cL_law 1667 = .ok (.aload_n 1, 1) := by decide +kernel
theorem dL_law_1668 : decode cL_law 1668 = .ok (.aload_n 0, 1) := by decide +kernel
theorem dL_law_1669 : decode cL_law 1669 = .ok (.iload 5, 2) := by decide +kernel
theorem dL_law_1671 : decode cL_law 1671 = .ok (.iconst 1, 1) := by decide +kernel
theorem dL_law_1672 : decode cL_law 1672 = .ok (.iadd, 1) := by decide +kernel
theorem dL_law_1673 : decode cL_law 1673 = .ok (.iaload, 1) := by decide +kernel
theorem dL_law_1674 : decode cL_law 1674 = .ok (.i2c, 1) := by decide +kernel
theorem dL_law_1675 : decode cL_law 1675 = .ok (.aload_n 3, 1) := by decide +kernel
theorem dL_law_1676 : decode cL_law 1676 = .ok (.invokestatic 191, 3) := by decide +kernel
theorem dL_law_1679 : decode cL_law 1679 = .ok (.istore 6, 2) := by decide +kernel
theorem dL_law_1681 : decode cL_law 1681 = .ok (.aload_n 2, 1) := by decide +kernel
theorem dL_law_1682 : decode cL_law 1682 = .ok (.aload_n 0, 1) := by decide +kernel
theorem dL_law_1683 : decode cL_law 1683 = .ok (.iload 5, 2) := by decide +kernel
theorem dL_law_1685 : decode cL_law 1685 = .ok (.iconst 1, 1) := by decide +kernel
theorem dL_law_1686 : decode cL_law 1686 = .ok (.iadd, 1) := by decide +kernel
theorem dL_law_1687 : decode cL_law 1687 = .ok (.iaload, 1) := by decide +kernel
theorem dL_law_1688 : decode cL_law 1688 = .ok (.i2c, 1) := by decide +kernel
theorem dL_law_1689 : decode cL_law 1689 = .ok (.invokevirtual 194, 3) := by decide +kernel
theorem dL_law_1692 : decode cL_law 1692 = .ok (.istore 7, 2) := by decide +kernel
theorem dL_law_1694 : decode cL_law 1694 = .ok (.aload_n 2, 1) := by decide +kernel
theorem dL_law_1695 : decode cL_law 1695 = .ok (.invokevirtual 118, 3) := by decide +kernel
theorem dL_law_1698 : decode cL_law 1698 = .ok (.iload 6, 2) := by decide +kernel
theorem dL_law_1700 : decode cL_law 1700 = .ok (.if_icmp .eq 5, 3) := by decide +kernel
theorem dL_law_1703 : decode cL_law 1703 = .ok (.iconst 0, 1) := by decide +kernel
theorem dL_law_1704 : decode cL_law 1704 = .ok (.ireturn, 1) := by decide +kernel
theorem dL_law_1705 : decode cL_law 1705 = .ok (.iload 6, 2) := by decide +kernel
theorem dL_law_1707 : decode cL_law 1707 = .ok (.ifCond .ne 15, 3) := by decide +kernel
theorem dL_law_1710 : decode cL_law 1710 = .ok (.aload_n 3, 1) := by decide +kernel
theorem dL_law_1711 : decode cL_law 1711 = .ok (.iconst 0, 1) := by decide +kernel
theorem dL_law_1712 : decode cL_law 1712 = .ok (.laload, 1) := by decide +kernel
theorem dL_law_1713 : decode cL_law 1713 = .ok (.iload 7, 2) := by decide +kernel
theorem dL_law_1715 : decode cL_law 1715 = .ok (.i2l, 1) := by decide +kernel
theorem dL_law_1716 : decode cL_law 1716 = .ok (.lcmp, 1) := by decide +kernel
theorem dL_law_1717 : decode cL_law 1717 = .ok (.ifCond .eq 5, 3) := by decide +kernel
theorem dL_law_1720 : decode cL_law 1720 = .ok (.iconst 0, 1) := by decide +kernel
theorem dL_law_1721 : decode cL_law 1721 = .ok (.ireturn, 1) := by decide +kernel
theorem dL_law_1722 : decode cL_law 1722 = .ok (.goto 148, 3) := by decide +kernel
theorem dL_law_1725 : decode cL_law 1725 = .ok (.aload_n 1, 1) := by decide +kernel
theorem dL_law_1726 : decode cL_law 1726 = .ok (.aload_n 3, 1) := by decide +kernel
theorem dL_law_1727 : decode cL_law 1727 = .ok (.invokestatic 195, 3) := by decide +kernel
theorem dL_law_1730 : decode cL_law 1730 = .ok (.istore 6, 2) := by decide +kernel
theorem dL_law_1732 : decode cL_law 1732 = .ok (.aload_n 2, 1) := by decide +kernel
theorem dL_law_1733 : decode cL_law 1733 = .ok (.invokevirtual 197, 3) := by decide +kernel
theorem dL_law_1736 : decode cL_law 1736 = .ok (.istore 7, 2) := by decide +kernel
theorem dL_law_1738 : decode cL_law 1738 = .ok (.aload_n 2, 1) := by decide +kernel
theorem dL_law_1739 : decode cL_law 1739 = .ok (.invokevirtual 118, 3) := by decide +kernel
theorem dL_law_1742 : decode cL_law 1742 = .ok (.iload 6, 2) := by decide +kernel
theorem dL_law_1744 : decode cL_law 1744 = .ok (.if_icmp .eq 5, 3) := by decide +kernel
theorem dL_law_1747 : decode cL_law 1747 = .ok (.iconst 0, 1) := by decide +kernel
theorem dL_law_1748 : decode cL_law 1748 = .ok (.ireturn, 1) := by decide +kernel
theorem dL_law_1749 : decode cL_law 1749 = .ok (.iload 6, 2) := by decide +kernel
theorem dL_law_1751 : decode cL_law 1751 = .ok (.ifCond .ne 15, 3) := by decide +kernel
theorem dL_law_1754 : decode cL_law 1754 = .ok (.aload_n 3, 1) := by decide +kernel
theorem dL_law_1755 : decode cL_law 1755 = .ok (.iconst 0, 1) := by decide +kernel
theorem dL_law_1756 : decode cL_law 1756 = .ok (.laload, 1) := by decide +kernel
theorem dL_law_1757 : decode cL_law 1757 = .ok (.iload 7, 2) := by decide +kernel
theorem dL_law_1759 : decode cL_law 1759 = .ok (.i2l, 1) := by decide +kernel
theorem dL_law_1760 : decode cL_law 1760 = .ok (.lcmp, 1) := by decide +kernel
theorem dL_law_1761 : decode cL_law 1761 = .ok (.ifCond .eq 5, 3) := by decide +kernel
theorem dL_law_1764 : decode cL_law 1764 = .ok (.iconst 0, 1) := by decide +kernel
theorem dL_law_1765 : decode cL_law 1765 = .ok (.ireturn, 1) := by decide +kernel
theorem dL_law_1766 : decode cL_law 1766 = .ok (.goto 104, 3) := by decide +kernel
theorem dL_law_1769 : decode cL_law 1769 = .ok (.aload_n 1, 1) := by decide +kernel
theorem dL_law_1770 : decode cL_law 1770 = .ok (.aload_n 3, 1) := by decide +kernel
theorem dL_law_1771 : decode cL_law 1771 = .ok (.invokestatic 198, 3) := by decide +kernel
theorem dL_law_1774 : decode cL_law 1774 = .ok (.istore 6, 2) := by decide +kernel
theorem dL_law_1776 : decode cL_law 1776 = .ok (.aload_n 2, 1) := by decide +kernel
theorem dL_law_1777 : decode cL_law 1777 = .ok (.invokevirtual 200, 3) := by decide +kernel
theorem dL_law_1780 : decode cL_law 1780 = .ok (.istore 7, 2) := by decide +kernel
theorem dL_law_1782 : decode cL_law 1782 = .ok (.aload_n 2, 1) := by decide +kernel
theorem dL_law_1783 : decode cL_law 1783 = .ok (.invokevirtual 118, 3) := by decide +kernel
theorem dL_law_1786 : decode cL_law 1786 = .ok (.iload 6, 2) := by decide +kernel
theorem dL_law_1788 : decode cL_law 1788 = .ok (.if_icmp .eq 5, 3) := by decide +kernel
theorem dL_law_1791 : decode cL_law 1791 = .ok (.iconst 0, 1) := by decide +kernel
theorem dL_law_1792 : decode cL_law 1792 = .ok (.ireturn, 1) := by decide +kernel
theorem dL_law_1793 : decode cL_law 1793 = .ok (.iload 6, 2) := by decide +kernel
theorem dL_law_1795 : decode cL_law 1795 = .ok (.ifCond .ne 15, 3) := by decide +kernel
theorem dL_law_1798 : decode cL_law 1798 = .ok (.aload_n 3, 1) := by decide +kernel
theorem dL_law_1799 : decode cL_law 1799 = .ok (.iconst 0, 1) := by decide +kernel
theorem dL_law_1800 : decode cL_law 1800 = .ok (.laload, 1) := by decide +kernel
theorem dL_law_1801 : decode cL_law 1801 = .ok (.iload 7, 2) := by decide +kernel
theorem dL_law_1803 : decode cL_law 1803 = .ok (.i2l, 1) := by decide +kernel
theorem dL_law_1804 : decode cL_law 1804 = .ok (.lcmp, 1) := by decide +kernel
theorem dL_law_1805 : decode cL_law 1805 = .ok (.ifCond .eq 5, 3) := by decide +kernel
theorem dL_law_1808 : decode cL_law 1808 = .ok (.iconst 0, 1) := by decide +kernel
theorem dL_law_1809 : decode cL_law 1809 = .ok (.ireturn, 1) := by decide +kernel
theorem dL_law_1810 : decode cL_law 1810 = .ok (.goto 60, 3) := by decide +kernel
theorem dL_law_1813 : decode cL_law 1813 = .ok (.aload_n 1, 1) := by decide +kernel
theorem dL_law_1814 : decode cL_law 1814 = .ok (.invokevirtual 201, 3) := by decide +kernel
theorem dL_law_1817 : decode cL_law 1817 = .ok (.aload_n 2, 1) := by decide +kernel
theorem dL_law_1818 : decode cL_law 1818 = .ok (.invokevirtual 204, 3) := by decide +kernel
theorem dL_law_1821 : decode cL_law 1821 = .ok (.if_icmp .eq 49, 3) := by decide +kernel
theorem dL_law_1824 : decode cL_law 1824 = .ok (.iconst 0, 1) := by decide +kernel
theorem dL_law_1825 : decode cL_law 1825 = .ok (.ireturn, 1) := by decide +kernel
theorem dL_law_1826 : decode cL_law 1826 = .ok (.aload_n 1, 1) := by decide +kernel
theorem dL_law_1827 : decode cL_law 1827 = .ok (.aload_n 3, 1) := by decide +kernel
theorem dL_law_1828 : decode cL_law 1828 = .ok (.invokestatic 205, 3) := by decide +kernel
theorem dL_law_1831 : decode cL_law 1831 = .ok (.istore 6, 2) := by decide +kernel
theorem dL_law_1833 : decode cL_law 1833 = .ok (.aload_n 2, 1) := by decide +kernel
theorem dL_law_1834 : decode cL_law 1834 = .ok (.invokevirtual 207, 3) := by decide +kernel
theorem dL_law_1837 : decode cL_law 1837 = .ok (.istore 7, 2) := by decide +kernel
theorem dL_law_1839 : decode cL_law 1839 = .ok (.aload_n 2, 1) := by decide +kernel
theorem dL_law_1840 : decode cL_law 1840 = .ok (.invokevirtual 118, 3) := by decide +kernel
theorem dL_law_1843 : decode cL_law 1843 = .ok (.iload 6, 2) := by decide +kernel
theorem dL_law_1845 : decode cL_law 1845 = .ok (.if_icmp .eq 5, 3) := by decide +kernel
theorem dL_law_1848 : decode cL_law 1848 = .ok (.iconst 0, 1) := by decide +kernel
theorem dL_law_1849 : decode cL_law 1849 = .ok (.ireturn, 1) := by decide +kernel
theorem dL_law_1850 : decode cL_law 1850 = .ok (.iload 6, 2) := by decide +kernel
theorem dL_law_1852 : decode cL_law 1852 = .ok (.ifCond .ne 15, 3) := by decide +kernel
theorem dL_law_1855 : decode cL_law 1855 = .ok (.aload_n 3, 1) := by decide +kernel
theorem dL_law_1856 : decode cL_law 1856 = .ok (.iconst 0, 1) := by decide +kernel
theorem dL_law_1857 : decode cL_law 1857 = .ok (.laload, 1) := by decide +kernel
theorem dL_law_1858 : decode cL_law 1858 = .ok (.iload 7, 2) := by decide +kernel
theorem dL_law_1860 : decode cL_law 1860 = .ok (.i2l, 1) := by decide +kernel
theorem dL_law_1861 : decode cL_law 1861 = .ok (.lcmp, 1) := by decide +kernel
theorem dL_law_1862 : decode cL_law 1862 = .ok (.ifCond .eq 5, 3) := by decide +kernel
theorem dL_law_1865 : decode cL_law 1865 = .ok (.iconst 0, 1) := by decide +kernel
theorem dL_law_1866 : decode cL_law 1866 = .ok (.ireturn, 1) := by decide +kernel
theorem dL_law_1867 : decode cL_law 1867 = .ok (.goto 3, 3) := by decide +kernel
theorem dL_law_1870 : decode cL_law 1870 = .ok (.iinc 5 5, 3) := by decide +kernel
theorem dL_law_1873 : decode cL_law 1873 = .ok (.goto (-1845), 3) := by decide +kernel
theorem dL_law_1876 : decode cL_law 1876 = .ok (.iconst 1, 1) := by decide +kernel
theorem dL_law_1877 : decode cL_law 1877 = .ok (.ireturn, 1) := by decide +kernel
def fL_law_28 (N : Nat) (Z : mZ) : Nat → Nat → Nat → Nat → Nat → Nat → Int32 → mM → Option (Int32 × mM)
  | 0, _, _, _, _, _, _, _ => none
  | fu + 1, v0, v1, v2, v3, v4, v5, M => ck (okI Z v0) (if ((Int32.ofNat (Z.2.2.1 v0)) - (5 : Int32)) < v5 then some (1, M) else ck (inB v5 (Z.2.2.1 v0)) (if ((M.1 v0 (v5).toNatClampNeg) &&& (31 : Int32)) = nI 0 then ck (inB (v5 + (1 : Int32)) (Z.2.2.1 v0)) (bnd2 (fL_start N Z v1 (M.1 v0 ((v5 + (1 : Int32))).toNatClampNeg) v3 M) (fun r12 M12 => ck (okO Z v2 9) (bnd2 (fX9_start N Z v2 (M12.1 v0 ((v5 + (1 : Int32))).toNatClampNeg) M12) (fun r14 M14 => bnd2 (fX9_thrown N Z v2 M14) (fun r15 M15 => if r15 = r12 then if r12 = 0 then ck (okO Z v3 22) (ck (inB (0 : Int32) (Z.2.2.1 v3)) (if (lg_cmp (M15.2.1 v3 ((0 : Int32)).toNatClampNeg) ((r14).toInt64)) = 0 then fL_law_28 N Z fu v0 v1 v2 v3 v4 (v5 + (5 : Int32)) M15 else none)) else fL_law_28 N Z fu v0 v1 v2 v3 v4 (v5 + (5 : Int32)) M15 else none))))) else if ((M.1 v0 (v5).toNatClampNeg) &&& (31 : Int32)) = nI 1 then ck (inB (v5 + (1 : Int32)) (Z.2.2.1 v0)) (ck (inB (v5 + (2 : Int32)) (Z.2.2.1 v0)) (bnd2 (fL_set N Z v1 (M.1 v0 ((v5 + (1 : Int32))).toNatClampNeg) (M.1 v0 ((v5 + (2 : Int32))).toNatClampNeg) v3 M) (fun r24 M24 => ck (okO Z v2 9) (bnd2 (fX9_set N Z v2 (M24.1 v0 ((v5 + (1 : Int32))).toNatClampNeg) (M24.1 v0 ((v5 + (2 : Int32))).toNatClampNeg) M24) (fun r26 M26 => bnd2 (fX9_thrown N Z v2 M26) (fun r27 M27 => if r27 = r24 then if r24 = 0 then ck (okO Z v3 22) (ck (inB (0 : Int32) (Z.2.2.1 v3)) (if (lg_cmp (M27.2.1 v3 ((0 : Int32)).toNatClampNeg) ((r26).toInt64)) = 0 then fL_law_28 N Z fu v0 v1 v2 v3 v4 (v5 + (5 : Int32)) M27 else none)) else fL_law_28 N Z fu v0 v1 v2 v3 v4 (v5 + (5 : Int32)) M27 else none)))))) else if ((M.1 v0 (v5).toNatClampNeg) &&& (31 : Int32)) = nI 2 then ck (inB (v5 + (1 : Int32)) (Z.2.2.1 v0)) (ck (inB (v5 + (2 : Int32)) (Z.2.2.1 v0)) (bnd2 (fL_stock N Z v1 (M.1 v0 ((v5 + (1 : Int32))).toNatClampNeg) (M.1 v0 ((v5 + (2 : Int32))).toNatClampNeg) v3 M) (fun r36 M36 => ck (okO Z v2 9) (bnd2 (fX9_stock N Z v2 (M36.1 v0 ((v5 + (1 : Int32))).toNatClampNeg) (M36.1 v0 ((v5 + (2 : Int32))).toNatClampNeg) M36) (fun r38 M38 => bnd2 (fX9_thrown N Z v2 M38) (fun r39 M39 => if r39 = r36 then if r36 = 0 then ck (okO Z v3 22) (ck (inB (0 : Int32) (Z.2.2.1 v3)) (if (lg_cmp (M39.2.1 v3 ((0 : Int32)).toNatClampNeg) ((r38).toInt64)) = 0 then fL_law_28 N Z fu v0 v1 v2 v3 v4 (v5 + (5 : Int32)) M39 else none)) else fL_law_28 N Z fu v0 v1 v2 v3 v4 (v5 + (5 : Int32)) M39 else none)))))) else if ((M.1 v0 (v5).toNatClampNeg) &&& (31 : Int32)) = nI 3 then ck (inB (v5 + (1 : Int32)) (Z.2.2.1 v0)) (bnd2 (fL_erect N Z v1 (M.1 v0 ((v5 + (1 : Int32))).toNatClampNeg) v3 M) (fun r47 M47 => ck (okO Z v2 9) (bnd2 (fX9_erect N Z v2 (M47.1 v0 ((v5 + (1 : Int32))).toNatClampNeg) M47) (fun r49 M49 => bnd2 (fX9_thrown N Z v2 M49) (fun r50 M50 => if r50 = r47 then if r47 = 0 then ck (okO Z v3 22) (ck (inB (0 : Int32) (Z.2.2.1 v3)) (if (lg_cmp (M50.2.1 v3 ((0 : Int32)).toNatClampNeg) ((r49).toInt64)) = 0 then fL_law_28 N Z fu v0 v1 v2 v3 v4 (v5 + (5 : Int32)) M50 else none)) else fL_law_28 N Z fu v0 v1 v2 v3 v4 (v5 + (5 : Int32)) M50 else none))))) else if ((M.1 v0 (v5).toNatClampNeg) &&& (31 : Int32)) = nI 4 then ck (inB (v5 + (1 : Int32)) (Z.2.2.1 v0)) (bnd2 (fL_lower N Z v1 (M.1 v0 ((v5 + (1 : Int32))).toNatClampNeg) v3 M) (fun r58 M58 => ck (okO Z v2 9) (bnd2 (fX9_lower N Z v2 (M58.1 v0 ((v5 + (1 : Int32))).toNatClampNeg) M58) (fun r60 M60 => bnd2 (fX9_thrown N Z v2 M60) (fun r61 M61 => if r61 = r58 then if r58 = 0 then ck (okO Z v3 22) (ck (inB (0 : Int32) (Z.2.2.1 v3)) (if (lg_cmp (M61.2.1 v3 ((0 : Int32)).toNatClampNeg) ((r60).toInt64)) = 0 then fL_law_28 N Z fu v0 v1 v2 v3 v4 (v5 + (5 : Int32)) M61 else none)) else fL_law_28 N Z fu v0 v1 v2 v3 v4 (v5 + (5 : Int32)) M61 else none))))) else if ((M.1 v0 (v5).toNatClampNeg) &&& (31 : Int32)) = nI 5 then ck (inB (v5 + (1 : Int32)) (Z.2.2.1 v0)) (ck (inB (v5 + (2 : Int32)) (Z.2.2.1 v0)) (ck (inB (v5 + (3 : Int32)) (Z.2.2.1 v0)) (bnd2 (fL_deck N Z v1 (M.1 v0 ((v5 + (1 : Int32))).toNatClampNeg) (M.1 v0 ((v5 + (2 : Int32))).toNatClampNeg) (M.1 v0 ((v5 + (3 : Int32))).toNatClampNeg) v3 M) (fun r71 M71 => ck (okO Z v2 9) (bnd2 (fX9_deck N Z v2 (M71.1 v0 ((v5 + (1 : Int32))).toNatClampNeg) (M71.1 v0 ((v5 + (2 : Int32))).toNatClampNeg) (M71.1 v0 ((v5 + (3 : Int32))).toNatClampNeg) M71) (fun r73 M73 => bnd2 (fX9_thrown N Z v2 M73) (fun r74 M74 => if r74 = r71 then if r71 = 0 then ck (okO Z v3 22) (ck (inB (0 : Int32) (Z.2.2.1 v3)) (if (lg_cmp (M74.2.1 v3 ((0 : Int32)).toNatClampNeg) ((r73).toInt64)) = 0 then fL_law_28 N Z fu v0 v1 v2 v3 v4 (v5 + (5 : Int32)) M74 else none)) else fL_law_28 N Z fu v0 v1 v2 v3 v4 (v5 + (5 : Int32)) M74 else none))))))) else if ((M.1 v0 (v5).toNatClampNeg) &&& (31 : Int32)) = nI 6 then ck (inB (v5 + (1 : Int32)) (Z.2.2.1 v0)) (ck (inB (v5 + (2 : Int32)) (Z.2.2.1 v0)) (ck (inB (v5 + (3 : Int32)) (Z.2.2.1 v0)) (bnd2 (fL_put N Z v1 (M.1 v0 ((v5 + (1 : Int32))).toNatClampNeg) (M.1 v0 ((v5 + (2 : Int32))).toNatClampNeg) (M.1 v0 ((v5 + (3 : Int32))).toNatClampNeg) v3 M) (fun r84 M84 => ck (okO Z v2 9) (bnd2 (fX9_put N Z v2 (M84.1 v0 ((v5 + (1 : Int32))).toNatClampNeg) (M84.1 v0 ((v5 + (2 : Int32))).toNatClampNeg) (M84.1 v0 ((v5 + (3 : Int32))).toNatClampNeg) M84) (fun r86 M86 => bnd2 (fX9_thrown N Z v2 M86) (fun r87 M87 => if r87 = r84 then if r84 = 0 then ck (okO Z v3 22) (ck (inB (0 : Int32) (Z.2.2.1 v3)) (if (lg_cmp (M87.2.1 v3 ((0 : Int32)).toNatClampNeg) ((r86).toInt64)) = 0 then fL_law_28 N Z fu v0 v1 v2 v3 v4 (v5 + (5 : Int32)) M87 else none)) else fL_law_28 N Z fu v0 v1 v2 v3 v4 (v5 + (5 : Int32)) M87 else none))))))) else if ((M.1 v0 (v5).toNatClampNeg) &&& (31 : Int32)) = nI 7 then ck (inB (v5 + (1 : Int32)) (Z.2.2.1 v0)) (ck (inB (v5 + (2 : Int32)) (Z.2.2.1 v0)) (ck (inB (v5 + (3 : Int32)) (Z.2.2.1 v0)) (bnd2 (fL_take N Z v1 (M.1 v0 ((v5 + (1 : Int32))).toNatClampNeg) (M.1 v0 ((v5 + (2 : Int32))).toNatClampNeg) (M.1 v0 ((v5 + (3 : Int32))).toNatClampNeg) v3 M) (fun r97 M97 => ck (okO Z v2 9) (bnd2 (fX9_take N Z v2 (M97.1 v0 ((v5 + (1 : Int32))).toNatClampNeg) (M97.1 v0 ((v5 + (2 : Int32))).toNatClampNeg) (M97.1 v0 ((v5 + (3 : Int32))).toNatClampNeg) M97) (fun r99 M99 => bnd2 (fX9_thrown N Z v2 M99) (fun r100 M100 => if r100 = r97 then if r97 = 0 then ck (okO Z v3 22) (ck (inB (0 : Int32) (Z.2.2.1 v3)) (if (lg_cmp (M100.2.1 v3 ((0 : Int32)).toNatClampNeg) ((r99).toInt64)) = 0 then fL_law_28 N Z fu v0 v1 v2 v3 v4 (v5 + (5 : Int32)) M100 else none)) else fL_law_28 N Z fu v0 v1 v2 v3 v4 (v5 + (5 : Int32)) M100 else none))))))) else if ((M.1 v0 (v5).toNatClampNeg) &&& (31 : Int32)) = nI 8 then ck (inB (v5 + (1 : Int32)) (Z.2.2.1 v0)) (ck (inB (v5 + (2 : Int32)) (Z.2.2.1 v0)) (ck (inB (v5 + (3 : Int32)) (Z.2.2.1 v0)) (ck (inB (v5 + (4 : Int32)) (Z.2.2.1 v0)) (if (M.1 v0 ((v5 + (4 : Int32))).toNatClampNeg) = 0 then bnd2 (fL_refusal N Z v1 (M.1 v0 ((v5 + (1 : Int32))).toNatClampNeg) (M.1 v0 ((v5 + (2 : Int32))).toNatClampNeg) (M.1 v0 ((v5 + (3 : Int32))).toNatClampNeg) (0 : Int32) v3 M) (fun r112 M112 => if (M112.1 v0 ((v5 + (4 : Int32))).toNatClampNeg) = 0 then ck (okO Z v2 9) (bnd2 (fX9_refusal N Z v2 (M112.1 v0 ((v5 + (1 : Int32))).toNatClampNeg) (M112.1 v0 ((v5 + (2 : Int32))).toNatClampNeg) (M112.1 v0 ((v5 + (3 : Int32))).toNatClampNeg) (0 : Int32) M112) (fun r115 M115 => bnd2 (fX9_thrown N Z v2 M115) (fun r116 M116 => if r116 = r112 then if r112 = 0 then ck (okO Z v3 22) (ck (inB (0 : Int32) (Z.2.2.1 v3)) (if (lg_cmp (M116.2.1 v3 ((0 : Int32)).toNatClampNeg) ((r115).toInt64)) = 0 then fL_law_28 N Z fu v0 v1 v2 v3 v4 (v5 + (5 : Int32)) M116 else none)) else fL_law_28 N Z fu v0 v1 v2 v3 v4 (v5 + (5 : Int32)) M116 else none))) else ck (okO Z v2 9) (bnd2 (fX9_refusal N Z v2 (M112.1 v0 ((v5 + (1 : Int32))).toNatClampNeg) (M112.1 v0 ((v5 + (2 : Int32))).toNatClampNeg) (M112.1 v0 ((v5 + (3 : Int32))).toNatClampNeg) (1 : Int32) M112) (fun r123 M123 => bnd2 (fX9_thrown N Z v2 M123) (fun r124 M124 => if r124 = r112 then if r112 = 0 then ck (okO Z v3 22) (ck (inB (0 : Int32) (Z.2.2.1 v3)) (if (lg_cmp (M124.2.1 v3 ((0 : Int32)).toNatClampNeg) ((r123).toInt64)) = 0 then fL_law_28 N Z fu v0 v1 v2 v3 v4 (v5 + (5 : Int32)) M124 else none)) else fL_law_28 N Z fu v0 v1 v2 v3 v4 (v5 + (5 : Int32)) M124 else none)))) else bnd2 (fL_refusal N Z v1 (M.1 v0 ((v5 + (1 : Int32))).toNatClampNeg) (M.1 v0 ((v5 + (2 : Int32))).toNatClampNeg) (M.1 v0 ((v5 + (3 : Int32))).toNatClampNeg) (1 : Int32) v3 M) (fun r130 M130 => if (M130.1 v0 ((v5 + (4 : Int32))).toNatClampNeg) = 0 then ck (okO Z v2 9) (bnd2 (fX9_refusal N Z v2 (M130.1 v0 ((v5 + (1 : Int32))).toNatClampNeg) (M130.1 v0 ((v5 + (2 : Int32))).toNatClampNeg) (M130.1 v0 ((v5 + (3 : Int32))).toNatClampNeg) (0 : Int32) M130) (fun r133 M133 => bnd2 (fX9_thrown N Z v2 M133) (fun r134 M134 => if r134 = r130 then if r130 = 0 then ck (okO Z v3 22) (ck (inB (0 : Int32) (Z.2.2.1 v3)) (if (lg_cmp (M134.2.1 v3 ((0 : Int32)).toNatClampNeg) ((r133).toInt64)) = 0 then fL_law_28 N Z fu v0 v1 v2 v3 v4 (v5 + (5 : Int32)) M134 else none)) else fL_law_28 N Z fu v0 v1 v2 v3 v4 (v5 + (5 : Int32)) M134 else none))) else ck (okO Z v2 9) (bnd2 (fX9_refusal N Z v2 (M130.1 v0 ((v5 + (1 : Int32))).toNatClampNeg) (M130.1 v0 ((v5 + (2 : Int32))).toNatClampNeg) (M130.1 v0 ((v5 + (3 : Int32))).toNatClampNeg) (1 : Int32) M130) (fun r141 M141 => bnd2 (fX9_thrown N Z v2 M141) (fun r142 M142 => if r142 = r130 then if r130 = 0 then ck (okO Z v3 22) (ck (inB (0 : Int32) (Z.2.2.1 v3)) (if (lg_cmp (M142.2.1 v3 ((0 : Int32)).toNatClampNeg) ((r141).toInt64)) = 0 then fL_law_28 N Z fu v0 v1 v2 v3 v4 (v5 + (5 : Int32)) M142 else none)) else fL_law_28 N Z fu v0 v1 v2 v3 v4 (v5 + (5 : Int32)) M142 else none)))))))) else if ((M.1 v0 (v5).toNatClampNeg) &&& (31 : Int32)) = nI 9 then ck (inB (v5 + (1 : Int32)) (Z.2.2.1 v0)) (ck (inB (v5 + (2 : Int32)) (Z.2.2.1 v0)) (if (M.1 v0 ((v5 + (2 : Int32))).toNatClampNeg) = 0 then bnd2 (fL_report N Z v1 (M.1 v0 ((v5 + (1 : Int32))).toNatClampNeg) (0 : Int32) v3 M) (fun r152 M152 => if (M152.1 v0 ((v5 + (2 : Int32))).toNatClampNeg) = 0 then ck (okO Z v2 9) (bnd2 (fX9_report N Z v2 (M152.1 v0 ((v5 + (1 : Int32))).toNatClampNeg) (0 : Int32) M152) (fun r155 M155 => bnd2 (fX9_thrown N Z v2 M155) (fun r156 M156 => if r156 = r152 then if r152 = 0 then ck (okO Z v3 22) (ck (inB (0 : Int32) (Z.2.2.1 v3)) (if (lg_cmp (M156.2.1 v3 ((0 : Int32)).toNatClampNeg) ((r155).toInt64)) = 0 then fL_law_28 N Z fu v0 v1 v2 v3 v4 (v5 + (5 : Int32)) M156 else none)) else fL_law_28 N Z fu v0 v1 v2 v3 v4 (v5 + (5 : Int32)) M156 else none))) else ck (okO Z v2 9) (bnd2 (fX9_report N Z v2 (M152.1 v0 ((v5 + (1 : Int32))).toNatClampNeg) (1 : Int32) M152) (fun r163 M163 => bnd2 (fX9_thrown N Z v2 M163) (fun r164 M164 => if r164 = r152 then if r152 = 0 then ck (okO Z v3 22) (ck (inB (0 : Int32) (Z.2.2.1 v3)) (if (lg_cmp (M164.2.1 v3 ((0 : Int32)).toNatClampNeg) ((r163).toInt64)) = 0 then fL_law_28 N Z fu v0 v1 v2 v3 v4 (v5 + (5 : Int32)) M164 else none)) else fL_law_28 N Z fu v0 v1 v2 v3 v4 (v5 + (5 : Int32)) M164 else none)))) else bnd2 (fL_report N Z v1 (M.1 v0 ((v5 + (1 : Int32))).toNatClampNeg) (1 : Int32) v3 M) (fun r170 M170 => if (M170.1 v0 ((v5 + (2 : Int32))).toNatClampNeg) = 0 then ck (okO Z v2 9) (bnd2 (fX9_report N Z v2 (M170.1 v0 ((v5 + (1 : Int32))).toNatClampNeg) (0 : Int32) M170) (fun r173 M173 => bnd2 (fX9_thrown N Z v2 M173) (fun r174 M174 => if r174 = r170 then if r170 = 0 then ck (okO Z v3 22) (ck (inB (0 : Int32) (Z.2.2.1 v3)) (if (lg_cmp (M174.2.1 v3 ((0 : Int32)).toNatClampNeg) ((r173).toInt64)) = 0 then fL_law_28 N Z fu v0 v1 v2 v3 v4 (v5 + (5 : Int32)) M174 else none)) else fL_law_28 N Z fu v0 v1 v2 v3 v4 (v5 + (5 : Int32)) M174 else none))) else ck (okO Z v2 9) (bnd2 (fX9_report N Z v2 (M170.1 v0 ((v5 + (1 : Int32))).toNatClampNeg) (1 : Int32) M170) (fun r181 M181 => bnd2 (fX9_thrown N Z v2 M181) (fun r182 M182 => if r182 = r170 then if r170 = 0 then ck (okO Z v3 22) (ck (inB (0 : Int32) (Z.2.2.1 v3)) (if (lg_cmp (M182.2.1 v3 ((0 : Int32)).toNatClampNeg) ((r181).toInt64)) = 0 then fL_law_28 N Z fu v0 v1 v2 v3 v4 (v5 + (5 : Int32)) M182 else none)) else fL_law_28 N Z fu v0 v1 v2 v3 v4 (v5 + (5 : Int32)) M182 else none)))))) else if ((M.1 v0 (v5).toNatClampNeg) &&& (31 : Int32)) = nI 10 then ck (inB (v5 + (1 : Int32)) (Z.2.2.1 v0)) (ck (inB (v5 + (2 : Int32)) (Z.2.2.1 v0)) (bnd2 (fL_bay N Z v1 (M.1 v0 ((v5 + (1 : Int32))).toNatClampNeg) (M.1 v0 ((v5 + (2 : Int32))).toNatClampNeg) v3 M) (fun r191 M191 => ck (okO Z v2 9) (bnd2 (fX9_bay N Z v2 (M191.1 v0 ((v5 + (1 : Int32))).toNatClampNeg) (M191.1 v0 ((v5 + (2 : Int32))).toNatClampNeg) M191) (fun r193 M193 => bnd2 (fX9_thrown N Z v2 M193) (fun r194 M194 => if r194 = r191 then if r191 = 0 then ck (okO Z v3 22) (ck (inB (0 : Int32) (Z.2.2.1 v3)) (if (lg_cmp (M194.2.1 v3 ((0 : Int32)).toNatClampNeg) ((r193).toInt64)) = 0 then fL_law_28 N Z fu v0 v1 v2 v3 v4 (v5 + (5 : Int32)) M194 else none)) else fL_law_28 N Z fu v0 v1 v2 v3 v4 (v5 + (5 : Int32)) M194 else none)))))) else if ((M.1 v0 (v5).toNatClampNeg) &&& (31 : Int32)) = nI 11 then ck (inB (v5 + (1 : Int32)) (Z.2.2.1 v0)) (ck (inB (v5 + (2 : Int32)) (Z.2.2.1 v0)) (bnd2 (fL_post N Z v1 (M.1 v0 ((v5 + (1 : Int32))).toNatClampNeg) (M.1 v0 ((v5 + (2 : Int32))).toNatClampNeg) v3 M) (fun r203 M203 => ck (okO Z v2 9) (bnd2 (fX9_post N Z v2 (M203.1 v0 ((v5 + (1 : Int32))).toNatClampNeg) (M203.1 v0 ((v5 + (2 : Int32))).toNatClampNeg) M203) (fun r205 M205 => bnd2 (fX9_thrown N Z v2 M205) (fun r206 M206 => if r206 = r203 then if r203 = 0 then ck (okO Z v3 22) (ck (inB (0 : Int32) (Z.2.2.1 v3)) (if (lg_cmp (M206.2.1 v3 ((0 : Int32)).toNatClampNeg) ((r205).toInt64)) = 0 then fL_law_28 N Z fu v0 v1 v2 v3 v4 (v5 + (5 : Int32)) M206 else none)) else fL_law_28 N Z fu v0 v1 v2 v3 v4 (v5 + (5 : Int32)) M206 else none)))))) else if ((M.1 v0 (v5).toNatClampNeg) &&& (31 : Int32)) = nI 12 then ck (inB (v5 + (1 : Int32)) (Z.2.2.1 v0)) (ck (inB (v5 + (2 : Int32)) (Z.2.2.1 v0)) (bnd2 (fL_load N Z v1 (M.1 v0 ((v5 + (1 : Int32))).toNatClampNeg) (M.1 v0 ((v5 + (2 : Int32))).toNatClampNeg) v3 M) (fun r215 M215 => ck (okO Z v2 9) (bnd2 (fX9_load N Z v2 (M215.1 v0 ((v5 + (1 : Int32))).toNatClampNeg) (M215.1 v0 ((v5 + (2 : Int32))).toNatClampNeg) M215) (fun r217 M217 => bnd2 (fX9_thrown N Z v2 M217) (fun r218 M218 => if r218 = r215 then if r215 = 0 then ck (okO Z v3 22) (ck (inB (0 : Int32) (Z.2.2.1 v3)) (if (lg_cmp (M218.2.1 v3 ((0 : Int32)).toNatClampNeg) ((r217).toInt64)) = 0 then fL_law_28 N Z fu v0 v1 v2 v3 v4 (v5 + (5 : Int32)) M218 else none)) else fL_law_28 N Z fu v0 v1 v2 v3 v4 (v5 + (5 : Int32)) M218 else none)))))) else if ((M.1 v0 (v5).toNatClampNeg) &&& (31 : Int32)) = nI 13 then ck (inB (v5 + (1 : Int32)) (Z.2.2.1 v0)) (ck (inB (v5 + (2 : Int32)) (Z.2.2.1 v0)) (bnd2 (fL_steps N Z v1 (M.1 v0 ((v5 + (1 : Int32))).toNatClampNeg) (M.1 v0 ((v5 + (2 : Int32))).toNatClampNeg) v3 M) (fun r227 M227 => ck (okO Z v2 9) (bnd2 (fX9_steps N Z v2 (M227.1 v0 ((v5 + (1 : Int32))).toNatClampNeg) (M227.1 v0 ((v5 + (2 : Int32))).toNatClampNeg) M227) (fun r229 M229 => bnd2 (fX9_thrown N Z v2 M229) (fun r230 M230 => if r230 = r227 then if r227 = 0 then ck (okO Z v3 22) (ck (inB (0 : Int32) (Z.2.2.1 v3)) (if (lg_cmp (M230.2.1 v3 ((0 : Int32)).toNatClampNeg) ((r229).toInt64)) = 0 then fL_law_28 N Z fu v0 v1 v2 v3 v4 (v5 + (5 : Int32)) M230 else none)) else fL_law_28 N Z fu v0 v1 v2 v3 v4 (v5 + (5 : Int32)) M230 else none)))))) else if ((M.1 v0 (v5).toNatClampNeg) &&& (31 : Int32)) = nI 14 then ck (inB (v5 + (1 : Int32)) (Z.2.2.1 v0)) (bnd2 (fL_fewestTies N Z v1 (M.1 v0 ((v5 + (1 : Int32))).toNatClampNeg) v3 M) (fun r238 M238 => ck (okO Z v2 9) (bnd2 (fX9_fewestTies N Z v2 (M238.1 v0 ((v5 + (1 : Int32))).toNatClampNeg) M238) (fun r240 M240 => bnd2 (fX9_thrown N Z v2 M240) (fun r241 M241 => if r241 = r238 then if r238 = 0 then ck (okO Z v3 22) (ck (inB (0 : Int32) (Z.2.2.1 v3)) (if (lg_cmp (M241.2.1 v3 ((0 : Int32)).toNatClampNeg) ((r240).toInt64)) = 0 then fL_law_28 N Z fu v0 v1 v2 v3 v4 (v5 + (5 : Int32)) M241 else none)) else fL_law_28 N Z fu v0 v1 v2 v3 v4 (v5 + (5 : Int32)) M241 else none))))) else if ((M.1 v0 (v5).toNatClampNeg) &&& (31 : Int32)) = nI 15 then ck (inB (v5 + (1 : Int32)) (Z.2.2.1 v0)) (bnd2 (fL_tieLevels N Z v1 (M.1 v0 ((v5 + (1 : Int32))).toNatClampNeg) v3 M) (fun r249 M249 => ck (okO Z v2 9) (bnd2 (fX9_tieLevels N Z v2 (M249.1 v0 ((v5 + (1 : Int32))).toNatClampNeg) M249) (fun r251 M251 => bnd2 (fX9_thrown N Z v2 M251) (fun r252 M252 => if r252 = r249 then if r249 = 0 then ck (okO Z v3 22) (ck (inB (0 : Int32) (Z.2.2.1 v3)) (if (lg_cmp (M252.2.1 v3 ((0 : Int32)).toNatClampNeg) ((r251).toInt64)) = 0 then fL_law_28 N Z fu v0 v1 v2 v3 v4 (v5 + (5 : Int32)) M252 else none)) else fL_law_28 N Z fu v0 v1 v2 v3 v4 (v5 + (5 : Int32)) M252 else none))))) else if ((M.1 v0 (v5).toNatClampNeg) &&& (31 : Int32)) = nI 16 then ck (inB (v5 + (1 : Int32)) (Z.2.2.1 v0)) (ck (inB (v5 + (2 : Int32)) (Z.2.2.1 v0)) (bnd2 (fL_missing N Z v1 (M.1 v0 ((v5 + (1 : Int32))).toNatClampNeg) (M.1 v0 ((v5 + (2 : Int32))).toNatClampNeg) v3 M) (fun r261 M261 => ck (okO Z v2 9) (bnd2 (fX9_missing N Z v2 (M261.1 v0 ((v5 + (1 : Int32))).toNatClampNeg) (M261.1 v0 ((v5 + (2 : Int32))).toNatClampNeg) M261) (fun r263 M263 => bnd2 (fX9_thrown N Z v2 M263) (fun r264 M264 => if r264 = r261 then if r261 = 0 then ck (okO Z v3 22) (ck (inB (0 : Int32) (Z.2.2.1 v3)) (if (lg_cmp (M264.2.1 v3 ((0 : Int32)).toNatClampNeg) ((r263).toInt64)) = 0 then fL_law_28 N Z fu v0 v1 v2 v3 v4 (v5 + (5 : Int32)) M264 else none)) else fL_law_28 N Z fu v0 v1 v2 v3 v4 (v5 + (5 : Int32)) M264 else none)))))) else if ((M.1 v0 (v5).toNatClampNeg) &&& (31 : Int32)) = nI 17 then bnd2 (fL_dismantling N Z v1 v3 M) (fun r271 M271 => ck (okO Z v2 9) (bnd2 (fX9_dismantling N Z v2 M271) (fun r273 M273 => bnd2 (fX9_thrown N Z v2 M273) (fun r274 M274 => if r274 = r271 then if r271 = 0 then ck (okO Z v3 22) (ck (inB (0 : Int32) (Z.2.2.1 v3)) (if (lg_cmp (M274.2.1 v3 ((0 : Int32)).toNatClampNeg) ((r273).toInt64)) = 0 then fL_law_28 N Z fu v0 v1 v2 v3 v4 (v5 + (5 : Int32)) M274 else none)) else fL_law_28 N Z fu v0 v1 v2 v3 v4 (v5 + (5 : Int32)) M274 else none)))) else if ((M.1 v0 (v5).toNatClampNeg) &&& (31 : Int32)) = nI 18 then ck (inB (v5 + (1 : Int32)) (Z.2.2.1 v0)) (ck (inB (v5 + (2 : Int32)) (Z.2.2.1 v0)) (bnd2 (fL_work N Z v1 (M.1 v0 ((v5 + (1 : Int32))).toNatClampNeg) (M.1 v0 ((v5 + (2 : Int32))).toNatClampNeg) v3 M) (fun r283 M283 => ck (okO Z v2 9) (bnd2 (fX9_work N Z v2 (M283.1 v0 ((v5 + (1 : Int32))).toNatClampNeg) (M283.1 v0 ((v5 + (2 : Int32))).toNatClampNeg) M283) (fun r285 M285 => bnd2 (fX9_thrown N Z v2 M285) (fun r286 M286 => if r286 = r283 then if r283 = 0 then ck (okO Z v3 22) (ck (inB (0 : Int32) (Z.2.2.1 v3)) (if (lg_cmp (M286.2.1 v3 ((0 : Int32)).toNatClampNeg) ((r285).toInt64)) = 0 then fL_law_28 N Z fu v0 v1 v2 v3 v4 (v5 + (5 : Int32)) M286 else none)) else fL_law_28 N Z fu v0 v1 v2 v3 v4 (v5 + (5 : Int32)) M286 else none)))))) else if ((M.1 v0 (v5).toNatClampNeg) &&& (31 : Int32)) = nI 19 then ck (inB (v5 + (1 : Int32)) (Z.2.2.1 v0)) (bnd2 (fL_account N Z v1 (M.1 v0 ((v5 + (1 : Int32))).toNatClampNeg) v3 M) (fun r294 M294 => ck (okO Z v2 9) (bnd2 (fX9_account N Z v2 (M294.1 v0 ((v5 + (1 : Int32))).toNatClampNeg) M294) (fun r296 M296 => bnd2 (fX9_thrown N Z v2 M296) (fun r297 M297 => if r297 = r294 then if r294 = 0 then ck (okO Z v3 22) (ck (inB (0 : Int32) (Z.2.2.1 v3)) (if (lg_cmp (M297.2.1 v3 ((0 : Int32)).toNatClampNeg) ((r296).toInt64)) = 0 then fL_law_28 N Z fu v0 v1 v2 v3 v4 (v5 + (5 : Int32)) M297 else none)) else fL_law_28 N Z fu v0 v1 v2 v3 v4 (v5 + (5 : Int32)) M297 else none))))) else if ((M.1 v0 (v5).toNatClampNeg) &&& (31 : Int32)) = nI 20 then ck (inB (v5 + (1 : Int32)) (Z.2.2.1 v0)) (bnd2 (fL_use N Z v1 (M.1 v0 ((v5 + (1 : Int32))).toNatClampNeg) v4 M) (fun r305 M305 => ck (okO Z v2 9) (bnd2 (fX9_use N Z v2 (M305.1 v0 ((v5 + (1 : Int32))).toNatClampNeg) M305) (fun r307 M307 => bnd2 (fX9_thrown N Z v2 M307) (fun r308 M308 => if r308 = r305 then if r305 = 0 then ck (okO Z v4 23) (ck (inB (0 : Int32) (Z.2.2.1 v4)) (ck (nn64 (FP.f2d r307)) (if (Op.cmpValue (FP.dcmp (M308.2.2.1 v4 ((0 : Int32)).toNatClampNeg) (FP.f2d r307)) CmpOp.l) = 0 then fL_law_28 N Z fu v0 v1 v2 v3 v4 (v5 + (5 : Int32)) M308 else if (Op.cmpValue (FP.dcmp (M308.2.2.1 v4 ((0 : Int32)).toNatClampNeg) (M308.2.2.1 v4 ((0 : Int32)).toNatClampNeg)) CmpOp.l) = 0 then none else if (Op.cmpValue (FP.fcmp r307 r307) CmpOp.l) = 0 then none else fL_law_28 N Z fu v0 v1 v2 v3 v4 (v5 + (5 : Int32)) M308))) else fL_law_28 N Z fu v0 v1 v2 v3 v4 (v5 + (5 : Int32)) M308 else none))))) else if ((M.1 v0 (v5).toNatClampNeg) &&& (31 : Int32)) = nI 21 then bnd2 (fL_meanClass N Z v1 v4 M) (fun r318 M318 => ck (okO Z v2 9) (bnd2 (fX9_meanClass N Z v2 M318) (fun r320 M320 => bnd2 (fX9_thrown N Z v2 M320) (fun r321 M321 => if r321 = r318 then if r318 = 0 then ck (okO Z v4 23) (ck (inB (0 : Int32) (Z.2.2.1 v4)) (if (Op.cmpValue (FP.dcmp (M321.2.2.1 v4 ((0 : Int32)).toNatClampNeg) r320) CmpOp.l) = 0 then fL_law_28 N Z fu v0 v1 v2 v3 v4 (v5 + (5 : Int32)) M321 else if (Op.cmpValue (FP.dcmp (M321.2.2.1 v4 ((0 : Int32)).toNatClampNeg) (M321.2.2.1 v4 ((0 : Int32)).toNatClampNeg)) CmpOp.l) = 0 then none else if (Op.cmpValue (FP.dcmp r320 r320) CmpOp.l) = 0 then none else fL_law_28 N Z fu v0 v1 v2 v3 v4 (v5 + (5 : Int32)) M321)) else fL_law_28 N Z fu v0 v1 v2 v3 v4 (v5 + (5 : Int32)) M321 else none)))) else if ((M.1 v0 (v5).toNatClampNeg) &&& (31 : Int32)) = nI 22 then ck (inB (v5 + (1 : Int32)) (Z.2.2.1 v0)) (bnd2 (fL_feed N Z v1 ((((M.1 v0 ((v5 + (1 : Int32))).toNatClampNeg)).toUInt32 % 65536).toInt32) v3 M) (fun r331 M331 => ck (okO Z v2 9) (bnd2 (fX9_feed N Z v2 ((((M331.1 v0 ((v5 + (1 : Int32))).toNatClampNeg)).toUInt32 % 65536).toInt32) M331) (fun r333 M333 => bnd2 (fX9_thrown N Z v2 M333) (fun r334 M334 => if r334 = r331 then if r331 = 0 then ck (okO Z v3 22) (ck (inB (0 : Int32) (Z.2.2.1 v3)) (if (lg_cmp (M334.2.1 v3 ((0 : Int32)).toNatClampNeg) ((r333).toInt64)) = 0 then fL_law_28 N Z fu v0 v1 v2 v3 v4 (v5 + (5 : Int32)) M334 else none)) else fL_law_28 N Z fu v0 v1 v2 v3 v4 (v5 + (5 : Int32)) M334 else none))))) else if ((M.1 v0 (v5).toNatClampNeg) &&& (31 : Int32)) = nI 23 then bnd2 (fL_perform N Z v1 v3 M) (fun r341 M341 => ck (okO Z v2 9) (bnd2 (fX9_perform N Z v2 M341) (fun r343 M343 => bnd2 (fX9_thrown N Z v2 M343) (fun r344 M344 => if r344 = r341 then if r341 = 0 then ck (okO Z v3 22) (ck (inB (0 : Int32) (Z.2.2.1 v3)) (if (lg_cmp (M344.2.1 v3 ((0 : Int32)).toNatClampNeg) ((r343).toInt64)) = 0 then fL_law_28 N Z fu v0 v1 v2 v3 v4 (v5 + (5 : Int32)) M344 else none)) else fL_law_28 N Z fu v0 v1 v2 v3 v4 (v5 + (5 : Int32)) M344 else none)))) else if ((M.1 v0 (v5).toNatClampNeg) &&& (31 : Int32)) = nI 24 then bnd2 (fL_undo N Z v1 v3 M) (fun r351 M351 => ck (okO Z v2 9) (bnd2 (fX9_undo N Z v2 M351) (fun r353 M353 => bnd2 (fX9_thrown N Z v2 M353) (fun r354 M354 => if r354 = r351 then if r351 = 0 then ck (okO Z v3 22) (ck (inB (0 : Int32) (Z.2.2.1 v3)) (if (lg_cmp (M354.2.1 v3 ((0 : Int32)).toNatClampNeg) ((r353).toInt64)) = 0 then fL_law_28 N Z fu v0 v1 v2 v3 v4 (v5 + (5 : Int32)) M354 else none)) else fL_law_28 N Z fu v0 v1 v2 v3 v4 (v5 + (5 : Int32)) M354 else none)))) else if ((M.1 v0 (v5).toNatClampNeg) &&& (31 : Int32)) = nI 25 then ck (okO Z v1 8) (bnd2 (fX8_save N Z v1 M) (fun r362 M362 => ck (okO Z v2 9) (bnd2 (fX9_save N Z v2 M362) (fun r364 M364 => if r362 = r364 then fL_law_28 N Z fu v0 v1 v2 v3 v4 (v5 + (5 : Int32)) M364 else none)))) else if ((M.1 v0 (v5).toNatClampNeg) &&& (31 : Int32)) = nI 26 then bnd2 (fL_restore N Z v1 v3 M) (fun r367 M367 => ck (okO Z v2 9) (bnd2 (fX9_restore N Z v2 M367) (fun r369 M369 => bnd2 (fX9_thrown N Z v2 M369) (fun r370 M370 => if r370 = r367 then if r367 = 0 then ck (okO Z v3 22) (ck (inB (0 : Int32) (Z.2.2.1 v3)) (if (lg_cmp (M370.2.1 v3 ((0 : Int32)).toNatClampNeg) ((r369).toInt64)) = 0 then fL_law_28 N Z fu v0 v1 v2 v3 v4 (v5 + (5 : Int32)) M370 else none)) else fL_law_28 N Z fu v0 v1 v2 v3 v4 (v5 + (5 : Int32)) M370 else none)))) else fL_law_28 N Z fu v0 v1 v2 v3 v4 (v5 + (5 : Int32)) M))
set_option maxHeartbeats 4000000 in
set_option maxRecDepth 100000 in
theorem tL_law_28 {G : mG} {p : Program} {l : Launch} {e : Env} {s : State} {m : MethodId} {args : Array Value} {below : List Frame} {meth : Method} {c : Code} {Q : State → Prop} (hend : ∀ (k n : Nat) (L : mL) (Z : mZ) (M : mM), k ≤ KM → n ≤ NMX → JJ G p l e room_1 s m args below meth c 9 Q k n 1877 L [.int 1] Z M) (C : Cx G p l s m args meth c RL cL_law 9 (some .boolean) []) (hnm : meth.name = yL_law.name) (N : Nat) (Z : mZ) : ∀ (fu : Nat) (v0 : Nat) (v1 : Nat) (v2 : Nat) (v3 : Nat) (v4 : Nat) (v5 : Int32) (M : mM) (r : Int32) (M' : mM), ∀ (kk nn : Nat), kk + fu ≤ KM → nn + 6 * fu ≤ NMX → fL_law_28 N Z fu v0 v1 v2 v3 v4 v5 M = some (r, M') → JJ G p l e room_1 s m args below meth c 9 Q kk nn 28 [(0, .ref v0), (1, .ref v1), (2, .ref v2), (3, .ref v3), (4, .ref v4), (5, .int v5)] [] Z M := by
  intro fu
  induction fu with
  | zero =>
    intro v0 v1 v2 v3 v4 v5 M r M' kk nn hk hn h
    cases h
  | succ fu ih =>
    intro v0 v1 v2 v3 v4 v5 M r M' kk nn hk hn h
    rw [fL_law_28] at h
    refine j_iload C dL_law_28 5 rfl ?_
    refine j_aload_n C dL_law_30 rfl 0 rfl ?_
    obtain ⟨ho7, h⟩ := ck_spec h
    refine j_alen C ho7 dL_law_31 ?_
    refine j_iconst C dL_law_32 (v := (5 : Int32)) (by decide) ?_
    refine j_isub C dL_law_33 ?_
    refine j_icmp_gt C dL_law_34 (tgt := 1876) (by decide) (fun hc8 => ?_) (fun hc8 => ?_)
    · rw [if_pos hc8] at h
      refine j_iconst C dL_law_1876 (v := (1 : Int32)) (by decide) ?_
      exact hend _ _ _ _ _ (by omega) (by omega)
    · rw [if_neg hc8] at h
      refine j_aload_n C dL_law_37 rfl 0 rfl ?_
      refine j_iload C dL_law_38 5 rfl ?_
      obtain ⟨ho9, h⟩ := ck_spec h
      refine j_iald C ho7 ho9 dL_law_40 ?_
      refine j_bipush C dL_law_41 (v := (31 : Int32)) (by decide) ?_
      refine j_iand C dL_law_43 ?_
      by_cases hc10 : ((M.1 v0 (v5).toNatClampNeg) &&& (31 : Int32)) = nI 0
      · rw [if_pos hc10] at h
        refine j_tableIn C dL_law_44 (by rw [hc10]; decide) (by rw [hc10]; decide) (off := 124) (by rw [hc10]; rfl) (tgt := 168) (by decide) ?_
        refine j_aload_n C dL_law_168 rfl 1 rfl ?_
        refine j_aload_n C dL_law_169 rfl 0 rfl ?_
        refine j_iload C dL_law_170 5 rfl ?_
        refine j_iconst C dL_law_172 (v := (1 : Int32)) (by decide) ?_
        refine j_iadd C dL_law_173 ?_
        obtain ⟨ho11, h⟩ := ck_spec h
        refine j_iald C ho7 ho11 dL_law_174 ?_
        refine j_aload_n C dL_law_175 rfl 3 rfl ?_
        obtain ⟨r12, M12, hq12, h⟩ := bnd2_spec h
        refine j_run1 (c_SX C (As := [.ref v1, .int (M.1 v0 ((v5 + (1 : Int32))).toNatClampNeg), .ref v3]) (rest := []) (ctL_start C.2.2.2.2.2.2.2.2.1 N Z hq12) kcRL_112 oyL_start ⟨by decide, by decide⟩ ⟨by show _ + _ ≤ 603072; simp only [KM, NMX] at *; simp; omega, by show _ + _ ≤ 7178346; simp only [KM, NMX] at *; simp; omega⟩ (Nat.le_of_ble_eq_true rfl) rfl dL_law_176) ?_
        refine j_istore C dL_law_179 (by decide) (L' := [(6, .int r12), (0, .ref v0), (1, .ref v1), (2, .ref v2), (3, .ref v3), (4, .ref v4), (5, .int v5)]) rfl ?_
        refine j_aload_n C dL_law_181 rfl 3 rfl ?_
        refine j_aload_n C dL_law_182 rfl 1 rfl ?_
        refine j_iload C dL_law_183 6 rfl ?_
        refine j_iconst C dL_law_185 (v := (1 : Int32)) (by decide) ?_
        refine j_iadd C dL_law_186 ?_
        refine j_iald C ho7 ho11 dL_law_187 ?_
        obtain ⟨ho13, h⟩ := ck_spec h
        obtain ⟨r14, M14, hq14, h⟩ := bnd2_spec h
        refine j_run1 (c_V C (As := [.int (M12.1 v0 ((v5 + (1 : Int32))).toNatClampNeg)]) (rest := []) (ctX9_start C.2.2.2.2.2.2.2.2.1 N Z hq14) kcRL_117 oyX9_start (ci := 9) (T := TX9) (N := 23) rfl (by decide) ho13 ⟨by decide, by decide⟩ ⟨by show _ + _ ≤ 603072; simp only [KM, NMX] at *; simp; omega, by show _ + _ ≤ 7178346; simp only [KM, NMX] at *; simp; omega⟩ (Nat.le_of_ble_eq_true rfl) rfl dL_law_188) ?_
        refine j_istore C dL_law_191 (by decide) (L' := [(7, .int r14), (6, .int r12), (0, .ref v0), (1, .ref v1), (2, .ref v2), (3, .ref v3), (4, .ref v4), (5, .int v5)]) rfl ?_
        refine j_aload_n C dL_law_193 rfl 4 rfl ?_
        obtain ⟨r15, M15, hq15, h⟩ := bnd2_spec h
        refine j_run1 (c_V C (As := []) (rest := []) (ctX9_thrown C.2.2.2.2.2.2.2.2.1 N Z hq15) kcRL_118 oyX9_thrown (ci := 9) (T := TX9) (N := 23) rfl (by decide) ho13 ⟨by decide, by decide⟩ ⟨by show _ + _ ≤ 603072; simp only [KM, NMX] at *; simp; omega, by show _ + _ ≤ 7178346; simp only [KM, NMX] at *; simp; omega⟩ (Nat.le_of_ble_eq_true rfl) rfl dL_law_194) ?_
        refine j_iload C dL_law_197 1 rfl ?_
        refine j_icmp_eq C dL_law_199 (tgt := 204) (by decide) (fun hc16 => ?_) (fun hc16 => ?_)
        · rw [if_pos hc16] at h
          refine j_iload C dL_law_204 1 rfl ?_
          refine j_if_ne C dL_law_206 (tgt := 221) (by decide) (fun hc17 => ?_) (fun hc17 => ?_)
          · rw [if_neg hc17] at h
            refine j_goto C dL_law_221 (tgt := 1870) (by decide) ?_
            refine j_iinc C dL_law_1870 7 rfl (v := (v5 + (5 : Int32))) (by first | rfl | decide) (by decide) (L' := [(5, .int (v5 + (5 : Int32))), (7, .int r14), (6, .int r12), (0, .ref v0), (1, .ref v1), (2, .ref v2), (3, .ref v3), (4, .ref v4)]) rfl ?_
            refine j_goto C dL_law_1873 (tgt := 28) (by decide) ?_
            refine j_sub (L' := [(0, .ref v0), (1, .ref v1), (2, .ref v2), (3, .ref v3), (4, .ref v4), (5, .int (v5 + (5 : Int32)))]) [3, 4, 5, 6, 7, 0] rfl ?_
            exact ih v0 v1 v2 v3 v4 (v5 + (5 : Int32)) M15 r M' _ _ (by omega) (by omega) h
          · rw [if_pos hc17] at h
            refine j_aload_n C dL_law_209 rfl 5 rfl ?_
            refine j_iconst C dL_law_210 (v := (0 : Int32)) (by decide) ?_
            obtain ⟨ho18, h⟩ := ck_spec h
            obtain ⟨ho19, h⟩ := ck_spec h
            refine j_lald C ho18 ho19 dL_law_211 ?_
            refine j_iload C dL_law_212 0 rfl ?_
            refine j_i2l C dL_law_214 ?_
            refine j_lcmp C dL_law_215 ?_
            refine j_if_eq C dL_law_216 (tgt := 221) (by decide) (fun hc20 => ?_) (fun hc20 => ?_)
            · rw [if_pos hc20] at h
              refine j_goto C dL_law_221 (tgt := 1870) (by decide) ?_
              refine j_iinc C dL_law_1870 7 rfl (v := (v5 + (5 : Int32))) (by first | rfl | decide) (by decide) (L' := [(5, .int (v5 + (5 : Int32))), (7, .int r14), (6, .int r12), (0, .ref v0), (1, .ref v1), (2, .ref v2), (3, .ref v3), (4, .ref v4)]) rfl ?_
              refine j_goto C dL_law_1873 (tgt := 28) (by decide) ?_
              refine j_sub (L' := [(0, .ref v0), (1, .ref v1), (2, .ref v2), (3, .ref v3), (4, .ref v4), (5, .int (v5 + (5 : Int32)))]) [3, 4, 5, 6, 7, 0] rfl ?_
              exact ih v0 v1 v2 v3 v4 (v5 + (5 : Int32)) M15 r M' _ _ (by omega) (by omega) h
            · rw [if_neg hc20] at h
              refine j_iconst C dL_law_219 (v := (0 : Int32)) (by decide) ?_
              cases h
        · rw [if_neg hc16] at h
          refine j_iconst C dL_law_202 (v := (0 : Int32)) (by decide) ?_
          cases h
      rw [if_neg hc10] at h
      by_cases hc21 : ((M.1 v0 (v5).toNatClampNeg) &&& (31 : Int32)) = nI 1
      · rw [if_pos hc21] at h
        refine j_tableIn C dL_law_44 (by rw [hc21]; decide) (by rw [hc21]; decide) (off := 180) (by rw [hc21]; rfl) (tgt := 224) (by decide) ?_
        refine j_aload_n C dL_law_224 rfl 1 rfl ?_
        refine j_aload_n C dL_law_225 rfl 0 rfl ?_
        refine j_iload C dL_law_226 5 rfl ?_
        refine j_iconst C dL_law_228 (v := (1 : Int32)) (by decide) ?_
        refine j_iadd C dL_law_229 ?_
        obtain ⟨ho22, h⟩ := ck_spec h
        refine j_iald C ho7 ho22 dL_law_230 ?_
        refine j_aload_n C dL_law_231 rfl 0 rfl ?_
        refine j_iload C dL_law_232 5 rfl ?_
        refine j_iconst C dL_law_234 (v := (2 : Int32)) (by decide) ?_
        refine j_iadd C dL_law_235 ?_
        obtain ⟨ho23, h⟩ := ck_spec h
        refine j_iald C ho7 ho23 dL_law_236 ?_
        refine j_aload_n C dL_law_237 rfl 3 rfl ?_
        obtain ⟨r24, M24, hq24, h⟩ := bnd2_spec h
        refine j_run1 (c_SX C (As := [.ref v1, .int (M.1 v0 ((v5 + (1 : Int32))).toNatClampNeg), .int (M.1 v0 ((v5 + (2 : Int32))).toNatClampNeg), .ref v3]) (rest := []) (ctL_set C.2.2.2.2.2.2.2.2.1 N Z hq24) kcRL_121 oyL_set ⟨by decide, by decide⟩ ⟨by show _ + _ ≤ 603072; simp only [KM, NMX] at *; simp; omega, by show _ + _ ≤ 7178346; simp only [KM, NMX] at *; simp; omega⟩ (Nat.le_of_ble_eq_true rfl) rfl dL_law_238) ?_
        refine j_istore C dL_law_241 (by decide) (L' := [(6, .int r24), (0, .ref v0), (1, .ref v1), (2, .ref v2), (3, .ref v3), (4, .ref v4), (5, .int v5)]) rfl ?_
        refine j_aload_n C dL_law_243 rfl 3 rfl ?_
        refine j_aload_n C dL_law_244 rfl 1 rfl ?_
        refine j_iload C dL_law_245 6 rfl ?_
        refine j_iconst C dL_law_247 (v := (1 : Int32)) (by decide) ?_
        refine j_iadd C dL_law_248 ?_
        refine j_iald C ho7 ho22 dL_law_249 ?_
        refine j_aload_n C dL_law_250 rfl 1 rfl ?_
        refine j_iload C dL_law_251 6 rfl ?_
        refine j_iconst C dL_law_253 (v := (2 : Int32)) (by decide) ?_
        refine j_iadd C dL_law_254 ?_
        refine j_iald C ho7 ho23 dL_law_255 ?_
        obtain ⟨ho25, h⟩ := ck_spec h
        obtain ⟨r26, M26, hq26, h⟩ := bnd2_spec h
        refine j_run1 (c_V C (As := [.int (M24.1 v0 ((v5 + (1 : Int32))).toNatClampNeg), .int (M24.1 v0 ((v5 + (2 : Int32))).toNatClampNeg)]) (rest := []) (ctX9_set C.2.2.2.2.2.2.2.2.1 N Z hq26) kcRL_124 oyX9_set (ci := 9) (T := TX9) (N := 23) rfl (by decide) ho25 ⟨by decide, by decide⟩ ⟨by show _ + _ ≤ 603072; simp only [KM, NMX] at *; simp; omega, by show _ + _ ≤ 7178346; simp only [KM, NMX] at *; simp; omega⟩ (Nat.le_of_ble_eq_true rfl) rfl dL_law_256) ?_
        refine j_istore C dL_law_259 (by decide) (L' := [(7, .int r26), (6, .int r24), (0, .ref v0), (1, .ref v1), (2, .ref v2), (3, .ref v3), (4, .ref v4), (5, .int v5)]) rfl ?_
        refine j_aload_n C dL_law_261 rfl 4 rfl ?_
        obtain ⟨r27, M27, hq27, h⟩ := bnd2_spec h
        refine j_run1 (c_V C (As := []) (rest := []) (ctX9_thrown C.2.2.2.2.2.2.2.2.1 N Z hq27) kcRL_118 oyX9_thrown (ci := 9) (T := TX9) (N := 23) rfl (by decide) ho25 ⟨by decide, by decide⟩ ⟨by show _ + _ ≤ 603072; simp only [KM, NMX] at *; simp; omega, by show _ + _ ≤ 7178346; simp only [KM, NMX] at *; simp; omega⟩ (Nat.le_of_ble_eq_true rfl) rfl dL_law_262) ?_
        refine j_iload C dL_law_265 1 rfl ?_
        refine j_icmp_eq C dL_law_267 (tgt := 272) (by decide) (fun hc28 => ?_) (fun hc28 => ?_)
        · rw [if_pos hc28] at h
          refine j_iload C dL_law_272 1 rfl ?_
          refine j_if_ne C dL_law_274 (tgt := 289) (by decide) (fun hc29 => ?_) (fun hc29 => ?_)
          · rw [if_neg hc29] at h
            refine j_goto C dL_law_289 (tgt := 1870) (by decide) ?_
            refine j_iinc C dL_law_1870 7 rfl (v := (v5 + (5 : Int32))) (by first | rfl | decide) (by decide) (L' := [(5, .int (v5 + (5 : Int32))), (7, .int r26), (6, .int r24), (0, .ref v0), (1, .ref v1), (2, .ref v2), (3, .ref v3), (4, .ref v4)]) rfl ?_
            refine j_goto C dL_law_1873 (tgt := 28) (by decide) ?_
            refine j_sub (L' := [(0, .ref v0), (1, .ref v1), (2, .ref v2), (3, .ref v3), (4, .ref v4), (5, .int (v5 + (5 : Int32)))]) [3, 4, 5, 6, 7, 0] rfl ?_
            exact ih v0 v1 v2 v3 v4 (v5 + (5 : Int32)) M27 r M' _ _ (by omega) (by omega) h
          · rw [if_pos hc29] at h
            refine j_aload_n C dL_law_277 rfl 5 rfl ?_
            refine j_iconst C dL_law_278 (v := (0 : Int32)) (by decide) ?_
            obtain ⟨ho30, h⟩ := ck_spec h
            obtain ⟨ho31, h⟩ := ck_spec h
            refine j_lald C ho30 ho31 dL_law_279 ?_
            refine j_iload C dL_law_280 0 rfl ?_
            refine j_i2l C dL_law_282 ?_
            refine j_lcmp C dL_law_283 ?_
            refine j_if_eq C dL_law_284 (tgt := 289) (by decide) (fun hc32 => ?_) (fun hc32 => ?_)
            · rw [if_pos hc32] at h
              refine j_goto C dL_law_289 (tgt := 1870) (by decide) ?_
              refine j_iinc C dL_law_1870 7 rfl (v := (v5 + (5 : Int32))) (by first | rfl | decide) (by decide) (L' := [(5, .int (v5 + (5 : Int32))), (7, .int r26), (6, .int r24), (0, .ref v0), (1, .ref v1), (2, .ref v2), (3, .ref v3), (4, .ref v4)]) rfl ?_
              refine j_goto C dL_law_1873 (tgt := 28) (by decide) ?_
              refine j_sub (L' := [(0, .ref v0), (1, .ref v1), (2, .ref v2), (3, .ref v3), (4, .ref v4), (5, .int (v5 + (5 : Int32)))]) [3, 4, 5, 6, 7, 0] rfl ?_
              exact ih v0 v1 v2 v3 v4 (v5 + (5 : Int32)) M27 r M' _ _ (by omega) (by omega) h
            · rw [if_neg hc32] at h
              refine j_iconst C dL_law_287 (v := (0 : Int32)) (by decide) ?_
              cases h
        · rw [if_neg hc28] at h
          refine j_iconst C dL_law_270 (v := (0 : Int32)) (by decide) ?_
          cases h
      rw [if_neg hc21] at h
      by_cases hc33 : ((M.1 v0 (v5).toNatClampNeg) &&& (31 : Int32)) = nI 2
      · rw [if_pos hc33] at h
        refine j_tableIn C dL_law_44 (by rw [hc33]; decide) (by rw [hc33]; decide) (off := 248) (by rw [hc33]; rfl) (tgt := 292) (by decide) ?_
        refine j_aload_n C dL_law_292 rfl 1 rfl ?_
        refine j_aload_n C dL_law_293 rfl 0 rfl ?_
        refine j_iload C dL_law_294 5 rfl ?_
        refine j_iconst C dL_law_296 (v := (1 : Int32)) (by decide) ?_
        refine j_iadd C dL_law_297 ?_
        obtain ⟨ho34, h⟩ := ck_spec h
        refine j_iald C ho7 ho34 dL_law_298 ?_
        refine j_aload_n C dL_law_299 rfl 0 rfl ?_
        refine j_iload C dL_law_300 5 rfl ?_
        refine j_iconst C dL_law_302 (v := (2 : Int32)) (by decide) ?_
        refine j_iadd C dL_law_303 ?_
        obtain ⟨ho35, h⟩ := ck_spec h
        refine j_iald C ho7 ho35 dL_law_304 ?_
        refine j_aload_n C dL_law_305 rfl 3 rfl ?_
        obtain ⟨r36, M36, hq36, h⟩ := bnd2_spec h
        refine j_run1 (c_SX C (As := [.ref v1, .int (M.1 v0 ((v5 + (1 : Int32))).toNatClampNeg), .int (M.1 v0 ((v5 + (2 : Int32))).toNatClampNeg), .ref v3]) (rest := []) (ctL_stock C.2.2.2.2.2.2.2.2.1 N Z hq36) kcRL_125 oyL_stock ⟨by decide, by decide⟩ ⟨by show _ + _ ≤ 603072; simp only [KM, NMX] at *; simp; omega, by show _ + _ ≤ 7178346; simp only [KM, NMX] at *; simp; omega⟩ (Nat.le_of_ble_eq_true rfl) rfl dL_law_306) ?_
        refine j_istore C dL_law_309 (by decide) (L' := [(6, .int r36), (0, .ref v0), (1, .ref v1), (2, .ref v2), (3, .ref v3), (4, .ref v4), (5, .int v5)]) rfl ?_
        refine j_aload_n C dL_law_311 rfl 3 rfl ?_
        refine j_aload_n C dL_law_312 rfl 1 rfl ?_
        refine j_iload C dL_law_313 6 rfl ?_
        refine j_iconst C dL_law_315 (v := (1 : Int32)) (by decide) ?_
        refine j_iadd C dL_law_316 ?_
        refine j_iald C ho7 ho34 dL_law_317 ?_
        refine j_aload_n C dL_law_318 rfl 1 rfl ?_
        refine j_iload C dL_law_319 6 rfl ?_
        refine j_iconst C dL_law_321 (v := (2 : Int32)) (by decide) ?_
        refine j_iadd C dL_law_322 ?_
        refine j_iald C ho7 ho35 dL_law_323 ?_
        obtain ⟨ho37, h⟩ := ck_spec h
        obtain ⟨r38, M38, hq38, h⟩ := bnd2_spec h
        refine j_run1 (c_V C (As := [.int (M36.1 v0 ((v5 + (1 : Int32))).toNatClampNeg), .int (M36.1 v0 ((v5 + (2 : Int32))).toNatClampNeg)]) (rest := []) (ctX9_stock C.2.2.2.2.2.2.2.2.1 N Z hq38) kcRL_127 oyX9_stock (ci := 9) (T := TX9) (N := 23) rfl (by decide) ho37 ⟨by decide, by decide⟩ ⟨by show _ + _ ≤ 603072; simp only [KM, NMX] at *; simp; omega, by show _ + _ ≤ 7178346; simp only [KM, NMX] at *; simp; omega⟩ (Nat.le_of_ble_eq_true rfl) rfl dL_law_324) ?_
        refine j_istore C dL_law_327 (by decide) (L' := [(7, .int r38), (6, .int r36), (0, .ref v0), (1, .ref v1), (2, .ref v2), (3, .ref v3), (4, .ref v4), (5, .int v5)]) rfl ?_
        refine j_aload_n C dL_law_329 rfl 4 rfl ?_
        obtain ⟨r39, M39, hq39, h⟩ := bnd2_spec h
        refine j_run1 (c_V C (As := []) (rest := []) (ctX9_thrown C.2.2.2.2.2.2.2.2.1 N Z hq39) kcRL_118 oyX9_thrown (ci := 9) (T := TX9) (N := 23) rfl (by decide) ho37 ⟨by decide, by decide⟩ ⟨by show _ + _ ≤ 603072; simp only [KM, NMX] at *; simp; omega, by show _ + _ ≤ 7178346; simp only [KM, NMX] at *; simp; omega⟩ (Nat.le_of_ble_eq_true rfl) rfl dL_law_330) ?_
        refine j_iload C dL_law_333 1 rfl ?_
        refine j_icmp_eq C dL_law_335 (tgt := 340) (by decide) (fun hc40 => ?_) (fun hc40 => ?_)
        · rw [if_pos hc40] at h
          refine j_iload C dL_law_340 1 rfl ?_
          refine j_if_ne C dL_law_342 (tgt := 357) (by decide) (fun hc41 => ?_) (fun hc41 => ?_)
          · rw [if_neg hc41] at h
            refine j_goto C dL_law_357 (tgt := 1870) (by decide) ?_
            refine j_iinc C dL_law_1870 7 rfl (v := (v5 + (5 : Int32))) (by first | rfl | decide) (by decide) (L' := [(5, .int (v5 + (5 : Int32))), (7, .int r38), (6, .int r36), (0, .ref v0), (1, .ref v1), (2, .ref v2), (3, .ref v3), (4, .ref v4)]) rfl ?_
            refine j_goto C dL_law_1873 (tgt := 28) (by decide) ?_
            refine j_sub (L' := [(0, .ref v0), (1, .ref v1), (2, .ref v2), (3, .ref v3), (4, .ref v4), (5, .int (v5 + (5 : Int32)))]) [3, 4, 5, 6, 7, 0] rfl ?_
            exact ih v0 v1 v2 v3 v4 (v5 + (5 : Int32)) M39 r M' _ _ (by omega) (by omega) h
          · rw [if_pos hc41] at h
            refine j_aload_n C dL_law_345 rfl 5 rfl ?_
            refine j_iconst C dL_law_346 (v := (0 : Int32)) (by decide) ?_
            obtain ⟨ho42, h⟩ := ck_spec h
            obtain ⟨ho43, h⟩ := ck_spec h
            refine j_lald C ho42 ho43 dL_law_347 ?_
            refine j_iload C dL_law_348 0 rfl ?_
            refine j_i2l C dL_law_350 ?_
            refine j_lcmp C dL_law_351 ?_
            refine j_if_eq C dL_law_352 (tgt := 357) (by decide) (fun hc44 => ?_) (fun hc44 => ?_)
            · rw [if_pos hc44] at h
              refine j_goto C dL_law_357 (tgt := 1870) (by decide) ?_
              refine j_iinc C dL_law_1870 7 rfl (v := (v5 + (5 : Int32))) (by first | rfl | decide) (by decide) (L' := [(5, .int (v5 + (5 : Int32))), (7, .int r38), (6, .int r36), (0, .ref v0), (1, .ref v1), (2, .ref v2), (3, .ref v3), (4, .ref v4)]) rfl ?_
              refine j_goto C dL_law_1873 (tgt := 28) (by decide) ?_
              refine j_sub (L' := [(0, .ref v0), (1, .ref v1), (2, .ref v2), (3, .ref v3), (4, .ref v4), (5, .int (v5 + (5 : Int32)))]) [3, 4, 5, 6, 7, 0] rfl ?_
              exact ih v0 v1 v2 v3 v4 (v5 + (5 : Int32)) M39 r M' _ _ (by omega) (by omega) h
            · rw [if_neg hc44] at h
              refine j_iconst C dL_law_355 (v := (0 : Int32)) (by decide) ?_
              cases h
        · rw [if_neg hc40] at h
          refine j_iconst C dL_law_338 (v := (0 : Int32)) (by decide) ?_
          cases h
      rw [if_neg hc33] at h
      by_cases hc45 : ((M.1 v0 (v5).toNatClampNeg) &&& (31 : Int32)) = nI 3
      · rw [if_pos hc45] at h
        refine j_tableIn C dL_law_44 (by rw [hc45]; decide) (by rw [hc45]; decide) (off := 316) (by rw [hc45]; rfl) (tgt := 360) (by decide) ?_
        refine j_aload_n C dL_law_360 rfl 1 rfl ?_
        refine j_aload_n C dL_law_361 rfl 0 rfl ?_
        refine j_iload C dL_law_362 5 rfl ?_
        refine j_iconst C dL_law_364 (v := (1 : Int32)) (by decide) ?_
        refine j_iadd C dL_law_365 ?_
        obtain ⟨ho46, h⟩ := ck_spec h
        refine j_iald C ho7 ho46 dL_law_366 ?_
        refine j_aload_n C dL_law_367 rfl 3 rfl ?_
        obtain ⟨r47, M47, hq47, h⟩ := bnd2_spec h
        refine j_run1 (c_SX C (As := [.ref v1, .int (M.1 v0 ((v5 + (1 : Int32))).toNatClampNeg), .ref v3]) (rest := []) (ctL_erect C.2.2.2.2.2.2.2.2.1 N Z hq47) kcRL_128 oyL_erect ⟨by decide, by decide⟩ ⟨by show _ + _ ≤ 603072; simp only [KM, NMX] at *; simp; omega, by show _ + _ ≤ 7178346; simp only [KM, NMX] at *; simp; omega⟩ (Nat.le_of_ble_eq_true rfl) rfl dL_law_368) ?_
        refine j_istore C dL_law_371 (by decide) (L' := [(6, .int r47), (0, .ref v0), (1, .ref v1), (2, .ref v2), (3, .ref v3), (4, .ref v4), (5, .int v5)]) rfl ?_
        refine j_aload_n C dL_law_373 rfl 3 rfl ?_
        refine j_aload_n C dL_law_374 rfl 1 rfl ?_
        refine j_iload C dL_law_375 6 rfl ?_
        refine j_iconst C dL_law_377 (v := (1 : Int32)) (by decide) ?_
        refine j_iadd C dL_law_378 ?_
        refine j_iald C ho7 ho46 dL_law_379 ?_
        obtain ⟨ho48, h⟩ := ck_spec h
        obtain ⟨r49, M49, hq49, h⟩ := bnd2_spec h
        refine j_run1 (c_V C (As := [.int (M47.1 v0 ((v5 + (1 : Int32))).toNatClampNeg)]) (rest := []) (ctX9_erect C.2.2.2.2.2.2.2.2.1 N Z hq49) kcRL_130 oyX9_erect (ci := 9) (T := TX9) (N := 23) rfl (by decide) ho48 ⟨by decide, by decide⟩ ⟨by show _ + _ ≤ 603072; simp only [KM, NMX] at *; simp; omega, by show _ + _ ≤ 7178346; simp only [KM, NMX] at *; simp; omega⟩ (Nat.le_of_ble_eq_true rfl) rfl dL_law_380) ?_
        refine j_istore C dL_law_383 (by decide) (L' := [(7, .int r49), (6, .int r47), (0, .ref v0), (1, .ref v1), (2, .ref v2), (3, .ref v3), (4, .ref v4), (5, .int v5)]) rfl ?_
        refine j_aload_n C dL_law_385 rfl 4 rfl ?_
        obtain ⟨r50, M50, hq50, h⟩ := bnd2_spec h
        refine j_run1 (c_V C (As := []) (rest := []) (ctX9_thrown C.2.2.2.2.2.2.2.2.1 N Z hq50) kcRL_118 oyX9_thrown (ci := 9) (T := TX9) (N := 23) rfl (by decide) ho48 ⟨by decide, by decide⟩ ⟨by show _ + _ ≤ 603072; simp only [KM, NMX] at *; simp; omega, by show _ + _ ≤ 7178346; simp only [KM, NMX] at *; simp; omega⟩ (Nat.le_of_ble_eq_true rfl) rfl dL_law_386) ?_
        refine j_iload C dL_law_389 1 rfl ?_
        refine j_icmp_eq C dL_law_391 (tgt := 396) (by decide) (fun hc51 => ?_) (fun hc51 => ?_)
        · rw [if_pos hc51] at h
          refine j_iload C dL_law_396 1 rfl ?_
          refine j_if_ne C dL_law_398 (tgt := 413) (by decide) (fun hc52 => ?_) (fun hc52 => ?_)
          · rw [if_neg hc52] at h
            refine j_goto C dL_law_413 (tgt := 1870) (by decide) ?_
            refine j_iinc C dL_law_1870 7 rfl (v := (v5 + (5 : Int32))) (by first | rfl | decide) (by decide) (L' := [(5, .int (v5 + (5 : Int32))), (7, .int r49), (6, .int r47), (0, .ref v0), (1, .ref v1), (2, .ref v2), (3, .ref v3), (4, .ref v4)]) rfl ?_
            refine j_goto C dL_law_1873 (tgt := 28) (by decide) ?_
            refine j_sub (L' := [(0, .ref v0), (1, .ref v1), (2, .ref v2), (3, .ref v3), (4, .ref v4), (5, .int (v5 + (5 : Int32)))]) [3, 4, 5, 6, 7, 0] rfl ?_
            exact ih v0 v1 v2 v3 v4 (v5 + (5 : Int32)) M50 r M' _ _ (by omega) (by omega) h
          · rw [if_pos hc52] at h
            refine j_aload_n C dL_law_401 rfl 5 rfl ?_
            refine j_iconst C dL_law_402 (v := (0 : Int32)) (by decide) ?_
            obtain ⟨ho53, h⟩ := ck_spec h
            obtain ⟨ho54, h⟩ := ck_spec h
            refine j_lald C ho53 ho54 dL_law_403 ?_
            refine j_iload C dL_law_404 0 rfl ?_
            refine j_i2l C dL_law_406 ?_
            refine j_lcmp C dL_law_407 ?_
            refine j_if_eq C dL_law_408 (tgt := 413) (by decide) (fun hc55 => ?_) (fun hc55 => ?_)
            · rw [if_pos hc55] at h
              refine j_goto C dL_law_413 (tgt := 1870) (by decide) ?_
              refine j_iinc C dL_law_1870 7 rfl (v := (v5 + (5 : Int32))) (by first | rfl | decide) (by decide) (L' := [(5, .int (v5 + (5 : Int32))), (7, .int r49), (6, .int r47), (0, .ref v0), (1, .ref v1), (2, .ref v2), (3, .ref v3), (4, .ref v4)]) rfl ?_
              refine j_goto C dL_law_1873 (tgt := 28) (by decide) ?_
              refine j_sub (L' := [(0, .ref v0), (1, .ref v1), (2, .ref v2), (3, .ref v3), (4, .ref v4), (5, .int (v5 + (5 : Int32)))]) [3, 4, 5, 6, 7, 0] rfl ?_
              exact ih v0 v1 v2 v3 v4 (v5 + (5 : Int32)) M50 r M' _ _ (by omega) (by omega) h
            · rw [if_neg hc55] at h
              refine j_iconst C dL_law_411 (v := (0 : Int32)) (by decide) ?_
              cases h
        · rw [if_neg hc51] at h
          refine j_iconst C dL_law_394 (v := (0 : Int32)) (by decide) ?_
          cases h
      rw [if_neg hc45] at h
      by_cases hc56 : ((M.1 v0 (v5).toNatClampNeg) &&& (31 : Int32)) = nI 4
      · rw [if_pos hc56] at h
        refine j_tableIn C dL_law_44 (by rw [hc56]; decide) (by rw [hc56]; decide) (off := 372) (by rw [hc56]; rfl) (tgt := 416) (by decide) ?_
        refine j_aload_n C dL_law_416 rfl 1 rfl ?_
        refine j_aload_n C dL_law_417 rfl 0 rfl ?_
        refine j_iload C dL_law_418 5 rfl ?_
        refine j_iconst C dL_law_420 (v := (1 : Int32)) (by decide) ?_
        refine j_iadd C dL_law_421 ?_
        obtain ⟨ho57, h⟩ := ck_spec h
        refine j_iald C ho7 ho57 dL_law_422 ?_
        refine j_aload_n C dL_law_423 rfl 3 rfl ?_
        obtain ⟨r58, M58, hq58, h⟩ := bnd2_spec h
        refine j_run1 (c_SX C (As := [.ref v1, .int (M.1 v0 ((v5 + (1 : Int32))).toNatClampNeg), .ref v3]) (rest := []) (ctL_lower C.2.2.2.2.2.2.2.2.1 N Z hq58) kcRL_131 oyL_lower ⟨by decide, by decide⟩ ⟨by show _ + _ ≤ 603072; simp only [KM, NMX] at *; simp; omega, by show _ + _ ≤ 7178346; simp only [KM, NMX] at *; simp; omega⟩ (Nat.le_of_ble_eq_true rfl) rfl dL_law_424) ?_
        refine j_istore C dL_law_427 (by decide) (L' := [(6, .int r58), (0, .ref v0), (1, .ref v1), (2, .ref v2), (3, .ref v3), (4, .ref v4), (5, .int v5)]) rfl ?_
        refine j_aload_n C dL_law_429 rfl 3 rfl ?_
        refine j_aload_n C dL_law_430 rfl 1 rfl ?_
        refine j_iload C dL_law_431 6 rfl ?_
        refine j_iconst C dL_law_433 (v := (1 : Int32)) (by decide) ?_
        refine j_iadd C dL_law_434 ?_
        refine j_iald C ho7 ho57 dL_law_435 ?_
        obtain ⟨ho59, h⟩ := ck_spec h
        obtain ⟨r60, M60, hq60, h⟩ := bnd2_spec h
        refine j_run1 (c_V C (As := [.int (M58.1 v0 ((v5 + (1 : Int32))).toNatClampNeg)]) (rest := []) (ctX9_lower C.2.2.2.2.2.2.2.2.1 N Z hq60) kcRL_133 oyX9_lower (ci := 9) (T := TX9) (N := 23) rfl (by decide) ho59 ⟨by decide, by decide⟩ ⟨by show _ + _ ≤ 603072; simp only [KM, NMX] at *; simp; omega, by show _ + _ ≤ 7178346; simp only [KM, NMX] at *; simp; omega⟩ (Nat.le_of_ble_eq_true rfl) rfl dL_law_436) ?_
        refine j_istore C dL_law_439 (by decide) (L' := [(7, .int r60), (6, .int r58), (0, .ref v0), (1, .ref v1), (2, .ref v2), (3, .ref v3), (4, .ref v4), (5, .int v5)]) rfl ?_
        refine j_aload_n C dL_law_441 rfl 4 rfl ?_
        obtain ⟨r61, M61, hq61, h⟩ := bnd2_spec h
        refine j_run1 (c_V C (As := []) (rest := []) (ctX9_thrown C.2.2.2.2.2.2.2.2.1 N Z hq61) kcRL_118 oyX9_thrown (ci := 9) (T := TX9) (N := 23) rfl (by decide) ho59 ⟨by decide, by decide⟩ ⟨by show _ + _ ≤ 603072; simp only [KM, NMX] at *; simp; omega, by show _ + _ ≤ 7178346; simp only [KM, NMX] at *; simp; omega⟩ (Nat.le_of_ble_eq_true rfl) rfl dL_law_442) ?_
        refine j_iload C dL_law_445 1 rfl ?_
        refine j_icmp_eq C dL_law_447 (tgt := 452) (by decide) (fun hc62 => ?_) (fun hc62 => ?_)
        · rw [if_pos hc62] at h
          refine j_iload C dL_law_452 1 rfl ?_
          refine j_if_ne C dL_law_454 (tgt := 469) (by decide) (fun hc63 => ?_) (fun hc63 => ?_)
          · rw [if_neg hc63] at h
            refine j_goto C dL_law_469 (tgt := 1870) (by decide) ?_
            refine j_iinc C dL_law_1870 7 rfl (v := (v5 + (5 : Int32))) (by first | rfl | decide) (by decide) (L' := [(5, .int (v5 + (5 : Int32))), (7, .int r60), (6, .int r58), (0, .ref v0), (1, .ref v1), (2, .ref v2), (3, .ref v3), (4, .ref v4)]) rfl ?_
            refine j_goto C dL_law_1873 (tgt := 28) (by decide) ?_
            refine j_sub (L' := [(0, .ref v0), (1, .ref v1), (2, .ref v2), (3, .ref v3), (4, .ref v4), (5, .int (v5 + (5 : Int32)))]) [3, 4, 5, 6, 7, 0] rfl ?_
            exact ih v0 v1 v2 v3 v4 (v5 + (5 : Int32)) M61 r M' _ _ (by omega) (by omega) h
          · rw [if_pos hc63] at h
            refine j_aload_n C dL_law_457 rfl 5 rfl ?_
            refine j_iconst C dL_law_458 (v := (0 : Int32)) (by decide) ?_
            obtain ⟨ho64, h⟩ := ck_spec h
            obtain ⟨ho65, h⟩ := ck_spec h
            refine j_lald C ho64 ho65 dL_law_459 ?_
            refine j_iload C dL_law_460 0 rfl ?_
            refine j_i2l C dL_law_462 ?_
            refine j_lcmp C dL_law_463 ?_
            refine j_if_eq C dL_law_464 (tgt := 469) (by decide) (fun hc66 => ?_) (fun hc66 => ?_)
            · rw [if_pos hc66] at h
              refine j_goto C dL_law_469 (tgt := 1870) (by decide) ?_
              refine j_iinc C dL_law_1870 7 rfl (v := (v5 + (5 : Int32))) (by first | rfl | decide) (by decide) (L' := [(5, .int (v5 + (5 : Int32))), (7, .int r60), (6, .int r58), (0, .ref v0), (1, .ref v1), (2, .ref v2), (3, .ref v3), (4, .ref v4)]) rfl ?_
              refine j_goto C dL_law_1873 (tgt := 28) (by decide) ?_
              refine j_sub (L' := [(0, .ref v0), (1, .ref v1), (2, .ref v2), (3, .ref v3), (4, .ref v4), (5, .int (v5 + (5 : Int32)))]) [3, 4, 5, 6, 7, 0] rfl ?_
              exact ih v0 v1 v2 v3 v4 (v5 + (5 : Int32)) M61 r M' _ _ (by omega) (by omega) h
            · rw [if_neg hc66] at h
              refine j_iconst C dL_law_467 (v := (0 : Int32)) (by decide) ?_
              cases h
        · rw [if_neg hc62] at h
          refine j_iconst C dL_law_450 (v := (0 : Int32)) (by decide) ?_
          cases h
      rw [if_neg hc56] at h
      by_cases hc67 : ((M.1 v0 (v5).toNatClampNeg) &&& (31 : Int32)) = nI 5
      · rw [if_pos hc67] at h
        refine j_tableIn C dL_law_44 (by rw [hc67]; decide) (by rw [hc67]; decide) (off := 428) (by rw [hc67]; rfl) (tgt := 472) (by decide) ?_
        refine j_aload_n C dL_law_472 rfl 1 rfl ?_
        refine j_aload_n C dL_law_473 rfl 0 rfl ?_
        refine j_iload C dL_law_474 5 rfl ?_
        refine j_iconst C dL_law_476 (v := (1 : Int32)) (by decide) ?_
        refine j_iadd C dL_law_477 ?_
        obtain ⟨ho68, h⟩ := ck_spec h
        refine j_iald C ho7 ho68 dL_law_478 ?_
        refine j_aload_n C dL_law_479 rfl 0 rfl ?_
        refine j_iload C dL_law_480 5 rfl ?_
        refine j_iconst C dL_law_482 (v := (2 : Int32)) (by decide) ?_
        refine j_iadd C dL_law_483 ?_
        obtain ⟨ho69, h⟩ := ck_spec h
        refine j_iald C ho7 ho69 dL_law_484 ?_
        refine j_aload_n C dL_law_485 rfl 0 rfl ?_
        refine j_iload C dL_law_486 5 rfl ?_
        refine j_iconst C dL_law_488 (v := (3 : Int32)) (by decide) ?_
        refine j_iadd C dL_law_489 ?_
        obtain ⟨ho70, h⟩ := ck_spec h
        refine j_iald C ho7 ho70 dL_law_490 ?_
        refine j_aload_n C dL_law_491 rfl 3 rfl ?_
        obtain ⟨r71, M71, hq71, h⟩ := bnd2_spec h
        refine j_run1 (c_SX C (As := [.ref v1, .int (M.1 v0 ((v5 + (1 : Int32))).toNatClampNeg), .int (M.1 v0 ((v5 + (2 : Int32))).toNatClampNeg), .int (M.1 v0 ((v5 + (3 : Int32))).toNatClampNeg), .ref v3]) (rest := []) (ctL_deck C.2.2.2.2.2.2.2.2.1 N Z hq71) kcRL_134 oyL_deck ⟨by decide, by decide⟩ ⟨by show _ + _ ≤ 603072; simp only [KM, NMX] at *; simp; omega, by show _ + _ ≤ 7178346; simp only [KM, NMX] at *; simp; omega⟩ (Nat.le_of_ble_eq_true rfl) rfl dL_law_492) ?_
        refine j_istore C dL_law_495 (by decide) (L' := [(6, .int r71), (0, .ref v0), (1, .ref v1), (2, .ref v2), (3, .ref v3), (4, .ref v4), (5, .int v5)]) rfl ?_
        refine j_aload_n C dL_law_497 rfl 3 rfl ?_
        refine j_aload_n C dL_law_498 rfl 1 rfl ?_
        refine j_iload C dL_law_499 6 rfl ?_
        refine j_iconst C dL_law_501 (v := (1 : Int32)) (by decide) ?_
        refine j_iadd C dL_law_502 ?_
        refine j_iald C ho7 ho68 dL_law_503 ?_
        refine j_aload_n C dL_law_504 rfl 1 rfl ?_
        refine j_iload C dL_law_505 6 rfl ?_
        refine j_iconst C dL_law_507 (v := (2 : Int32)) (by decide) ?_
        refine j_iadd C dL_law_508 ?_
        refine j_iald C ho7 ho69 dL_law_509 ?_
        refine j_aload_n C dL_law_510 rfl 1 rfl ?_
        refine j_iload C dL_law_511 6 rfl ?_
        refine j_iconst C dL_law_513 (v := (3 : Int32)) (by decide) ?_
        refine j_iadd C dL_law_514 ?_
        refine j_iald C ho7 ho70 dL_law_515 ?_
        obtain ⟨ho72, h⟩ := ck_spec h
        obtain ⟨r73, M73, hq73, h⟩ := bnd2_spec h
        refine j_run1 (c_V C (As := [.int (M71.1 v0 ((v5 + (1 : Int32))).toNatClampNeg), .int (M71.1 v0 ((v5 + (2 : Int32))).toNatClampNeg), .int (M71.1 v0 ((v5 + (3 : Int32))).toNatClampNeg)]) (rest := []) (ctX9_deck C.2.2.2.2.2.2.2.2.1 N Z hq73) kcRL_137 oyX9_deck (ci := 9) (T := TX9) (N := 23) rfl (by decide) ho72 ⟨by decide, by decide⟩ ⟨by show _ + _ ≤ 603072; simp only [KM, NMX] at *; simp; omega, by show _ + _ ≤ 7178346; simp only [KM, NMX] at *; simp; omega⟩ (Nat.le_of_ble_eq_true rfl) rfl dL_law_516) ?_
        refine j_istore C dL_law_519 (by decide) (L' := [(7, .int r73), (6, .int r71), (0, .ref v0), (1, .ref v1), (2, .ref v2), (3, .ref v3), (4, .ref v4), (5, .int v5)]) rfl ?_
        refine j_aload_n C dL_law_521 rfl 4 rfl ?_
        obtain ⟨r74, M74, hq74, h⟩ := bnd2_spec h
        refine j_run1 (c_V C (As := []) (rest := []) (ctX9_thrown C.2.2.2.2.2.2.2.2.1 N Z hq74) kcRL_118 oyX9_thrown (ci := 9) (T := TX9) (N := 23) rfl (by decide) ho72 ⟨by decide, by decide⟩ ⟨by show _ + _ ≤ 603072; simp only [KM, NMX] at *; simp; omega, by show _ + _ ≤ 7178346; simp only [KM, NMX] at *; simp; omega⟩ (Nat.le_of_ble_eq_true rfl) rfl dL_law_522) ?_
        refine j_iload C dL_law_525 1 rfl ?_
        refine j_icmp_eq C dL_law_527 (tgt := 532) (by decide) (fun hc75 => ?_) (fun hc75 => ?_)
        · rw [if_pos hc75] at h
          refine j_iload C dL_law_532 1 rfl ?_
          refine j_if_ne C dL_law_534 (tgt := 549) (by decide) (fun hc76 => ?_) (fun hc76 => ?_)
          · rw [if_neg hc76] at h
            refine j_goto C dL_law_549 (tgt := 1870) (by decide) ?_
            refine j_iinc C dL_law_1870 7 rfl (v := (v5 + (5 : Int32))) (by first | rfl | decide) (by decide) (L' := [(5, .int (v5 + (5 : Int32))), (7, .int r73), (6, .int r71), (0, .ref v0), (1, .ref v1), (2, .ref v2), (3, .ref v3), (4, .ref v4)]) rfl ?_
            refine j_goto C dL_law_1873 (tgt := 28) (by decide) ?_
            refine j_sub (L' := [(0, .ref v0), (1, .ref v1), (2, .ref v2), (3, .ref v3), (4, .ref v4), (5, .int (v5 + (5 : Int32)))]) [3, 4, 5, 6, 7, 0] rfl ?_
            exact ih v0 v1 v2 v3 v4 (v5 + (5 : Int32)) M74 r M' _ _ (by omega) (by omega) h
          · rw [if_pos hc76] at h
            refine j_aload_n C dL_law_537 rfl 5 rfl ?_
            refine j_iconst C dL_law_538 (v := (0 : Int32)) (by decide) ?_
            obtain ⟨ho77, h⟩ := ck_spec h
            obtain ⟨ho78, h⟩ := ck_spec h
            refine j_lald C ho77 ho78 dL_law_539 ?_
            refine j_iload C dL_law_540 0 rfl ?_
            refine j_i2l C dL_law_542 ?_
            refine j_lcmp C dL_law_543 ?_
            refine j_if_eq C dL_law_544 (tgt := 549) (by decide) (fun hc79 => ?_) (fun hc79 => ?_)
            · rw [if_pos hc79] at h
              refine j_goto C dL_law_549 (tgt := 1870) (by decide) ?_
              refine j_iinc C dL_law_1870 7 rfl (v := (v5 + (5 : Int32))) (by first | rfl | decide) (by decide) (L' := [(5, .int (v5 + (5 : Int32))), (7, .int r73), (6, .int r71), (0, .ref v0), (1, .ref v1), (2, .ref v2), (3, .ref v3), (4, .ref v4)]) rfl ?_
              refine j_goto C dL_law_1873 (tgt := 28) (by decide) ?_
              refine j_sub (L' := [(0, .ref v0), (1, .ref v1), (2, .ref v2), (3, .ref v3), (4, .ref v4), (5, .int (v5 + (5 : Int32)))]) [3, 4, 5, 6, 7, 0] rfl ?_
              exact ih v0 v1 v2 v3 v4 (v5 + (5 : Int32)) M74 r M' _ _ (by omega) (by omega) h
            · rw [if_neg hc79] at h
              refine j_iconst C dL_law_547 (v := (0 : Int32)) (by decide) ?_
              cases h
        · rw [if_neg hc75] at h
          refine j_iconst C dL_law_530 (v := (0 : Int32)) (by decide) ?_
          cases h
      rw [if_neg hc67] at h
      by_cases hc80 : ((M.1 v0 (v5).toNatClampNeg) &&& (31 : Int32)) = nI 6
      · rw [if_pos hc80] at h
        refine j_tableIn C dL_law_44 (by rw [hc80]; decide) (by rw [hc80]; decide) (off := 508) (by rw [hc80]; rfl) (tgt := 552) (by decide) ?_
        refine j_aload_n C dL_law_552 rfl 1 rfl ?_
        refine j_aload_n C dL_law_553 rfl 0 rfl ?_
        refine j_iload C dL_law_554 5 rfl ?_
        refine j_iconst C dL_law_556 (v := (1 : Int32)) (by decide) ?_
        refine j_iadd C dL_law_557 ?_
        obtain ⟨ho81, h⟩ := ck_spec h
        refine j_iald C ho7 ho81 dL_law_558 ?_
        refine j_aload_n C dL_law_559 rfl 0 rfl ?_
        refine j_iload C dL_law_560 5 rfl ?_
        refine j_iconst C dL_law_562 (v := (2 : Int32)) (by decide) ?_
        refine j_iadd C dL_law_563 ?_
        obtain ⟨ho82, h⟩ := ck_spec h
        refine j_iald C ho7 ho82 dL_law_564 ?_
        refine j_aload_n C dL_law_565 rfl 0 rfl ?_
        refine j_iload C dL_law_566 5 rfl ?_
        refine j_iconst C dL_law_568 (v := (3 : Int32)) (by decide) ?_
        refine j_iadd C dL_law_569 ?_
        obtain ⟨ho83, h⟩ := ck_spec h
        refine j_iald C ho7 ho83 dL_law_570 ?_
        refine j_aload_n C dL_law_571 rfl 3 rfl ?_
        obtain ⟨r84, M84, hq84, h⟩ := bnd2_spec h
        refine j_run1 (c_SX C (As := [.ref v1, .int (M.1 v0 ((v5 + (1 : Int32))).toNatClampNeg), .int (M.1 v0 ((v5 + (2 : Int32))).toNatClampNeg), .int (M.1 v0 ((v5 + (3 : Int32))).toNatClampNeg), .ref v3]) (rest := []) (ctL_put C.2.2.2.2.2.2.2.2.1 N Z hq84) kcRL_138 oyL_put ⟨by decide, by decide⟩ ⟨by show _ + _ ≤ 603072; simp only [KM, NMX] at *; simp; omega, by show _ + _ ≤ 7178346; simp only [KM, NMX] at *; simp; omega⟩ (Nat.le_of_ble_eq_true rfl) rfl dL_law_572) ?_
        refine j_istore C dL_law_575 (by decide) (L' := [(6, .int r84), (0, .ref v0), (1, .ref v1), (2, .ref v2), (3, .ref v3), (4, .ref v4), (5, .int v5)]) rfl ?_
        refine j_aload_n C dL_law_577 rfl 3 rfl ?_
        refine j_aload_n C dL_law_578 rfl 1 rfl ?_
        refine j_iload C dL_law_579 6 rfl ?_
        refine j_iconst C dL_law_581 (v := (1 : Int32)) (by decide) ?_
        refine j_iadd C dL_law_582 ?_
        refine j_iald C ho7 ho81 dL_law_583 ?_
        refine j_aload_n C dL_law_584 rfl 1 rfl ?_
        refine j_iload C dL_law_585 6 rfl ?_
        refine j_iconst C dL_law_587 (v := (2 : Int32)) (by decide) ?_
        refine j_iadd C dL_law_588 ?_
        refine j_iald C ho7 ho82 dL_law_589 ?_
        refine j_aload_n C dL_law_590 rfl 1 rfl ?_
        refine j_iload C dL_law_591 6 rfl ?_
        refine j_iconst C dL_law_593 (v := (3 : Int32)) (by decide) ?_
        refine j_iadd C dL_law_594 ?_
        refine j_iald C ho7 ho83 dL_law_595 ?_
        obtain ⟨ho85, h⟩ := ck_spec h
        obtain ⟨r86, M86, hq86, h⟩ := bnd2_spec h
        refine j_run1 (c_V C (As := [.int (M84.1 v0 ((v5 + (1 : Int32))).toNatClampNeg), .int (M84.1 v0 ((v5 + (2 : Int32))).toNatClampNeg), .int (M84.1 v0 ((v5 + (3 : Int32))).toNatClampNeg)]) (rest := []) (ctX9_put C.2.2.2.2.2.2.2.2.1 N Z hq86) kcRL_140 oyX9_put (ci := 9) (T := TX9) (N := 23) rfl (by decide) ho85 ⟨by decide, by decide⟩ ⟨by show _ + _ ≤ 603072; simp only [KM, NMX] at *; simp; omega, by show _ + _ ≤ 7178346; simp only [KM, NMX] at *; simp; omega⟩ (Nat.le_of_ble_eq_true rfl) rfl dL_law_596) ?_
        refine j_istore C dL_law_599 (by decide) (L' := [(7, .int r86), (6, .int r84), (0, .ref v0), (1, .ref v1), (2, .ref v2), (3, .ref v3), (4, .ref v4), (5, .int v5)]) rfl ?_
        refine j_aload_n C dL_law_601 rfl 4 rfl ?_
        obtain ⟨r87, M87, hq87, h⟩ := bnd2_spec h
        refine j_run1 (c_V C (As := []) (rest := []) (ctX9_thrown C.2.2.2.2.2.2.2.2.1 N Z hq87) kcRL_118 oyX9_thrown (ci := 9) (T := TX9) (N := 23) rfl (by decide) ho85 ⟨by decide, by decide⟩ ⟨by show _ + _ ≤ 603072; simp only [KM, NMX] at *; simp; omega, by show _ + _ ≤ 7178346; simp only [KM, NMX] at *; simp; omega⟩ (Nat.le_of_ble_eq_true rfl) rfl dL_law_602) ?_
        refine j_iload C dL_law_605 1 rfl ?_
        refine j_icmp_eq C dL_law_607 (tgt := 612) (by decide) (fun hc88 => ?_) (fun hc88 => ?_)
        · rw [if_pos hc88] at h
          refine j_iload C dL_law_612 1 rfl ?_
          refine j_if_ne C dL_law_614 (tgt := 629) (by decide) (fun hc89 => ?_) (fun hc89 => ?_)
          · rw [if_neg hc89] at h
            refine j_goto C dL_law_629 (tgt := 1870) (by decide) ?_
            refine j_iinc C dL_law_1870 7 rfl (v := (v5 + (5 : Int32))) (by first | rfl | decide) (by decide) (L' := [(5, .int (v5 + (5 : Int32))), (7, .int r86), (6, .int r84), (0, .ref v0), (1, .ref v1), (2, .ref v2), (3, .ref v3), (4, .ref v4)]) rfl ?_
            refine j_goto C dL_law_1873 (tgt := 28) (by decide) ?_
            refine j_sub (L' := [(0, .ref v0), (1, .ref v1), (2, .ref v2), (3, .ref v3), (4, .ref v4), (5, .int (v5 + (5 : Int32)))]) [3, 4, 5, 6, 7, 0] rfl ?_
            exact ih v0 v1 v2 v3 v4 (v5 + (5 : Int32)) M87 r M' _ _ (by omega) (by omega) h
          · rw [if_pos hc89] at h
            refine j_aload_n C dL_law_617 rfl 5 rfl ?_
            refine j_iconst C dL_law_618 (v := (0 : Int32)) (by decide) ?_
            obtain ⟨ho90, h⟩ := ck_spec h
            obtain ⟨ho91, h⟩ := ck_spec h
            refine j_lald C ho90 ho91 dL_law_619 ?_
            refine j_iload C dL_law_620 0 rfl ?_
            refine j_i2l C dL_law_622 ?_
            refine j_lcmp C dL_law_623 ?_
            refine j_if_eq C dL_law_624 (tgt := 629) (by decide) (fun hc92 => ?_) (fun hc92 => ?_)
            · rw [if_pos hc92] at h
              refine j_goto C dL_law_629 (tgt := 1870) (by decide) ?_
              refine j_iinc C dL_law_1870 7 rfl (v := (v5 + (5 : Int32))) (by first | rfl | decide) (by decide) (L' := [(5, .int (v5 + (5 : Int32))), (7, .int r86), (6, .int r84), (0, .ref v0), (1, .ref v1), (2, .ref v2), (3, .ref v3), (4, .ref v4)]) rfl ?_
              refine j_goto C dL_law_1873 (tgt := 28) (by decide) ?_
              refine j_sub (L' := [(0, .ref v0), (1, .ref v1), (2, .ref v2), (3, .ref v3), (4, .ref v4), (5, .int (v5 + (5 : Int32)))]) [3, 4, 5, 6, 7, 0] rfl ?_
              exact ih v0 v1 v2 v3 v4 (v5 + (5 : Int32)) M87 r M' _ _ (by omega) (by omega) h
            · rw [if_neg hc92] at h
              refine j_iconst C dL_law_627 (v := (0 : Int32)) (by decide) ?_
              cases h
        · rw [if_neg hc88] at h
          refine j_iconst C dL_law_610 (v := (0 : Int32)) (by decide) ?_
          cases h
      rw [if_neg hc80] at h
      by_cases hc93 : ((M.1 v0 (v5).toNatClampNeg) &&& (31 : Int32)) = nI 7
      · rw [if_pos hc93] at h
        refine j_tableIn C dL_law_44 (by rw [hc93]; decide) (by rw [hc93]; decide) (off := 588) (by rw [hc93]; rfl) (tgt := 632) (by decide) ?_
        refine j_aload_n C dL_law_632 rfl 1 rfl ?_
        refine j_aload_n C dL_law_633 rfl 0 rfl ?_
        refine j_iload C dL_law_634 5 rfl ?_
        refine j_iconst C dL_law_636 (v := (1 : Int32)) (by decide) ?_
        refine j_iadd C dL_law_637 ?_
        obtain ⟨ho94, h⟩ := ck_spec h
        refine j_iald C ho7 ho94 dL_law_638 ?_
        refine j_aload_n C dL_law_639 rfl 0 rfl ?_
        refine j_iload C dL_law_640 5 rfl ?_
        refine j_iconst C dL_law_642 (v := (2 : Int32)) (by decide) ?_
        refine j_iadd C dL_law_643 ?_
        obtain ⟨ho95, h⟩ := ck_spec h
        refine j_iald C ho7 ho95 dL_law_644 ?_
        refine j_aload_n C dL_law_645 rfl 0 rfl ?_
        refine j_iload C dL_law_646 5 rfl ?_
        refine j_iconst C dL_law_648 (v := (3 : Int32)) (by decide) ?_
        refine j_iadd C dL_law_649 ?_
        obtain ⟨ho96, h⟩ := ck_spec h
        refine j_iald C ho7 ho96 dL_law_650 ?_
        refine j_aload_n C dL_law_651 rfl 3 rfl ?_
        obtain ⟨r97, M97, hq97, h⟩ := bnd2_spec h
        refine j_run1 (c_SX C (As := [.ref v1, .int (M.1 v0 ((v5 + (1 : Int32))).toNatClampNeg), .int (M.1 v0 ((v5 + (2 : Int32))).toNatClampNeg), .int (M.1 v0 ((v5 + (3 : Int32))).toNatClampNeg), .ref v3]) (rest := []) (ctL_take C.2.2.2.2.2.2.2.2.1 N Z hq97) kcRL_141 oyL_take ⟨by decide, by decide⟩ ⟨by show _ + _ ≤ 603072; simp only [KM, NMX] at *; simp; omega, by show _ + _ ≤ 7178346; simp only [KM, NMX] at *; simp; omega⟩ (Nat.le_of_ble_eq_true rfl) rfl dL_law_652) ?_
        refine j_istore C dL_law_655 (by decide) (L' := [(6, .int r97), (0, .ref v0), (1, .ref v1), (2, .ref v2), (3, .ref v3), (4, .ref v4), (5, .int v5)]) rfl ?_
        refine j_aload_n C dL_law_657 rfl 3 rfl ?_
        refine j_aload_n C dL_law_658 rfl 1 rfl ?_
        refine j_iload C dL_law_659 6 rfl ?_
        refine j_iconst C dL_law_661 (v := (1 : Int32)) (by decide) ?_
        refine j_iadd C dL_law_662 ?_
        refine j_iald C ho7 ho94 dL_law_663 ?_
        refine j_aload_n C dL_law_664 rfl 1 rfl ?_
        refine j_iload C dL_law_665 6 rfl ?_
        refine j_iconst C dL_law_667 (v := (2 : Int32)) (by decide) ?_
        refine j_iadd C dL_law_668 ?_
        refine j_iald C ho7 ho95 dL_law_669 ?_
        refine j_aload_n C dL_law_670 rfl 1 rfl ?_
        refine j_iload C dL_law_671 6 rfl ?_
        refine j_iconst C dL_law_673 (v := (3 : Int32)) (by decide) ?_
        refine j_iadd C dL_law_674 ?_
        refine j_iald C ho7 ho96 dL_law_675 ?_
        obtain ⟨ho98, h⟩ := ck_spec h
        obtain ⟨r99, M99, hq99, h⟩ := bnd2_spec h
        refine j_run1 (c_V C (As := [.int (M97.1 v0 ((v5 + (1 : Int32))).toNatClampNeg), .int (M97.1 v0 ((v5 + (2 : Int32))).toNatClampNeg), .int (M97.1 v0 ((v5 + (3 : Int32))).toNatClampNeg)]) (rest := []) (ctX9_take C.2.2.2.2.2.2.2.2.1 N Z hq99) kcRL_143 oyX9_take (ci := 9) (T := TX9) (N := 23) rfl (by decide) ho98 ⟨by decide, by decide⟩ ⟨by show _ + _ ≤ 603072; simp only [KM, NMX] at *; simp; omega, by show _ + _ ≤ 7178346; simp only [KM, NMX] at *; simp; omega⟩ (Nat.le_of_ble_eq_true rfl) rfl dL_law_676) ?_
        refine j_istore C dL_law_679 (by decide) (L' := [(7, .int r99), (6, .int r97), (0, .ref v0), (1, .ref v1), (2, .ref v2), (3, .ref v3), (4, .ref v4), (5, .int v5)]) rfl ?_
        refine j_aload_n C dL_law_681 rfl 4 rfl ?_
        obtain ⟨r100, M100, hq100, h⟩ := bnd2_spec h
        refine j_run1 (c_V C (As := []) (rest := []) (ctX9_thrown C.2.2.2.2.2.2.2.2.1 N Z hq100) kcRL_118 oyX9_thrown (ci := 9) (T := TX9) (N := 23) rfl (by decide) ho98 ⟨by decide, by decide⟩ ⟨by show _ + _ ≤ 603072; simp only [KM, NMX] at *; simp; omega, by show _ + _ ≤ 7178346; simp only [KM, NMX] at *; simp; omega⟩ (Nat.le_of_ble_eq_true rfl) rfl dL_law_682) ?_
        refine j_iload C dL_law_685 1 rfl ?_
        refine j_icmp_eq C dL_law_687 (tgt := 692) (by decide) (fun hc101 => ?_) (fun hc101 => ?_)
        · rw [if_pos hc101] at h
          refine j_iload C dL_law_692 1 rfl ?_
          refine j_if_ne C dL_law_694 (tgt := 709) (by decide) (fun hc102 => ?_) (fun hc102 => ?_)
          · rw [if_neg hc102] at h
            refine j_goto C dL_law_709 (tgt := 1870) (by decide) ?_
            refine j_iinc C dL_law_1870 7 rfl (v := (v5 + (5 : Int32))) (by first | rfl | decide) (by decide) (L' := [(5, .int (v5 + (5 : Int32))), (7, .int r99), (6, .int r97), (0, .ref v0), (1, .ref v1), (2, .ref v2), (3, .ref v3), (4, .ref v4)]) rfl ?_
            refine j_goto C dL_law_1873 (tgt := 28) (by decide) ?_
            refine j_sub (L' := [(0, .ref v0), (1, .ref v1), (2, .ref v2), (3, .ref v3), (4, .ref v4), (5, .int (v5 + (5 : Int32)))]) [3, 4, 5, 6, 7, 0] rfl ?_
            exact ih v0 v1 v2 v3 v4 (v5 + (5 : Int32)) M100 r M' _ _ (by omega) (by omega) h
          · rw [if_pos hc102] at h
            refine j_aload_n C dL_law_697 rfl 5 rfl ?_
            refine j_iconst C dL_law_698 (v := (0 : Int32)) (by decide) ?_
            obtain ⟨ho103, h⟩ := ck_spec h
            obtain ⟨ho104, h⟩ := ck_spec h
            refine j_lald C ho103 ho104 dL_law_699 ?_
            refine j_iload C dL_law_700 0 rfl ?_
            refine j_i2l C dL_law_702 ?_
            refine j_lcmp C dL_law_703 ?_
            refine j_if_eq C dL_law_704 (tgt := 709) (by decide) (fun hc105 => ?_) (fun hc105 => ?_)
            · rw [if_pos hc105] at h
              refine j_goto C dL_law_709 (tgt := 1870) (by decide) ?_
              refine j_iinc C dL_law_1870 7 rfl (v := (v5 + (5 : Int32))) (by first | rfl | decide) (by decide) (L' := [(5, .int (v5 + (5 : Int32))), (7, .int r99), (6, .int r97), (0, .ref v0), (1, .ref v1), (2, .ref v2), (3, .ref v3), (4, .ref v4)]) rfl ?_
              refine j_goto C dL_law_1873 (tgt := 28) (by decide) ?_
              refine j_sub (L' := [(0, .ref v0), (1, .ref v1), (2, .ref v2), (3, .ref v3), (4, .ref v4), (5, .int (v5 + (5 : Int32)))]) [3, 4, 5, 6, 7, 0] rfl ?_
              exact ih v0 v1 v2 v3 v4 (v5 + (5 : Int32)) M100 r M' _ _ (by omega) (by omega) h
            · rw [if_neg hc105] at h
              refine j_iconst C dL_law_707 (v := (0 : Int32)) (by decide) ?_
              cases h
        · rw [if_neg hc101] at h
          refine j_iconst C dL_law_690 (v := (0 : Int32)) (by decide) ?_
          cases h
      rw [if_neg hc93] at h
      by_cases hc106 : ((M.1 v0 (v5).toNatClampNeg) &&& (31 : Int32)) = nI 8
      · rw [if_pos hc106] at h
        refine j_tableIn C dL_law_44 (by rw [hc106]; decide) (by rw [hc106]; decide) (off := 668) (by rw [hc106]; rfl) (tgt := 712) (by decide) ?_
        refine j_aload_n C dL_law_712 rfl 1 rfl ?_
        refine j_aload_n C dL_law_713 rfl 0 rfl ?_
        refine j_iload C dL_law_714 5 rfl ?_
        refine j_iconst C dL_law_716 (v := (1 : Int32)) (by decide) ?_
        refine j_iadd C dL_law_717 ?_
        obtain ⟨ho107, h⟩ := ck_spec h
        refine j_iald C ho7 ho107 dL_law_718 ?_
        refine j_aload_n C dL_law_719 rfl 0 rfl ?_
        refine j_iload C dL_law_720 5 rfl ?_
        refine j_iconst C dL_law_722 (v := (2 : Int32)) (by decide) ?_
        refine j_iadd C dL_law_723 ?_
        obtain ⟨ho108, h⟩ := ck_spec h
        refine j_iald C ho7 ho108 dL_law_724 ?_
        refine j_aload_n C dL_law_725 rfl 0 rfl ?_
        refine j_iload C dL_law_726 5 rfl ?_
        refine j_iconst C dL_law_728 (v := (3 : Int32)) (by decide) ?_
        refine j_iadd C dL_law_729 ?_
        obtain ⟨ho109, h⟩ := ck_spec h
        refine j_iald C ho7 ho109 dL_law_730 ?_
        refine j_aload_n C dL_law_731 rfl 0 rfl ?_
        refine j_iload C dL_law_732 5 rfl ?_
        refine j_iconst C dL_law_734 (v := (4 : Int32)) (by decide) ?_
        refine j_iadd C dL_law_735 ?_
        obtain ⟨ho110, h⟩ := ck_spec h
        refine j_iald C ho7 ho110 dL_law_736 ?_
        refine j_if_eq C dL_law_737 (tgt := 744) (by decide) (fun hc111 => ?_) (fun hc111 => ?_)
        · rw [if_pos hc111] at h
          refine j_iconst C dL_law_744 (v := (0 : Int32)) (by decide) ?_
          refine j_aload_n C dL_law_745 rfl 3 rfl ?_
          obtain ⟨r112, M112, hq112, h⟩ := bnd2_spec h
          refine j_run1 (c_SX C (As := [.ref v1, .int (M.1 v0 ((v5 + (1 : Int32))).toNatClampNeg), .int (M.1 v0 ((v5 + (2 : Int32))).toNatClampNeg), .int (M.1 v0 ((v5 + (3 : Int32))).toNatClampNeg), .int (0 : Int32), .ref v3]) (rest := []) (ctL_refusal C.2.2.2.2.2.2.2.2.1 N Z hq112) kcRL_144 oyL_refusal ⟨by decide, by decide⟩ ⟨by show _ + _ ≤ 603072; simp only [KM, NMX] at *; simp; omega, by show _ + _ ≤ 7178346; simp only [KM, NMX] at *; simp; omega⟩ (Nat.le_of_ble_eq_true rfl) rfl dL_law_746) ?_
          refine j_istore C dL_law_749 (by decide) (L' := [(6, .int r112), (0, .ref v0), (1, .ref v1), (2, .ref v2), (3, .ref v3), (4, .ref v4), (5, .int v5)]) rfl ?_
          refine j_aload_n C dL_law_751 rfl 3 rfl ?_
          refine j_aload_n C dL_law_752 rfl 1 rfl ?_
          refine j_iload C dL_law_753 6 rfl ?_
          refine j_iconst C dL_law_755 (v := (1 : Int32)) (by decide) ?_
          refine j_iadd C dL_law_756 ?_
          refine j_iald C ho7 ho107 dL_law_757 ?_
          refine j_aload_n C dL_law_758 rfl 1 rfl ?_
          refine j_iload C dL_law_759 6 rfl ?_
          refine j_iconst C dL_law_761 (v := (2 : Int32)) (by decide) ?_
          refine j_iadd C dL_law_762 ?_
          refine j_iald C ho7 ho108 dL_law_763 ?_
          refine j_aload_n C dL_law_764 rfl 1 rfl ?_
          refine j_iload C dL_law_765 6 rfl ?_
          refine j_iconst C dL_law_767 (v := (3 : Int32)) (by decide) ?_
          refine j_iadd C dL_law_768 ?_
          refine j_iald C ho7 ho109 dL_law_769 ?_
          refine j_aload_n C dL_law_770 rfl 1 rfl ?_
          refine j_iload C dL_law_771 6 rfl ?_
          refine j_iconst C dL_law_773 (v := (4 : Int32)) (by decide) ?_
          refine j_iadd C dL_law_774 ?_
          refine j_iald C ho7 ho110 dL_law_775 ?_
          refine j_if_eq C dL_law_776 (tgt := 783) (by decide) (fun hc113 => ?_) (fun hc113 => ?_)
          · rw [if_pos hc113] at h
            refine j_iconst C dL_law_783 (v := (0 : Int32)) (by decide) ?_
            obtain ⟨ho114, h⟩ := ck_spec h
            obtain ⟨r115, M115, hq115, h⟩ := bnd2_spec h
            refine j_run1 (c_V C (As := [.int (M112.1 v0 ((v5 + (1 : Int32))).toNatClampNeg), .int (M112.1 v0 ((v5 + (2 : Int32))).toNatClampNeg), .int (M112.1 v0 ((v5 + (3 : Int32))).toNatClampNeg), .int (0 : Int32)]) (rest := []) (ctX9_refusal C.2.2.2.2.2.2.2.2.1 N Z hq115) kcRL_147 oyX9_refusal (ci := 9) (T := TX9) (N := 23) rfl (by decide) ho114 ⟨by decide, by decide⟩ ⟨by show _ + _ ≤ 603072; simp only [KM, NMX] at *; simp; omega, by show _ + _ ≤ 7178346; simp only [KM, NMX] at *; simp; omega⟩ (Nat.le_of_ble_eq_true rfl) rfl dL_law_784) ?_
            refine j_istore C dL_law_787 (by decide) (L' := [(7, .int r115), (6, .int r112), (0, .ref v0), (1, .ref v1), (2, .ref v2), (3, .ref v3), (4, .ref v4), (5, .int v5)]) rfl ?_
            refine j_aload_n C dL_law_789 rfl 4 rfl ?_
            obtain ⟨r116, M116, hq116, h⟩ := bnd2_spec h
            refine j_run1 (c_V C (As := []) (rest := []) (ctX9_thrown C.2.2.2.2.2.2.2.2.1 N Z hq116) kcRL_118 oyX9_thrown (ci := 9) (T := TX9) (N := 23) rfl (by decide) ho114 ⟨by decide, by decide⟩ ⟨by show _ + _ ≤ 603072; simp only [KM, NMX] at *; simp; omega, by show _ + _ ≤ 7178346; simp only [KM, NMX] at *; simp; omega⟩ (Nat.le_of_ble_eq_true rfl) rfl dL_law_790) ?_
            refine j_iload C dL_law_793 1 rfl ?_
            refine j_icmp_eq C dL_law_795 (tgt := 800) (by decide) (fun hc117 => ?_) (fun hc117 => ?_)
            · rw [if_pos hc117] at h
              refine j_iload C dL_law_800 1 rfl ?_
              refine j_if_ne C dL_law_802 (tgt := 817) (by decide) (fun hc118 => ?_) (fun hc118 => ?_)
              · rw [if_neg hc118] at h
                refine j_goto C dL_law_817 (tgt := 1870) (by decide) ?_
                refine j_iinc C dL_law_1870 7 rfl (v := (v5 + (5 : Int32))) (by first | rfl | decide) (by decide) (L' := [(5, .int (v5 + (5 : Int32))), (7, .int r115), (6, .int r112), (0, .ref v0), (1, .ref v1), (2, .ref v2), (3, .ref v3), (4, .ref v4)]) rfl ?_
                refine j_goto C dL_law_1873 (tgt := 28) (by decide) ?_
                refine j_sub (L' := [(0, .ref v0), (1, .ref v1), (2, .ref v2), (3, .ref v3), (4, .ref v4), (5, .int (v5 + (5 : Int32)))]) [3, 4, 5, 6, 7, 0] rfl ?_
                exact ih v0 v1 v2 v3 v4 (v5 + (5 : Int32)) M116 r M' _ _ (by omega) (by omega) h
              · rw [if_pos hc118] at h
                refine j_aload_n C dL_law_805 rfl 5 rfl ?_
                refine j_iconst C dL_law_806 (v := (0 : Int32)) (by decide) ?_
                obtain ⟨ho119, h⟩ := ck_spec h
                obtain ⟨ho120, h⟩ := ck_spec h
                refine j_lald C ho119 ho120 dL_law_807 ?_
                refine j_iload C dL_law_808 0 rfl ?_
                refine j_i2l C dL_law_810 ?_
                refine j_lcmp C dL_law_811 ?_
                refine j_if_eq C dL_law_812 (tgt := 817) (by decide) (fun hc121 => ?_) (fun hc121 => ?_)
                · rw [if_pos hc121] at h
                  refine j_goto C dL_law_817 (tgt := 1870) (by decide) ?_
                  refine j_iinc C dL_law_1870 7 rfl (v := (v5 + (5 : Int32))) (by first | rfl | decide) (by decide) (L' := [(5, .int (v5 + (5 : Int32))), (7, .int r115), (6, .int r112), (0, .ref v0), (1, .ref v1), (2, .ref v2), (3, .ref v3), (4, .ref v4)]) rfl ?_
                  refine j_goto C dL_law_1873 (tgt := 28) (by decide) ?_
                  refine j_sub (L' := [(0, .ref v0), (1, .ref v1), (2, .ref v2), (3, .ref v3), (4, .ref v4), (5, .int (v5 + (5 : Int32)))]) [3, 4, 5, 6, 7, 0] rfl ?_
                  exact ih v0 v1 v2 v3 v4 (v5 + (5 : Int32)) M116 r M' _ _ (by omega) (by omega) h
                · rw [if_neg hc121] at h
                  refine j_iconst C dL_law_815 (v := (0 : Int32)) (by decide) ?_
                  cases h
            · rw [if_neg hc117] at h
              refine j_iconst C dL_law_798 (v := (0 : Int32)) (by decide) ?_
              cases h
          · rw [if_neg hc113] at h
            refine j_iconst C dL_law_779 (v := (1 : Int32)) (by decide) ?_
            refine j_goto C dL_law_780 (tgt := 784) (by decide) ?_
            obtain ⟨ho122, h⟩ := ck_spec h
            obtain ⟨r123, M123, hq123, h⟩ := bnd2_spec h
            refine j_run1 (c_V C (As := [.int (M112.1 v0 ((v5 + (1 : Int32))).toNatClampNeg), .int (M112.1 v0 ((v5 + (2 : Int32))).toNatClampNeg), .int (M112.1 v0 ((v5 + (3 : Int32))).toNatClampNeg), .int (1 : Int32)]) (rest := []) (ctX9_refusal C.2.2.2.2.2.2.2.2.1 N Z hq123) kcRL_147 oyX9_refusal (ci := 9) (T := TX9) (N := 23) rfl (by decide) ho122 ⟨by decide, by decide⟩ ⟨by show _ + _ ≤ 603072; simp only [KM, NMX] at *; simp; omega, by show _ + _ ≤ 7178346; simp only [KM, NMX] at *; simp; omega⟩ (Nat.le_of_ble_eq_true rfl) rfl dL_law_784) ?_
            refine j_istore C dL_law_787 (by decide) (L' := [(7, .int r123), (6, .int r112), (0, .ref v0), (1, .ref v1), (2, .ref v2), (3, .ref v3), (4, .ref v4), (5, .int v5)]) rfl ?_
            refine j_aload_n C dL_law_789 rfl 4 rfl ?_
            obtain ⟨r124, M124, hq124, h⟩ := bnd2_spec h
            refine j_run1 (c_V C (As := []) (rest := []) (ctX9_thrown C.2.2.2.2.2.2.2.2.1 N Z hq124) kcRL_118 oyX9_thrown (ci := 9) (T := TX9) (N := 23) rfl (by decide) ho122 ⟨by decide, by decide⟩ ⟨by show _ + _ ≤ 603072; simp only [KM, NMX] at *; simp; omega, by show _ + _ ≤ 7178346; simp only [KM, NMX] at *; simp; omega⟩ (Nat.le_of_ble_eq_true rfl) rfl dL_law_790) ?_
            refine j_iload C dL_law_793 1 rfl ?_
            refine j_icmp_eq C dL_law_795 (tgt := 800) (by decide) (fun hc125 => ?_) (fun hc125 => ?_)
            · rw [if_pos hc125] at h
              refine j_iload C dL_law_800 1 rfl ?_
              refine j_if_ne C dL_law_802 (tgt := 817) (by decide) (fun hc126 => ?_) (fun hc126 => ?_)
              · rw [if_neg hc126] at h
                refine j_goto C dL_law_817 (tgt := 1870) (by decide) ?_
                refine j_iinc C dL_law_1870 7 rfl (v := (v5 + (5 : Int32))) (by first | rfl | decide) (by decide) (L' := [(5, .int (v5 + (5 : Int32))), (7, .int r123), (6, .int r112), (0, .ref v0), (1, .ref v1), (2, .ref v2), (3, .ref v3), (4, .ref v4)]) rfl ?_
                refine j_goto C dL_law_1873 (tgt := 28) (by decide) ?_
                refine j_sub (L' := [(0, .ref v0), (1, .ref v1), (2, .ref v2), (3, .ref v3), (4, .ref v4), (5, .int (v5 + (5 : Int32)))]) [3, 4, 5, 6, 7, 0] rfl ?_
                exact ih v0 v1 v2 v3 v4 (v5 + (5 : Int32)) M124 r M' _ _ (by omega) (by omega) h
              · rw [if_pos hc126] at h
                refine j_aload_n C dL_law_805 rfl 5 rfl ?_
                refine j_iconst C dL_law_806 (v := (0 : Int32)) (by decide) ?_
                obtain ⟨ho127, h⟩ := ck_spec h
                obtain ⟨ho128, h⟩ := ck_spec h
                refine j_lald C ho127 ho128 dL_law_807 ?_
                refine j_iload C dL_law_808 0 rfl ?_
                refine j_i2l C dL_law_810 ?_
                refine j_lcmp C dL_law_811 ?_
                refine j_if_eq C dL_law_812 (tgt := 817) (by decide) (fun hc129 => ?_) (fun hc129 => ?_)
                · rw [if_pos hc129] at h
                  refine j_goto C dL_law_817 (tgt := 1870) (by decide) ?_
                  refine j_iinc C dL_law_1870 7 rfl (v := (v5 + (5 : Int32))) (by first | rfl | decide) (by decide) (L' := [(5, .int (v5 + (5 : Int32))), (7, .int r123), (6, .int r112), (0, .ref v0), (1, .ref v1), (2, .ref v2), (3, .ref v3), (4, .ref v4)]) rfl ?_
                  refine j_goto C dL_law_1873 (tgt := 28) (by decide) ?_
                  refine j_sub (L' := [(0, .ref v0), (1, .ref v1), (2, .ref v2), (3, .ref v3), (4, .ref v4), (5, .int (v5 + (5 : Int32)))]) [3, 4, 5, 6, 7, 0] rfl ?_
                  exact ih v0 v1 v2 v3 v4 (v5 + (5 : Int32)) M124 r M' _ _ (by omega) (by omega) h
                · rw [if_neg hc129] at h
                  refine j_iconst C dL_law_815 (v := (0 : Int32)) (by decide) ?_
                  cases h
            · rw [if_neg hc125] at h
              refine j_iconst C dL_law_798 (v := (0 : Int32)) (by decide) ?_
              cases h
        · rw [if_neg hc111] at h
          refine j_iconst C dL_law_740 (v := (1 : Int32)) (by decide) ?_
          refine j_goto C dL_law_741 (tgt := 745) (by decide) ?_
          refine j_aload_n C dL_law_745 rfl 3 rfl ?_
          obtain ⟨r130, M130, hq130, h⟩ := bnd2_spec h
          refine j_run1 (c_SX C (As := [.ref v1, .int (M.1 v0 ((v5 + (1 : Int32))).toNatClampNeg), .int (M.1 v0 ((v5 + (2 : Int32))).toNatClampNeg), .int (M.1 v0 ((v5 + (3 : Int32))).toNatClampNeg), .int (1 : Int32), .ref v3]) (rest := []) (ctL_refusal C.2.2.2.2.2.2.2.2.1 N Z hq130) kcRL_144 oyL_refusal ⟨by decide, by decide⟩ ⟨by show _ + _ ≤ 603072; simp only [KM, NMX] at *; simp; omega, by show _ + _ ≤ 7178346; simp only [KM, NMX] at *; simp; omega⟩ (Nat.le_of_ble_eq_true rfl) rfl dL_law_746) ?_
          refine j_istore C dL_law_749 (by decide) (L' := [(6, .int r130), (0, .ref v0), (1, .ref v1), (2, .ref v2), (3, .ref v3), (4, .ref v4), (5, .int v5)]) rfl ?_
          refine j_aload_n C dL_law_751 rfl 3 rfl ?_
          refine j_aload_n C dL_law_752 rfl 1 rfl ?_
          refine j_iload C dL_law_753 6 rfl ?_
          refine j_iconst C dL_law_755 (v := (1 : Int32)) (by decide) ?_
          refine j_iadd C dL_law_756 ?_
          refine j_iald C ho7 ho107 dL_law_757 ?_
          refine j_aload_n C dL_law_758 rfl 1 rfl ?_
          refine j_iload C dL_law_759 6 rfl ?_
          refine j_iconst C dL_law_761 (v := (2 : Int32)) (by decide) ?_
          refine j_iadd C dL_law_762 ?_
          refine j_iald C ho7 ho108 dL_law_763 ?_
          refine j_aload_n C dL_law_764 rfl 1 rfl ?_
          refine j_iload C dL_law_765 6 rfl ?_
          refine j_iconst C dL_law_767 (v := (3 : Int32)) (by decide) ?_
          refine j_iadd C dL_law_768 ?_
          refine j_iald C ho7 ho109 dL_law_769 ?_
          refine j_aload_n C dL_law_770 rfl 1 rfl ?_
          refine j_iload C dL_law_771 6 rfl ?_
          refine j_iconst C dL_law_773 (v := (4 : Int32)) (by decide) ?_
          refine j_iadd C dL_law_774 ?_
          refine j_iald C ho7 ho110 dL_law_775 ?_
          refine j_if_eq C dL_law_776 (tgt := 783) (by decide) (fun hc131 => ?_) (fun hc131 => ?_)
          · rw [if_pos hc131] at h
            refine j_iconst C dL_law_783 (v := (0 : Int32)) (by decide) ?_
            obtain ⟨ho132, h⟩ := ck_spec h
            obtain ⟨r133, M133, hq133, h⟩ := bnd2_spec h
            refine j_run1 (c_V C (As := [.int (M130.1 v0 ((v5 + (1 : Int32))).toNatClampNeg), .int (M130.1 v0 ((v5 + (2 : Int32))).toNatClampNeg), .int (M130.1 v0 ((v5 + (3 : Int32))).toNatClampNeg), .int (0 : Int32)]) (rest := []) (ctX9_refusal C.2.2.2.2.2.2.2.2.1 N Z hq133) kcRL_147 oyX9_refusal (ci := 9) (T := TX9) (N := 23) rfl (by decide) ho132 ⟨by decide, by decide⟩ ⟨by show _ + _ ≤ 603072; simp only [KM, NMX] at *; simp; omega, by show _ + _ ≤ 7178346; simp only [KM, NMX] at *; simp; omega⟩ (Nat.le_of_ble_eq_true rfl) rfl dL_law_784) ?_
            refine j_istore C dL_law_787 (by decide) (L' := [(7, .int r133), (6, .int r130), (0, .ref v0), (1, .ref v1), (2, .ref v2), (3, .ref v3), (4, .ref v4), (5, .int v5)]) rfl ?_
            refine j_aload_n C dL_law_789 rfl 4 rfl ?_
            obtain ⟨r134, M134, hq134, h⟩ := bnd2_spec h
            refine j_run1 (c_V C (As := []) (rest := []) (ctX9_thrown C.2.2.2.2.2.2.2.2.1 N Z hq134) kcRL_118 oyX9_thrown (ci := 9) (T := TX9) (N := 23) rfl (by decide) ho132 ⟨by decide, by decide⟩ ⟨by show _ + _ ≤ 603072; simp only [KM, NMX] at *; simp; omega, by show _ + _ ≤ 7178346; simp only [KM, NMX] at *; simp; omega⟩ (Nat.le_of_ble_eq_true rfl) rfl dL_law_790) ?_
            refine j_iload C dL_law_793 1 rfl ?_
            refine j_icmp_eq C dL_law_795 (tgt := 800) (by decide) (fun hc135 => ?_) (fun hc135 => ?_)
            · rw [if_pos hc135] at h
              refine j_iload C dL_law_800 1 rfl ?_
              refine j_if_ne C dL_law_802 (tgt := 817) (by decide) (fun hc136 => ?_) (fun hc136 => ?_)
              · rw [if_neg hc136] at h
                refine j_goto C dL_law_817 (tgt := 1870) (by decide) ?_
                refine j_iinc C dL_law_1870 7 rfl (v := (v5 + (5 : Int32))) (by first | rfl | decide) (by decide) (L' := [(5, .int (v5 + (5 : Int32))), (7, .int r133), (6, .int r130), (0, .ref v0), (1, .ref v1), (2, .ref v2), (3, .ref v3), (4, .ref v4)]) rfl ?_
                refine j_goto C dL_law_1873 (tgt := 28) (by decide) ?_
                refine j_sub (L' := [(0, .ref v0), (1, .ref v1), (2, .ref v2), (3, .ref v3), (4, .ref v4), (5, .int (v5 + (5 : Int32)))]) [3, 4, 5, 6, 7, 0] rfl ?_
                exact ih v0 v1 v2 v3 v4 (v5 + (5 : Int32)) M134 r M' _ _ (by omega) (by omega) h
              · rw [if_pos hc136] at h
                refine j_aload_n C dL_law_805 rfl 5 rfl ?_
                refine j_iconst C dL_law_806 (v := (0 : Int32)) (by decide) ?_
                obtain ⟨ho137, h⟩ := ck_spec h
                obtain ⟨ho138, h⟩ := ck_spec h
                refine j_lald C ho137 ho138 dL_law_807 ?_
                refine j_iload C dL_law_808 0 rfl ?_
                refine j_i2l C dL_law_810 ?_
                refine j_lcmp C dL_law_811 ?_
                refine j_if_eq C dL_law_812 (tgt := 817) (by decide) (fun hc139 => ?_) (fun hc139 => ?_)
                · rw [if_pos hc139] at h
                  refine j_goto C dL_law_817 (tgt := 1870) (by decide) ?_
                  refine j_iinc C dL_law_1870 7 rfl (v := (v5 + (5 : Int32))) (by first | rfl | decide) (by decide) (L' := [(5, .int (v5 + (5 : Int32))), (7, .int r133), (6, .int r130), (0, .ref v0), (1, .ref v1), (2, .ref v2), (3, .ref v3), (4, .ref v4)]) rfl ?_
                  refine j_goto C dL_law_1873 (tgt := 28) (by decide) ?_
                  refine j_sub (L' := [(0, .ref v0), (1, .ref v1), (2, .ref v2), (3, .ref v3), (4, .ref v4), (5, .int (v5 + (5 : Int32)))]) [3, 4, 5, 6, 7, 0] rfl ?_
                  exact ih v0 v1 v2 v3 v4 (v5 + (5 : Int32)) M134 r M' _ _ (by omega) (by omega) h
                · rw [if_neg hc139] at h
                  refine j_iconst C dL_law_815 (v := (0 : Int32)) (by decide) ?_
                  cases h
            · rw [if_neg hc135] at h
              refine j_iconst C dL_law_798 (v := (0 : Int32)) (by decide) ?_
              cases h
          · rw [if_neg hc131] at h
            refine j_iconst C dL_law_779 (v := (1 : Int32)) (by decide) ?_
            refine j_goto C dL_law_780 (tgt := 784) (by decide) ?_
            obtain ⟨ho140, h⟩ := ck_spec h
            obtain ⟨r141, M141, hq141, h⟩ := bnd2_spec h
            refine j_run1 (c_V C (As := [.int (M130.1 v0 ((v5 + (1 : Int32))).toNatClampNeg), .int (M130.1 v0 ((v5 + (2 : Int32))).toNatClampNeg), .int (M130.1 v0 ((v5 + (3 : Int32))).toNatClampNeg), .int (1 : Int32)]) (rest := []) (ctX9_refusal C.2.2.2.2.2.2.2.2.1 N Z hq141) kcRL_147 oyX9_refusal (ci := 9) (T := TX9) (N := 23) rfl (by decide) ho140 ⟨by decide, by decide⟩ ⟨by show _ + _ ≤ 603072; simp only [KM, NMX] at *; simp; omega, by show _ + _ ≤ 7178346; simp only [KM, NMX] at *; simp; omega⟩ (Nat.le_of_ble_eq_true rfl) rfl dL_law_784) ?_
            refine j_istore C dL_law_787 (by decide) (L' := [(7, .int r141), (6, .int r130), (0, .ref v0), (1, .ref v1), (2, .ref v2), (3, .ref v3), (4, .ref v4), (5, .int v5)]) rfl ?_
            refine j_aload_n C dL_law_789 rfl 4 rfl ?_
            obtain ⟨r142, M142, hq142, h⟩ := bnd2_spec h
            refine j_run1 (c_V C (As := []) (rest := []) (ctX9_thrown C.2.2.2.2.2.2.2.2.1 N Z hq142) kcRL_118 oyX9_thrown (ci := 9) (T := TX9) (N := 23) rfl (by decide) ho140 ⟨by decide, by decide⟩ ⟨by show _ + _ ≤ 603072; simp only [KM, NMX] at *; simp; omega, by show _ + _ ≤ 7178346; simp only [KM, NMX] at *; simp; omega⟩ (Nat.le_of_ble_eq_true rfl) rfl dL_law_790) ?_
            refine j_iload C dL_law_793 1 rfl ?_
            refine j_icmp_eq C dL_law_795 (tgt := 800) (by decide) (fun hc143 => ?_) (fun hc143 => ?_)
            · rw [if_pos hc143] at h
              refine j_iload C dL_law_800 1 rfl ?_
              refine j_if_ne C dL_law_802 (tgt := 817) (by decide) (fun hc144 => ?_) (fun hc144 => ?_)
              · rw [if_neg hc144] at h
                refine j_goto C dL_law_817 (tgt := 1870) (by decide) ?_
                refine j_iinc C dL_law_1870 7 rfl (v := (v5 + (5 : Int32))) (by first | rfl | decide) (by decide) (L' := [(5, .int (v5 + (5 : Int32))), (7, .int r141), (6, .int r130), (0, .ref v0), (1, .ref v1), (2, .ref v2), (3, .ref v3), (4, .ref v4)]) rfl ?_
                refine j_goto C dL_law_1873 (tgt := 28) (by decide) ?_
                refine j_sub (L' := [(0, .ref v0), (1, .ref v1), (2, .ref v2), (3, .ref v3), (4, .ref v4), (5, .int (v5 + (5 : Int32)))]) [3, 4, 5, 6, 7, 0] rfl ?_
                exact ih v0 v1 v2 v3 v4 (v5 + (5 : Int32)) M142 r M' _ _ (by omega) (by omega) h
              · rw [if_pos hc144] at h
                refine j_aload_n C dL_law_805 rfl 5 rfl ?_
                refine j_iconst C dL_law_806 (v := (0 : Int32)) (by decide) ?_
                obtain ⟨ho145, h⟩ := ck_spec h
                obtain ⟨ho146, h⟩ := ck_spec h
                refine j_lald C ho145 ho146 dL_law_807 ?_
                refine j_iload C dL_law_808 0 rfl ?_
                refine j_i2l C dL_law_810 ?_
                refine j_lcmp C dL_law_811 ?_
                refine j_if_eq C dL_law_812 (tgt := 817) (by decide) (fun hc147 => ?_) (fun hc147 => ?_)
                · rw [if_pos hc147] at h
                  refine j_goto C dL_law_817 (tgt := 1870) (by decide) ?_
                  refine j_iinc C dL_law_1870 7 rfl (v := (v5 + (5 : Int32))) (by first | rfl | decide) (by decide) (L' := [(5, .int (v5 + (5 : Int32))), (7, .int r141), (6, .int r130), (0, .ref v0), (1, .ref v1), (2, .ref v2), (3, .ref v3), (4, .ref v4)]) rfl ?_
                  refine j_goto C dL_law_1873 (tgt := 28) (by decide) ?_
                  refine j_sub (L' := [(0, .ref v0), (1, .ref v1), (2, .ref v2), (3, .ref v3), (4, .ref v4), (5, .int (v5 + (5 : Int32)))]) [3, 4, 5, 6, 7, 0] rfl ?_
                  exact ih v0 v1 v2 v3 v4 (v5 + (5 : Int32)) M142 r M' _ _ (by omega) (by omega) h
                · rw [if_neg hc147] at h
                  refine j_iconst C dL_law_815 (v := (0 : Int32)) (by decide) ?_
                  cases h
            · rw [if_neg hc143] at h
              refine j_iconst C dL_law_798 (v := (0 : Int32)) (by decide) ?_
              cases h
      rw [if_neg hc106] at h
      by_cases hc148 : ((M.1 v0 (v5).toNatClampNeg) &&& (31 : Int32)) = nI 9
      · rw [if_pos hc148] at h
        refine j_tableIn C dL_law_44 (by rw [hc148]; decide) (by rw [hc148]; decide) (off := 776) (by rw [hc148]; rfl) (tgt := 820) (by decide) ?_
        refine j_aload_n C dL_law_820 rfl 1 rfl ?_
        refine j_aload_n C dL_law_821 rfl 0 rfl ?_
        refine j_iload C dL_law_822 5 rfl ?_
        refine j_iconst C dL_law_824 (v := (1 : Int32)) (by decide) ?_
        refine j_iadd C dL_law_825 ?_
        obtain ⟨ho149, h⟩ := ck_spec h
        refine j_iald C ho7 ho149 dL_law_826 ?_
        refine j_aload_n C dL_law_827 rfl 0 rfl ?_
        refine j_iload C dL_law_828 5 rfl ?_
        refine j_iconst C dL_law_830 (v := (2 : Int32)) (by decide) ?_
        refine j_iadd C dL_law_831 ?_
        obtain ⟨ho150, h⟩ := ck_spec h
        refine j_iald C ho7 ho150 dL_law_832 ?_
        refine j_if_eq C dL_law_833 (tgt := 840) (by decide) (fun hc151 => ?_) (fun hc151 => ?_)
        · rw [if_pos hc151] at h
          refine j_iconst C dL_law_840 (v := (0 : Int32)) (by decide) ?_
          refine j_aload_n C dL_law_841 rfl 3 rfl ?_
          obtain ⟨r152, M152, hq152, h⟩ := bnd2_spec h
          refine j_run1 (c_SX C (As := [.ref v1, .int (M.1 v0 ((v5 + (1 : Int32))).toNatClampNeg), .int (0 : Int32), .ref v3]) (rest := []) (ctL_report C.2.2.2.2.2.2.2.2.1 N Z hq152) kcRL_148 oyL_report ⟨by decide, by decide⟩ ⟨by show _ + _ ≤ 603072; simp only [KM, NMX] at *; simp; omega, by show _ + _ ≤ 7178346; simp only [KM, NMX] at *; simp; omega⟩ (Nat.le_of_ble_eq_true rfl) rfl dL_law_842) ?_
          refine j_istore C dL_law_845 (by decide) (L' := [(6, .int r152), (0, .ref v0), (1, .ref v1), (2, .ref v2), (3, .ref v3), (4, .ref v4), (5, .int v5)]) rfl ?_
          refine j_aload_n C dL_law_847 rfl 3 rfl ?_
          refine j_aload_n C dL_law_848 rfl 1 rfl ?_
          refine j_iload C dL_law_849 6 rfl ?_
          refine j_iconst C dL_law_851 (v := (1 : Int32)) (by decide) ?_
          refine j_iadd C dL_law_852 ?_
          refine j_iald C ho7 ho149 dL_law_853 ?_
          refine j_aload_n C dL_law_854 rfl 1 rfl ?_
          refine j_iload C dL_law_855 6 rfl ?_
          refine j_iconst C dL_law_857 (v := (2 : Int32)) (by decide) ?_
          refine j_iadd C dL_law_858 ?_
          refine j_iald C ho7 ho150 dL_law_859 ?_
          refine j_if_eq C dL_law_860 (tgt := 867) (by decide) (fun hc153 => ?_) (fun hc153 => ?_)
          · rw [if_pos hc153] at h
            refine j_iconst C dL_law_867 (v := (0 : Int32)) (by decide) ?_
            obtain ⟨ho154, h⟩ := ck_spec h
            obtain ⟨r155, M155, hq155, h⟩ := bnd2_spec h
            refine j_run1 (c_V C (As := [.int (M152.1 v0 ((v5 + (1 : Int32))).toNatClampNeg), .int (0 : Int32)]) (rest := []) (ctX9_report C.2.2.2.2.2.2.2.2.1 N Z hq155) kcRL_151 oyX9_report (ci := 9) (T := TX9) (N := 23) rfl (by decide) ho154 ⟨by decide, by decide⟩ ⟨by show _ + _ ≤ 603072; simp only [KM, NMX] at *; simp; omega, by show _ + _ ≤ 7178346; simp only [KM, NMX] at *; simp; omega⟩ (Nat.le_of_ble_eq_true rfl) rfl dL_law_868) ?_
            refine j_istore C dL_law_871 (by decide) (L' := [(7, .int r155), (6, .int r152), (0, .ref v0), (1, .ref v1), (2, .ref v2), (3, .ref v3), (4, .ref v4), (5, .int v5)]) rfl ?_
            refine j_aload_n C dL_law_873 rfl 4 rfl ?_
            obtain ⟨r156, M156, hq156, h⟩ := bnd2_spec h
            refine j_run1 (c_V C (As := []) (rest := []) (ctX9_thrown C.2.2.2.2.2.2.2.2.1 N Z hq156) kcRL_118 oyX9_thrown (ci := 9) (T := TX9) (N := 23) rfl (by decide) ho154 ⟨by decide, by decide⟩ ⟨by show _ + _ ≤ 603072; simp only [KM, NMX] at *; simp; omega, by show _ + _ ≤ 7178346; simp only [KM, NMX] at *; simp; omega⟩ (Nat.le_of_ble_eq_true rfl) rfl dL_law_874) ?_
            refine j_iload C dL_law_877 1 rfl ?_
            refine j_icmp_eq C dL_law_879 (tgt := 884) (by decide) (fun hc157 => ?_) (fun hc157 => ?_)
            · rw [if_pos hc157] at h
              refine j_iload C dL_law_884 1 rfl ?_
              refine j_if_ne C dL_law_886 (tgt := 901) (by decide) (fun hc158 => ?_) (fun hc158 => ?_)
              · rw [if_neg hc158] at h
                refine j_goto C dL_law_901 (tgt := 1870) (by decide) ?_
                refine j_iinc C dL_law_1870 7 rfl (v := (v5 + (5 : Int32))) (by first | rfl | decide) (by decide) (L' := [(5, .int (v5 + (5 : Int32))), (7, .int r155), (6, .int r152), (0, .ref v0), (1, .ref v1), (2, .ref v2), (3, .ref v3), (4, .ref v4)]) rfl ?_
                refine j_goto C dL_law_1873 (tgt := 28) (by decide) ?_
                refine j_sub (L' := [(0, .ref v0), (1, .ref v1), (2, .ref v2), (3, .ref v3), (4, .ref v4), (5, .int (v5 + (5 : Int32)))]) [3, 4, 5, 6, 7, 0] rfl ?_
                exact ih v0 v1 v2 v3 v4 (v5 + (5 : Int32)) M156 r M' _ _ (by omega) (by omega) h
              · rw [if_pos hc158] at h
                refine j_aload_n C dL_law_889 rfl 5 rfl ?_
                refine j_iconst C dL_law_890 (v := (0 : Int32)) (by decide) ?_
                obtain ⟨ho159, h⟩ := ck_spec h
                obtain ⟨ho160, h⟩ := ck_spec h
                refine j_lald C ho159 ho160 dL_law_891 ?_
                refine j_iload C dL_law_892 0 rfl ?_
                refine j_i2l C dL_law_894 ?_
                refine j_lcmp C dL_law_895 ?_
                refine j_if_eq C dL_law_896 (tgt := 901) (by decide) (fun hc161 => ?_) (fun hc161 => ?_)
                · rw [if_pos hc161] at h
                  refine j_goto C dL_law_901 (tgt := 1870) (by decide) ?_
                  refine j_iinc C dL_law_1870 7 rfl (v := (v5 + (5 : Int32))) (by first | rfl | decide) (by decide) (L' := [(5, .int (v5 + (5 : Int32))), (7, .int r155), (6, .int r152), (0, .ref v0), (1, .ref v1), (2, .ref v2), (3, .ref v3), (4, .ref v4)]) rfl ?_
                  refine j_goto C dL_law_1873 (tgt := 28) (by decide) ?_
                  refine j_sub (L' := [(0, .ref v0), (1, .ref v1), (2, .ref v2), (3, .ref v3), (4, .ref v4), (5, .int (v5 + (5 : Int32)))]) [3, 4, 5, 6, 7, 0] rfl ?_
                  exact ih v0 v1 v2 v3 v4 (v5 + (5 : Int32)) M156 r M' _ _ (by omega) (by omega) h
                · rw [if_neg hc161] at h
                  refine j_iconst C dL_law_899 (v := (0 : Int32)) (by decide) ?_
                  cases h
            · rw [if_neg hc157] at h
              refine j_iconst C dL_law_882 (v := (0 : Int32)) (by decide) ?_
              cases h
          · rw [if_neg hc153] at h
            refine j_iconst C dL_law_863 (v := (1 : Int32)) (by decide) ?_
            refine j_goto C dL_law_864 (tgt := 868) (by decide) ?_
            obtain ⟨ho162, h⟩ := ck_spec h
            obtain ⟨r163, M163, hq163, h⟩ := bnd2_spec h
            refine j_run1 (c_V C (As := [.int (M152.1 v0 ((v5 + (1 : Int32))).toNatClampNeg), .int (1 : Int32)]) (rest := []) (ctX9_report C.2.2.2.2.2.2.2.2.1 N Z hq163) kcRL_151 oyX9_report (ci := 9) (T := TX9) (N := 23) rfl (by decide) ho162 ⟨by decide, by decide⟩ ⟨by show _ + _ ≤ 603072; simp only [KM, NMX] at *; simp; omega, by show _ + _ ≤ 7178346; simp only [KM, NMX] at *; simp; omega⟩ (Nat.le_of_ble_eq_true rfl) rfl dL_law_868) ?_
            refine j_istore C dL_law_871 (by decide) (L' := [(7, .int r163), (6, .int r152), (0, .ref v0), (1, .ref v1), (2, .ref v2), (3, .ref v3), (4, .ref v4), (5, .int v5)]) rfl ?_
            refine j_aload_n C dL_law_873 rfl 4 rfl ?_
            obtain ⟨r164, M164, hq164, h⟩ := bnd2_spec h
            refine j_run1 (c_V C (As := []) (rest := []) (ctX9_thrown C.2.2.2.2.2.2.2.2.1 N Z hq164) kcRL_118 oyX9_thrown (ci := 9) (T := TX9) (N := 23) rfl (by decide) ho162 ⟨by decide, by decide⟩ ⟨by show _ + _ ≤ 603072; simp only [KM, NMX] at *; simp; omega, by show _ + _ ≤ 7178346; simp only [KM, NMX] at *; simp; omega⟩ (Nat.le_of_ble_eq_true rfl) rfl dL_law_874) ?_
            refine j_iload C dL_law_877 1 rfl ?_
            refine j_icmp_eq C dL_law_879 (tgt := 884) (by decide) (fun hc165 => ?_) (fun hc165 => ?_)
            · rw [if_pos hc165] at h
              refine j_iload C dL_law_884 1 rfl ?_
              refine j_if_ne C dL_law_886 (tgt := 901) (by decide) (fun hc166 => ?_) (fun hc166 => ?_)
              · rw [if_neg hc166] at h
                refine j_goto C dL_law_901 (tgt := 1870) (by decide) ?_
                refine j_iinc C dL_law_1870 7 rfl (v := (v5 + (5 : Int32))) (by first | rfl | decide) (by decide) (L' := [(5, .int (v5 + (5 : Int32))), (7, .int r163), (6, .int r152), (0, .ref v0), (1, .ref v1), (2, .ref v2), (3, .ref v3), (4, .ref v4)]) rfl ?_
                refine j_goto C dL_law_1873 (tgt := 28) (by decide) ?_
                refine j_sub (L' := [(0, .ref v0), (1, .ref v1), (2, .ref v2), (3, .ref v3), (4, .ref v4), (5, .int (v5 + (5 : Int32)))]) [3, 4, 5, 6, 7, 0] rfl ?_
                exact ih v0 v1 v2 v3 v4 (v5 + (5 : Int32)) M164 r M' _ _ (by omega) (by omega) h
              · rw [if_pos hc166] at h
                refine j_aload_n C dL_law_889 rfl 5 rfl ?_
                refine j_iconst C dL_law_890 (v := (0 : Int32)) (by decide) ?_
                obtain ⟨ho167, h⟩ := ck_spec h
                obtain ⟨ho168, h⟩ := ck_spec h
                refine j_lald C ho167 ho168 dL_law_891 ?_
                refine j_iload C dL_law_892 0 rfl ?_
                refine j_i2l C dL_law_894 ?_
                refine j_lcmp C dL_law_895 ?_
                refine j_if_eq C dL_law_896 (tgt := 901) (by decide) (fun hc169 => ?_) (fun hc169 => ?_)
                · rw [if_pos hc169] at h
                  refine j_goto C dL_law_901 (tgt := 1870) (by decide) ?_
                  refine j_iinc C dL_law_1870 7 rfl (v := (v5 + (5 : Int32))) (by first | rfl | decide) (by decide) (L' := [(5, .int (v5 + (5 : Int32))), (7, .int r163), (6, .int r152), (0, .ref v0), (1, .ref v1), (2, .ref v2), (3, .ref v3), (4, .ref v4)]) rfl ?_
                  refine j_goto C dL_law_1873 (tgt := 28) (by decide) ?_
                  refine j_sub (L' := [(0, .ref v0), (1, .ref v1), (2, .ref v2), (3, .ref v3), (4, .ref v4), (5, .int (v5 + (5 : Int32)))]) [3, 4, 5, 6, 7, 0] rfl ?_
                  exact ih v0 v1 v2 v3 v4 (v5 + (5 : Int32)) M164 r M' _ _ (by omega) (by omega) h
                · rw [if_neg hc169] at h
                  refine j_iconst C dL_law_899 (v := (0 : Int32)) (by decide) ?_
                  cases h
            · rw [if_neg hc165] at h
              refine j_iconst C dL_law_882 (v := (0 : Int32)) (by decide) ?_
              cases h
        · rw [if_neg hc151] at h
          refine j_iconst C dL_law_836 (v := (1 : Int32)) (by decide) ?_
          refine j_goto C dL_law_837 (tgt := 841) (by decide) ?_
          refine j_aload_n C dL_law_841 rfl 3 rfl ?_
          obtain ⟨r170, M170, hq170, h⟩ := bnd2_spec h
          refine j_run1 (c_SX C (As := [.ref v1, .int (M.1 v0 ((v5 + (1 : Int32))).toNatClampNeg), .int (1 : Int32), .ref v3]) (rest := []) (ctL_report C.2.2.2.2.2.2.2.2.1 N Z hq170) kcRL_148 oyL_report ⟨by decide, by decide⟩ ⟨by show _ + _ ≤ 603072; simp only [KM, NMX] at *; simp; omega, by show _ + _ ≤ 7178346; simp only [KM, NMX] at *; simp; omega⟩ (Nat.le_of_ble_eq_true rfl) rfl dL_law_842) ?_
          refine j_istore C dL_law_845 (by decide) (L' := [(6, .int r170), (0, .ref v0), (1, .ref v1), (2, .ref v2), (3, .ref v3), (4, .ref v4), (5, .int v5)]) rfl ?_
          refine j_aload_n C dL_law_847 rfl 3 rfl ?_
          refine j_aload_n C dL_law_848 rfl 1 rfl ?_
          refine j_iload C dL_law_849 6 rfl ?_
          refine j_iconst C dL_law_851 (v := (1 : Int32)) (by decide) ?_
          refine j_iadd C dL_law_852 ?_
          refine j_iald C ho7 ho149 dL_law_853 ?_
          refine j_aload_n C dL_law_854 rfl 1 rfl ?_
          refine j_iload C dL_law_855 6 rfl ?_
          refine j_iconst C dL_law_857 (v := (2 : Int32)) (by decide) ?_
          refine j_iadd C dL_law_858 ?_
          refine j_iald C ho7 ho150 dL_law_859 ?_
          refine j_if_eq C dL_law_860 (tgt := 867) (by decide) (fun hc171 => ?_) (fun hc171 => ?_)
          · rw [if_pos hc171] at h
            refine j_iconst C dL_law_867 (v := (0 : Int32)) (by decide) ?_
            obtain ⟨ho172, h⟩ := ck_spec h
            obtain ⟨r173, M173, hq173, h⟩ := bnd2_spec h
            refine j_run1 (c_V C (As := [.int (M170.1 v0 ((v5 + (1 : Int32))).toNatClampNeg), .int (0 : Int32)]) (rest := []) (ctX9_report C.2.2.2.2.2.2.2.2.1 N Z hq173) kcRL_151 oyX9_report (ci := 9) (T := TX9) (N := 23) rfl (by decide) ho172 ⟨by decide, by decide⟩ ⟨by show _ + _ ≤ 603072; simp only [KM, NMX] at *; simp; omega, by show _ + _ ≤ 7178346; simp only [KM, NMX] at *; simp; omega⟩ (Nat.le_of_ble_eq_true rfl) rfl dL_law_868) ?_
            refine j_istore C dL_law_871 (by decide) (L' := [(7, .int r173), (6, .int r170), (0, .ref v0), (1, .ref v1), (2, .ref v2), (3, .ref v3), (4, .ref v4), (5, .int v5)]) rfl ?_
            refine j_aload_n C dL_law_873 rfl 4 rfl ?_
            obtain ⟨r174, M174, hq174, h⟩ := bnd2_spec h
            refine j_run1 (c_V C (As := []) (rest := []) (ctX9_thrown C.2.2.2.2.2.2.2.2.1 N Z hq174) kcRL_118 oyX9_thrown (ci := 9) (T := TX9) (N := 23) rfl (by decide) ho172 ⟨by decide, by decide⟩ ⟨by show _ + _ ≤ 603072; simp only [KM, NMX] at *; simp; omega, by show _ + _ ≤ 7178346; simp only [KM, NMX] at *; simp; omega⟩ (Nat.le_of_ble_eq_true rfl) rfl dL_law_874) ?_
            refine j_iload C dL_law_877 1 rfl ?_
            refine j_icmp_eq C dL_law_879 (tgt := 884) (by decide) (fun hc175 => ?_) (fun hc175 => ?_)
            · rw [if_pos hc175] at h
              refine j_iload C dL_law_884 1 rfl ?_
              refine j_if_ne C dL_law_886 (tgt := 901) (by decide) (fun hc176 => ?_) (fun hc176 => ?_)
              · rw [if_neg hc176] at h
                refine j_goto C dL_law_901 (tgt := 1870) (by decide) ?_
                refine j_iinc C dL_law_1870 7 rfl (v := (v5 + (5 : Int32))) (by first | rfl | decide) (by decide) (L' := [(5, .int (v5 + (5 : Int32))), (7, .int r173), (6, .int r170), (0, .ref v0), (1, .ref v1), (2, .ref v2), (3, .ref v3), (4, .ref v4)]) rfl ?_
                refine j_goto C dL_law_1873 (tgt := 28) (by decide) ?_
                refine j_sub (L' := [(0, .ref v0), (1, .ref v1), (2, .ref v2), (3, .ref v3), (4, .ref v4), (5, .int (v5 + (5 : Int32)))]) [3, 4, 5, 6, 7, 0] rfl ?_
                exact ih v0 v1 v2 v3 v4 (v5 + (5 : Int32)) M174 r M' _ _ (by omega) (by omega) h
              · rw [if_pos hc176] at h
                refine j_aload_n C dL_law_889 rfl 5 rfl ?_
                refine j_iconst C dL_law_890 (v := (0 : Int32)) (by decide) ?_
                obtain ⟨ho177, h⟩ := ck_spec h
                obtain ⟨ho178, h⟩ := ck_spec h
                refine j_lald C ho177 ho178 dL_law_891 ?_
                refine j_iload C dL_law_892 0 rfl ?_
                refine j_i2l C dL_law_894 ?_
                refine j_lcmp C dL_law_895 ?_
                refine j_if_eq C dL_law_896 (tgt := 901) (by decide) (fun hc179 => ?_) (fun hc179 => ?_)
                · rw [if_pos hc179] at h
                  refine j_goto C dL_law_901 (tgt := 1870) (by decide) ?_
                  refine j_iinc C dL_law_1870 7 rfl (v := (v5 + (5 : Int32))) (by first | rfl | decide) (by decide) (L' := [(5, .int (v5 + (5 : Int32))), (7, .int r173), (6, .int r170), (0, .ref v0), (1, .ref v1), (2, .ref v2), (3, .ref v3), (4, .ref v4)]) rfl ?_
                  refine j_goto C dL_law_1873 (tgt := 28) (by decide) ?_
                  refine j_sub (L' := [(0, .ref v0), (1, .ref v1), (2, .ref v2), (3, .ref v3), (4, .ref v4), (5, .int (v5 + (5 : Int32)))]) [3, 4, 5, 6, 7, 0] rfl ?_
                  exact ih v0 v1 v2 v3 v4 (v5 + (5 : Int32)) M174 r M' _ _ (by omega) (by omega) h
                · rw [if_neg hc179] at h
                  refine j_iconst C dL_law_899 (v := (0 : Int32)) (by decide) ?_
                  cases h
            · rw [if_neg hc175] at h
              refine j_iconst C dL_law_882 (v := (0 : Int32)) (by decide) ?_
              cases h
          · rw [if_neg hc171] at h
            refine j_iconst C dL_law_863 (v := (1 : Int32)) (by decide) ?_
            refine j_goto C dL_law_864 (tgt := 868) (by decide) ?_
            obtain ⟨ho180, h⟩ := ck_spec h
            obtain ⟨r181, M181, hq181, h⟩ := bnd2_spec h
            refine j_run1 (c_V C (As := [.int (M170.1 v0 ((v5 + (1 : Int32))).toNatClampNeg), .int (1 : Int32)]) (rest := []) (ctX9_report C.2.2.2.2.2.2.2.2.1 N Z hq181) kcRL_151 oyX9_report (ci := 9) (T := TX9) (N := 23) rfl (by decide) ho180 ⟨by decide, by decide⟩ ⟨by show _ + _ ≤ 603072; simp only [KM, NMX] at *; simp; omega, by show _ + _ ≤ 7178346; simp only [KM, NMX] at *; simp; omega⟩ (Nat.le_of_ble_eq_true rfl) rfl dL_law_868) ?_
            refine j_istore C dL_law_871 (by decide) (L' := [(7, .int r181), (6, .int r170), (0, .ref v0), (1, .ref v1), (2, .ref v2), (3, .ref v3), (4, .ref v4), (5, .int v5)]) rfl ?_
            refine j_aload_n C dL_law_873 rfl 4 rfl ?_
            obtain ⟨r182, M182, hq182, h⟩ := bnd2_spec h
            refine j_run1 (c_V C (As := []) (rest := []) (ctX9_thrown C.2.2.2.2.2.2.2.2.1 N Z hq182) kcRL_118 oyX9_thrown (ci := 9) (T := TX9) (N := 23) rfl (by decide) ho180 ⟨by decide, by decide⟩ ⟨by show _ + _ ≤ 603072; simp only [KM, NMX] at *; simp; omega, by show _ + _ ≤ 7178346; simp only [KM, NMX] at *; simp; omega⟩ (Nat.le_of_ble_eq_true rfl) rfl dL_law_874) ?_
            refine j_iload C dL_law_877 1 rfl ?_
            refine j_icmp_eq C dL_law_879 (tgt := 884) (by decide) (fun hc183 => ?_) (fun hc183 => ?_)
            · rw [if_pos hc183] at h
              refine j_iload C dL_law_884 1 rfl ?_
              refine j_if_ne C dL_law_886 (tgt := 901) (by decide) (fun hc184 => ?_) (fun hc184 => ?_)
              · rw [if_neg hc184] at h
                refine j_goto C dL_law_901 (tgt := 1870) (by decide) ?_
                refine j_iinc C dL_law_1870 7 rfl (v := (v5 + (5 : Int32))) (by first | rfl | decide) (by decide) (L' := [(5, .int (v5 + (5 : Int32))), (7, .int r181), (6, .int r170), (0, .ref v0), (1, .ref v1), (2, .ref v2), (3, .ref v3), (4, .ref v4)]) rfl ?_
                refine j_goto C dL_law_1873 (tgt := 28) (by decide) ?_
                refine j_sub (L' := [(0, .ref v0), (1, .ref v1), (2, .ref v2), (3, .ref v3), (4, .ref v4), (5, .int (v5 + (5 : Int32)))]) [3, 4, 5, 6, 7, 0] rfl ?_
                exact ih v0 v1 v2 v3 v4 (v5 + (5 : Int32)) M182 r M' _ _ (by omega) (by omega) h
              · rw [if_pos hc184] at h
                refine j_aload_n C dL_law_889 rfl 5 rfl ?_
                refine j_iconst C dL_law_890 (v := (0 : Int32)) (by decide) ?_
                obtain ⟨ho185, h⟩ := ck_spec h
                obtain ⟨ho186, h⟩ := ck_spec h
                refine j_lald C ho185 ho186 dL_law_891 ?_
                refine j_iload C dL_law_892 0 rfl ?_
                refine j_i2l C dL_law_894 ?_
                refine j_lcmp C dL_law_895 ?_
                refine j_if_eq C dL_law_896 (tgt := 901) (by decide) (fun hc187 => ?_) (fun hc187 => ?_)
                · rw [if_pos hc187] at h
                  refine j_goto C dL_law_901 (tgt := 1870) (by decide) ?_
                  refine j_iinc C dL_law_1870 7 rfl (v := (v5 + (5 : Int32))) (by first | rfl | decide) (by decide) (L' := [(5, .int (v5 + (5 : Int32))), (7, .int r181), (6, .int r170), (0, .ref v0), (1, .ref v1), (2, .ref v2), (3, .ref v3), (4, .ref v4)]) rfl ?_
                  refine j_goto C dL_law_1873 (tgt := 28) (by decide) ?_
                  refine j_sub (L' := [(0, .ref v0), (1, .ref v1), (2, .ref v2), (3, .ref v3), (4, .ref v4), (5, .int (v5 + (5 : Int32)))]) [3, 4, 5, 6, 7, 0] rfl ?_
                  exact ih v0 v1 v2 v3 v4 (v5 + (5 : Int32)) M182 r M' _ _ (by omega) (by omega) h
                · rw [if_neg hc187] at h
                  refine j_iconst C dL_law_899 (v := (0 : Int32)) (by decide) ?_
                  cases h
            · rw [if_neg hc183] at h
              refine j_iconst C dL_law_882 (v := (0 : Int32)) (by decide) ?_
              cases h
      rw [if_neg hc148] at h
      by_cases hc188 : ((M.1 v0 (v5).toNatClampNeg) &&& (31 : Int32)) = nI 10
      · rw [if_pos hc188] at h
        refine j_tableIn C dL_law_44 (by rw [hc188]; decide) (by rw [hc188]; decide) (off := 860) (by rw [hc188]; rfl) (tgt := 904) (by decide) ?_
        refine j_aload_n C dL_law_904 rfl 1 rfl ?_
        refine j_aload_n C dL_law_905 rfl 0 rfl ?_
        refine j_iload C dL_law_906 5 rfl ?_
        refine j_iconst C dL_law_908 (v := (1 : Int32)) (by decide) ?_
        refine j_iadd C dL_law_909 ?_
        obtain ⟨ho189, h⟩ := ck_spec h
        refine j_iald C ho7 ho189 dL_law_910 ?_
        refine j_aload_n C dL_law_911 rfl 0 rfl ?_
        refine j_iload C dL_law_912 5 rfl ?_
        refine j_iconst C dL_law_914 (v := (2 : Int32)) (by decide) ?_
        refine j_iadd C dL_law_915 ?_
        obtain ⟨ho190, h⟩ := ck_spec h
        refine j_iald C ho7 ho190 dL_law_916 ?_
        refine j_aload_n C dL_law_917 rfl 3 rfl ?_
        obtain ⟨r191, M191, hq191, h⟩ := bnd2_spec h
        refine j_run1 (c_SX C (As := [.ref v1, .int (M.1 v0 ((v5 + (1 : Int32))).toNatClampNeg), .int (M.1 v0 ((v5 + (2 : Int32))).toNatClampNeg), .ref v3]) (rest := []) (ctL_bay C.2.2.2.2.2.2.2.2.1 N Z hq191) kcRL_152 oyL_bay ⟨by decide, by decide⟩ ⟨by show _ + _ ≤ 603072; simp only [KM, NMX] at *; simp; omega, by show _ + _ ≤ 7178346; simp only [KM, NMX] at *; simp; omega⟩ (Nat.le_of_ble_eq_true rfl) rfl dL_law_918) ?_
        refine j_istore C dL_law_921 (by decide) (L' := [(6, .int r191), (0, .ref v0), (1, .ref v1), (2, .ref v2), (3, .ref v3), (4, .ref v4), (5, .int v5)]) rfl ?_
        refine j_aload_n C dL_law_923 rfl 3 rfl ?_
        refine j_aload_n C dL_law_924 rfl 1 rfl ?_
        refine j_iload C dL_law_925 6 rfl ?_
        refine j_iconst C dL_law_927 (v := (1 : Int32)) (by decide) ?_
        refine j_iadd C dL_law_928 ?_
        refine j_iald C ho7 ho189 dL_law_929 ?_
        refine j_aload_n C dL_law_930 rfl 1 rfl ?_
        refine j_iload C dL_law_931 6 rfl ?_
        refine j_iconst C dL_law_933 (v := (2 : Int32)) (by decide) ?_
        refine j_iadd C dL_law_934 ?_
        refine j_iald C ho7 ho190 dL_law_935 ?_
        obtain ⟨ho192, h⟩ := ck_spec h
        obtain ⟨r193, M193, hq193, h⟩ := bnd2_spec h
        refine j_run1 (c_V C (As := [.int (M191.1 v0 ((v5 + (1 : Int32))).toNatClampNeg), .int (M191.1 v0 ((v5 + (2 : Int32))).toNatClampNeg)]) (rest := []) (ctX9_bay C.2.2.2.2.2.2.2.2.1 N Z hq193) kcRL_154 oyX9_bay (ci := 9) (T := TX9) (N := 23) rfl (by decide) ho192 ⟨by decide, by decide⟩ ⟨by show _ + _ ≤ 603072; simp only [KM, NMX] at *; simp; omega, by show _ + _ ≤ 7178346; simp only [KM, NMX] at *; simp; omega⟩ (Nat.le_of_ble_eq_true rfl) rfl dL_law_936) ?_
        refine j_istore C dL_law_939 (by decide) (L' := [(7, .int r193), (6, .int r191), (0, .ref v0), (1, .ref v1), (2, .ref v2), (3, .ref v3), (4, .ref v4), (5, .int v5)]) rfl ?_
        refine j_aload_n C dL_law_941 rfl 4 rfl ?_
        obtain ⟨r194, M194, hq194, h⟩ := bnd2_spec h
        refine j_run1 (c_V C (As := []) (rest := []) (ctX9_thrown C.2.2.2.2.2.2.2.2.1 N Z hq194) kcRL_118 oyX9_thrown (ci := 9) (T := TX9) (N := 23) rfl (by decide) ho192 ⟨by decide, by decide⟩ ⟨by show _ + _ ≤ 603072; simp only [KM, NMX] at *; simp; omega, by show _ + _ ≤ 7178346; simp only [KM, NMX] at *; simp; omega⟩ (Nat.le_of_ble_eq_true rfl) rfl dL_law_942) ?_
        refine j_iload C dL_law_945 1 rfl ?_
        refine j_icmp_eq C dL_law_947 (tgt := 952) (by decide) (fun hc195 => ?_) (fun hc195 => ?_)
        · rw [if_pos hc195] at h
          refine j_iload C dL_law_952 1 rfl ?_
          refine j_if_ne C dL_law_954 (tgt := 969) (by decide) (fun hc196 => ?_) (fun hc196 => ?_)
          · rw [if_neg hc196] at h
            refine j_goto C dL_law_969 (tgt := 1870) (by decide) ?_
            refine j_iinc C dL_law_1870 7 rfl (v := (v5 + (5 : Int32))) (by first | rfl | decide) (by decide) (L' := [(5, .int (v5 + (5 : Int32))), (7, .int r193), (6, .int r191), (0, .ref v0), (1, .ref v1), (2, .ref v2), (3, .ref v3), (4, .ref v4)]) rfl ?_
            refine j_goto C dL_law_1873 (tgt := 28) (by decide) ?_
            refine j_sub (L' := [(0, .ref v0), (1, .ref v1), (2, .ref v2), (3, .ref v3), (4, .ref v4), (5, .int (v5 + (5 : Int32)))]) [3, 4, 5, 6, 7, 0] rfl ?_
            exact ih v0 v1 v2 v3 v4 (v5 + (5 : Int32)) M194 r M' _ _ (by omega) (by omega) h
          · rw [if_pos hc196] at h
            refine j_aload_n C dL_law_957 rfl 5 rfl ?_
            refine j_iconst C dL_law_958 (v := (0 : Int32)) (by decide) ?_
            obtain ⟨ho197, h⟩ := ck_spec h
            obtain ⟨ho198, h⟩ := ck_spec h
            refine j_lald C ho197 ho198 dL_law_959 ?_
            refine j_iload C dL_law_960 0 rfl ?_
            refine j_i2l C dL_law_962 ?_
            refine j_lcmp C dL_law_963 ?_
            refine j_if_eq C dL_law_964 (tgt := 969) (by decide) (fun hc199 => ?_) (fun hc199 => ?_)
            · rw [if_pos hc199] at h
              refine j_goto C dL_law_969 (tgt := 1870) (by decide) ?_
              refine j_iinc C dL_law_1870 7 rfl (v := (v5 + (5 : Int32))) (by first | rfl | decide) (by decide) (L' := [(5, .int (v5 + (5 : Int32))), (7, .int r193), (6, .int r191), (0, .ref v0), (1, .ref v1), (2, .ref v2), (3, .ref v3), (4, .ref v4)]) rfl ?_
              refine j_goto C dL_law_1873 (tgt := 28) (by decide) ?_
              refine j_sub (L' := [(0, .ref v0), (1, .ref v1), (2, .ref v2), (3, .ref v3), (4, .ref v4), (5, .int (v5 + (5 : Int32)))]) [3, 4, 5, 6, 7, 0] rfl ?_
              exact ih v0 v1 v2 v3 v4 (v5 + (5 : Int32)) M194 r M' _ _ (by omega) (by omega) h
            · rw [if_neg hc199] at h
              refine j_iconst C dL_law_967 (v := (0 : Int32)) (by decide) ?_
              cases h
        · rw [if_neg hc195] at h
          refine j_iconst C dL_law_950 (v := (0 : Int32)) (by decide) ?_
          cases h
      rw [if_neg hc188] at h
      by_cases hc200 : ((M.1 v0 (v5).toNatClampNeg) &&& (31 : Int32)) = nI 11
      · rw [if_pos hc200] at h
        refine j_tableIn C dL_law_44 (by rw [hc200]; decide) (by rw [hc200]; decide) (off := 928) (by rw [hc200]; rfl) (tgt := 972) (by decide) ?_
        refine j_aload_n C dL_law_972 rfl 1 rfl ?_
        refine j_aload_n C dL_law_973 rfl 0 rfl ?_
        refine j_iload C dL_law_974 5 rfl ?_
        refine j_iconst C dL_law_976 (v := (1 : Int32)) (by decide) ?_
        refine j_iadd C dL_law_977 ?_
        obtain ⟨ho201, h⟩ := ck_spec h
        refine j_iald C ho7 ho201 dL_law_978 ?_
        refine j_aload_n C dL_law_979 rfl 0 rfl ?_
        refine j_iload C dL_law_980 5 rfl ?_
        refine j_iconst C dL_law_982 (v := (2 : Int32)) (by decide) ?_
        refine j_iadd C dL_law_983 ?_
        obtain ⟨ho202, h⟩ := ck_spec h
        refine j_iald C ho7 ho202 dL_law_984 ?_
        refine j_aload_n C dL_law_985 rfl 3 rfl ?_
        obtain ⟨r203, M203, hq203, h⟩ := bnd2_spec h
        refine j_run1 (c_SX C (As := [.ref v1, .int (M.1 v0 ((v5 + (1 : Int32))).toNatClampNeg), .int (M.1 v0 ((v5 + (2 : Int32))).toNatClampNeg), .ref v3]) (rest := []) (ctL_post C.2.2.2.2.2.2.2.2.1 N Z hq203) kcRL_155 oyL_post ⟨by decide, by decide⟩ ⟨by show _ + _ ≤ 603072; simp only [KM, NMX] at *; simp; omega, by show _ + _ ≤ 7178346; simp only [KM, NMX] at *; simp; omega⟩ (Nat.le_of_ble_eq_true rfl) rfl dL_law_986) ?_
        refine j_istore C dL_law_989 (by decide) (L' := [(6, .int r203), (0, .ref v0), (1, .ref v1), (2, .ref v2), (3, .ref v3), (4, .ref v4), (5, .int v5)]) rfl ?_
        refine j_aload_n C dL_law_991 rfl 3 rfl ?_
        refine j_aload_n C dL_law_992 rfl 1 rfl ?_
        refine j_iload C dL_law_993 6 rfl ?_
        refine j_iconst C dL_law_995 (v := (1 : Int32)) (by decide) ?_
        refine j_iadd C dL_law_996 ?_
        refine j_iald C ho7 ho201 dL_law_997 ?_
        refine j_aload_n C dL_law_998 rfl 1 rfl ?_
        refine j_iload C dL_law_999 6 rfl ?_
        refine j_iconst C dL_law_1001 (v := (2 : Int32)) (by decide) ?_
        refine j_iadd C dL_law_1002 ?_
        refine j_iald C ho7 ho202 dL_law_1003 ?_
        obtain ⟨ho204, h⟩ := ck_spec h
        obtain ⟨r205, M205, hq205, h⟩ := bnd2_spec h
        refine j_run1 (c_V C (As := [.int (M203.1 v0 ((v5 + (1 : Int32))).toNatClampNeg), .int (M203.1 v0 ((v5 + (2 : Int32))).toNatClampNeg)]) (rest := []) (ctX9_post C.2.2.2.2.2.2.2.2.1 N Z hq205) kcRL_157 oyX9_post (ci := 9) (T := TX9) (N := 23) rfl (by decide) ho204 ⟨by decide, by decide⟩ ⟨by show _ + _ ≤ 603072; simp only [KM, NMX] at *; simp; omega, by show _ + _ ≤ 7178346; simp only [KM, NMX] at *; simp; omega⟩ (Nat.le_of_ble_eq_true rfl) rfl dL_law_1004) ?_
        refine j_istore C dL_law_1007 (by decide) (L' := [(7, .int r205), (6, .int r203), (0, .ref v0), (1, .ref v1), (2, .ref v2), (3, .ref v3), (4, .ref v4), (5, .int v5)]) rfl ?_
        refine j_aload_n C dL_law_1009 rfl 4 rfl ?_
        obtain ⟨r206, M206, hq206, h⟩ := bnd2_spec h
        refine j_run1 (c_V C (As := []) (rest := []) (ctX9_thrown C.2.2.2.2.2.2.2.2.1 N Z hq206) kcRL_118 oyX9_thrown (ci := 9) (T := TX9) (N := 23) rfl (by decide) ho204 ⟨by decide, by decide⟩ ⟨by show _ + _ ≤ 603072; simp only [KM, NMX] at *; simp; omega, by show _ + _ ≤ 7178346; simp only [KM, NMX] at *; simp; omega⟩ (Nat.le_of_ble_eq_true rfl) rfl dL_law_1010) ?_
        refine j_iload C dL_law_1013 1 rfl ?_
        refine j_icmp_eq C dL_law_1015 (tgt := 1020) (by decide) (fun hc207 => ?_) (fun hc207 => ?_)
        · rw [if_pos hc207] at h
          refine j_iload C dL_law_1020 1 rfl ?_
          refine j_if_ne C dL_law_1022 (tgt := 1037) (by decide) (fun hc208 => ?_) (fun hc208 => ?_)
          · rw [if_neg hc208] at h
            refine j_goto C dL_law_1037 (tgt := 1870) (by decide) ?_
            refine j_iinc C dL_law_1870 7 rfl (v := (v5 + (5 : Int32))) (by first | rfl | decide) (by decide) (L' := [(5, .int (v5 + (5 : Int32))), (7, .int r205), (6, .int r203), (0, .ref v0), (1, .ref v1), (2, .ref v2), (3, .ref v3), (4, .ref v4)]) rfl ?_
            refine j_goto C dL_law_1873 (tgt := 28) (by decide) ?_
            refine j_sub (L' := [(0, .ref v0), (1, .ref v1), (2, .ref v2), (3, .ref v3), (4, .ref v4), (5, .int (v5 + (5 : Int32)))]) [3, 4, 5, 6, 7, 0] rfl ?_
            exact ih v0 v1 v2 v3 v4 (v5 + (5 : Int32)) M206 r M' _ _ (by omega) (by omega) h
          · rw [if_pos hc208] at h
            refine j_aload_n C dL_law_1025 rfl 5 rfl ?_
            refine j_iconst C dL_law_1026 (v := (0 : Int32)) (by decide) ?_
            obtain ⟨ho209, h⟩ := ck_spec h
            obtain ⟨ho210, h⟩ := ck_spec h
            refine j_lald C ho209 ho210 dL_law_1027 ?_
            refine j_iload C dL_law_1028 0 rfl ?_
            refine j_i2l C dL_law_1030 ?_
            refine j_lcmp C dL_law_1031 ?_
            refine j_if_eq C dL_law_1032 (tgt := 1037) (by decide) (fun hc211 => ?_) (fun hc211 => ?_)
            · rw [if_pos hc211] at h
              refine j_goto C dL_law_1037 (tgt := 1870) (by decide) ?_
              refine j_iinc C dL_law_1870 7 rfl (v := (v5 + (5 : Int32))) (by first | rfl | decide) (by decide) (L' := [(5, .int (v5 + (5 : Int32))), (7, .int r205), (6, .int r203), (0, .ref v0), (1, .ref v1), (2, .ref v2), (3, .ref v3), (4, .ref v4)]) rfl ?_
              refine j_goto C dL_law_1873 (tgt := 28) (by decide) ?_
              refine j_sub (L' := [(0, .ref v0), (1, .ref v1), (2, .ref v2), (3, .ref v3), (4, .ref v4), (5, .int (v5 + (5 : Int32)))]) [3, 4, 5, 6, 7, 0] rfl ?_
              exact ih v0 v1 v2 v3 v4 (v5 + (5 : Int32)) M206 r M' _ _ (by omega) (by omega) h
            · rw [if_neg hc211] at h
              refine j_iconst C dL_law_1035 (v := (0 : Int32)) (by decide) ?_
              cases h
        · rw [if_neg hc207] at h
          refine j_iconst C dL_law_1018 (v := (0 : Int32)) (by decide) ?_
          cases h
      rw [if_neg hc200] at h
      by_cases hc212 : ((M.1 v0 (v5).toNatClampNeg) &&& (31 : Int32)) = nI 12
      · rw [if_pos hc212] at h
        refine j_tableIn C dL_law_44 (by rw [hc212]; decide) (by rw [hc212]; decide) (off := 996) (by rw [hc212]; rfl) (tgt := 1040) (by decide) ?_
        refine j_aload_n C dL_law_1040 rfl 1 rfl ?_
        refine j_aload_n C dL_law_1041 rfl 0 rfl ?_
        refine j_iload C dL_law_1042 5 rfl ?_
        refine j_iconst C dL_law_1044 (v := (1 : Int32)) (by decide) ?_
        refine j_iadd C dL_law_1045 ?_
        obtain ⟨ho213, h⟩ := ck_spec h
        refine j_iald C ho7 ho213 dL_law_1046 ?_
        refine j_aload_n C dL_law_1047 rfl 0 rfl ?_
        refine j_iload C dL_law_1048 5 rfl ?_
        refine j_iconst C dL_law_1050 (v := (2 : Int32)) (by decide) ?_
        refine j_iadd C dL_law_1051 ?_
        obtain ⟨ho214, h⟩ := ck_spec h
        refine j_iald C ho7 ho214 dL_law_1052 ?_
        refine j_aload_n C dL_law_1053 rfl 3 rfl ?_
        obtain ⟨r215, M215, hq215, h⟩ := bnd2_spec h
        refine j_run1 (c_SX C (As := [.ref v1, .int (M.1 v0 ((v5 + (1 : Int32))).toNatClampNeg), .int (M.1 v0 ((v5 + (2 : Int32))).toNatClampNeg), .ref v3]) (rest := []) (ctL_load C.2.2.2.2.2.2.2.2.1 N Z hq215) kcRL_158 oyL_load ⟨by decide, by decide⟩ ⟨by show _ + _ ≤ 603072; simp only [KM, NMX] at *; simp; omega, by show _ + _ ≤ 7178346; simp only [KM, NMX] at *; simp; omega⟩ (Nat.le_of_ble_eq_true rfl) rfl dL_law_1054) ?_
        refine j_istore C dL_law_1057 (by decide) (L' := [(6, .int r215), (0, .ref v0), (1, .ref v1), (2, .ref v2), (3, .ref v3), (4, .ref v4), (5, .int v5)]) rfl ?_
        refine j_aload_n C dL_law_1059 rfl 3 rfl ?_
        refine j_aload_n C dL_law_1060 rfl 1 rfl ?_
        refine j_iload C dL_law_1061 6 rfl ?_
        refine j_iconst C dL_law_1063 (v := (1 : Int32)) (by decide) ?_
        refine j_iadd C dL_law_1064 ?_
        refine j_iald C ho7 ho213 dL_law_1065 ?_
        refine j_aload_n C dL_law_1066 rfl 1 rfl ?_
        refine j_iload C dL_law_1067 6 rfl ?_
        refine j_iconst C dL_law_1069 (v := (2 : Int32)) (by decide) ?_
        refine j_iadd C dL_law_1070 ?_
        refine j_iald C ho7 ho214 dL_law_1071 ?_
        obtain ⟨ho216, h⟩ := ck_spec h
        obtain ⟨r217, M217, hq217, h⟩ := bnd2_spec h
        refine j_run1 (c_V C (As := [.int (M215.1 v0 ((v5 + (1 : Int32))).toNatClampNeg), .int (M215.1 v0 ((v5 + (2 : Int32))).toNatClampNeg)]) (rest := []) (ctX9_load C.2.2.2.2.2.2.2.2.1 N Z hq217) kcRL_160 oyX9_load (ci := 9) (T := TX9) (N := 23) rfl (by decide) ho216 ⟨by decide, by decide⟩ ⟨by show _ + _ ≤ 603072; simp only [KM, NMX] at *; simp; omega, by show _ + _ ≤ 7178346; simp only [KM, NMX] at *; simp; omega⟩ (Nat.le_of_ble_eq_true rfl) rfl dL_law_1072) ?_
        refine j_istore C dL_law_1075 (by decide) (L' := [(7, .int r217), (6, .int r215), (0, .ref v0), (1, .ref v1), (2, .ref v2), (3, .ref v3), (4, .ref v4), (5, .int v5)]) rfl ?_
        refine j_aload_n C dL_law_1077 rfl 4 rfl ?_
        obtain ⟨r218, M218, hq218, h⟩ := bnd2_spec h
        refine j_run1 (c_V C (As := []) (rest := []) (ctX9_thrown C.2.2.2.2.2.2.2.2.1 N Z hq218) kcRL_118 oyX9_thrown (ci := 9) (T := TX9) (N := 23) rfl (by decide) ho216 ⟨by decide, by decide⟩ ⟨by show _ + _ ≤ 603072; simp only [KM, NMX] at *; simp; omega, by show _ + _ ≤ 7178346; simp only [KM, NMX] at *; simp; omega⟩ (Nat.le_of_ble_eq_true rfl) rfl dL_law_1078) ?_
        refine j_iload C dL_law_1081 1 rfl ?_
        refine j_icmp_eq C dL_law_1083 (tgt := 1088) (by decide) (fun hc219 => ?_) (fun hc219 => ?_)
        · rw [if_pos hc219] at h
          refine j_iload C dL_law_1088 1 rfl ?_
          refine j_if_ne C dL_law_1090 (tgt := 1105) (by decide) (fun hc220 => ?_) (fun hc220 => ?_)
          · rw [if_neg hc220] at h
            refine j_goto C dL_law_1105 (tgt := 1870) (by decide) ?_
            refine j_iinc C dL_law_1870 7 rfl (v := (v5 + (5 : Int32))) (by first | rfl | decide) (by decide) (L' := [(5, .int (v5 + (5 : Int32))), (7, .int r217), (6, .int r215), (0, .ref v0), (1, .ref v1), (2, .ref v2), (3, .ref v3), (4, .ref v4)]) rfl ?_
            refine j_goto C dL_law_1873 (tgt := 28) (by decide) ?_
            refine j_sub (L' := [(0, .ref v0), (1, .ref v1), (2, .ref v2), (3, .ref v3), (4, .ref v4), (5, .int (v5 + (5 : Int32)))]) [3, 4, 5, 6, 7, 0] rfl ?_
            exact ih v0 v1 v2 v3 v4 (v5 + (5 : Int32)) M218 r M' _ _ (by omega) (by omega) h
          · rw [if_pos hc220] at h
            refine j_aload_n C dL_law_1093 rfl 5 rfl ?_
            refine j_iconst C dL_law_1094 (v := (0 : Int32)) (by decide) ?_
            obtain ⟨ho221, h⟩ := ck_spec h
            obtain ⟨ho222, h⟩ := ck_spec h
            refine j_lald C ho221 ho222 dL_law_1095 ?_
            refine j_iload C dL_law_1096 0 rfl ?_
            refine j_i2l C dL_law_1098 ?_
            refine j_lcmp C dL_law_1099 ?_
            refine j_if_eq C dL_law_1100 (tgt := 1105) (by decide) (fun hc223 => ?_) (fun hc223 => ?_)
            · rw [if_pos hc223] at h
              refine j_goto C dL_law_1105 (tgt := 1870) (by decide) ?_
              refine j_iinc C dL_law_1870 7 rfl (v := (v5 + (5 : Int32))) (by first | rfl | decide) (by decide) (L' := [(5, .int (v5 + (5 : Int32))), (7, .int r217), (6, .int r215), (0, .ref v0), (1, .ref v1), (2, .ref v2), (3, .ref v3), (4, .ref v4)]) rfl ?_
              refine j_goto C dL_law_1873 (tgt := 28) (by decide) ?_
              refine j_sub (L' := [(0, .ref v0), (1, .ref v1), (2, .ref v2), (3, .ref v3), (4, .ref v4), (5, .int (v5 + (5 : Int32)))]) [3, 4, 5, 6, 7, 0] rfl ?_
              exact ih v0 v1 v2 v3 v4 (v5 + (5 : Int32)) M218 r M' _ _ (by omega) (by omega) h
            · rw [if_neg hc223] at h
              refine j_iconst C dL_law_1103 (v := (0 : Int32)) (by decide) ?_
              cases h
        · rw [if_neg hc219] at h
          refine j_iconst C dL_law_1086 (v := (0 : Int32)) (by decide) ?_
          cases h
      rw [if_neg hc212] at h
      by_cases hc224 : ((M.1 v0 (v5).toNatClampNeg) &&& (31 : Int32)) = nI 13
      · rw [if_pos hc224] at h
        refine j_tableIn C dL_law_44 (by rw [hc224]; decide) (by rw [hc224]; decide) (off := 1064) (by rw [hc224]; rfl) (tgt := 1108) (by decide) ?_
        refine j_aload_n C dL_law_1108 rfl 1 rfl ?_
        refine j_aload_n C dL_law_1109 rfl 0 rfl ?_
        refine j_iload C dL_law_1110 5 rfl ?_
        refine j_iconst C dL_law_1112 (v := (1 : Int32)) (by decide) ?_
        refine j_iadd C dL_law_1113 ?_
        obtain ⟨ho225, h⟩ := ck_spec h
        refine j_iald C ho7 ho225 dL_law_1114 ?_
        refine j_aload_n C dL_law_1115 rfl 0 rfl ?_
        refine j_iload C dL_law_1116 5 rfl ?_
        refine j_iconst C dL_law_1118 (v := (2 : Int32)) (by decide) ?_
        refine j_iadd C dL_law_1119 ?_
        obtain ⟨ho226, h⟩ := ck_spec h
        refine j_iald C ho7 ho226 dL_law_1120 ?_
        refine j_aload_n C dL_law_1121 rfl 3 rfl ?_
        obtain ⟨r227, M227, hq227, h⟩ := bnd2_spec h
        refine j_run1 (c_SX C (As := [.ref v1, .int (M.1 v0 ((v5 + (1 : Int32))).toNatClampNeg), .int (M.1 v0 ((v5 + (2 : Int32))).toNatClampNeg), .ref v3]) (rest := []) (ctL_steps C.2.2.2.2.2.2.2.2.1 N Z hq227) kcRL_161 oyL_steps ⟨by decide, by decide⟩ ⟨by show _ + _ ≤ 603072; simp only [KM, NMX] at *; simp; omega, by show _ + _ ≤ 7178346; simp only [KM, NMX] at *; simp; omega⟩ (Nat.le_of_ble_eq_true rfl) rfl dL_law_1122) ?_
        refine j_istore C dL_law_1125 (by decide) (L' := [(6, .int r227), (0, .ref v0), (1, .ref v1), (2, .ref v2), (3, .ref v3), (4, .ref v4), (5, .int v5)]) rfl ?_
        refine j_aload_n C dL_law_1127 rfl 3 rfl ?_
        refine j_aload_n C dL_law_1128 rfl 1 rfl ?_
        refine j_iload C dL_law_1129 6 rfl ?_
        refine j_iconst C dL_law_1131 (v := (1 : Int32)) (by decide) ?_
        refine j_iadd C dL_law_1132 ?_
        refine j_iald C ho7 ho225 dL_law_1133 ?_
        refine j_aload_n C dL_law_1134 rfl 1 rfl ?_
        refine j_iload C dL_law_1135 6 rfl ?_
        refine j_iconst C dL_law_1137 (v := (2 : Int32)) (by decide) ?_
        refine j_iadd C dL_law_1138 ?_
        refine j_iald C ho7 ho226 dL_law_1139 ?_
        obtain ⟨ho228, h⟩ := ck_spec h
        obtain ⟨r229, M229, hq229, h⟩ := bnd2_spec h
        refine j_run1 (c_V C (As := [.int (M227.1 v0 ((v5 + (1 : Int32))).toNatClampNeg), .int (M227.1 v0 ((v5 + (2 : Int32))).toNatClampNeg)]) (rest := []) (ctX9_steps C.2.2.2.2.2.2.2.2.1 N Z hq229) kcRL_163 oyX9_steps (ci := 9) (T := TX9) (N := 23) rfl (by decide) ho228 ⟨by decide, by decide⟩ ⟨by show _ + _ ≤ 603072; simp only [KM, NMX] at *; simp; omega, by show _ + _ ≤ 7178346; simp only [KM, NMX] at *; simp; omega⟩ (Nat.le_of_ble_eq_true rfl) rfl dL_law_1140) ?_
        refine j_istore C dL_law_1143 (by decide) (L' := [(7, .int r229), (6, .int r227), (0, .ref v0), (1, .ref v1), (2, .ref v2), (3, .ref v3), (4, .ref v4), (5, .int v5)]) rfl ?_
        refine j_aload_n C dL_law_1145 rfl 4 rfl ?_
        obtain ⟨r230, M230, hq230, h⟩ := bnd2_spec h
        refine j_run1 (c_V C (As := []) (rest := []) (ctX9_thrown C.2.2.2.2.2.2.2.2.1 N Z hq230) kcRL_118 oyX9_thrown (ci := 9) (T := TX9) (N := 23) rfl (by decide) ho228 ⟨by decide, by decide⟩ ⟨by show _ + _ ≤ 603072; simp only [KM, NMX] at *; simp; omega, by show _ + _ ≤ 7178346; simp only [KM, NMX] at *; simp; omega⟩ (Nat.le_of_ble_eq_true rfl) rfl dL_law_1146) ?_
        refine j_iload C dL_law_1149 1 rfl ?_
        refine j_icmp_eq C dL_law_1151 (tgt := 1156) (by decide) (fun hc231 => ?_) (fun hc231 => ?_)
        · rw [if_pos hc231] at h
          refine j_iload C dL_law_1156 1 rfl ?_
          refine j_if_ne C dL_law_1158 (tgt := 1173) (by decide) (fun hc232 => ?_) (fun hc232 => ?_)
          · rw [if_neg hc232] at h
            refine j_goto C dL_law_1173 (tgt := 1870) (by decide) ?_
            refine j_iinc C dL_law_1870 7 rfl (v := (v5 + (5 : Int32))) (by first | rfl | decide) (by decide) (L' := [(5, .int (v5 + (5 : Int32))), (7, .int r229), (6, .int r227), (0, .ref v0), (1, .ref v1), (2, .ref v2), (3, .ref v3), (4, .ref v4)]) rfl ?_
            refine j_goto C dL_law_1873 (tgt := 28) (by decide) ?_
            refine j_sub (L' := [(0, .ref v0), (1, .ref v1), (2, .ref v2), (3, .ref v3), (4, .ref v4), (5, .int (v5 + (5 : Int32)))]) [3, 4, 5, 6, 7, 0] rfl ?_
            exact ih v0 v1 v2 v3 v4 (v5 + (5 : Int32)) M230 r M' _ _ (by omega) (by omega) h
          · rw [if_pos hc232] at h
            refine j_aload_n C dL_law_1161 rfl 5 rfl ?_
            refine j_iconst C dL_law_1162 (v := (0 : Int32)) (by decide) ?_
            obtain ⟨ho233, h⟩ := ck_spec h
            obtain ⟨ho234, h⟩ := ck_spec h
            refine j_lald C ho233 ho234 dL_law_1163 ?_
            refine j_iload C dL_law_1164 0 rfl ?_
            refine j_i2l C dL_law_1166 ?_
            refine j_lcmp C dL_law_1167 ?_
            refine j_if_eq C dL_law_1168 (tgt := 1173) (by decide) (fun hc235 => ?_) (fun hc235 => ?_)
            · rw [if_pos hc235] at h
              refine j_goto C dL_law_1173 (tgt := 1870) (by decide) ?_
              refine j_iinc C dL_law_1870 7 rfl (v := (v5 + (5 : Int32))) (by first | rfl | decide) (by decide) (L' := [(5, .int (v5 + (5 : Int32))), (7, .int r229), (6, .int r227), (0, .ref v0), (1, .ref v1), (2, .ref v2), (3, .ref v3), (4, .ref v4)]) rfl ?_
              refine j_goto C dL_law_1873 (tgt := 28) (by decide) ?_
              refine j_sub (L' := [(0, .ref v0), (1, .ref v1), (2, .ref v2), (3, .ref v3), (4, .ref v4), (5, .int (v5 + (5 : Int32)))]) [3, 4, 5, 6, 7, 0] rfl ?_
              exact ih v0 v1 v2 v3 v4 (v5 + (5 : Int32)) M230 r M' _ _ (by omega) (by omega) h
            · rw [if_neg hc235] at h
              refine j_iconst C dL_law_1171 (v := (0 : Int32)) (by decide) ?_
              cases h
        · rw [if_neg hc231] at h
          refine j_iconst C dL_law_1154 (v := (0 : Int32)) (by decide) ?_
          cases h
      rw [if_neg hc224] at h
      by_cases hc236 : ((M.1 v0 (v5).toNatClampNeg) &&& (31 : Int32)) = nI 14
      · rw [if_pos hc236] at h
        refine j_tableIn C dL_law_44 (by rw [hc236]; decide) (by rw [hc236]; decide) (off := 1132) (by rw [hc236]; rfl) (tgt := 1176) (by decide) ?_
        refine j_aload_n C dL_law_1176 rfl 1 rfl ?_
        refine j_aload_n C dL_law_1177 rfl 0 rfl ?_
        refine j_iload C dL_law_1178 5 rfl ?_
        refine j_iconst C dL_law_1180 (v := (1 : Int32)) (by decide) ?_
        refine j_iadd C dL_law_1181 ?_
        obtain ⟨ho237, h⟩ := ck_spec h
        refine j_iald C ho7 ho237 dL_law_1182 ?_
        refine j_aload_n C dL_law_1183 rfl 3 rfl ?_
        obtain ⟨r238, M238, hq238, h⟩ := bnd2_spec h
        refine j_run1 (c_SX C (As := [.ref v1, .int (M.1 v0 ((v5 + (1 : Int32))).toNatClampNeg), .ref v3]) (rest := []) (ctL_fewestTies C.2.2.2.2.2.2.2.2.1 N Z hq238) kcRL_164 oyL_fewestTies ⟨by decide, by decide⟩ ⟨by show _ + _ ≤ 603072; simp only [KM, NMX] at *; simp; omega, by show _ + _ ≤ 7178346; simp only [KM, NMX] at *; simp; omega⟩ (Nat.le_of_ble_eq_true rfl) rfl dL_law_1184) ?_
        refine j_istore C dL_law_1187 (by decide) (L' := [(6, .int r238), (0, .ref v0), (1, .ref v1), (2, .ref v2), (3, .ref v3), (4, .ref v4), (5, .int v5)]) rfl ?_
        refine j_aload_n C dL_law_1189 rfl 3 rfl ?_
        refine j_aload_n C dL_law_1190 rfl 1 rfl ?_
        refine j_iload C dL_law_1191 6 rfl ?_
        refine j_iconst C dL_law_1193 (v := (1 : Int32)) (by decide) ?_
        refine j_iadd C dL_law_1194 ?_
        refine j_iald C ho7 ho237 dL_law_1195 ?_
        obtain ⟨ho239, h⟩ := ck_spec h
        obtain ⟨r240, M240, hq240, h⟩ := bnd2_spec h
        refine j_run1 (c_V C (As := [.int (M238.1 v0 ((v5 + (1 : Int32))).toNatClampNeg)]) (rest := []) (ctX9_fewestTies C.2.2.2.2.2.2.2.2.1 N Z hq240) kcRL_166 oyX9_fewestTies (ci := 9) (T := TX9) (N := 23) rfl (by decide) ho239 ⟨by decide, by decide⟩ ⟨by show _ + _ ≤ 603072; simp only [KM, NMX] at *; simp; omega, by show _ + _ ≤ 7178346; simp only [KM, NMX] at *; simp; omega⟩ (Nat.le_of_ble_eq_true rfl) rfl dL_law_1196) ?_
        refine j_istore C dL_law_1199 (by decide) (L' := [(7, .int r240), (6, .int r238), (0, .ref v0), (1, .ref v1), (2, .ref v2), (3, .ref v3), (4, .ref v4), (5, .int v5)]) rfl ?_
        refine j_aload_n C dL_law_1201 rfl 4 rfl ?_
        obtain ⟨r241, M241, hq241, h⟩ := bnd2_spec h
        refine j_run1 (c_V C (As := []) (rest := []) (ctX9_thrown C.2.2.2.2.2.2.2.2.1 N Z hq241) kcRL_118 oyX9_thrown (ci := 9) (T := TX9) (N := 23) rfl (by decide) ho239 ⟨by decide, by decide⟩ ⟨by show _ + _ ≤ 603072; simp only [KM, NMX] at *; simp; omega, by show _ + _ ≤ 7178346; simp only [KM, NMX] at *; simp; omega⟩ (Nat.le_of_ble_eq_true rfl) rfl dL_law_1202) ?_
        refine j_iload C dL_law_1205 1 rfl ?_
        refine j_icmp_eq C dL_law_1207 (tgt := 1212) (by decide) (fun hc242 => ?_) (fun hc242 => ?_)
        · rw [if_pos hc242] at h
          refine j_iload C dL_law_1212 1 rfl ?_
          refine j_if_ne C dL_law_1214 (tgt := 1229) (by decide) (fun hc243 => ?_) (fun hc243 => ?_)
          · rw [if_neg hc243] at h
            refine j_goto C dL_law_1229 (tgt := 1870) (by decide) ?_
            refine j_iinc C dL_law_1870 7 rfl (v := (v5 + (5 : Int32))) (by first | rfl | decide) (by decide) (L' := [(5, .int (v5 + (5 : Int32))), (7, .int r240), (6, .int r238), (0, .ref v0), (1, .ref v1), (2, .ref v2), (3, .ref v3), (4, .ref v4)]) rfl ?_
            refine j_goto C dL_law_1873 (tgt := 28) (by decide) ?_
            refine j_sub (L' := [(0, .ref v0), (1, .ref v1), (2, .ref v2), (3, .ref v3), (4, .ref v4), (5, .int (v5 + (5 : Int32)))]) [3, 4, 5, 6, 7, 0] rfl ?_
            exact ih v0 v1 v2 v3 v4 (v5 + (5 : Int32)) M241 r M' _ _ (by omega) (by omega) h
          · rw [if_pos hc243] at h
            refine j_aload_n C dL_law_1217 rfl 5 rfl ?_
            refine j_iconst C dL_law_1218 (v := (0 : Int32)) (by decide) ?_
            obtain ⟨ho244, h⟩ := ck_spec h
            obtain ⟨ho245, h⟩ := ck_spec h
            refine j_lald C ho244 ho245 dL_law_1219 ?_
            refine j_iload C dL_law_1220 0 rfl ?_
            refine j_i2l C dL_law_1222 ?_
            refine j_lcmp C dL_law_1223 ?_
            refine j_if_eq C dL_law_1224 (tgt := 1229) (by decide) (fun hc246 => ?_) (fun hc246 => ?_)
            · rw [if_pos hc246] at h
              refine j_goto C dL_law_1229 (tgt := 1870) (by decide) ?_
              refine j_iinc C dL_law_1870 7 rfl (v := (v5 + (5 : Int32))) (by first | rfl | decide) (by decide) (L' := [(5, .int (v5 + (5 : Int32))), (7, .int r240), (6, .int r238), (0, .ref v0), (1, .ref v1), (2, .ref v2), (3, .ref v3), (4, .ref v4)]) rfl ?_
              refine j_goto C dL_law_1873 (tgt := 28) (by decide) ?_
              refine j_sub (L' := [(0, .ref v0), (1, .ref v1), (2, .ref v2), (3, .ref v3), (4, .ref v4), (5, .int (v5 + (5 : Int32)))]) [3, 4, 5, 6, 7, 0] rfl ?_
              exact ih v0 v1 v2 v3 v4 (v5 + (5 : Int32)) M241 r M' _ _ (by omega) (by omega) h
            · rw [if_neg hc246] at h
              refine j_iconst C dL_law_1227 (v := (0 : Int32)) (by decide) ?_
              cases h
        · rw [if_neg hc242] at h
          refine j_iconst C dL_law_1210 (v := (0 : Int32)) (by decide) ?_
          cases h
      rw [if_neg hc236] at h
      by_cases hc247 : ((M.1 v0 (v5).toNatClampNeg) &&& (31 : Int32)) = nI 15
      · rw [if_pos hc247] at h
        refine j_tableIn C dL_law_44 (by rw [hc247]; decide) (by rw [hc247]; decide) (off := 1188) (by rw [hc247]; rfl) (tgt := 1232) (by decide) ?_
        refine j_aload_n C dL_law_1232 rfl 1 rfl ?_
        refine j_aload_n C dL_law_1233 rfl 0 rfl ?_
        refine j_iload C dL_law_1234 5 rfl ?_
        refine j_iconst C dL_law_1236 (v := (1 : Int32)) (by decide) ?_
        refine j_iadd C dL_law_1237 ?_
        obtain ⟨ho248, h⟩ := ck_spec h
        refine j_iald C ho7 ho248 dL_law_1238 ?_
        refine j_aload_n C dL_law_1239 rfl 3 rfl ?_
        obtain ⟨r249, M249, hq249, h⟩ := bnd2_spec h
        refine j_run1 (c_SX C (As := [.ref v1, .int (M.1 v0 ((v5 + (1 : Int32))).toNatClampNeg), .ref v3]) (rest := []) (ctL_tieLevels C.2.2.2.2.2.2.2.2.1 N Z hq249) kcRL_167 oyL_tieLevels ⟨by decide, by decide⟩ ⟨by show _ + _ ≤ 603072; simp only [KM, NMX] at *; simp; omega, by show _ + _ ≤ 7178346; simp only [KM, NMX] at *; simp; omega⟩ (Nat.le_of_ble_eq_true rfl) rfl dL_law_1240) ?_
        refine j_istore C dL_law_1243 (by decide) (L' := [(6, .int r249), (0, .ref v0), (1, .ref v1), (2, .ref v2), (3, .ref v3), (4, .ref v4), (5, .int v5)]) rfl ?_
        refine j_aload_n C dL_law_1245 rfl 3 rfl ?_
        refine j_aload_n C dL_law_1246 rfl 1 rfl ?_
        refine j_iload C dL_law_1247 6 rfl ?_
        refine j_iconst C dL_law_1249 (v := (1 : Int32)) (by decide) ?_
        refine j_iadd C dL_law_1250 ?_
        refine j_iald C ho7 ho248 dL_law_1251 ?_
        obtain ⟨ho250, h⟩ := ck_spec h
        obtain ⟨r251, M251, hq251, h⟩ := bnd2_spec h
        refine j_run1 (c_V C (As := [.int (M249.1 v0 ((v5 + (1 : Int32))).toNatClampNeg)]) (rest := []) (ctX9_tieLevels C.2.2.2.2.2.2.2.2.1 N Z hq251) kcRL_169 oyX9_tieLevels (ci := 9) (T := TX9) (N := 23) rfl (by decide) ho250 ⟨by decide, by decide⟩ ⟨by show _ + _ ≤ 603072; simp only [KM, NMX] at *; simp; omega, by show _ + _ ≤ 7178346; simp only [KM, NMX] at *; simp; omega⟩ (Nat.le_of_ble_eq_true rfl) rfl dL_law_1252) ?_
        refine j_istore C dL_law_1255 (by decide) (L' := [(7, .int r251), (6, .int r249), (0, .ref v0), (1, .ref v1), (2, .ref v2), (3, .ref v3), (4, .ref v4), (5, .int v5)]) rfl ?_
        refine j_aload_n C dL_law_1257 rfl 4 rfl ?_
        obtain ⟨r252, M252, hq252, h⟩ := bnd2_spec h
        refine j_run1 (c_V C (As := []) (rest := []) (ctX9_thrown C.2.2.2.2.2.2.2.2.1 N Z hq252) kcRL_118 oyX9_thrown (ci := 9) (T := TX9) (N := 23) rfl (by decide) ho250 ⟨by decide, by decide⟩ ⟨by show _ + _ ≤ 603072; simp only [KM, NMX] at *; simp; omega, by show _ + _ ≤ 7178346; simp only [KM, NMX] at *; simp; omega⟩ (Nat.le_of_ble_eq_true rfl) rfl dL_law_1258) ?_
        refine j_iload C dL_law_1261 1 rfl ?_
        refine j_icmp_eq C dL_law_1263 (tgt := 1268) (by decide) (fun hc253 => ?_) (fun hc253 => ?_)
        · rw [if_pos hc253] at h
          refine j_iload C dL_law_1268 1 rfl ?_
          refine j_if_ne C dL_law_1270 (tgt := 1285) (by decide) (fun hc254 => ?_) (fun hc254 => ?_)
          · rw [if_neg hc254] at h
            refine j_goto C dL_law_1285 (tgt := 1870) (by decide) ?_
            refine j_iinc C dL_law_1870 7 rfl (v := (v5 + (5 : Int32))) (by first | rfl | decide) (by decide) (L' := [(5, .int (v5 + (5 : Int32))), (7, .int r251), (6, .int r249), (0, .ref v0), (1, .ref v1), (2, .ref v2), (3, .ref v3), (4, .ref v4)]) rfl ?_
            refine j_goto C dL_law_1873 (tgt := 28) (by decide) ?_
            refine j_sub (L' := [(0, .ref v0), (1, .ref v1), (2, .ref v2), (3, .ref v3), (4, .ref v4), (5, .int (v5 + (5 : Int32)))]) [3, 4, 5, 6, 7, 0] rfl ?_
            exact ih v0 v1 v2 v3 v4 (v5 + (5 : Int32)) M252 r M' _ _ (by omega) (by omega) h
          · rw [if_pos hc254] at h
            refine j_aload_n C dL_law_1273 rfl 5 rfl ?_
            refine j_iconst C dL_law_1274 (v := (0 : Int32)) (by decide) ?_
            obtain ⟨ho255, h⟩ := ck_spec h
            obtain ⟨ho256, h⟩ := ck_spec h
            refine j_lald C ho255 ho256 dL_law_1275 ?_
            refine j_iload C dL_law_1276 0 rfl ?_
            refine j_i2l C dL_law_1278 ?_
            refine j_lcmp C dL_law_1279 ?_
            refine j_if_eq C dL_law_1280 (tgt := 1285) (by decide) (fun hc257 => ?_) (fun hc257 => ?_)
            · rw [if_pos hc257] at h
              refine j_goto C dL_law_1285 (tgt := 1870) (by decide) ?_
              refine j_iinc C dL_law_1870 7 rfl (v := (v5 + (5 : Int32))) (by first | rfl | decide) (by decide) (L' := [(5, .int (v5 + (5 : Int32))), (7, .int r251), (6, .int r249), (0, .ref v0), (1, .ref v1), (2, .ref v2), (3, .ref v3), (4, .ref v4)]) rfl ?_
              refine j_goto C dL_law_1873 (tgt := 28) (by decide) ?_
              refine j_sub (L' := [(0, .ref v0), (1, .ref v1), (2, .ref v2), (3, .ref v3), (4, .ref v4), (5, .int (v5 + (5 : Int32)))]) [3, 4, 5, 6, 7, 0] rfl ?_
              exact ih v0 v1 v2 v3 v4 (v5 + (5 : Int32)) M252 r M' _ _ (by omega) (by omega) h
            · rw [if_neg hc257] at h
              refine j_iconst C dL_law_1283 (v := (0 : Int32)) (by decide) ?_
              cases h
        · rw [if_neg hc253] at h
          refine j_iconst C dL_law_1266 (v := (0 : Int32)) (by decide) ?_
          cases h
      rw [if_neg hc247] at h
      by_cases hc258 : ((M.1 v0 (v5).toNatClampNeg) &&& (31 : Int32)) = nI 16
      · rw [if_pos hc258] at h
        refine j_tableIn C dL_law_44 (by rw [hc258]; decide) (by rw [hc258]; decide) (off := 1244) (by rw [hc258]; rfl) (tgt := 1288) (by decide) ?_
        refine j_aload_n C dL_law_1288 rfl 1 rfl ?_
        refine j_aload_n C dL_law_1289 rfl 0 rfl ?_
        refine j_iload C dL_law_1290 5 rfl ?_
        refine j_iconst C dL_law_1292 (v := (1 : Int32)) (by decide) ?_
        refine j_iadd C dL_law_1293 ?_
        obtain ⟨ho259, h⟩ := ck_spec h
        refine j_iald C ho7 ho259 dL_law_1294 ?_
        refine j_aload_n C dL_law_1295 rfl 0 rfl ?_
        refine j_iload C dL_law_1296 5 rfl ?_
        refine j_iconst C dL_law_1298 (v := (2 : Int32)) (by decide) ?_
        refine j_iadd C dL_law_1299 ?_
        obtain ⟨ho260, h⟩ := ck_spec h
        refine j_iald C ho7 ho260 dL_law_1300 ?_
        refine j_aload_n C dL_law_1301 rfl 3 rfl ?_
        obtain ⟨r261, M261, hq261, h⟩ := bnd2_spec h
        refine j_run1 (c_SX C (As := [.ref v1, .int (M.1 v0 ((v5 + (1 : Int32))).toNatClampNeg), .int (M.1 v0 ((v5 + (2 : Int32))).toNatClampNeg), .ref v3]) (rest := []) (ctL_missing C.2.2.2.2.2.2.2.2.1 N Z hq261) kcRL_170 oyL_missing ⟨by decide, by decide⟩ ⟨by show _ + _ ≤ 603072; simp only [KM, NMX] at *; simp; omega, by show _ + _ ≤ 7178346; simp only [KM, NMX] at *; simp; omega⟩ (Nat.le_of_ble_eq_true rfl) rfl dL_law_1302) ?_
        refine j_istore C dL_law_1305 (by decide) (L' := [(6, .int r261), (0, .ref v0), (1, .ref v1), (2, .ref v2), (3, .ref v3), (4, .ref v4), (5, .int v5)]) rfl ?_
        refine j_aload_n C dL_law_1307 rfl 3 rfl ?_
        refine j_aload_n C dL_law_1308 rfl 1 rfl ?_
        refine j_iload C dL_law_1309 6 rfl ?_
        refine j_iconst C dL_law_1311 (v := (1 : Int32)) (by decide) ?_
        refine j_iadd C dL_law_1312 ?_
        refine j_iald C ho7 ho259 dL_law_1313 ?_
        refine j_aload_n C dL_law_1314 rfl 1 rfl ?_
        refine j_iload C dL_law_1315 6 rfl ?_
        refine j_iconst C dL_law_1317 (v := (2 : Int32)) (by decide) ?_
        refine j_iadd C dL_law_1318 ?_
        refine j_iald C ho7 ho260 dL_law_1319 ?_
        obtain ⟨ho262, h⟩ := ck_spec h
        obtain ⟨r263, M263, hq263, h⟩ := bnd2_spec h
        refine j_run1 (c_V C (As := [.int (M261.1 v0 ((v5 + (1 : Int32))).toNatClampNeg), .int (M261.1 v0 ((v5 + (2 : Int32))).toNatClampNeg)]) (rest := []) (ctX9_missing C.2.2.2.2.2.2.2.2.1 N Z hq263) kcRL_172 oyX9_missing (ci := 9) (T := TX9) (N := 23) rfl (by decide) ho262 ⟨by decide, by decide⟩ ⟨by show _ + _ ≤ 603072; simp only [KM, NMX] at *; simp; omega, by show _ + _ ≤ 7178346; simp only [KM, NMX] at *; simp; omega⟩ (Nat.le_of_ble_eq_true rfl) rfl dL_law_1320) ?_
        refine j_istore C dL_law_1323 (by decide) (L' := [(7, .int r263), (6, .int r261), (0, .ref v0), (1, .ref v1), (2, .ref v2), (3, .ref v3), (4, .ref v4), (5, .int v5)]) rfl ?_
        refine j_aload_n C dL_law_1325 rfl 4 rfl ?_
        obtain ⟨r264, M264, hq264, h⟩ := bnd2_spec h
        refine j_run1 (c_V C (As := []) (rest := []) (ctX9_thrown C.2.2.2.2.2.2.2.2.1 N Z hq264) kcRL_118 oyX9_thrown (ci := 9) (T := TX9) (N := 23) rfl (by decide) ho262 ⟨by decide, by decide⟩ ⟨by show _ + _ ≤ 603072; simp only [KM, NMX] at *; simp; omega, by show _ + _ ≤ 7178346; simp only [KM, NMX] at *; simp; omega⟩ (Nat.le_of_ble_eq_true rfl) rfl dL_law_1326) ?_
        refine j_iload C dL_law_1329 1 rfl ?_
        refine j_icmp_eq C dL_law_1331 (tgt := 1336) (by decide) (fun hc265 => ?_) (fun hc265 => ?_)
        · rw [if_pos hc265] at h
          refine j_iload C dL_law_1336 1 rfl ?_
          refine j_if_ne C dL_law_1338 (tgt := 1353) (by decide) (fun hc266 => ?_) (fun hc266 => ?_)
          · rw [if_neg hc266] at h
            refine j_goto C dL_law_1353 (tgt := 1870) (by decide) ?_
            refine j_iinc C dL_law_1870 7 rfl (v := (v5 + (5 : Int32))) (by first | rfl | decide) (by decide) (L' := [(5, .int (v5 + (5 : Int32))), (7, .int r263), (6, .int r261), (0, .ref v0), (1, .ref v1), (2, .ref v2), (3, .ref v3), (4, .ref v4)]) rfl ?_
            refine j_goto C dL_law_1873 (tgt := 28) (by decide) ?_
            refine j_sub (L' := [(0, .ref v0), (1, .ref v1), (2, .ref v2), (3, .ref v3), (4, .ref v4), (5, .int (v5 + (5 : Int32)))]) [3, 4, 5, 6, 7, 0] rfl ?_
            exact ih v0 v1 v2 v3 v4 (v5 + (5 : Int32)) M264 r M' _ _ (by omega) (by omega) h
          · rw [if_pos hc266] at h
            refine j_aload_n C dL_law_1341 rfl 5 rfl ?_
            refine j_iconst C dL_law_1342 (v := (0 : Int32)) (by decide) ?_
            obtain ⟨ho267, h⟩ := ck_spec h
            obtain ⟨ho268, h⟩ := ck_spec h
            refine j_lald C ho267 ho268 dL_law_1343 ?_
            refine j_iload C dL_law_1344 0 rfl ?_
            refine j_i2l C dL_law_1346 ?_
            refine j_lcmp C dL_law_1347 ?_
            refine j_if_eq C dL_law_1348 (tgt := 1353) (by decide) (fun hc269 => ?_) (fun hc269 => ?_)
            · rw [if_pos hc269] at h
              refine j_goto C dL_law_1353 (tgt := 1870) (by decide) ?_
              refine j_iinc C dL_law_1870 7 rfl (v := (v5 + (5 : Int32))) (by first | rfl | decide) (by decide) (L' := [(5, .int (v5 + (5 : Int32))), (7, .int r263), (6, .int r261), (0, .ref v0), (1, .ref v1), (2, .ref v2), (3, .ref v3), (4, .ref v4)]) rfl ?_
              refine j_goto C dL_law_1873 (tgt := 28) (by decide) ?_
              refine j_sub (L' := [(0, .ref v0), (1, .ref v1), (2, .ref v2), (3, .ref v3), (4, .ref v4), (5, .int (v5 + (5 : Int32)))]) [3, 4, 5, 6, 7, 0] rfl ?_
              exact ih v0 v1 v2 v3 v4 (v5 + (5 : Int32)) M264 r M' _ _ (by omega) (by omega) h
            · rw [if_neg hc269] at h
              refine j_iconst C dL_law_1351 (v := (0 : Int32)) (by decide) ?_
              cases h
        · rw [if_neg hc265] at h
          refine j_iconst C dL_law_1334 (v := (0 : Int32)) (by decide) ?_
          cases h
      rw [if_neg hc258] at h
      by_cases hc270 : ((M.1 v0 (v5).toNatClampNeg) &&& (31 : Int32)) = nI 17
      · rw [if_pos hc270] at h
        refine j_tableIn C dL_law_44 (by rw [hc270]; decide) (by rw [hc270]; decide) (off := 1312) (by rw [hc270]; rfl) (tgt := 1356) (by decide) ?_
        refine j_aload_n C dL_law_1356 rfl 1 rfl ?_
        refine j_aload_n C dL_law_1357 rfl 3 rfl ?_
        obtain ⟨r271, M271, hq271, h⟩ := bnd2_spec h
        refine j_run1 (c_SX C (As := [.ref v1, .ref v3]) (rest := []) (ctL_dismantling C.2.2.2.2.2.2.2.2.1 N Z hq271) kcRL_173 oyL_dismantling ⟨by decide, by decide⟩ ⟨by show _ + _ ≤ 603072; simp only [KM, NMX] at *; simp; omega, by show _ + _ ≤ 7178346; simp only [KM, NMX] at *; simp; omega⟩ (Nat.le_of_ble_eq_true rfl) rfl dL_law_1358) ?_
        refine j_istore C dL_law_1361 (by decide) (L' := [(6, .int r271), (0, .ref v0), (1, .ref v1), (2, .ref v2), (3, .ref v3), (4, .ref v4), (5, .int v5)]) rfl ?_
        refine j_aload_n C dL_law_1363 rfl 3 rfl ?_
        obtain ⟨ho272, h⟩ := ck_spec h
        obtain ⟨r273, M273, hq273, h⟩ := bnd2_spec h
        refine j_run1 (c_V C (As := []) (rest := []) (ctX9_dismantling C.2.2.2.2.2.2.2.2.1 N Z hq273) kcRL_176 oyX9_dismantling (ci := 9) (T := TX9) (N := 23) rfl (by decide) ho272 ⟨by decide, by decide⟩ ⟨by show _ + _ ≤ 603072; simp only [KM, NMX] at *; simp; omega, by show _ + _ ≤ 7178346; simp only [KM, NMX] at *; simp; omega⟩ (Nat.le_of_ble_eq_true rfl) rfl dL_law_1364) ?_
        refine j_istore C dL_law_1367 (by decide) (L' := [(7, .int r273), (6, .int r271), (0, .ref v0), (1, .ref v1), (2, .ref v2), (3, .ref v3), (4, .ref v4), (5, .int v5)]) rfl ?_
        refine j_aload_n C dL_law_1369 rfl 4 rfl ?_
        obtain ⟨r274, M274, hq274, h⟩ := bnd2_spec h
        refine j_run1 (c_V C (As := []) (rest := []) (ctX9_thrown C.2.2.2.2.2.2.2.2.1 N Z hq274) kcRL_118 oyX9_thrown (ci := 9) (T := TX9) (N := 23) rfl (by decide) ho272 ⟨by decide, by decide⟩ ⟨by show _ + _ ≤ 603072; simp only [KM, NMX] at *; simp; omega, by show _ + _ ≤ 7178346; simp only [KM, NMX] at *; simp; omega⟩ (Nat.le_of_ble_eq_true rfl) rfl dL_law_1370) ?_
        refine j_iload C dL_law_1373 1 rfl ?_
        refine j_icmp_eq C dL_law_1375 (tgt := 1380) (by decide) (fun hc275 => ?_) (fun hc275 => ?_)
        · rw [if_pos hc275] at h
          refine j_iload C dL_law_1380 1 rfl ?_
          refine j_if_ne C dL_law_1382 (tgt := 1397) (by decide) (fun hc276 => ?_) (fun hc276 => ?_)
          · rw [if_neg hc276] at h
            refine j_goto C dL_law_1397 (tgt := 1870) (by decide) ?_
            refine j_iinc C dL_law_1870 7 rfl (v := (v5 + (5 : Int32))) (by first | rfl | decide) (by decide) (L' := [(5, .int (v5 + (5 : Int32))), (7, .int r273), (6, .int r271), (0, .ref v0), (1, .ref v1), (2, .ref v2), (3, .ref v3), (4, .ref v4)]) rfl ?_
            refine j_goto C dL_law_1873 (tgt := 28) (by decide) ?_
            refine j_sub (L' := [(0, .ref v0), (1, .ref v1), (2, .ref v2), (3, .ref v3), (4, .ref v4), (5, .int (v5 + (5 : Int32)))]) [3, 4, 5, 6, 7, 0] rfl ?_
            exact ih v0 v1 v2 v3 v4 (v5 + (5 : Int32)) M274 r M' _ _ (by omega) (by omega) h
          · rw [if_pos hc276] at h
            refine j_aload_n C dL_law_1385 rfl 5 rfl ?_
            refine j_iconst C dL_law_1386 (v := (0 : Int32)) (by decide) ?_
            obtain ⟨ho277, h⟩ := ck_spec h
            obtain ⟨ho278, h⟩ := ck_spec h
            refine j_lald C ho277 ho278 dL_law_1387 ?_
            refine j_iload C dL_law_1388 0 rfl ?_
            refine j_i2l C dL_law_1390 ?_
            refine j_lcmp C dL_law_1391 ?_
            refine j_if_eq C dL_law_1392 (tgt := 1397) (by decide) (fun hc279 => ?_) (fun hc279 => ?_)
            · rw [if_pos hc279] at h
              refine j_goto C dL_law_1397 (tgt := 1870) (by decide) ?_
              refine j_iinc C dL_law_1870 7 rfl (v := (v5 + (5 : Int32))) (by first | rfl | decide) (by decide) (L' := [(5, .int (v5 + (5 : Int32))), (7, .int r273), (6, .int r271), (0, .ref v0), (1, .ref v1), (2, .ref v2), (3, .ref v3), (4, .ref v4)]) rfl ?_
              refine j_goto C dL_law_1873 (tgt := 28) (by decide) ?_
              refine j_sub (L' := [(0, .ref v0), (1, .ref v1), (2, .ref v2), (3, .ref v3), (4, .ref v4), (5, .int (v5 + (5 : Int32)))]) [3, 4, 5, 6, 7, 0] rfl ?_
              exact ih v0 v1 v2 v3 v4 (v5 + (5 : Int32)) M274 r M' _ _ (by omega) (by omega) h
            · rw [if_neg hc279] at h
              refine j_iconst C dL_law_1395 (v := (0 : Int32)) (by decide) ?_
              cases h
        · rw [if_neg hc275] at h
          refine j_iconst C dL_law_1378 (v := (0 : Int32)) (by decide) ?_
          cases h
      rw [if_neg hc270] at h
      by_cases hc280 : ((M.1 v0 (v5).toNatClampNeg) &&& (31 : Int32)) = nI 18
      · rw [if_pos hc280] at h
        refine j_tableIn C dL_law_44 (by rw [hc280]; decide) (by rw [hc280]; decide) (off := 1356) (by rw [hc280]; rfl) (tgt := 1400) (by decide) ?_
        refine j_aload_n C dL_law_1400 rfl 1 rfl ?_
        refine j_aload_n C dL_law_1401 rfl 0 rfl ?_
        refine j_iload C dL_law_1402 5 rfl ?_
        refine j_iconst C dL_law_1404 (v := (1 : Int32)) (by decide) ?_
        refine j_iadd C dL_law_1405 ?_
        obtain ⟨ho281, h⟩ := ck_spec h
        refine j_iald C ho7 ho281 dL_law_1406 ?_
        refine j_aload_n C dL_law_1407 rfl 0 rfl ?_
        refine j_iload C dL_law_1408 5 rfl ?_
        refine j_iconst C dL_law_1410 (v := (2 : Int32)) (by decide) ?_
        refine j_iadd C dL_law_1411 ?_
        obtain ⟨ho282, h⟩ := ck_spec h
        refine j_iald C ho7 ho282 dL_law_1412 ?_
        refine j_aload_n C dL_law_1413 rfl 3 rfl ?_
        obtain ⟨r283, M283, hq283, h⟩ := bnd2_spec h
        refine j_run1 (c_SX C (As := [.ref v1, .int (M.1 v0 ((v5 + (1 : Int32))).toNatClampNeg), .int (M.1 v0 ((v5 + (2 : Int32))).toNatClampNeg), .ref v3]) (rest := []) (ctL_work C.2.2.2.2.2.2.2.2.1 N Z hq283) kcRL_177 oyL_work ⟨by decide, by decide⟩ ⟨by show _ + _ ≤ 603072; simp only [KM, NMX] at *; simp; omega, by show _ + _ ≤ 7178346; simp only [KM, NMX] at *; simp; omega⟩ (Nat.le_of_ble_eq_true rfl) rfl dL_law_1414) ?_
        refine j_istore C dL_law_1417 (by decide) (L' := [(6, .int r283), (0, .ref v0), (1, .ref v1), (2, .ref v2), (3, .ref v3), (4, .ref v4), (5, .int v5)]) rfl ?_
        refine j_aload_n C dL_law_1419 rfl 3 rfl ?_
        refine j_aload_n C dL_law_1420 rfl 1 rfl ?_
        refine j_iload C dL_law_1421 6 rfl ?_
        refine j_iconst C dL_law_1423 (v := (1 : Int32)) (by decide) ?_
        refine j_iadd C dL_law_1424 ?_
        refine j_iald C ho7 ho281 dL_law_1425 ?_
        refine j_aload_n C dL_law_1426 rfl 1 rfl ?_
        refine j_iload C dL_law_1427 6 rfl ?_
        refine j_iconst C dL_law_1429 (v := (2 : Int32)) (by decide) ?_
        refine j_iadd C dL_law_1430 ?_
        refine j_iald C ho7 ho282 dL_law_1431 ?_
        obtain ⟨ho284, h⟩ := ck_spec h
        obtain ⟨r285, M285, hq285, h⟩ := bnd2_spec h
        refine j_run1 (c_V C (As := [.int (M283.1 v0 ((v5 + (1 : Int32))).toNatClampNeg), .int (M283.1 v0 ((v5 + (2 : Int32))).toNatClampNeg)]) (rest := []) (ctX9_work C.2.2.2.2.2.2.2.2.1 N Z hq285) kcRL_179 oyX9_work (ci := 9) (T := TX9) (N := 23) rfl (by decide) ho284 ⟨by decide, by decide⟩ ⟨by show _ + _ ≤ 603072; simp only [KM, NMX] at *; simp; omega, by show _ + _ ≤ 7178346; simp only [KM, NMX] at *; simp; omega⟩ (Nat.le_of_ble_eq_true rfl) rfl dL_law_1432) ?_
        refine j_istore C dL_law_1435 (by decide) (L' := [(7, .int r285), (6, .int r283), (0, .ref v0), (1, .ref v1), (2, .ref v2), (3, .ref v3), (4, .ref v4), (5, .int v5)]) rfl ?_
        refine j_aload_n C dL_law_1437 rfl 4 rfl ?_
        obtain ⟨r286, M286, hq286, h⟩ := bnd2_spec h
        refine j_run1 (c_V C (As := []) (rest := []) (ctX9_thrown C.2.2.2.2.2.2.2.2.1 N Z hq286) kcRL_118 oyX9_thrown (ci := 9) (T := TX9) (N := 23) rfl (by decide) ho284 ⟨by decide, by decide⟩ ⟨by show _ + _ ≤ 603072; simp only [KM, NMX] at *; simp; omega, by show _ + _ ≤ 7178346; simp only [KM, NMX] at *; simp; omega⟩ (Nat.le_of_ble_eq_true rfl) rfl dL_law_1438) ?_
        refine j_iload C dL_law_1441 1 rfl ?_
        refine j_icmp_eq C dL_law_1443 (tgt := 1448) (by decide) (fun hc287 => ?_) (fun hc287 => ?_)
        · rw [if_pos hc287] at h
          refine j_iload C dL_law_1448 1 rfl ?_
          refine j_if_ne C dL_law_1450 (tgt := 1465) (by decide) (fun hc288 => ?_) (fun hc288 => ?_)
          · rw [if_neg hc288] at h
            refine j_goto C dL_law_1465 (tgt := 1870) (by decide) ?_
            refine j_iinc C dL_law_1870 7 rfl (v := (v5 + (5 : Int32))) (by first | rfl | decide) (by decide) (L' := [(5, .int (v5 + (5 : Int32))), (7, .int r285), (6, .int r283), (0, .ref v0), (1, .ref v1), (2, .ref v2), (3, .ref v3), (4, .ref v4)]) rfl ?_
            refine j_goto C dL_law_1873 (tgt := 28) (by decide) ?_
            refine j_sub (L' := [(0, .ref v0), (1, .ref v1), (2, .ref v2), (3, .ref v3), (4, .ref v4), (5, .int (v5 + (5 : Int32)))]) [3, 4, 5, 6, 7, 0] rfl ?_
            exact ih v0 v1 v2 v3 v4 (v5 + (5 : Int32)) M286 r M' _ _ (by omega) (by omega) h
          · rw [if_pos hc288] at h
            refine j_aload_n C dL_law_1453 rfl 5 rfl ?_
            refine j_iconst C dL_law_1454 (v := (0 : Int32)) (by decide) ?_
            obtain ⟨ho289, h⟩ := ck_spec h
            obtain ⟨ho290, h⟩ := ck_spec h
            refine j_lald C ho289 ho290 dL_law_1455 ?_
            refine j_iload C dL_law_1456 0 rfl ?_
            refine j_i2l C dL_law_1458 ?_
            refine j_lcmp C dL_law_1459 ?_
            refine j_if_eq C dL_law_1460 (tgt := 1465) (by decide) (fun hc291 => ?_) (fun hc291 => ?_)
            · rw [if_pos hc291] at h
              refine j_goto C dL_law_1465 (tgt := 1870) (by decide) ?_
              refine j_iinc C dL_law_1870 7 rfl (v := (v5 + (5 : Int32))) (by first | rfl | decide) (by decide) (L' := [(5, .int (v5 + (5 : Int32))), (7, .int r285), (6, .int r283), (0, .ref v0), (1, .ref v1), (2, .ref v2), (3, .ref v3), (4, .ref v4)]) rfl ?_
              refine j_goto C dL_law_1873 (tgt := 28) (by decide) ?_
              refine j_sub (L' := [(0, .ref v0), (1, .ref v1), (2, .ref v2), (3, .ref v3), (4, .ref v4), (5, .int (v5 + (5 : Int32)))]) [3, 4, 5, 6, 7, 0] rfl ?_
              exact ih v0 v1 v2 v3 v4 (v5 + (5 : Int32)) M286 r M' _ _ (by omega) (by omega) h
            · rw [if_neg hc291] at h
              refine j_iconst C dL_law_1463 (v := (0 : Int32)) (by decide) ?_
              cases h
        · rw [if_neg hc287] at h
          refine j_iconst C dL_law_1446 (v := (0 : Int32)) (by decide) ?_
          cases h
      rw [if_neg hc280] at h
      by_cases hc292 : ((M.1 v0 (v5).toNatClampNeg) &&& (31 : Int32)) = nI 19
      · rw [if_pos hc292] at h
        refine j_tableIn C dL_law_44 (by rw [hc292]; decide) (by rw [hc292]; decide) (off := 1424) (by rw [hc292]; rfl) (tgt := 1468) (by decide) ?_
        refine j_aload_n C dL_law_1468 rfl 1 rfl ?_
        refine j_aload_n C dL_law_1469 rfl 0 rfl ?_
        refine j_iload C dL_law_1470 5 rfl ?_
        refine j_iconst C dL_law_1472 (v := (1 : Int32)) (by decide) ?_
        refine j_iadd C dL_law_1473 ?_
        obtain ⟨ho293, h⟩ := ck_spec h
        refine j_iald C ho7 ho293 dL_law_1474 ?_
        refine j_aload_n C dL_law_1475 rfl 3 rfl ?_
        obtain ⟨r294, M294, hq294, h⟩ := bnd2_spec h
        refine j_run1 (c_SX C (As := [.ref v1, .int (M.1 v0 ((v5 + (1 : Int32))).toNatClampNeg), .ref v3]) (rest := []) (ctL_account C.2.2.2.2.2.2.2.2.1 N Z hq294) kcRL_180 oyL_account ⟨by decide, by decide⟩ ⟨by show _ + _ ≤ 603072; simp only [KM, NMX] at *; simp; omega, by show _ + _ ≤ 7178346; simp only [KM, NMX] at *; simp; omega⟩ (Nat.le_of_ble_eq_true rfl) rfl dL_law_1476) ?_
        refine j_istore C dL_law_1479 (by decide) (L' := [(6, .int r294), (0, .ref v0), (1, .ref v1), (2, .ref v2), (3, .ref v3), (4, .ref v4), (5, .int v5)]) rfl ?_
        refine j_aload_n C dL_law_1481 rfl 3 rfl ?_
        refine j_aload_n C dL_law_1482 rfl 1 rfl ?_
        refine j_iload C dL_law_1483 6 rfl ?_
        refine j_iconst C dL_law_1485 (v := (1 : Int32)) (by decide) ?_
        refine j_iadd C dL_law_1486 ?_
        refine j_iald C ho7 ho293 dL_law_1487 ?_
        obtain ⟨ho295, h⟩ := ck_spec h
        obtain ⟨r296, M296, hq296, h⟩ := bnd2_spec h
        refine j_run1 (c_V C (As := [.int (M294.1 v0 ((v5 + (1 : Int32))).toNatClampNeg)]) (rest := []) (ctX9_account C.2.2.2.2.2.2.2.2.1 N Z hq296) kcRL_182 oyX9_account (ci := 9) (T := TX9) (N := 23) rfl (by decide) ho295 ⟨by decide, by decide⟩ ⟨by show _ + _ ≤ 603072; simp only [KM, NMX] at *; simp; omega, by show _ + _ ≤ 7178346; simp only [KM, NMX] at *; simp; omega⟩ (Nat.le_of_ble_eq_true rfl) rfl dL_law_1488) ?_
        refine j_istore C dL_law_1491 (by decide) (L' := [(7, .int r296), (6, .int r294), (0, .ref v0), (1, .ref v1), (2, .ref v2), (3, .ref v3), (4, .ref v4), (5, .int v5)]) rfl ?_
        refine j_aload_n C dL_law_1493 rfl 4 rfl ?_
        obtain ⟨r297, M297, hq297, h⟩ := bnd2_spec h
        refine j_run1 (c_V C (As := []) (rest := []) (ctX9_thrown C.2.2.2.2.2.2.2.2.1 N Z hq297) kcRL_118 oyX9_thrown (ci := 9) (T := TX9) (N := 23) rfl (by decide) ho295 ⟨by decide, by decide⟩ ⟨by show _ + _ ≤ 603072; simp only [KM, NMX] at *; simp; omega, by show _ + _ ≤ 7178346; simp only [KM, NMX] at *; simp; omega⟩ (Nat.le_of_ble_eq_true rfl) rfl dL_law_1494) ?_
        refine j_iload C dL_law_1497 1 rfl ?_
        refine j_icmp_eq C dL_law_1499 (tgt := 1504) (by decide) (fun hc298 => ?_) (fun hc298 => ?_)
        · rw [if_pos hc298] at h
          refine j_iload C dL_law_1504 1 rfl ?_
          refine j_if_ne C dL_law_1506 (tgt := 1521) (by decide) (fun hc299 => ?_) (fun hc299 => ?_)
          · rw [if_neg hc299] at h
            refine j_goto C dL_law_1521 (tgt := 1870) (by decide) ?_
            refine j_iinc C dL_law_1870 7 rfl (v := (v5 + (5 : Int32))) (by first | rfl | decide) (by decide) (L' := [(5, .int (v5 + (5 : Int32))), (7, .int r296), (6, .int r294), (0, .ref v0), (1, .ref v1), (2, .ref v2), (3, .ref v3), (4, .ref v4)]) rfl ?_
            refine j_goto C dL_law_1873 (tgt := 28) (by decide) ?_
            refine j_sub (L' := [(0, .ref v0), (1, .ref v1), (2, .ref v2), (3, .ref v3), (4, .ref v4), (5, .int (v5 + (5 : Int32)))]) [3, 4, 5, 6, 7, 0] rfl ?_
            exact ih v0 v1 v2 v3 v4 (v5 + (5 : Int32)) M297 r M' _ _ (by omega) (by omega) h
          · rw [if_pos hc299] at h
            refine j_aload_n C dL_law_1509 rfl 5 rfl ?_
            refine j_iconst C dL_law_1510 (v := (0 : Int32)) (by decide) ?_
            obtain ⟨ho300, h⟩ := ck_spec h
            obtain ⟨ho301, h⟩ := ck_spec h
            refine j_lald C ho300 ho301 dL_law_1511 ?_
            refine j_iload C dL_law_1512 0 rfl ?_
            refine j_i2l C dL_law_1514 ?_
            refine j_lcmp C dL_law_1515 ?_
            refine j_if_eq C dL_law_1516 (tgt := 1521) (by decide) (fun hc302 => ?_) (fun hc302 => ?_)
            · rw [if_pos hc302] at h
              refine j_goto C dL_law_1521 (tgt := 1870) (by decide) ?_
              refine j_iinc C dL_law_1870 7 rfl (v := (v5 + (5 : Int32))) (by first | rfl | decide) (by decide) (L' := [(5, .int (v5 + (5 : Int32))), (7, .int r296), (6, .int r294), (0, .ref v0), (1, .ref v1), (2, .ref v2), (3, .ref v3), (4, .ref v4)]) rfl ?_
              refine j_goto C dL_law_1873 (tgt := 28) (by decide) ?_
              refine j_sub (L' := [(0, .ref v0), (1, .ref v1), (2, .ref v2), (3, .ref v3), (4, .ref v4), (5, .int (v5 + (5 : Int32)))]) [3, 4, 5, 6, 7, 0] rfl ?_
              exact ih v0 v1 v2 v3 v4 (v5 + (5 : Int32)) M297 r M' _ _ (by omega) (by omega) h
            · rw [if_neg hc302] at h
              refine j_iconst C dL_law_1519 (v := (0 : Int32)) (by decide) ?_
              cases h
        · rw [if_neg hc298] at h
          refine j_iconst C dL_law_1502 (v := (0 : Int32)) (by decide) ?_
          cases h
      rw [if_neg hc292] at h
      by_cases hc303 : ((M.1 v0 (v5).toNatClampNeg) &&& (31 : Int32)) = nI 20
      · rw [if_pos hc303] at h
        refine j_tableIn C dL_law_44 (by rw [hc303]; decide) (by rw [hc303]; decide) (off := 1480) (by rw [hc303]; rfl) (tgt := 1524) (by decide) ?_
        refine j_aload_n C dL_law_1524 rfl 1 rfl ?_
        refine j_aload_n C dL_law_1525 rfl 0 rfl ?_
        refine j_iload C dL_law_1526 5 rfl ?_
        refine j_iconst C dL_law_1528 (v := (1 : Int32)) (by decide) ?_
        refine j_iadd C dL_law_1529 ?_
        obtain ⟨ho304, h⟩ := ck_spec h
        refine j_iald C ho7 ho304 dL_law_1530 ?_
        refine j_aload C dL_law_1531 4 rfl ?_
        obtain ⟨r305, M305, hq305, h⟩ := bnd2_spec h
        refine j_run1 (c_SX C (As := [.ref v1, .int (M.1 v0 ((v5 + (1 : Int32))).toNatClampNeg), .ref v4]) (rest := []) (ctL_use C.2.2.2.2.2.2.2.2.1 N Z hq305) kcRL_183 oyL_use ⟨by decide, by decide⟩ ⟨by show _ + _ ≤ 603072; simp only [KM, NMX] at *; simp; omega, by show _ + _ ≤ 7178346; simp only [KM, NMX] at *; simp; omega⟩ (Nat.le_of_ble_eq_true rfl) rfl dL_law_1533) ?_
        refine j_istore C dL_law_1536 (by decide) (L' := [(6, .int r305), (0, .ref v0), (1, .ref v1), (2, .ref v2), (3, .ref v3), (4, .ref v4), (5, .int v5)]) rfl ?_
        refine j_aload_n C dL_law_1538 rfl 3 rfl ?_
        refine j_aload_n C dL_law_1539 rfl 1 rfl ?_
        refine j_iload C dL_law_1540 6 rfl ?_
        refine j_iconst C dL_law_1542 (v := (1 : Int32)) (by decide) ?_
        refine j_iadd C dL_law_1543 ?_
        refine j_iald C ho7 ho304 dL_law_1544 ?_
        obtain ⟨ho306, h⟩ := ck_spec h
        obtain ⟨r307, M307, hq307, h⟩ := bnd2_spec h
        refine j_run1 (c_V C (As := [.int (M305.1 v0 ((v5 + (1 : Int32))).toNatClampNeg)]) (rest := []) (ctX9_use C.2.2.2.2.2.2.2.2.1 N Z hq307) kcRL_186 oyX9_use (ci := 9) (T := TX9) (N := 23) rfl (by decide) ho306 ⟨by decide, by decide⟩ ⟨by show _ + _ ≤ 603072; simp only [KM, NMX] at *; simp; omega, by show _ + _ ≤ 7178346; simp only [KM, NMX] at *; simp; omega⟩ (Nat.le_of_ble_eq_true rfl) rfl dL_law_1545) ?_
        refine j_fstore C dL_law_1548 (by decide) (L' := [(7, .float r307), (6, .int r305), (0, .ref v0), (1, .ref v1), (2, .ref v2), (3, .ref v3), (4, .ref v4), (5, .int v5)]) rfl ?_
        refine j_aload_n C dL_law_1550 rfl 4 rfl ?_
        obtain ⟨r308, M308, hq308, h⟩ := bnd2_spec h
        refine j_run1 (c_V C (As := []) (rest := []) (ctX9_thrown C.2.2.2.2.2.2.2.2.1 N Z hq308) kcRL_118 oyX9_thrown (ci := 9) (T := TX9) (N := 23) rfl (by decide) ho306 ⟨by decide, by decide⟩ ⟨by show _ + _ ≤ 603072; simp only [KM, NMX] at *; simp; omega, by show _ + _ ≤ 7178346; simp only [KM, NMX] at *; simp; omega⟩ (Nat.le_of_ble_eq_true rfl) rfl dL_law_1551) ?_
        refine j_iload C dL_law_1554 1 rfl ?_
        refine j_icmp_eq C dL_law_1556 (tgt := 1561) (by decide) (fun hc309 => ?_) (fun hc309 => ?_)
        · rw [if_pos hc309] at h
          refine j_iload C dL_law_1561 1 rfl ?_
          refine j_if_ne C dL_law_1563 (tgt := 1599) (by decide) (fun hc310 => ?_) (fun hc310 => ?_)
          · rw [if_neg hc310] at h
            refine j_goto C dL_law_1599 (tgt := 1870) (by decide) ?_
            refine j_iinc C dL_law_1870 7 rfl (v := (v5 + (5 : Int32))) (by first | rfl | decide) (by decide) (L' := [(5, .int (v5 + (5 : Int32))), (7, .float r307), (6, .int r305), (0, .ref v0), (1, .ref v1), (2, .ref v2), (3, .ref v3), (4, .ref v4)]) rfl ?_
            refine j_goto C dL_law_1873 (tgt := 28) (by decide) ?_
            refine j_sub (L' := [(0, .ref v0), (1, .ref v1), (2, .ref v2), (3, .ref v3), (4, .ref v4), (5, .int (v5 + (5 : Int32)))]) [3, 4, 5, 6, 7, 0] rfl ?_
            exact ih v0 v1 v2 v3 v4 (v5 + (5 : Int32)) M308 r M' _ _ (by omega) (by omega) h
          · rw [if_pos hc310] at h
            refine j_aload C dL_law_1566 6 rfl ?_
            refine j_iconst C dL_law_1568 (v := (0 : Int32)) (by decide) ?_
            obtain ⟨ho311, h⟩ := ck_spec h
            obtain ⟨ho312, h⟩ := ck_spec h
            refine j_dald C ho311 ho312 dL_law_1569 ?_
            refine j_fload C dL_law_1570 0 rfl ?_
            obtain ⟨ho313, h⟩ := ck_spec h
            refine j_f2d C dL_law_1572 (nn64_spec ho313) ?_
            refine j_dcmp C dL_law_1573 ?_
            refine j_if_eq C dL_law_1574 (tgt := 1599) (by decide) (fun hc314 => ?_) (fun hc314 => ?_)
            · rw [if_pos hc314] at h
              refine j_goto C dL_law_1599 (tgt := 1870) (by decide) ?_
              refine j_iinc C dL_law_1870 7 rfl (v := (v5 + (5 : Int32))) (by first | rfl | decide) (by decide) (L' := [(5, .int (v5 + (5 : Int32))), (7, .float r307), (6, .int r305), (0, .ref v0), (1, .ref v1), (2, .ref v2), (3, .ref v3), (4, .ref v4)]) rfl ?_
              refine j_goto C dL_law_1873 (tgt := 28) (by decide) ?_
              refine j_sub (L' := [(0, .ref v0), (1, .ref v1), (2, .ref v2), (3, .ref v3), (4, .ref v4), (5, .int (v5 + (5 : Int32)))]) [3, 4, 5, 6, 7, 0] rfl ?_
              exact ih v0 v1 v2 v3 v4 (v5 + (5 : Int32)) M308 r M' _ _ (by omega) (by omega) h
            · rw [if_neg hc314] at h
              refine j_aload C dL_law_1577 6 rfl ?_
              refine j_iconst C dL_law_1579 (v := (0 : Int32)) (by decide) ?_
              refine j_dald C ho311 ho312 dL_law_1580 ?_
              refine j_aload C dL_law_1581 6 rfl ?_
              refine j_iconst C dL_law_1583 (v := (0 : Int32)) (by decide) ?_
              refine j_dald C ho311 ho312 dL_law_1584 ?_
              refine j_dcmp C dL_law_1585 ?_
              refine j_if_eq C dL_law_1586 (tgt := 1597) (by decide) (fun hc315 => ?_) (fun hc315 => ?_)
              · rw [if_pos hc315] at h
                refine j_iconst C dL_law_1597 (v := (0 : Int32)) (by decide) ?_
                cases h
              · rw [if_neg hc315] at h
                refine j_fload C dL_law_1589 0 rfl ?_
                refine j_fload C dL_law_1591 0 rfl ?_
                refine j_fcmp C dL_law_1593 ?_
                refine j_if_ne C dL_law_1594 (tgt := 1599) (by decide) (fun hc316 => ?_) (fun hc316 => ?_)
                · rw [if_neg hc316] at h
                  refine j_goto C dL_law_1599 (tgt := 1870) (by decide) ?_
                  refine j_iinc C dL_law_1870 7 rfl (v := (v5 + (5 : Int32))) (by first | rfl | decide) (by decide) (L' := [(5, .int (v5 + (5 : Int32))), (7, .float r307), (6, .int r305), (0, .ref v0), (1, .ref v1), (2, .ref v2), (3, .ref v3), (4, .ref v4)]) rfl ?_
                  refine j_goto C dL_law_1873 (tgt := 28) (by decide) ?_
                  refine j_sub (L' := [(0, .ref v0), (1, .ref v1), (2, .ref v2), (3, .ref v3), (4, .ref v4), (5, .int (v5 + (5 : Int32)))]) [3, 4, 5, 6, 7, 0] rfl ?_
                  exact ih v0 v1 v2 v3 v4 (v5 + (5 : Int32)) M308 r M' _ _ (by omega) (by omega) h
                · rw [if_pos hc316] at h
                  refine j_iconst C dL_law_1597 (v := (0 : Int32)) (by decide) ?_
                  cases h
        · rw [if_neg hc309] at h
          refine j_iconst C dL_law_1559 (v := (0 : Int32)) (by decide) ?_
          cases h
      rw [if_neg hc303] at h
      by_cases hc317 : ((M.1 v0 (v5).toNatClampNeg) &&& (31 : Int32)) = nI 21
      · rw [if_pos hc317] at h
        refine j_tableIn C dL_law_44 (by rw [hc317]; decide) (by rw [hc317]; decide) (off := 1558) (by rw [hc317]; rfl) (tgt := 1602) (by decide) ?_
        refine j_aload_n C dL_law_1602 rfl 1 rfl ?_
        refine j_aload C dL_law_1603 4 rfl ?_
        obtain ⟨r318, M318, hq318, h⟩ := bnd2_spec h
        refine j_run1 (c_SX C (As := [.ref v1, .ref v4]) (rest := []) (ctL_meanClass C.2.2.2.2.2.2.2.2.1 N Z hq318) kcRL_187 oyL_meanClass ⟨by decide, by decide⟩ ⟨by show _ + _ ≤ 603072; simp only [KM, NMX] at *; simp; omega, by show _ + _ ≤ 7178346; simp only [KM, NMX] at *; simp; omega⟩ (Nat.le_of_ble_eq_true rfl) rfl dL_law_1605) ?_
        refine j_istore C dL_law_1608 (by decide) (L' := [(6, .int r318), (0, .ref v0), (1, .ref v1), (2, .ref v2), (3, .ref v3), (4, .ref v4), (5, .int v5)]) rfl ?_
        refine j_aload_n C dL_law_1610 rfl 3 rfl ?_
        obtain ⟨ho319, h⟩ := ck_spec h
        obtain ⟨r320, M320, hq320, h⟩ := bnd2_spec h
        refine j_run1 (c_V C (As := []) (rest := []) (ctX9_meanClass C.2.2.2.2.2.2.2.2.1 N Z hq320) kcRL_190 oyX9_meanClass (ci := 9) (T := TX9) (N := 23) rfl (by decide) ho319 ⟨by decide, by decide⟩ ⟨by show _ + _ ≤ 603072; simp only [KM, NMX] at *; simp; omega, by show _ + _ ≤ 7178346; simp only [KM, NMX] at *; simp; omega⟩ (Nat.le_of_ble_eq_true rfl) rfl dL_law_1611) ?_
        refine j_dstore C dL_law_1614 (by decide) (L' := [(7, .double r320), (6, .int r318), (0, .ref v0), (1, .ref v1), (2, .ref v2), (3, .ref v3), (4, .ref v4), (5, .int v5)]) rfl ?_
        refine j_aload_n C dL_law_1616 rfl 4 rfl ?_
        obtain ⟨r321, M321, hq321, h⟩ := bnd2_spec h
        refine j_run1 (c_V C (As := []) (rest := []) (ctX9_thrown C.2.2.2.2.2.2.2.2.1 N Z hq321) kcRL_118 oyX9_thrown (ci := 9) (T := TX9) (N := 23) rfl (by decide) ho319 ⟨by decide, by decide⟩ ⟨by show _ + _ ≤ 603072; simp only [KM, NMX] at *; simp; omega, by show _ + _ ≤ 7178346; simp only [KM, NMX] at *; simp; omega⟩ (Nat.le_of_ble_eq_true rfl) rfl dL_law_1617) ?_
        refine j_iload C dL_law_1620 1 rfl ?_
        refine j_icmp_eq C dL_law_1622 (tgt := 1627) (by decide) (fun hc322 => ?_) (fun hc322 => ?_)
        · rw [if_pos hc322] at h
          refine j_iload C dL_law_1627 1 rfl ?_
          refine j_if_ne C dL_law_1629 (tgt := 1664) (by decide) (fun hc323 => ?_) (fun hc323 => ?_)
          · rw [if_neg hc323] at h
            refine j_goto C dL_law_1664 (tgt := 1870) (by decide) ?_
            refine j_iinc C dL_law_1870 7 rfl (v := (v5 + (5 : Int32))) (by first | rfl | decide) (by decide) (L' := [(5, .int (v5 + (5 : Int32))), (7, .double r320), (6, .int r318), (0, .ref v0), (1, .ref v1), (2, .ref v2), (3, .ref v3), (4, .ref v4)]) rfl ?_
            refine j_goto C dL_law_1873 (tgt := 28) (by decide) ?_
            refine j_sub (L' := [(0, .ref v0), (1, .ref v1), (2, .ref v2), (3, .ref v3), (4, .ref v4), (5, .int (v5 + (5 : Int32)))]) [3, 4, 5, 6, 7, 0] rfl ?_
            exact ih v0 v1 v2 v3 v4 (v5 + (5 : Int32)) M321 r M' _ _ (by omega) (by omega) h
          · rw [if_pos hc323] at h
            refine j_aload C dL_law_1632 6 rfl ?_
            refine j_iconst C dL_law_1634 (v := (0 : Int32)) (by decide) ?_
            obtain ⟨ho324, h⟩ := ck_spec h
            obtain ⟨ho325, h⟩ := ck_spec h
            refine j_dald C ho324 ho325 dL_law_1635 ?_
            refine j_dload C dL_law_1636 0 rfl ?_
            refine j_dcmp C dL_law_1638 ?_
            refine j_if_eq C dL_law_1639 (tgt := 1664) (by decide) (fun hc326 => ?_) (fun hc326 => ?_)
            · rw [if_pos hc326] at h
              refine j_goto C dL_law_1664 (tgt := 1870) (by decide) ?_
              refine j_iinc C dL_law_1870 7 rfl (v := (v5 + (5 : Int32))) (by first | rfl | decide) (by decide) (L' := [(5, .int (v5 + (5 : Int32))), (7, .double r320), (6, .int r318), (0, .ref v0), (1, .ref v1), (2, .ref v2), (3, .ref v3), (4, .ref v4)]) rfl ?_
              refine j_goto C dL_law_1873 (tgt := 28) (by decide) ?_
              refine j_sub (L' := [(0, .ref v0), (1, .ref v1), (2, .ref v2), (3, .ref v3), (4, .ref v4), (5, .int (v5 + (5 : Int32)))]) [3, 4, 5, 6, 7, 0] rfl ?_
              exact ih v0 v1 v2 v3 v4 (v5 + (5 : Int32)) M321 r M' _ _ (by omega) (by omega) h
            · rw [if_neg hc326] at h
              refine j_aload C dL_law_1642 6 rfl ?_
              refine j_iconst C dL_law_1644 (v := (0 : Int32)) (by decide) ?_
              refine j_dald C ho324 ho325 dL_law_1645 ?_
              refine j_aload C dL_law_1646 6 rfl ?_
              refine j_iconst C dL_law_1648 (v := (0 : Int32)) (by decide) ?_
              refine j_dald C ho324 ho325 dL_law_1649 ?_
              refine j_dcmp C dL_law_1650 ?_
              refine j_if_eq C dL_law_1651 (tgt := 1662) (by decide) (fun hc327 => ?_) (fun hc327 => ?_)
              · rw [if_pos hc327] at h
                refine j_iconst C dL_law_1662 (v := (0 : Int32)) (by decide) ?_
                cases h
              · rw [if_neg hc327] at h
                refine j_dload C dL_law_1654 0 rfl ?_
                refine j_dload C dL_law_1656 0 rfl ?_
                refine j_dcmp C dL_law_1658 ?_
                refine j_if_ne C dL_law_1659 (tgt := 1664) (by decide) (fun hc328 => ?_) (fun hc328 => ?_)
                · rw [if_neg hc328] at h
                  refine j_goto C dL_law_1664 (tgt := 1870) (by decide) ?_
                  refine j_iinc C dL_law_1870 7 rfl (v := (v5 + (5 : Int32))) (by first | rfl | decide) (by decide) (L' := [(5, .int (v5 + (5 : Int32))), (7, .double r320), (6, .int r318), (0, .ref v0), (1, .ref v1), (2, .ref v2), (3, .ref v3), (4, .ref v4)]) rfl ?_
                  refine j_goto C dL_law_1873 (tgt := 28) (by decide) ?_
                  refine j_sub (L' := [(0, .ref v0), (1, .ref v1), (2, .ref v2), (3, .ref v3), (4, .ref v4), (5, .int (v5 + (5 : Int32)))]) [3, 4, 5, 6, 7, 0] rfl ?_
                  exact ih v0 v1 v2 v3 v4 (v5 + (5 : Int32)) M321 r M' _ _ (by omega) (by omega) h
                · rw [if_pos hc328] at h
                  refine j_iconst C dL_law_1662 (v := (0 : Int32)) (by decide) ?_
                  cases h
        · rw [if_neg hc322] at h
          refine j_iconst C dL_law_1625 (v := (0 : Int32)) (by decide) ?_
          cases h
      rw [if_neg hc317] at h
      by_cases hc329 : ((M.1 v0 (v5).toNatClampNeg) &&& (31 : Int32)) = nI 22
      · rw [if_pos hc329] at h
        refine j_tableIn C dL_law_44 (by rw [hc329]; decide) (by rw [hc329]; decide) (off := 1623) (by rw [hc329]; rfl) (tgt := 1667) (by decide) ?_
        refine j_aload_n C dL_law_1667 rfl 1 rfl ?_
        refine j_aload_n C dL_law_1668 rfl 0 rfl ?_
        refine j_iload C dL_law_1669 5 rfl ?_
        refine j_iconst C dL_law_1671 (v := (1 : Int32)) (by decide) ?_
        refine j_iadd C dL_law_1672 ?_
        obtain ⟨ho330, h⟩ := ck_spec h
        refine j_iald C ho7 ho330 dL_law_1673 ?_
        refine j_i2c C dL_law_1674 ?_
        refine j_aload_n C dL_law_1675 rfl 3 rfl ?_
        obtain ⟨r331, M331, hq331, h⟩ := bnd2_spec h
        refine j_run1 (c_SX C (As := [.ref v1, .int ((((M.1 v0 ((v5 + (1 : Int32))).toNatClampNeg)).toUInt32 % 65536).toInt32), .ref v3]) (rest := []) (ctL_feed C.2.2.2.2.2.2.2.2.1 N Z hq331) kcRL_191 oyL_feed ⟨by decide, by decide⟩ ⟨by show _ + _ ≤ 603072; simp only [KM, NMX] at *; simp; omega, by show _ + _ ≤ 7178346; simp only [KM, NMX] at *; simp; omega⟩ (Nat.le_of_ble_eq_true rfl) rfl dL_law_1676) ?_
        refine j_istore C dL_law_1679 (by decide) (L' := [(6, .int r331), (0, .ref v0), (1, .ref v1), (2, .ref v2), (3, .ref v3), (4, .ref v4), (5, .int v5)]) rfl ?_
        refine j_aload_n C dL_law_1681 rfl 3 rfl ?_
        refine j_aload_n C dL_law_1682 rfl 1 rfl ?_
        refine j_iload C dL_law_1683 6 rfl ?_
        refine j_iconst C dL_law_1685 (v := (1 : Int32)) (by decide) ?_
        refine j_iadd C dL_law_1686 ?_
        refine j_iald C ho7 ho330 dL_law_1687 ?_
        refine j_i2c C dL_law_1688 ?_
        obtain ⟨ho332, h⟩ := ck_spec h
        obtain ⟨r333, M333, hq333, h⟩ := bnd2_spec h
        refine j_run1 (c_V C (As := [.int ((((M331.1 v0 ((v5 + (1 : Int32))).toNatClampNeg)).toUInt32 % 65536).toInt32)]) (rest := []) (ctX9_feed C.2.2.2.2.2.2.2.2.1 N Z hq333) kcRL_194 oyX9_feed (ci := 9) (T := TX9) (N := 23) rfl (by decide) ho332 ⟨by decide, by decide⟩ ⟨by show _ + _ ≤ 603072; simp only [KM, NMX] at *; simp; omega, by show _ + _ ≤ 7178346; simp only [KM, NMX] at *; simp; omega⟩ (Nat.le_of_ble_eq_true rfl) rfl dL_law_1689) ?_
        refine j_istore C dL_law_1692 (by decide) (L' := [(7, .int r333), (6, .int r331), (0, .ref v0), (1, .ref v1), (2, .ref v2), (3, .ref v3), (4, .ref v4), (5, .int v5)]) rfl ?_
        refine j_aload_n C dL_law_1694 rfl 4 rfl ?_
        obtain ⟨r334, M334, hq334, h⟩ := bnd2_spec h
        refine j_run1 (c_V C (As := []) (rest := []) (ctX9_thrown C.2.2.2.2.2.2.2.2.1 N Z hq334) kcRL_118 oyX9_thrown (ci := 9) (T := TX9) (N := 23) rfl (by decide) ho332 ⟨by decide, by decide⟩ ⟨by show _ + _ ≤ 603072; simp only [KM, NMX] at *; simp; omega, by show _ + _ ≤ 7178346; simp only [KM, NMX] at *; simp; omega⟩ (Nat.le_of_ble_eq_true rfl) rfl dL_law_1695) ?_
        refine j_iload C dL_law_1698 1 rfl ?_
        refine j_icmp_eq C dL_law_1700 (tgt := 1705) (by decide) (fun hc335 => ?_) (fun hc335 => ?_)
        · rw [if_pos hc335] at h
          refine j_iload C dL_law_1705 1 rfl ?_
          refine j_if_ne C dL_law_1707 (tgt := 1722) (by decide) (fun hc336 => ?_) (fun hc336 => ?_)
          · rw [if_neg hc336] at h
            refine j_goto C dL_law_1722 (tgt := 1870) (by decide) ?_
            refine j_iinc C dL_law_1870 7 rfl (v := (v5 + (5 : Int32))) (by first | rfl | decide) (by decide) (L' := [(5, .int (v5 + (5 : Int32))), (7, .int r333), (6, .int r331), (0, .ref v0), (1, .ref v1), (2, .ref v2), (3, .ref v3), (4, .ref v4)]) rfl ?_
            refine j_goto C dL_law_1873 (tgt := 28) (by decide) ?_
            refine j_sub (L' := [(0, .ref v0), (1, .ref v1), (2, .ref v2), (3, .ref v3), (4, .ref v4), (5, .int (v5 + (5 : Int32)))]) [3, 4, 5, 6, 7, 0] rfl ?_
            exact ih v0 v1 v2 v3 v4 (v5 + (5 : Int32)) M334 r M' _ _ (by omega) (by omega) h
          · rw [if_pos hc336] at h
            refine j_aload_n C dL_law_1710 rfl 5 rfl ?_
            refine j_iconst C dL_law_1711 (v := (0 : Int32)) (by decide) ?_
            obtain ⟨ho337, h⟩ := ck_spec h
            obtain ⟨ho338, h⟩ := ck_spec h
            refine j_lald C ho337 ho338 dL_law_1712 ?_
            refine j_iload C dL_law_1713 0 rfl ?_
            refine j_i2l C dL_law_1715 ?_
            refine j_lcmp C dL_law_1716 ?_
            refine j_if_eq C dL_law_1717 (tgt := 1722) (by decide) (fun hc339 => ?_) (fun hc339 => ?_)
            · rw [if_pos hc339] at h
              refine j_goto C dL_law_1722 (tgt := 1870) (by decide) ?_
              refine j_iinc C dL_law_1870 7 rfl (v := (v5 + (5 : Int32))) (by first | rfl | decide) (by decide) (L' := [(5, .int (v5 + (5 : Int32))), (7, .int r333), (6, .int r331), (0, .ref v0), (1, .ref v1), (2, .ref v2), (3, .ref v3), (4, .ref v4)]) rfl ?_
              refine j_goto C dL_law_1873 (tgt := 28) (by decide) ?_
              refine j_sub (L' := [(0, .ref v0), (1, .ref v1), (2, .ref v2), (3, .ref v3), (4, .ref v4), (5, .int (v5 + (5 : Int32)))]) [3, 4, 5, 6, 7, 0] rfl ?_
              exact ih v0 v1 v2 v3 v4 (v5 + (5 : Int32)) M334 r M' _ _ (by omega) (by omega) h
            · rw [if_neg hc339] at h
              refine j_iconst C dL_law_1720 (v := (0 : Int32)) (by decide) ?_
              cases h
        · rw [if_neg hc335] at h
          refine j_iconst C dL_law_1703 (v := (0 : Int32)) (by decide) ?_
          cases h
      rw [if_neg hc329] at h
      by_cases hc340 : ((M.1 v0 (v5).toNatClampNeg) &&& (31 : Int32)) = nI 23
      · rw [if_pos hc340] at h
        refine j_tableIn C dL_law_44 (by rw [hc340]; decide) (by rw [hc340]; decide) (off := 1681) (by rw [hc340]; rfl) (tgt := 1725) (by decide) ?_
        refine j_aload_n C dL_law_1725 rfl 1 rfl ?_
        refine j_aload_n C dL_law_1726 rfl 3 rfl ?_
        obtain ⟨r341, M341, hq341, h⟩ := bnd2_spec h
        refine j_run1 (c_SX C (As := [.ref v1, .ref v3]) (rest := []) (ctL_perform C.2.2.2.2.2.2.2.2.1 N Z hq341) kcRL_195 oyL_perform ⟨by decide, by decide⟩ ⟨by show _ + _ ≤ 603072; simp only [KM, NMX] at *; simp; omega, by show _ + _ ≤ 7178346; simp only [KM, NMX] at *; simp; omega⟩ (Nat.le_of_ble_eq_true rfl) rfl dL_law_1727) ?_
        refine j_istore C dL_law_1730 (by decide) (L' := [(6, .int r341), (0, .ref v0), (1, .ref v1), (2, .ref v2), (3, .ref v3), (4, .ref v4), (5, .int v5)]) rfl ?_
        refine j_aload_n C dL_law_1732 rfl 3 rfl ?_
        obtain ⟨ho342, h⟩ := ck_spec h
        obtain ⟨r343, M343, hq343, h⟩ := bnd2_spec h
        refine j_run1 (c_V C (As := []) (rest := []) (ctX9_perform C.2.2.2.2.2.2.2.2.1 N Z hq343) kcRL_197 oyX9_perform (ci := 9) (T := TX9) (N := 23) rfl (by decide) ho342 ⟨by decide, by decide⟩ ⟨by show _ + _ ≤ 603072; simp only [KM, NMX] at *; simp; omega, by show _ + _ ≤ 7178346; simp only [KM, NMX] at *; simp; omega⟩ (Nat.le_of_ble_eq_true rfl) rfl dL_law_1733) ?_
        refine j_istore C dL_law_1736 (by decide) (L' := [(7, .int r343), (6, .int r341), (0, .ref v0), (1, .ref v1), (2, .ref v2), (3, .ref v3), (4, .ref v4), (5, .int v5)]) rfl ?_
        refine j_aload_n C dL_law_1738 rfl 4 rfl ?_
        obtain ⟨r344, M344, hq344, h⟩ := bnd2_spec h
        refine j_run1 (c_V C (As := []) (rest := []) (ctX9_thrown C.2.2.2.2.2.2.2.2.1 N Z hq344) kcRL_118 oyX9_thrown (ci := 9) (T := TX9) (N := 23) rfl (by decide) ho342 ⟨by decide, by decide⟩ ⟨by show _ + _ ≤ 603072; simp only [KM, NMX] at *; simp; omega, by show _ + _ ≤ 7178346; simp only [KM, NMX] at *; simp; omega⟩ (Nat.le_of_ble_eq_true rfl) rfl dL_law_1739) ?_
        refine j_iload C dL_law_1742 1 rfl ?_
        refine j_icmp_eq C dL_law_1744 (tgt := 1749) (by decide) (fun hc345 => ?_) (fun hc345 => ?_)
        · rw [if_pos hc345] at h
          refine j_iload C dL_law_1749 1 rfl ?_
          refine j_if_ne C dL_law_1751 (tgt := 1766) (by decide) (fun hc346 => ?_) (fun hc346 => ?_)
          · rw [if_neg hc346] at h
            refine j_goto C dL_law_1766 (tgt := 1870) (by decide) ?_
            refine j_iinc C dL_law_1870 7 rfl (v := (v5 + (5 : Int32))) (by first | rfl | decide) (by decide) (L' := [(5, .int (v5 + (5 : Int32))), (7, .int r343), (6, .int r341), (0, .ref v0), (1, .ref v1), (2, .ref v2), (3, .ref v3), (4, .ref v4)]) rfl ?_
            refine j_goto C dL_law_1873 (tgt := 28) (by decide) ?_
            refine j_sub (L' := [(0, .ref v0), (1, .ref v1), (2, .ref v2), (3, .ref v3), (4, .ref v4), (5, .int (v5 + (5 : Int32)))]) [3, 4, 5, 6, 7, 0] rfl ?_
            exact ih v0 v1 v2 v3 v4 (v5 + (5 : Int32)) M344 r M' _ _ (by omega) (by omega) h
          · rw [if_pos hc346] at h
            refine j_aload_n C dL_law_1754 rfl 5 rfl ?_
            refine j_iconst C dL_law_1755 (v := (0 : Int32)) (by decide) ?_
            obtain ⟨ho347, h⟩ := ck_spec h
            obtain ⟨ho348, h⟩ := ck_spec h
            refine j_lald C ho347 ho348 dL_law_1756 ?_
            refine j_iload C dL_law_1757 0 rfl ?_
            refine j_i2l C dL_law_1759 ?_
            refine j_lcmp C dL_law_1760 ?_
            refine j_if_eq C dL_law_1761 (tgt := 1766) (by decide) (fun hc349 => ?_) (fun hc349 => ?_)
            · rw [if_pos hc349] at h
              refine j_goto C dL_law_1766 (tgt := 1870) (by decide) ?_
              refine j_iinc C dL_law_1870 7 rfl (v := (v5 + (5 : Int32))) (by first | rfl | decide) (by decide) (L' := [(5, .int (v5 + (5 : Int32))), (7, .int r343), (6, .int r341), (0, .ref v0), (1, .ref v1), (2, .ref v2), (3, .ref v3), (4, .ref v4)]) rfl ?_
              refine j_goto C dL_law_1873 (tgt := 28) (by decide) ?_
              refine j_sub (L' := [(0, .ref v0), (1, .ref v1), (2, .ref v2), (3, .ref v3), (4, .ref v4), (5, .int (v5 + (5 : Int32)))]) [3, 4, 5, 6, 7, 0] rfl ?_
              exact ih v0 v1 v2 v3 v4 (v5 + (5 : Int32)) M344 r M' _ _ (by omega) (by omega) h
            · rw [if_neg hc349] at h
              refine j_iconst C dL_law_1764 (v := (0 : Int32)) (by decide) ?_
              cases h
        · rw [if_neg hc345] at h
          refine j_iconst C dL_law_1747 (v := (0 : Int32)) (by decide) ?_
          cases h
      rw [if_neg hc340] at h
      by_cases hc350 : ((M.1 v0 (v5).toNatClampNeg) &&& (31 : Int32)) = nI 24
      · rw [if_pos hc350] at h
        refine j_tableIn C dL_law_44 (by rw [hc350]; decide) (by rw [hc350]; decide) (off := 1725) (by rw [hc350]; rfl) (tgt := 1769) (by decide) ?_
        refine j_aload_n C dL_law_1769 rfl 1 rfl ?_
        refine j_aload_n C dL_law_1770 rfl 3 rfl ?_
        obtain ⟨r351, M351, hq351, h⟩ := bnd2_spec h
        refine j_run1 (c_SX C (As := [.ref v1, .ref v3]) (rest := []) (ctL_undo C.2.2.2.2.2.2.2.2.1 N Z hq351) kcRL_198 oyL_undo ⟨by decide, by decide⟩ ⟨by show _ + _ ≤ 603072; simp only [KM, NMX] at *; simp; omega, by show _ + _ ≤ 7178346; simp only [KM, NMX] at *; simp; omega⟩ (Nat.le_of_ble_eq_true rfl) rfl dL_law_1771) ?_
        refine j_istore C dL_law_1774 (by decide) (L' := [(6, .int r351), (0, .ref v0), (1, .ref v1), (2, .ref v2), (3, .ref v3), (4, .ref v4), (5, .int v5)]) rfl ?_
        refine j_aload_n C dL_law_1776 rfl 3 rfl ?_
        obtain ⟨ho352, h⟩ := ck_spec h
        obtain ⟨r353, M353, hq353, h⟩ := bnd2_spec h
        refine j_run1 (c_V C (As := []) (rest := []) (ctX9_undo C.2.2.2.2.2.2.2.2.1 N Z hq353) kcRL_200 oyX9_undo (ci := 9) (T := TX9) (N := 23) rfl (by decide) ho352 ⟨by decide, by decide⟩ ⟨by show _ + _ ≤ 603072; simp only [KM, NMX] at *; simp; omega, by show _ + _ ≤ 7178346; simp only [KM, NMX] at *; simp; omega⟩ (Nat.le_of_ble_eq_true rfl) rfl dL_law_1777) ?_
        refine j_istore C dL_law_1780 (by decide) (L' := [(7, .int r353), (6, .int r351), (0, .ref v0), (1, .ref v1), (2, .ref v2), (3, .ref v3), (4, .ref v4), (5, .int v5)]) rfl ?_
        refine j_aload_n C dL_law_1782 rfl 4 rfl ?_
        obtain ⟨r354, M354, hq354, h⟩ := bnd2_spec h
        refine j_run1 (c_V C (As := []) (rest := []) (ctX9_thrown C.2.2.2.2.2.2.2.2.1 N Z hq354) kcRL_118 oyX9_thrown (ci := 9) (T := TX9) (N := 23) rfl (by decide) ho352 ⟨by decide, by decide⟩ ⟨by show _ + _ ≤ 603072; simp only [KM, NMX] at *; simp; omega, by show _ + _ ≤ 7178346; simp only [KM, NMX] at *; simp; omega⟩ (Nat.le_of_ble_eq_true rfl) rfl dL_law_1783) ?_
        refine j_iload C dL_law_1786 1 rfl ?_
        refine j_icmp_eq C dL_law_1788 (tgt := 1793) (by decide) (fun hc355 => ?_) (fun hc355 => ?_)
        · rw [if_pos hc355] at h
          refine j_iload C dL_law_1793 1 rfl ?_
          refine j_if_ne C dL_law_1795 (tgt := 1810) (by decide) (fun hc356 => ?_) (fun hc356 => ?_)
          · rw [if_neg hc356] at h
            refine j_goto C dL_law_1810 (tgt := 1870) (by decide) ?_
            refine j_iinc C dL_law_1870 7 rfl (v := (v5 + (5 : Int32))) (by first | rfl | decide) (by decide) (L' := [(5, .int (v5 + (5 : Int32))), (7, .int r353), (6, .int r351), (0, .ref v0), (1, .ref v1), (2, .ref v2), (3, .ref v3), (4, .ref v4)]) rfl ?_
            refine j_goto C dL_law_1873 (tgt := 28) (by decide) ?_
            refine j_sub (L' := [(0, .ref v0), (1, .ref v1), (2, .ref v2), (3, .ref v3), (4, .ref v4), (5, .int (v5 + (5 : Int32)))]) [3, 4, 5, 6, 7, 0] rfl ?_
            exact ih v0 v1 v2 v3 v4 (v5 + (5 : Int32)) M354 r M' _ _ (by omega) (by omega) h
          · rw [if_pos hc356] at h
            refine j_aload_n C dL_law_1798 rfl 5 rfl ?_
            refine j_iconst C dL_law_1799 (v := (0 : Int32)) (by decide) ?_
            obtain ⟨ho357, h⟩ := ck_spec h
            obtain ⟨ho358, h⟩ := ck_spec h
            refine j_lald C ho357 ho358 dL_law_1800 ?_
            refine j_iload C dL_law_1801 0 rfl ?_
            refine j_i2l C dL_law_1803 ?_
            refine j_lcmp C dL_law_1804 ?_
            refine j_if_eq C dL_law_1805 (tgt := 1810) (by decide) (fun hc359 => ?_) (fun hc359 => ?_)
            · rw [if_pos hc359] at h
              refine j_goto C dL_law_1810 (tgt := 1870) (by decide) ?_
              refine j_iinc C dL_law_1870 7 rfl (v := (v5 + (5 : Int32))) (by first | rfl | decide) (by decide) (L' := [(5, .int (v5 + (5 : Int32))), (7, .int r353), (6, .int r351), (0, .ref v0), (1, .ref v1), (2, .ref v2), (3, .ref v3), (4, .ref v4)]) rfl ?_
              refine j_goto C dL_law_1873 (tgt := 28) (by decide) ?_
              refine j_sub (L' := [(0, .ref v0), (1, .ref v1), (2, .ref v2), (3, .ref v3), (4, .ref v4), (5, .int (v5 + (5 : Int32)))]) [3, 4, 5, 6, 7, 0] rfl ?_
              exact ih v0 v1 v2 v3 v4 (v5 + (5 : Int32)) M354 r M' _ _ (by omega) (by omega) h
            · rw [if_neg hc359] at h
              refine j_iconst C dL_law_1808 (v := (0 : Int32)) (by decide) ?_
              cases h
        · rw [if_neg hc355] at h
          refine j_iconst C dL_law_1791 (v := (0 : Int32)) (by decide) ?_
          cases h
      rw [if_neg hc350] at h
      by_cases hc360 : ((M.1 v0 (v5).toNatClampNeg) &&& (31 : Int32)) = nI 25
      · rw [if_pos hc360] at h
        refine j_tableIn C dL_law_44 (by rw [hc360]; decide) (by rw [hc360]; decide) (off := 1769) (by rw [hc360]; rfl) (tgt := 1813) (by decide) ?_
        refine j_aload_n C dL_law_1813 rfl 1 rfl ?_
        obtain ⟨ho361, h⟩ := ck_spec h
        obtain ⟨r362, M362, hq362, h⟩ := bnd2_spec h
        refine j_run1 (c_V C (As := []) (rest := []) (ctX8_save C.2.2.2.2.2.2.2.2.1 N Z hq362) kcRL_201 oyX8_save (ci := 8) (T := TX8) (N := 11) rfl (by decide) ho361 ⟨by decide, by decide⟩ ⟨by show _ + _ ≤ 603072; simp only [KM, NMX] at *; simp; omega, by show _ + _ ≤ 7178346; simp only [KM, NMX] at *; simp; omega⟩ (Nat.le_of_ble_eq_true rfl) rfl dL_law_1814) ?_
        refine j_aload_n C dL_law_1817 rfl 2 rfl ?_
        obtain ⟨ho363, h⟩ := ck_spec h
        obtain ⟨r364, M364, hq364, h⟩ := bnd2_spec h
        refine j_run1 (c_V C (As := []) (rest := [.int r362]) (ctX9_save C.2.2.2.2.2.2.2.2.1 N Z hq364) kcRL_204 oyX9_save (ci := 9) (T := TX9) (N := 23) rfl (by decide) ho363 ⟨by decide, by decide⟩ ⟨by show _ + _ ≤ 603072; simp only [KM, NMX] at *; simp; omega, by show _ + _ ≤ 7178346; simp only [KM, NMX] at *; simp; omega⟩ (Nat.le_of_ble_eq_true rfl) rfl dL_law_1818) ?_
        refine j_icmp_eq C dL_law_1821 (tgt := 1870) (by decide) (fun hc365 => ?_) (fun hc365 => ?_)
        · rw [if_pos hc365] at h
          refine j_iinc C dL_law_1870 5 rfl (v := (v5 + (5 : Int32))) (by first | rfl | decide) (by decide) (L' := [(5, .int (v5 + (5 : Int32))), (0, .ref v0), (1, .ref v1), (2, .ref v2), (3, .ref v3), (4, .ref v4)]) rfl ?_
          refine j_goto C dL_law_1873 (tgt := 28) (by decide) ?_
          refine j_sub (L' := [(0, .ref v0), (1, .ref v1), (2, .ref v2), (3, .ref v3), (4, .ref v4), (5, .int (v5 + (5 : Int32)))]) [1, 2, 3, 4, 5, 0] rfl ?_
          exact ih v0 v1 v2 v3 v4 (v5 + (5 : Int32)) M364 r M' _ _ (by omega) (by omega) h
        · rw [if_neg hc365] at h
          refine j_iconst C dL_law_1824 (v := (0 : Int32)) (by decide) ?_
          cases h
      rw [if_neg hc360] at h
      by_cases hc366 : ((M.1 v0 (v5).toNatClampNeg) &&& (31 : Int32)) = nI 26
      · rw [if_pos hc366] at h
        refine j_tableIn C dL_law_44 (by rw [hc366]; decide) (by rw [hc366]; decide) (off := 1782) (by rw [hc366]; rfl) (tgt := 1826) (by decide) ?_
        refine j_aload_n C dL_law_1826 rfl 1 rfl ?_
        refine j_aload_n C dL_law_1827 rfl 3 rfl ?_
        obtain ⟨r367, M367, hq367, h⟩ := bnd2_spec h
        refine j_run1 (c_SX C (As := [.ref v1, .ref v3]) (rest := []) (ctL_restore C.2.2.2.2.2.2.2.2.1 N Z hq367) kcRL_205 oyL_restore ⟨by decide, by decide⟩ ⟨by show _ + _ ≤ 603072; simp only [KM, NMX] at *; simp; omega, by show _ + _ ≤ 7178346; simp only [KM, NMX] at *; simp; omega⟩ (Nat.le_of_ble_eq_true rfl) rfl dL_law_1828) ?_
        refine j_istore C dL_law_1831 (by decide) (L' := [(6, .int r367), (0, .ref v0), (1, .ref v1), (2, .ref v2), (3, .ref v3), (4, .ref v4), (5, .int v5)]) rfl ?_
        refine j_aload_n C dL_law_1833 rfl 3 rfl ?_
        obtain ⟨ho368, h⟩ := ck_spec h
        obtain ⟨r369, M369, hq369, h⟩ := bnd2_spec h
        refine j_run1 (c_V C (As := []) (rest := []) (ctX9_restore C.2.2.2.2.2.2.2.2.1 N Z hq369) kcRL_207 oyX9_restore (ci := 9) (T := TX9) (N := 23) rfl (by decide) ho368 ⟨by decide, by decide⟩ ⟨by show _ + _ ≤ 603072; simp only [KM, NMX] at *; simp; omega, by show _ + _ ≤ 7178346; simp only [KM, NMX] at *; simp; omega⟩ (Nat.le_of_ble_eq_true rfl) rfl dL_law_1834) ?_
        refine j_istore C dL_law_1837 (by decide) (L' := [(7, .int r369), (6, .int r367), (0, .ref v0), (1, .ref v1), (2, .ref v2), (3, .ref v3), (4, .ref v4), (5, .int v5)]) rfl ?_
        refine j_aload_n C dL_law_1839 rfl 4 rfl ?_
        obtain ⟨r370, M370, hq370, h⟩ := bnd2_spec h
        refine j_run1 (c_V C (As := []) (rest := []) (ctX9_thrown C.2.2.2.2.2.2.2.2.1 N Z hq370) kcRL_118 oyX9_thrown (ci := 9) (T := TX9) (N := 23) rfl (by decide) ho368 ⟨by decide, by decide⟩ ⟨by show _ + _ ≤ 603072; simp only [KM, NMX] at *; simp; omega, by show _ + _ ≤ 7178346; simp only [KM, NMX] at *; simp; omega⟩ (Nat.le_of_ble_eq_true rfl) rfl dL_law_1840) ?_
        refine j_iload C dL_law_1843 1 rfl ?_
        refine j_icmp_eq C dL_law_1845 (tgt := 1850) (by decide) (fun hc371 => ?_) (fun hc371 => ?_)
        · rw [if_pos hc371] at h
          refine j_iload C dL_law_1850 1 rfl ?_
          refine j_if_ne C dL_law_1852 (tgt := 1867) (by decide) (fun hc372 => ?_) (fun hc372 => ?_)
          · rw [if_neg hc372] at h
            refine j_goto C dL_law_1867 (tgt := 1870) (by decide) ?_
            refine j_iinc C dL_law_1870 7 rfl (v := (v5 + (5 : Int32))) (by first | rfl | decide) (by decide) (L' := [(5, .int (v5 + (5 : Int32))), (7, .int r369), (6, .int r367), (0, .ref v0), (1, .ref v1), (2, .ref v2), (3, .ref v3), (4, .ref v4)]) rfl ?_
            refine j_goto C dL_law_1873 (tgt := 28) (by decide) ?_
            refine j_sub (L' := [(0, .ref v0), (1, .ref v1), (2, .ref v2), (3, .ref v3), (4, .ref v4), (5, .int (v5 + (5 : Int32)))]) [3, 4, 5, 6, 7, 0] rfl ?_
            exact ih v0 v1 v2 v3 v4 (v5 + (5 : Int32)) M370 r M' _ _ (by omega) (by omega) h
          · rw [if_pos hc372] at h
            refine j_aload_n C dL_law_1855 rfl 5 rfl ?_
            refine j_iconst C dL_law_1856 (v := (0 : Int32)) (by decide) ?_
            obtain ⟨ho373, h⟩ := ck_spec h
            obtain ⟨ho374, h⟩ := ck_spec h
            refine j_lald C ho373 ho374 dL_law_1857 ?_
            refine j_iload C dL_law_1858 0 rfl ?_
            refine j_i2l C dL_law_1860 ?_
            refine j_lcmp C dL_law_1861 ?_
            refine j_if_eq C dL_law_1862 (tgt := 1867) (by decide) (fun hc375 => ?_) (fun hc375 => ?_)
            · rw [if_pos hc375] at h
              refine j_goto C dL_law_1867 (tgt := 1870) (by decide) ?_
              refine j_iinc C dL_law_1870 7 rfl (v := (v5 + (5 : Int32))) (by first | rfl | decide) (by decide) (L' := [(5, .int (v5 + (5 : Int32))), (7, .int r369), (6, .int r367), (0, .ref v0), (1, .ref v1), (2, .ref v2), (3, .ref v3), (4, .ref v4)]) rfl ?_
              refine j_goto C dL_law_1873 (tgt := 28) (by decide) ?_
              refine j_sub (L' := [(0, .ref v0), (1, .ref v1), (2, .ref v2), (3, .ref v3), (4, .ref v4), (5, .int (v5 + (5 : Int32)))]) [3, 4, 5, 6, 7, 0] rfl ?_
              exact ih v0 v1 v2 v3 v4 (v5 + (5 : Int32)) M370 r M' _ _ (by omega) (by omega) h
            · rw [if_neg hc375] at h
              refine j_iconst C dL_law_1865 (v := (0 : Int32)) (by decide) ?_
              cases h
        · rw [if_neg hc371] at h
          refine j_iconst C dL_law_1848 (v := (0 : Int32)) (by decide) ?_
          cases h
      rw [if_neg hc366] at h
      refine j_tableOut C dL_law_44 (sw_out (n := 26) (by decide) (fun j hj => by rcases (show j = 0 ∨ j = 1 ∨ j = 2 ∨ j = 3 ∨ j = 4 ∨ j = 5 ∨ j = 6 ∨ j = 7 ∨ j = 8 ∨ j = 9 ∨ j = 10 ∨ j = 11 ∨ j = 12 ∨ j = 13 ∨ j = 14 ∨ j = 15 ∨ j = 16 ∨ j = 17 ∨ j = 18 ∨ j = 19 ∨ j = 20 ∨ j = 21 ∨ j = 22 ∨ j = 23 ∨ j = 24 ∨ j = 25 ∨ j = 26 by omega) with rfl | rfl | rfl | rfl | rfl | rfl | rfl | rfl | rfl | rfl | rfl | rfl | rfl | rfl | rfl | rfl | rfl | rfl | rfl | rfl | rfl | rfl | rfl | rfl | rfl | rfl | rfl <;> assumption)) (tgt := 1870) (by decide) ?_
      refine j_iinc C dL_law_1870 5 rfl (v := (v5 + (5 : Int32))) (by first | rfl | decide) (by decide) (L' := [(5, .int (v5 + (5 : Int32))), (0, .ref v0), (1, .ref v1), (2, .ref v2), (3, .ref v3), (4, .ref v4)]) rfl ?_
      refine j_goto C dL_law_1873 (tgt := 28) (by decide) ?_
      refine j_sub (L' := [(0, .ref v0), (1, .ref v1), (2, .ref v2), (3, .ref v3), (4, .ref v4), (5, .int (v5 + (5 : Int32)))]) [1, 2, 3, 4, 5, 0] rfl ?_
      exact ih v0 v1 v2 v3 v4 (v5 + (5 : Int32)) M r M' _ _ (by omega) (by omega) h
def fL_law (N : Nat) (Z : mZ) (a0 : Nat) (M : mM) : Option (Int32 × mM) := ck (decide (M.2.2.2 = 0)) (bnd2 (fX8_init N (zNew Z 8 0) (Z.1) (mNew M (Z.1))) (fun _ M2 => ck (decide (M2.2.2.2.2 = 0)) (bnd2 (fX9_init N (zNew M2.1 9 0) (M2.1.1) (mNew M2.2 (M2.1.1))) (fun _ M4 => ck (decide (M4.2.2.2.2 = 0)) (ck (decide ((mNew M4.2 (M4.1.1)).2.2.2 = 0)) (fL_law_28 N (zNew (zNew M4.1 22 1) 23 1) 513 a0 (Z.1) (M2.1.1) (M4.1.1) ((zNew M4.1 22 1).1) (0 : Int32) (mNew (mNew M4.2 (M4.1.1)) ((zNew M4.1 22 1).1))))))))
set_option maxHeartbeats 4000000 in
set_option maxRecDepth 100000 in
theorem ctL_law {G : mG} {p : Program} {l : Launch} {e : Env} {s : State} {m : MethodId} {args : Array Value} {below : List Frame} {meth : Method} {c : Code} {Q : State → Prop} (hend : ∀ (k n : Nat) (L : mL) (Z : mZ) (M : mM), k ≤ KM → n ≤ NMX → JJ G p l e room_1 s m args below meth c 9 Q k n 1877 L [.int 1] Z M) (C : Cx G p l s m args meth c RL cL_law 9 (some .boolean) []) (hnm : meth.name = yL_law.name) (N : Nat) (Z : mZ) (a0 : Nat) (M : mM) (r : Int32) (M' : mM) (h : fL_law N Z a0 M = some (r, M')) : JJ G p l e room_1 s m args below meth c 9 Q 0 0 0 [(0, .ref a0)] [] Z M := by
  unfold fL_law at h
  obtain ⟨ho1, h⟩ := ck_spec h
  refine j_new C (cn := RX8) (T := TX8) (N := 11) (ci := 8) tyX8 tyX8_ok rfl iX8 (by decide) ntX8 cwRL_8 (of_decide_eq_true ho1) ⟨by decide, by decide⟩ dL_law_0 ?_
  refine j_dup C dL_law_3 rfl ?_
  obtain ⟨_, M2, hq2, h⟩ := bnd2_spec h
  refine j_run0 (c_I C (As := []) (rest := [.ref (Z.1)]) (ctX8_init C.2.2.2.2.2.2.2.2.1 N (zNew Z 8 0) hq2) kcRL_108 oyX8_init ⟨by decide, by decide⟩ ⟨by decide, by decide⟩ (Nat.le_of_ble_eq_true rfl) rfl dL_law_4) ?_
  refine j_astore_n C dL_law_7 rfl (by decide) (L' := [(1, .ref (Z.1)), (0, .ref a0)]) rfl ?_
  obtain ⟨ho3, h⟩ := ck_spec h
  refine j_new C (cn := RX9) (T := TX9) (N := 23) (ci := 9) tyX9 tyX9_ok rfl iX9 (by decide) ntX9 cwRL_109 (of_decide_eq_true ho3) ⟨by decide, by decide⟩ dL_law_8 ?_
  refine j_dup C dL_law_11 rfl ?_
  obtain ⟨_, M4, hq4, h⟩ := bnd2_spec h
  refine j_run0 (c_I C (As := []) (rest := [.ref (M2.1.1)]) (ctX9_init C.2.2.2.2.2.2.2.2.1 N (zNew M2.1 9 0) hq4) kcRL_111 oyX9_init ⟨by decide, by decide⟩ ⟨by decide, by decide⟩ (Nat.le_of_ble_eq_true rfl) rfl dL_law_12) ?_
  refine j_astore_n C dL_law_15 rfl (by decide) (L' := [(2, .ref (M2.1.1)), (1, .ref (Z.1)), (0, .ref a0)]) rfl ?_
  refine j_iconst C dL_law_16 (v := (1 : Int32)) (by decide) ?_
  obtain ⟨ho5, h⟩ := ck_spec h
  refine j_newa C (ln := 1) (t := 22) (Or.inr (Or.inr (Or.inl ⟨rfl, rfl⟩))) aw_22 (by decide) (by decide) (by decide) (of_decide_eq_true ho5) ⟨by decide, by decide⟩ dL_law_17 ?_
  refine j_astore_n C dL_law_19 rfl (by decide) (L' := [(3, .ref (M4.1.1)), (2, .ref (M2.1.1)), (1, .ref (Z.1)), (0, .ref a0)]) rfl ?_
  refine j_iconst C dL_law_20 (v := (1 : Int32)) (by decide) ?_
  obtain ⟨ho6, h⟩ := ck_spec h
  refine j_newa C (ln := 1) (t := 23) (Or.inr (Or.inr (Or.inr ⟨rfl, rfl⟩))) aw_23 (by decide) (by decide) (by decide) (of_decide_eq_true ho6) ⟨by decide, by decide⟩ dL_law_21 ?_
  refine j_astore C dL_law_23 (by decide) (L' := [(4, .ref ((zNew M4.1 22 1).1)), (3, .ref (M4.1.1)), (2, .ref (M2.1.1)), (1, .ref (Z.1)), (0, .ref a0)]) rfl ?_
  refine j_iconst C dL_law_25 (v := (0 : Int32)) (by decide) ?_
  refine j_istore C dL_law_26 (by decide) (L' := [(5, .int (0 : Int32)), (4, .ref ((zNew M4.1 22 1).1)), (3, .ref (M4.1.1)), (2, .ref (M2.1.1)), (1, .ref (Z.1)), (0, .ref a0)]) rfl ?_
  refine j_sub (L' := [(0, .ref a0), (1, .ref (Z.1)), (2, .ref (M2.1.1)), (3, .ref (M4.1.1)), (4, .ref ((zNew M4.1 22 1).1)), (5, .int (0 : Int32))]) [5, 4, 3, 2, 1, 0] rfl ?_
  exact tL_law_28 hend C hnm N (zNew (zNew M4.1 22 1) 23 1) 513 a0 (Z.1) (M2.1.1) (M4.1.1) ((zNew M4.1 22 1).1) (0 : Int32) (mNew (mNew M4.2 (M4.1.1)) ((zNew M4.1 22 1).1)) _ _ _ _ (by decide) (by decide) h
