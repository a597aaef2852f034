theorem hd_L_below : yL_below.cls ≠ "java/lang/invoke/MethodHandle" ∧ yL_below.cls ≠ "java/lang/invoke/VarHandle" ∧ (parseMethodDescriptor yL_below.desc).map (fun d => d.parameters.length) = some 2 := by decide +kernel
theorem hd_X2_about : yX2_about.cls = RX2 ∧ yX2_about.cls ≠ "java/lang/invoke/MethodHandle" ∧ yX2_about.cls ≠ "java/lang/invoke/VarHandle" ∧ (parseMethodDescriptor yX2_about.desc).map (fun d => d.parameters.length) = some 2 := by decide +kernel
theorem hd_X2_mean : yX2_mean.cls = RX2 ∧ yX2_mean.cls ≠ "java/lang/invoke/MethodHandle" ∧ yX2_mean.cls ≠ "java/lang/invoke/VarHandle" ∧ (parseMethodDescriptor yX2_mean.desc).map (fun d => d.parameters.length) = some 0 := by decide +kernel
theorem hd_X2_pack : yX2_pack.cls = RX2 ∧ yX2_pack.cls ≠ "java/lang/invoke/MethodHandle" ∧ yX2_pack.cls ≠ "java/lang/invoke/VarHandle" ∧ (parseMethodDescriptor yX2_pack.desc).map (fun d => d.parameters.length) = some 1 := by decide +kernel
theorem hd_X2_place : yX2_place.cls = RX2 ∧ yX2_place.cls ≠ "java/lang/invoke/MethodHandle" ∧ yX2_place.cls ≠ "java/lang/invoke/VarHandle" ∧ (parseMethodDescriptor yX2_place.desc).map (fun d => d.parameters.length) = some 2 := by decide +kernel
theorem hd_X2_put : yX2_put.cls = RX2 ∧ yX2_put.cls ≠ "java/lang/invoke/MethodHandle" ∧ yX2_put.cls ≠ "java/lang/invoke/VarHandle" ∧ (parseMethodDescriptor yX2_put.desc).map (fun d => d.parameters.length) = some 1 := by decide +kernel
theorem hd_X2_reap : yX2_reap.cls = RX2 ∧ yX2_reap.cls ≠ "java/lang/invoke/MethodHandle" ∧ yX2_reap.cls ≠ "java/lang/invoke/VarHandle" ∧ (parseMethodDescriptor yX2_reap.desc).map (fun d => d.parameters.length) = some 1 := by decide +kernel
theorem hd_X2_setWay : yX2_setWay.cls = RX2 ∧ yX2_setWay.cls ≠ "java/lang/invoke/MethodHandle" ∧ yX2_setWay.cls ≠ "java/lang/invoke/VarHandle" ∧ (parseMethodDescriptor yX2_setWay.desc).map (fun d => d.parameters.length) = some 1 := by decide +kernel
theorem hd_X2_shelf : yX2_shelf.cls = RX2 ∧ yX2_shelf.cls ≠ "java/lang/invoke/MethodHandle" ∧ yX2_shelf.cls ≠ "java/lang/invoke/VarHandle" ∧ (parseMethodDescriptor yX2_shelf.desc).map (fun d => d.parameters.length) = some 2 := by decide +kernel
theorem hd_X2_take : yX2_take.cls = RX2 ∧ yX2_take.cls ≠ "java/lang/invoke/MethodHandle" ∧ yX2_take.cls ≠ "java/lang/invoke/VarHandle" ∧ (parseMethodDescriptor yX2_take.desc).map (fun d => d.parameters.length) = some 1 := by decide +kernel
theorem hd_X3_about : yX3_about.cls = RX3 ∧ yX3_about.cls ≠ "java/lang/invoke/MethodHandle" ∧ yX3_about.cls ≠ "java/lang/invoke/VarHandle" ∧ (parseMethodDescriptor yX3_about.desc).map (fun d => d.parameters.length) = some 1 := by decide +kernel
theorem hd_X3_hole : yX3_hole.cls = RX3 ∧ yX3_hole.cls ≠ "java/lang/invoke/MethodHandle" ∧ yX3_hole.cls ≠ "java/lang/invoke/VarHandle" ∧ (parseMethodDescriptor yX3_hole.desc).map (fun d => d.parameters.length) = some 1 := by decide +kernel
theorem hd_X3_isEmpty : yX3_isEmpty.cls = RX3 ∧ yX3_isEmpty.cls ≠ "java/lang/invoke/MethodHandle" ∧ yX3_isEmpty.cls ≠ "java/lang/invoke/VarHandle" ∧ (parseMethodDescriptor yX3_isEmpty.desc).map (fun d => d.parameters.length) = some 2 := by decide +kernel
theorem hd_X3_isUsed : yX3_isUsed.cls = RX3 ∧ yX3_isUsed.cls ≠ "java/lang/invoke/MethodHandle" ∧ yX3_isUsed.cls ≠ "java/lang/invoke/VarHandle" ∧ (parseMethodDescriptor yX3_isUsed.desc).map (fun d => d.parameters.length) = some 2 := by decide +kernel
theorem hd_X3_many : yX3_many.cls = RX3 ∧ yX3_many.cls ≠ "java/lang/invoke/MethodHandle" ∧ yX3_many.cls ≠ "java/lang/invoke/VarHandle" ∧ (parseMethodDescriptor yX3_many.desc).map (fun d => d.parameters.length) = some 1 := by decide +kernel
theorem hd_X3_packs : yX3_packs.cls = RX3 ∧ yX3_packs.cls ≠ "java/lang/invoke/MethodHandle" ∧ yX3_packs.cls ≠ "java/lang/invoke/VarHandle" ∧ (parseMethodDescriptor yX3_packs.desc).map (fun d => d.parameters.length) = some 1 := by decide +kernel
theorem hd_X3_puts : yX3_puts.cls = RX3 ∧ yX3_puts.cls ≠ "java/lang/invoke/MethodHandle" ∧ yX3_puts.cls ≠ "java/lang/invoke/VarHandle" ∧ (parseMethodDescriptor yX3_puts.desc).map (fun d => d.parameters.length) = some 1 := by decide +kernel
theorem hd_X3_reaps : yX3_reaps.cls = RX3 ∧ yX3_reaps.cls ≠ "java/lang/invoke/MethodHandle" ∧ yX3_reaps.cls ≠ "java/lang/invoke/VarHandle" ∧ (parseMethodDescriptor yX3_reaps.desc).map (fun d => d.parameters.length) = some 1 := by decide +kernel
theorem hd_X3_spot : yX3_spot.cls = RX3 ∧ yX3_spot.cls ≠ "java/lang/invoke/MethodHandle" ∧ yX3_spot.cls ≠ "java/lang/invoke/VarHandle" ∧ (parseMethodDescriptor yX3_spot.desc).map (fun d => d.parameters.length) = some 2 := by decide +kernel
theorem hd_X3_takes : yX3_takes.cls = RX3 ∧ yX3_takes.cls ≠ "java/lang/invoke/MethodHandle" ∧ yX3_takes.cls ≠ "java/lang/invoke/VarHandle" ∧ (parseMethodDescriptor yX3_takes.desc).map (fun d => d.parameters.length) = some 1 := by decide +kernel
theorem gG_RL_15 : GoodIn LA (va_wsS RL 15 yL_below (ws_ yL_below cL_below 2 (some .int))) := la_S wT2_217 wT2_218 wT1_0 wT2_219
theorem gG_RL_25 : GoodIn LA (wsV RL 25 RX2 yX2_setWay (ws_ yX2_setWay cX2_setWay 3 (some .int))) := la_V wT2_230 wT2_231 wT2_232 wT1_1 wT2_233
theorem gG_RL_31 : GoodIn LA (wsV RL 31 RX2 yX2_reap (ws_ yX2_reap cX2_reap 7 (some .int))) := la_V wT2_24 wT2_25 wT2_26 wT1_1 wT2_27
theorem gG_RL_34 : GoodIn LA (wsV RL 34 RX3 yX3_reaps (ws_ yX3_reaps cX3_reaps 4 (some .int))) := la_V wT2_189 wT2_190 wT2_191 wT1_3 wT2_192
theorem gG_RL_37 : GoodIn LA (wsV RL 37 RX2 yX2_pack (ws_ yX2_pack cX2_pack 4 (some .int))) := la_V wT2_33 wT2_34 wT2_35 wT1_1 wT2_36
theorem gG_RL_40 : GoodIn LA (wsV RL 40 RX3 yX3_packs (ws_ yX3_packs cX3_packs 6 (some .int))) := la_V wT2_193 wT2_194 wT2_195 wT1_3 wT2_196
theorem gG_RL_43 : GoodIn LA (wsV RL 43 RX3 yX3_many (ws_ yX3_many cX3_many 7 (some .int))) := la_V wT2_235 wT2_169 wT2_170 wT1_3 wT2_171
theorem gG_RL_50 : GoodIn LA (wsV RL 50 RX3 yX3_spot (ws_ yX3_spot cX3_spot 3 (some .int))) := la_V wT2_236 wT2_181 wT2_182 wT1_3 wT2_183
theorem gG_RL_53 : GoodIn LA (wsV RL 53 RX3 yX3_takes (ws_ yX3_takes cX3_takes 4 (some .int))) := la_V wT2_185 wT2_186 wT2_187 wT1_3 wT2_188
theorem gG_RL_56 : GoodIn LA (wsV RL 56 RX2 yX2_take (ws_ yX2_take cX2_take 4 (some .int))) := la_V wT1_230 wT1_231 wT1_232 wT1_1 wT1_233
theorem gG_RL_61 : GoodIn LA (wsV RL 61 RX3 yX3_puts (ws_ yX3_puts cX3_puts 5 (some .int))) := la_V wT2_160 wT2_161 wT2_162 wT1_3 wT2_163
theorem gG_RL_64 : GoodIn LA (wsV RL 64 RX2 yX2_put (ws_ yX2_put cX2_put 5 (some .int))) := la_V wT1_82 wT1_83 wT1_84 wT1_1 wT1_85
theorem gG_RX3_45 : GoodIn LA (wsV RX3 45 RX3 yX3_many (ws_ yX3_many cX3_many 7 (some .int))) := la_V wT2_168 wT2_169 wT2_170 wT1_3 wT2_171
theorem gG_RX3_49 : GoodIn LA (wsV RX3 49 RX3 yX3_isUsed (ws_ yX3_isUsed cX3_isUsed 3 (some .boolean))) := la_V wT2_164 wT2_165 wT2_166 wT1_3 wT2_167
theorem gG_RX3_53 : GoodIn LA (wsV RX3 53 RX3 yX3_isEmpty (ws_ yX3_isEmpty cX3_isEmpty 3 (some .boolean))) := la_V wT2_172 wT2_173 wT2_174 wT1_3 wT2_175
theorem gG_RX3_56 : GoodIn LA (wsV RX3 56 RX3 yX3_hole (ws_ yX3_hole cX3_hole 3 (some .int))) := la_V wT2_176 wT2_177 wT2_178 wT1_3 wT2_179
theorem gG_RX3_59 : GoodIn LA (wsV RX3 59 RX3 yX3_spot (ws_ yX3_spot cX3_spot 3 (some .int))) := la_V wT2_180 wT2_181 wT2_182 wT1_3 wT2_183
theorem gG_RX3_63 : GoodIn LA (wsV RX3 63 RX2 yX2_shelf (ws_ yX2_shelf cX2_shelf 3 (some .int))) := la_V wT2_201 wT2_202 wT2_203 wT1_1 wT2_204
theorem gG_RX3_68 : GoodIn LA (wsV RX3 68 RX2 yX2_place (ws_ yX2_place cX2_place 5 (some .int))) := la_V wT2_206 wT2_74 wT2_75 wT1_1 wT2_76
theorem gG_RX3_71 : GoodIn LA (wsV RX3 71 RX2 yX2_count (ws_ yX2_count cX2_count 2 (some .int))) := la_V wT2_207 wT2_78 wT2_79 wT1_1 wT2_80
theorem gG_RX3_74 : GoodIn LA (wsV RX3 74 RX3 yX3_about (ws_ yX3_about cX3_about 5 (some (.array .int)))) := la_V wT2_208 wT2_209 wT2_210 wT1_3 wT2_211
theorem gG_RX3_78 : GoodIn LA (wsV RX3 78 RX2 yX2_about (ws_ yX2_about cX2_about 4 (some .int))) := la_V wT2_212 wT2_50 wT2_51 wT1_1 wT2_52
theorem gG_RX3_80 : GoodIn LA (wsV RX3 80 RX2 yX2_mean (ws_ yX2_mean cX2_mean 2 (some .double))) := la_V wT2_213 wT2_214 wT2_215 wT1_1 wT2_216
