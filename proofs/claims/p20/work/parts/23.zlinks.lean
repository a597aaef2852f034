theorem hd_X2_about : yX2_about.cls = RX2 ∧ yX2_about.cls ≠ "java/lang/invoke/MethodHandle" ∧ yX2_about.cls ≠ "java/lang/invoke/VarHandle" ∧ (parseMethodDescriptor yX2_about.desc).map (fun d => d.parameters.length) = some 2 := by decide +kernel
theorem hd_X2_mean : yX2_mean.cls = RX2 ∧ yX2_mean.cls ≠ "java/lang/invoke/MethodHandle" ∧ yX2_mean.cls ≠ "java/lang/invoke/VarHandle" ∧ (parseMethodDescriptor yX2_mean.desc).map (fun d => d.parameters.length) = some 0 := by decide +kernel
theorem hd_X2_place : yX2_place.cls = RX2 ∧ yX2_place.cls ≠ "java/lang/invoke/MethodHandle" ∧ yX2_place.cls ≠ "java/lang/invoke/VarHandle" ∧ (parseMethodDescriptor yX2_place.desc).map (fun d => d.parameters.length) = some 2 := by decide +kernel
theorem hd_X2_shelf : yX2_shelf.cls = RX2 ∧ yX2_shelf.cls ≠ "java/lang/invoke/MethodHandle" ∧ yX2_shelf.cls ≠ "java/lang/invoke/VarHandle" ∧ (parseMethodDescriptor yX2_shelf.desc).map (fun d => d.parameters.length) = some 2 := by decide +kernel
theorem hd_X3_about : yX3_about.cls = RX3 ∧ yX3_about.cls ≠ "java/lang/invoke/MethodHandle" ∧ yX3_about.cls ≠ "java/lang/invoke/VarHandle" ∧ (parseMethodDescriptor yX3_about.desc).map (fun d => d.parameters.length) = some 1 := by decide +kernel
theorem hd_X3_hole : yX3_hole.cls = RX3 ∧ yX3_hole.cls ≠ "java/lang/invoke/MethodHandle" ∧ yX3_hole.cls ≠ "java/lang/invoke/VarHandle" ∧ (parseMethodDescriptor yX3_hole.desc).map (fun d => d.parameters.length) = some 1 := by decide +kernel
theorem hd_X3_isEmpty : yX3_isEmpty.cls = RX3 ∧ yX3_isEmpty.cls ≠ "java/lang/invoke/MethodHandle" ∧ yX3_isEmpty.cls ≠ "java/lang/invoke/VarHandle" ∧ (parseMethodDescriptor yX3_isEmpty.desc).map (fun d => d.parameters.length) = some 2 := by decide +kernel
theorem hd_X3_isUsed : yX3_isUsed.cls = RX3 ∧ yX3_isUsed.cls ≠ "java/lang/invoke/MethodHandle" ∧ yX3_isUsed.cls ≠ "java/lang/invoke/VarHandle" ∧ (parseMethodDescriptor yX3_isUsed.desc).map (fun d => d.parameters.length) = some 2 := by decide +kernel
theorem hd_X3_many : yX3_many.cls = RX3 ∧ yX3_many.cls ≠ "java/lang/invoke/MethodHandle" ∧ yX3_many.cls ≠ "java/lang/invoke/VarHandle" ∧ (parseMethodDescriptor yX3_many.desc).map (fun d => d.parameters.length) = some 1 := by decide +kernel
theorem hd_X3_spot : yX3_spot.cls = RX3 ∧ yX3_spot.cls ≠ "java/lang/invoke/MethodHandle" ∧ yX3_spot.cls ≠ "java/lang/invoke/VarHandle" ∧ (parseMethodDescriptor yX3_spot.desc).map (fun d => d.parameters.length) = some 2 := by decide +kernel
theorem gG_RX3_45 : GoodIn LA (wsV RX3 45 RX3 yX3_many (ws_ yX3_many cX3_many 7 (some .int))) := la_V wT2_168 wT2_169 wT2_170 wT1_3 wT2_171
theorem gG_RX3_49 : GoodIn LA (wsV RX3 49 RX3 yX3_isUsed (ws_ yX3_isUsed cX3_isUsed 3 (some .boolean))) := la_V wT2_164 wT2_165 wT2_166 wT1_3 wT2_167
theorem gG_RX3_53 : GoodIn LA (wsV RX3 53 RX3 yX3_isEmpty (ws_ yX3_isEmpty cX3_isEmpty 3 (some .boolean))) := la_V wT2_172 wT2_173 wT2_174 wT1_3 wT2_175
theorem gG_RX3_56 : GoodIn LA (wsV RX3 56 RX3 yX3_hole (ws_ yX3_hole cX3_hole 3 (some .int))) := la_V wT2_176 wT2_177 wT2_178 wT1_3 wT2_179
theorem gG_RX3_59 : GoodIn LA (wsV RX3 59 RX3 yX3_spot (ws_ yX3_spot cX3_spot 3 (some .int))) := la_V wT2_180 wT2_181 wT2_182 wT1_3 wT2_183
theorem gG_RX3_63 : GoodIn LA (wsV RX3 63 RX2 yX2_shelf (ws_ yX2_shelf cX2_shelf 3 (some .int))) := la_V wT2_201 wT2_202 wT2_203 wT1_1 wT2_204
theorem gG_RX3_68 : GoodIn LA (wsV RX3 68 RX2 yX2_place (ws_ yX2_place cX2_place 5 (some .int))) := la_V wT2_206 wT2_74 wT2_75 wT1_1 wT2_76
theorem gG_RX3_71 : GoodIn LA (wsV RX3 71 RX2 yX2_count (ws_ yX2_count cX2_count 2 (some .int))) := la_V wT2_207 wT2_78 wT2_79 wT1_1 wT2_80
theorem gG_RX3_74 : GoodIn LA (wsV RX3 74 RX3 yX3_about (ws_ yX3_about cX3_about 5 (some (.array .int)))) := la_V wT2_208 wT2_209 wT2_210 wT1_3 wT2_211
theorem gG_RX3_78 : GoodIn LA (wsV RX3 78 RX2 yX2_about (ws_ yX2_about cX2_about 4 (some .int))) := la_V wT2_212 wT2_50 wT2_51 wT1_1 wT2_52
theorem gG_RX3_80 : GoodIn LA (wsV RX3 80 RX2 yX2_mean (ws_ yX2_mean cX2_mean 2 (some .double))) := la_V wT2_213 wT2_214 wT2_215 wT1_1 wT2_216
