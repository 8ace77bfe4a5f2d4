theorem mj_all {α : Type} {l : List α} {d : α} {P : α → Bool} (h : l.all P = true) {i : Nat} (hi : i < l.length) : P (l.getD i d) = true := by
  rw [List.getD_eq_getElem?_getD, List.getElem?_eq_getElem hi]
  exact List.all_eq_true.mp h _ (List.getElem_mem hi)
theorem mj_rng {n : Nat} {P : Nat → Bool} (h : (List.range n).all P = true) {i : Nat} (hi : i < n) : P i = true := List.all_eq_true.mp h _ (List.mem_range.mpr hi)
theorem mjks_0 : ∀ i, i < 31 → mjChk (mjMeth (0 + i)).1.cls (mjIsInit (0 + i)) (mjMeth (0 + i)).2.1 (mjCode.getD (0 + i) []) = true
  | 0, _ => mjk_0
  | 1, _ => mjk_1
  | 2, _ => mjk_2
  | 3, _ => mjk_3
  | 4, _ => mjk_4
  | 5, _ => mjk_5
  | 6, _ => mjk_6
  | 7, _ => mjk_7
  | 8, _ => mjk_8
  | 9, _ => mjk_9
  | 10, _ => mjk_10
  | 11, _ => mjk_11
  | 12, _ => mjk_12
  | 13, _ => mjk_13
  | 14, _ => mjk_14
  | 15, _ => mjk_15
  | 16, _ => mjk_16
  | 17, _ => mjk_17
  | 18, _ => mjk_18
  | 19, _ => mjk_19
  | 20, _ => mjk_20
  | 21, _ => mjk_21
  | 22, _ => mjk_22
  | 23, _ => mjk_23
  | 24, _ => mjk_24
  | 25, _ => mjk_25
  | 26, _ => mjk_26
  | 27, _ => mjk_27
  | 28, _ => mjk_28
  | 29, _ => mjk_29
  | 30, _ => mjk_30
  | i + 31, h => absurd h (by omega)
theorem mjks_31 : ∀ i, i < 31 → mjChk (mjMeth (31 + i)).1.cls (mjIsInit (31 + i)) (mjMeth (31 + i)).2.1 (mjCode.getD (31 + i) []) = true
  | 0, _ => mjk_31
  | 1, _ => mjk_32
  | 2, _ => mjk_33
  | 3, _ => mjk_34
  | 4, _ => mjk_35
  | 5, _ => mjk_36
  | 6, _ => mjk_37
  | 7, _ => mjk_38
  | 8, _ => mjk_39
  | 9, _ => mjk_40
  | 10, _ => mjk_41
  | 11, _ => mjk_42
  | 12, _ => mjk_43
  | 13, _ => mjk_44
  | 14, _ => mjk_45
  | 15, _ => mjk_46
  | 16, _ => mjk_47
  | 17, _ => mjk_48
  | 18, _ => mjk_49
  | 19, _ => mjk_50
  | 20, _ => mjk_51
  | 21, _ => mjk_52
  | 22, _ => mjk_53
  | 23, _ => mjk_54
  | 24, _ => mjk_55
  | 25, _ => mjk_56
  | 26, _ => mjk_57
  | 27, _ => mjk_58
  | 28, _ => mjk_59
  | 29, _ => mjk_60
  | 30, _ => mjk_61
  | i + 31, h => absurd h (by omega)
theorem mjks_62 : ∀ i, i < 31 → mjChk (mjMeth (62 + i)).1.cls (mjIsInit (62 + i)) (mjMeth (62 + i)).2.1 (mjCode.getD (62 + i) []) = true
  | 0, _ => mjk_62
  | 1, _ => mjk_63
  | 2, _ => mjk_64
  | 3, _ => mjk_65
  | 4, _ => mjk_66
  | 5, _ => mjk_67
  | 6, _ => mjk_68
  | 7, _ => mjk_69
  | 8, _ => mjk_70
  | 9, _ => mjk_71
  | 10, _ => mjk_72
  | 11, _ => mjk_73
  | 12, _ => mjk_74
  | 13, _ => mjk_75
  | 14, _ => mjk_76
  | 15, _ => mjk_77
  | 16, _ => mjk_78
  | 17, _ => mjk_79
  | 18, _ => mjk_80
  | 19, _ => mjk_81
  | 20, _ => mjk_82
  | 21, _ => mjk_83
  | 22, _ => mjk_84
  | 23, _ => mjk_85
  | 24, _ => mjk_86
  | 25, _ => mjk_87
  | 26, _ => mjk_88
  | 27, _ => mjk_89
  | 28, _ => mjk_90
  | 29, _ => mjk_91
  | 30, _ => mjk_92
  | i + 31, h => absurd h (by omega)
theorem mjks_93 : ∀ i, i < 31 → mjChk (mjMeth (93 + i)).1.cls (mjIsInit (93 + i)) (mjMeth (93 + i)).2.1 (mjCode.getD (93 + i) []) = true
  | 0, _ => mjk_93
  | 1, _ => mjk_94
  | 2, _ => mjk_95
  | 3, _ => mjk_96
  | 4, _ => mjk_97
  | 5, _ => mjk_98
  | 6, _ => mjk_99
  | 7, _ => mjk_100
  | 8, _ => mjk_101
  | 9, _ => mjk_102
  | 10, _ => mjk_103
  | 11, _ => mjk_104
  | 12, _ => mjk_105
  | 13, _ => mjk_106
  | 14, _ => mjk_107
  | 15, _ => mjk_108
  | 16, _ => mjk_109
  | 17, _ => mjk_110
  | 18, _ => mjk_111
  | 19, _ => mjk_112
  | 20, _ => mjk_113
  | 21, _ => mjk_114
  | 22, _ => mjk_115
  | 23, _ => mjk_116
  | 24, _ => mjk_117
  | 25, _ => mjk_118
  | 26, _ => mjk_119
  | 27, _ => mjk_120
  | 28, _ => mjk_121
  | 29, _ => mjk_122
  | 30, _ => mjk_123
  | i + 31, h => absurd h (by omega)
theorem mjks_124 : ∀ i, i < 31 → mjChk (mjMeth (124 + i)).1.cls (mjIsInit (124 + i)) (mjMeth (124 + i)).2.1 (mjCode.getD (124 + i) []) = true
  | 0, _ => mjk_124
  | 1, _ => mjk_125
  | 2, _ => mjk_126
  | 3, _ => mjk_127
  | 4, _ => mjk_128
  | 5, _ => mjk_129
  | 6, _ => mjk_130
  | 7, _ => mjk_131
  | 8, _ => mjk_132
  | 9, _ => mjk_133
  | 10, _ => mjk_134
  | 11, _ => mjk_135
  | 12, _ => mjk_136
  | 13, _ => mjk_137
  | 14, _ => mjk_138
  | 15, _ => mjk_139
  | 16, _ => mjk_140
  | 17, _ => mjk_141
  | 18, _ => mjk_142
  | 19, _ => mjk_143
  | 20, _ => mjk_144
  | 21, _ => mjk_145
  | 22, _ => mjk_146
  | 23, _ => mjk_147
  | 24, _ => mjk_148
  | 25, _ => mjk_149
  | 26, _ => mjk_150
  | 27, _ => mjk_151
  | 28, _ => mjk_152
  | 29, _ => mjk_153
  | 30, _ => mjk_154
  | i + 31, h => absurd h (by omega)
theorem mjks_155 : ∀ i, i < 31 → mjChk (mjMeth (155 + i)).1.cls (mjIsInit (155 + i)) (mjMeth (155 + i)).2.1 (mjCode.getD (155 + i) []) = true
  | 0, _ => mjk_155
  | 1, _ => mjk_156
  | 2, _ => mjk_157
  | 3, _ => mjk_158
  | 4, _ => mjk_159
  | 5, _ => mjk_160
  | 6, _ => mjk_161
  | 7, _ => mjk_162
  | 8, _ => mjk_163
  | 9, _ => mjk_164
  | 10, _ => mjk_165
  | 11, _ => mjk_166
  | 12, _ => mjk_167
  | 13, _ => mjk_168
  | 14, _ => mjk_169
  | 15, _ => mjk_170
  | 16, _ => mjk_171
  | 17, _ => mjk_172
  | 18, _ => mjk_173
  | 19, _ => mjk_174
  | 20, _ => mjk_175
  | 21, _ => mjk_176
  | 22, _ => mjk_177
  | 23, _ => mjk_178
  | 24, _ => mjk_179
  | 25, _ => mjk_180
  | 26, _ => mjk_181
  | 27, _ => mjk_182
  | 28, _ => mjk_183
  | 29, _ => mjk_184
  | 30, _ => mjk_185
  | i + 31, h => absurd h (by omega)
theorem mjks_186 : ∀ i, i < 31 → mjChk (mjMeth (186 + i)).1.cls (mjIsInit (186 + i)) (mjMeth (186 + i)).2.1 (mjCode.getD (186 + i) []) = true
  | 0, _ => mjk_186
  | 1, _ => mjk_187
  | 2, _ => mjk_188
  | 3, _ => mjk_189
  | 4, _ => mjk_190
  | 5, _ => mjk_191
  | 6, _ => mjk_192
  | 7, _ => mjk_193
  | 8, _ => mjk_194
  | 9, _ => mjk_195
  | 10, _ => mjk_196
  | 11, _ => mjk_197
  | 12, _ => mjk_198
  | 13, _ => mjk_199
  | 14, _ => mjk_200
  | 15, _ => mjk_201
  | 16, _ => mjk_202
  | 17, _ => mjk_203
  | 18, _ => mjk_204
  | 19, _ => mjk_205
  | 20, _ => mjk_206
  | 21, _ => mjk_207
  | 22, _ => mjk_208
  | 23, _ => mjk_209
  | 24, _ => mjk_210
  | 25, _ => mjk_211
  | 26, _ => mjk_212
  | 27, _ => mjk_213
  | 28, _ => mjk_214
  | 29, _ => mjk_215
  | 30, _ => mjk_216
  | i + 31, h => absurd h (by omega)
theorem mjks_217 : ∀ i, i < 31 → mjChk (mjMeth (217 + i)).1.cls (mjIsInit (217 + i)) (mjMeth (217 + i)).2.1 (mjCode.getD (217 + i) []) = true
  | 0, _ => mjk_217
  | 1, _ => mjk_218
  | 2, _ => mjk_219
  | 3, _ => mjk_220
  | 4, _ => mjk_221
  | 5, _ => mjk_222
  | 6, _ => mjk_223
  | 7, _ => mjk_224
  | 8, _ => mjk_225
  | 9, _ => mjk_226
  | 10, _ => mjk_227
  | 11, _ => mjk_228
  | 12, _ => mjk_229
  | 13, _ => mjk_230
  | 14, _ => mjk_231
  | 15, _ => mjk_232
  | 16, _ => mjk_233
  | 17, _ => mjk_234
  | 18, _ => mjk_235
  | 19, _ => mjk_236
  | 20, _ => mjk_237
  | 21, _ => mjk_238
  | 22, _ => mjk_239
  | 23, _ => mjk_240
  | 24, _ => mjk_241
  | 25, _ => mjk_242
  | 26, _ => mjk_243
  | 27, _ => mjk_244
  | 28, _ => mjk_245
  | 29, _ => mjk_246
  | 30, _ => mjk_247
  | i + 31, h => absurd h (by omega)
theorem mjks_248 : ∀ i, i < 31 → mjChk (mjMeth (248 + i)).1.cls (mjIsInit (248 + i)) (mjMeth (248 + i)).2.1 (mjCode.getD (248 + i) []) = true
  | 0, _ => mjk_248
  | 1, _ => mjk_249
  | 2, _ => mjk_250
  | 3, _ => mjk_251
  | 4, _ => mjk_252
  | 5, _ => mjk_253
  | 6, _ => mjk_254
  | 7, _ => mjk_255
  | 8, _ => mjk_256
  | 9, _ => mjk_257
  | 10, _ => mjk_258
  | 11, _ => mjk_259
  | 12, _ => mjk_260
  | 13, _ => mjk_261
  | 14, _ => mjk_262
  | 15, _ => mjk_263
  | 16, _ => mjk_264
  | 17, _ => mjk_265
  | 18, _ => mjk_266
  | 19, _ => mjk_267
  | 20, _ => mjk_268
  | 21, _ => mjk_269
  | 22, _ => mjk_270
  | 23, _ => mjk_271
  | 24, _ => mjk_272
  | 25, _ => mjk_273
  | 26, _ => mjk_274
  | 27, _ => mjk_275
  | 28, _ => mjk_276
  | 29, _ => mjk_277
  | 30, _ => mjk_278
  | i + 31, h => absurd h (by omega)
theorem mjks_279 : ∀ i, i < 31 → mjChk (mjMeth (279 + i)).1.cls (mjIsInit (279 + i)) (mjMeth (279 + i)).2.1 (mjCode.getD (279 + i) []) = true
  | 0, _ => mjk_279
  | 1, _ => mjk_280
  | 2, _ => mjk_281
  | 3, _ => mjk_282
  | 4, _ => mjk_283
  | 5, _ => mjk_284
  | 6, _ => mjk_285
  | 7, _ => mjk_286
  | 8, _ => mjk_287
  | 9, _ => mjk_288
  | 10, _ => mjk_289
  | 11, _ => mjk_290
  | 12, _ => mjk_291
  | 13, _ => mjk_292
  | 14, _ => mjk_293
  | 15, _ => mjk_294
  | 16, _ => mjk_295
  | 17, _ => mjk_296
  | 18, _ => mjk_297
  | 19, _ => mjk_298
  | 20, _ => mjk_299
  | 21, _ => mjk_300
  | 22, _ => mjk_301
  | 23, _ => mjk_302
  | 24, _ => mjk_303
  | 25, _ => mjk_304
  | 26, _ => mjk_305
  | 27, _ => mjk_306
  | 28, _ => mjk_307
  | 29, _ => mjk_308
  | 30, _ => mjk_309
  | i + 31, h => absurd h (by omega)
theorem mjChk_all {y : Nat} (hy : y < 310) : mjChk (mjMeth y).1.cls (mjIsInit y) (mjMeth y).2.1 (mjCode.getD y []) = true := by
  by_cases h0 : y < 31
  · have h := mjks_0 (y - 0) (by omega)
    rw [show 0 + (y - 0) = y by omega] at h
    exact h
  by_cases h31 : y < 62
  · have h := mjks_31 (y - 31) (by omega)
    rw [show 31 + (y - 31) = y by omega] at h
    exact h
  by_cases h62 : y < 93
  · have h := mjks_62 (y - 62) (by omega)
    rw [show 62 + (y - 62) = y by omega] at h
    exact h
  by_cases h93 : y < 124
  · have h := mjks_93 (y - 93) (by omega)
    rw [show 93 + (y - 93) = y by omega] at h
    exact h
  by_cases h124 : y < 155
  · have h := mjks_124 (y - 124) (by omega)
    rw [show 124 + (y - 124) = y by omega] at h
    exact h
  by_cases h155 : y < 186
  · have h := mjks_155 (y - 155) (by omega)
    rw [show 155 + (y - 155) = y by omega] at h
    exact h
  by_cases h186 : y < 217
  · have h := mjks_186 (y - 186) (by omega)
    rw [show 186 + (y - 186) = y by omega] at h
    exact h
  by_cases h217 : y < 248
  · have h := mjks_217 (y - 217) (by omega)
    rw [show 217 + (y - 217) = y by omega] at h
    exact h
  by_cases h248 : y < 279
  · have h := mjks_248 (y - 248) (by omega)
    rw [show 248 + (y - 248) = y by omega] at h
    exact h
  by_cases h279 : y < 310
  · have h := mjks_279 (y - 279) (by omega)
    rw [show 279 + (y - 279) = y by omega] at h
    exact h
  exact absurd hy (by omega)
theorem mj_lookup {α : Type} : ∀ (l : List (Nat × α)) (k : Nat) (v : α), l.lookup k = some v → (k, v) ∈ l := by
  intro l
  induction l with
  | nil => intro k v h; cases h
  | cons a l ih =>
    intro k v h
    obtain ⟨a1, a2⟩ := a
    rw [List.lookup_cons] at h
    split at h
    · rename_i e
      cases h
      rw [eq_of_beq e]
      exact List.mem_cons_self
    · exact List.mem_cons_of_mem _ (ih k v h)
theorem mjCode_at {y pc : Nat} {q : MjIns} (hy : y < mjMeths.length) (hq : mjFetch y pc = some q) : decode (mjMeth y).2.1 pc = .ok (mjEnc pc q) ∧ mjOk (mjMeth y).1.cls (mjIsInit y) q = true := by
  have h := List.all_eq_true.mp (mjChk_all (y := y) (Nat.lt_of_lt_of_le hy (by decide +kernel))) _ (mj_lookup _ _ _ hq)
  obtain ⟨h1, h2⟩ := Bool.and_eq_true_iff.mp h
  exact ⟨of_decide_eq_true h1, h2⟩
