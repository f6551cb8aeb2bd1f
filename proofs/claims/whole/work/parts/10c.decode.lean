theorem zlc : zc258 = zla0 ++ (zla1 ++ (zla2 ++ (zla3 ++ (zla4 ++ (zla5 ++ (zla6 ++ (zla7 ++ (zla8 ++ (zla9 ++ (zla10 ++ (zla11 ++ (zla12 ++ (zla13 ++ (zla14 ++ (zla15 ++ (zla16 ++ (zla17 ++ (zla18 ++ (zla19 ++ (zla20 ++ (zla21))))))))))))))))))))) := by decide +kernel
theorem zd_258 : zdP 258 cL_law zc258 := by
  rw [zlc]
  exact zdP_app zlb0 (zdP_app zlb1 (zdP_app zlb2 (zdP_app zlb3 (zdP_app zlb4 (zdP_app zlb5 (zdP_app zlb6 (zdP_app zlb7 (zdP_app zlb8 (zdP_app zlb9 (zdP_app zlb10 (zdP_app zlb11 (zdP_app zlb12 (zdP_app zlb13 (zdP_app zlb14 (zdP_app zlb15 (zdP_app zlb16 (zdP_app zlb17 (zdP_app zlb18 (zdP_app zlb19 (zdP_app zlb20 (zlb21)))))))))))))))))))))
theorem zdk_0 : ∀ mi, 0 ≤ mi → mi < 20 → zdP mi (zmd mi).2.1 (zcodes.getD mi []) := by
  intro mi h1 h2
  obtain ⟨j, rfl⟩ : ∃ j, mi = 0 + j := ⟨mi - 0, by omega⟩
  have h3 : j < 20 := by omega
  match j, h3 with
  | 0, _ => exact zd_0
  | 1, _ => exact zd_1
  | 2, _ => exact zd_2
  | 3, _ => exact zd_3
  | 4, _ => exact zd_4
  | 5, _ => exact zd_5
  | 6, _ => exact zd_6
  | 7, _ => exact zd_7
  | 8, _ => exact zd_8
  | 9, _ => exact zd_9
  | 10, _ => exact zd_10
  | 11, _ => exact zd_11
  | 12, _ => exact zd_12
  | 13, _ => exact zd_13
  | 14, _ => exact zd_14
  | 15, _ => exact zd_15
  | 16, _ => exact zd_16
  | 17, _ => exact zd_17
  | 18, _ => exact zd_18
  | 19, _ => exact zd_19
  | j + 20, h => exact absurd h (by omega)
theorem zdk_1 : ∀ mi, 20 ≤ mi → mi < 40 → zdP mi (zmd mi).2.1 (zcodes.getD mi []) := by
  intro mi h1 h2
  obtain ⟨j, rfl⟩ : ∃ j, mi = 20 + j := ⟨mi - 20, by omega⟩
  have h3 : j < 20 := by omega
  match j, h3 with
  | 0, _ => exact zd_20
  | 1, _ => exact zd_21
  | 2, _ => exact zd_22
  | 3, _ => exact zd_23
  | 4, _ => exact zd_24
  | 5, _ => exact zd_25
  | 6, _ => exact zd_26
  | 7, _ => exact zd_27
  | 8, _ => exact zd_28
  | 9, _ => exact zd_29
  | 10, _ => exact zd_30
  | 11, _ => exact zd_31
  | 12, _ => exact zd_32
  | 13, _ => exact zd_33
  | 14, _ => exact zd_34
  | 15, _ => exact zd_35
  | 16, _ => exact zd_36
  | 17, _ => exact zd_37
  | 18, _ => exact zd_38
  | 19, _ => exact zd_39
  | j + 20, h => exact absurd h (by omega)
theorem zdk_2 : ∀ mi, 40 ≤ mi → mi < 60 → zdP mi (zmd mi).2.1 (zcodes.getD mi []) := by
  intro mi h1 h2
  obtain ⟨j, rfl⟩ : ∃ j, mi = 40 + j := ⟨mi - 40, by omega⟩
  have h3 : j < 20 := by omega
  match j, h3 with
  | 0, _ => exact zd_40
  | 1, _ => exact zd_41
  | 2, _ => exact zd_42
  | 3, _ => exact zd_43
  | 4, _ => exact zd_44
  | 5, _ => exact zd_45
  | 6, _ => exact zd_46
  | 7, _ => exact zd_47
  | 8, _ => exact zd_48
  | 9, _ => exact zd_49
  | 10, _ => exact zd_50
  | 11, _ => exact zd_51
  | 12, _ => exact zd_52
  | 13, _ => exact zd_53
  | 14, _ => exact zd_54
  | 15, _ => exact zd_55
  | 16, _ => exact zd_56
  | 17, _ => exact zd_57
  | 18, _ => exact zd_58
  | 19, _ => exact zd_59
  | j + 20, h => exact absurd h (by omega)
theorem zdk_3 : ∀ mi, 60 ≤ mi → mi < 80 → zdP mi (zmd mi).2.1 (zcodes.getD mi []) := by
  intro mi h1 h2
  obtain ⟨j, rfl⟩ : ∃ j, mi = 60 + j := ⟨mi - 60, by omega⟩
  have h3 : j < 20 := by omega
  match j, h3 with
  | 0, _ => exact zd_60
  | 1, _ => exact zd_61
  | 2, _ => exact zd_62
  | 3, _ => exact zd_63
  | 4, _ => exact zd_64
  | 5, _ => exact zd_65
  | 6, _ => exact zd_66
  | 7, _ => exact zd_67
  | 8, _ => exact zd_68
  | 9, _ => exact zd_69
  | 10, _ => exact zd_70
  | 11, _ => exact zd_71
  | 12, _ => exact zd_72
  | 13, _ => exact zd_73
  | 14, _ => exact zd_74
  | 15, _ => exact zd_75
  | 16, _ => exact zd_76
  | 17, _ => exact zd_77
  | 18, _ => exact zd_78
  | 19, _ => exact zd_79
  | j + 20, h => exact absurd h (by omega)
theorem zdk_4 : ∀ mi, 80 ≤ mi → mi < 100 → zdP mi (zmd mi).2.1 (zcodes.getD mi []) := by
  intro mi h1 h2
  obtain ⟨j, rfl⟩ : ∃ j, mi = 80 + j := ⟨mi - 80, by omega⟩
  have h3 : j < 20 := by omega
  match j, h3 with
  | 0, _ => exact zd_80
  | 1, _ => exact zd_81
  | 2, _ => exact zd_82
  | 3, _ => exact zd_83
  | 4, _ => exact zd_84
  | 5, _ => exact zd_85
  | 6, _ => exact zd_86
  | 7, _ => exact zd_87
  | 8, _ => exact zd_88
  | 9, _ => exact zd_89
  | 10, _ => exact zd_90
  | 11, _ => exact zd_91
  | 12, _ => exact zd_92
  | 13, _ => exact zd_93
  | 14, _ => exact zd_94
  | 15, _ => exact zd_95
  | 16, _ => exact zd_96
  | 17, _ => exact zd_97
  | 18, _ => exact zd_98
  | 19, _ => exact zd_99
  | j + 20, h => exact absurd h (by omega)
theorem zdk_5 : ∀ mi, 100 ≤ mi → mi < 120 → zdP mi (zmd mi).2.1 (zcodes.getD mi []) := by
  intro mi h1 h2
  obtain ⟨j, rfl⟩ : ∃ j, mi = 100 + j := ⟨mi - 100, by omega⟩
  have h3 : j < 20 := by omega
  match j, h3 with
  | 0, _ => exact zd_100
  | 1, _ => exact zd_101
  | 2, _ => exact zd_102
  | 3, _ => exact zd_103
  | 4, _ => exact zd_104
  | 5, _ => exact zd_105
  | 6, _ => exact zd_106
  | 7, _ => exact zd_107
  | 8, _ => exact zd_108
  | 9, _ => exact zd_109
  | 10, _ => exact zd_110
  | 11, _ => exact zd_111
  | 12, _ => exact zd_112
  | 13, _ => exact zd_113
  | 14, _ => exact zd_114
  | 15, _ => exact zd_115
  | 16, _ => exact zd_116
  | 17, _ => exact zd_117
  | 18, _ => exact zd_118
  | 19, _ => exact zd_119
  | j + 20, h => exact absurd h (by omega)
theorem zdk_6 : ∀ mi, 120 ≤ mi → mi < 140 → zdP mi (zmd mi).2.1 (zcodes.getD mi []) := by
  intro mi h1 h2
  obtain ⟨j, rfl⟩ : ∃ j, mi = 120 + j := ⟨mi - 120, by omega⟩
  have h3 : j < 20 := by omega
  match j, h3 with
  | 0, _ => exact zd_120
  | 1, _ => exact zd_121
  | 2, _ => exact zd_122
  | 3, _ => exact zd_123
  | 4, _ => exact zd_124
  | 5, _ => exact zd_125
  | 6, _ => exact zd_126
  | 7, _ => exact zd_127
  | 8, _ => exact zd_128
  | 9, _ => exact zd_129
  | 10, _ => exact zd_130
  | 11, _ => exact zd_131
  | 12, _ => exact zd_132
  | 13, _ => exact zd_133
  | 14, _ => exact zd_134
  | 15, _ => exact zd_135
  | 16, _ => exact zd_136
  | 17, _ => exact zd_137
  | 18, _ => exact zd_138
  | 19, _ => exact zd_139
  | j + 20, h => exact absurd h (by omega)
theorem zdk_7 : ∀ mi, 140 ≤ mi → mi < 160 → zdP mi (zmd mi).2.1 (zcodes.getD mi []) := by
  intro mi h1 h2
  obtain ⟨j, rfl⟩ : ∃ j, mi = 140 + j := ⟨mi - 140, by omega⟩
  have h3 : j < 20 := by omega
  match j, h3 with
  | 0, _ => exact zd_140
  | 1, _ => exact zd_141
  | 2, _ => exact zd_142
  | 3, _ => exact zd_143
  | 4, _ => exact zd_144
  | 5, _ => exact zd_145
  | 6, _ => exact zd_146
  | 7, _ => exact zd_147
  | 8, _ => exact zd_148
  | 9, _ => exact zd_149
  | 10, _ => exact zd_150
  | 11, _ => exact zd_151
  | 12, _ => exact zd_152
  | 13, _ => exact zd_153
  | 14, _ => exact zd_154
  | 15, _ => exact zd_155
  | 16, _ => exact zd_156
  | 17, _ => exact zd_157
  | 18, _ => exact zd_158
  | 19, _ => exact zd_159
  | j + 20, h => exact absurd h (by omega)
theorem zdk_8 : ∀ mi, 160 ≤ mi → mi < 180 → zdP mi (zmd mi).2.1 (zcodes.getD mi []) := by
  intro mi h1 h2
  obtain ⟨j, rfl⟩ : ∃ j, mi = 160 + j := ⟨mi - 160, by omega⟩
  have h3 : j < 20 := by omega
  match j, h3 with
  | 0, _ => exact zd_160
  | 1, _ => exact zd_161
  | 2, _ => exact zd_162
  | 3, _ => exact zd_163
  | 4, _ => exact zd_164
  | 5, _ => exact zd_165
  | 6, _ => exact zd_166
  | 7, _ => exact zd_167
  | 8, _ => exact zd_168
  | 9, _ => exact zd_169
  | 10, _ => exact zd_170
  | 11, _ => exact zd_171
  | 12, _ => exact zd_172
  | 13, _ => exact zd_173
  | 14, _ => exact zd_174
  | 15, _ => exact zd_175
  | 16, _ => exact zd_176
  | 17, _ => exact zd_177
  | 18, _ => exact zd_178
  | 19, _ => exact zd_179
  | j + 20, h => exact absurd h (by omega)
theorem zdk_9 : ∀ mi, 180 ≤ mi → mi < 200 → zdP mi (zmd mi).2.1 (zcodes.getD mi []) := by
  intro mi h1 h2
  obtain ⟨j, rfl⟩ : ∃ j, mi = 180 + j := ⟨mi - 180, by omega⟩
  have h3 : j < 20 := by omega
  match j, h3 with
  | 0, _ => exact zd_180
  | 1, _ => exact zd_181
  | 2, _ => exact zd_182
  | 3, _ => exact zd_183
  | 4, _ => exact zd_184
  | 5, _ => exact zd_185
  | 6, _ => exact zd_186
  | 7, _ => exact zd_187
  | 8, _ => exact zd_188
  | 9, _ => exact zd_189
  | 10, _ => exact zd_190
  | 11, _ => exact zd_191
  | 12, _ => exact zd_192
  | 13, _ => exact zd_193
  | 14, _ => exact zd_194
  | 15, _ => exact zd_195
  | 16, _ => exact zd_196
  | 17, _ => exact zd_197
  | 18, _ => exact zd_198
  | 19, _ => exact zd_199
  | j + 20, h => exact absurd h (by omega)
theorem zdk_10 : ∀ mi, 200 ≤ mi → mi < 220 → zdP mi (zmd mi).2.1 (zcodes.getD mi []) := by
  intro mi h1 h2
  obtain ⟨j, rfl⟩ : ∃ j, mi = 200 + j := ⟨mi - 200, by omega⟩
  have h3 : j < 20 := by omega
  match j, h3 with
  | 0, _ => exact zd_200
  | 1, _ => exact zd_201
  | 2, _ => exact zd_202
  | 3, _ => exact zd_203
  | 4, _ => exact zd_204
  | 5, _ => exact zd_205
  | 6, _ => exact zd_206
  | 7, _ => exact zd_207
  | 8, _ => exact zd_208
  | 9, _ => exact zd_209
  | 10, _ => exact zd_210
  | 11, _ => exact zd_211
  | 12, _ => exact zd_212
  | 13, _ => exact zd_213
  | 14, _ => exact zd_214
  | 15, _ => exact zd_215
  | 16, _ => exact zd_216
  | 17, _ => exact zd_217
  | 18, _ => exact zd_218
  | 19, _ => exact zd_219
  | j + 20, h => exact absurd h (by omega)
theorem zdk_11 : ∀ mi, 220 ≤ mi → mi < 240 → zdP mi (zmd mi).2.1 (zcodes.getD mi []) := by
  intro mi h1 h2
  obtain ⟨j, rfl⟩ : ∃ j, mi = 220 + j := ⟨mi - 220, by omega⟩
  have h3 : j < 20 := by omega
  match j, h3 with
  | 0, _ => exact zd_220
  | 1, _ => exact zd_221
  | 2, _ => exact zd_222
  | 3, _ => exact zd_223
  | 4, _ => exact zd_224
  | 5, _ => exact zd_225
  | 6, _ => exact zd_226
  | 7, _ => exact zd_227
  | 8, _ => exact zd_228
  | 9, _ => exact zd_229
  | 10, _ => exact zd_230
  | 11, _ => exact zd_231
  | 12, _ => exact zd_232
  | 13, _ => exact zd_233
  | 14, _ => exact zd_234
  | 15, _ => exact zd_235
  | 16, _ => exact zd_236
  | 17, _ => exact zd_237
  | 18, _ => exact zd_238
  | 19, _ => exact zd_239
  | j + 20, h => exact absurd h (by omega)
theorem zdk_12 : ∀ mi, 240 ≤ mi → mi < 260 → zdP mi (zmd mi).2.1 (zcodes.getD mi []) := by
  intro mi h1 h2
  obtain ⟨j, rfl⟩ : ∃ j, mi = 240 + j := ⟨mi - 240, by omega⟩
  have h3 : j < 20 := by omega
  match j, h3 with
  | 0, _ => exact zd_240
  | 1, _ => exact zd_241
  | 2, _ => exact zd_242
  | 3, _ => exact zd_243
  | 4, _ => exact zd_244
  | 5, _ => exact zd_245
  | 6, _ => exact zd_246
  | 7, _ => exact zd_247
  | 8, _ => exact zd_248
  | 9, _ => exact zd_249
  | 10, _ => exact zd_250
  | 11, _ => exact zd_251
  | 12, _ => exact zd_252
  | 13, _ => exact zd_253
  | 14, _ => exact zd_254
  | 15, _ => exact zd_255
  | 16, _ => exact zd_256
  | 17, _ => exact zd_257
  | 18, _ => exact zd_258
  | 19, _ => exact zd_259
  | j + 20, h => exact absurd h (by omega)
theorem zdk_13 : ∀ mi, 260 ≤ mi → mi < 268 → zdP mi (zmd mi).2.1 (zcodes.getD mi []) := by
  intro mi h1 h2
  obtain ⟨j, rfl⟩ : ∃ j, mi = 260 + j := ⟨mi - 260, by omega⟩
  have h3 : j < 8 := by omega
  match j, h3 with
  | 0, _ => exact zd_260
  | 1, _ => exact zd_261
  | 2, _ => exact zd_262
  | 3, _ => exact zd_263
  | 4, _ => exact zd_264
  | 5, _ => exact zd_265
  | 6, _ => exact zd_266
  | 7, _ => exact zd_267
  | j + 8, h => exact absurd h (by omega)
theorem zdk : ∀ mi, mi < 268 → zdP mi (zmd mi).2.1 (zcodes.getD mi []) := by
  intro mi h
  by_cases h0 : mi < 20
  · exact zdk_0 mi (by omega) h0
  by_cases h1 : mi < 40
  · exact zdk_1 mi (by omega) h1
  by_cases h2 : mi < 60
  · exact zdk_2 mi (by omega) h2
  by_cases h3 : mi < 80
  · exact zdk_3 mi (by omega) h3
  by_cases h4 : mi < 100
  · exact zdk_4 mi (by omega) h4
  by_cases h5 : mi < 120
  · exact zdk_5 mi (by omega) h5
  by_cases h6 : mi < 140
  · exact zdk_6 mi (by omega) h6
  by_cases h7 : mi < 160
  · exact zdk_7 mi (by omega) h7
  by_cases h8 : mi < 180
  · exact zdk_8 mi (by omega) h8
  by_cases h9 : mi < 200
  · exact zdk_9 mi (by omega) h9
  by_cases h10 : mi < 220
  · exact zdk_10 mi (by omega) h10
  by_cases h11 : mi < 240
  · exact zdk_11 mi (by omega) h11
  by_cases h12 : mi < 260
  · exact zdk_12 mi (by omega) h12
  exact zdk_13 mi (by omega) (by omega)
