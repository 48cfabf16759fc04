theorem dX10_init_0 : decode cX10_init 0 = .ok (.aload_n 0, 1) := by decide +kernel
theorem dX10_init_1 : decode cX10_init 1 = .ok (.invokespecial 1, 3) := by decide +kernel
theorem dX10_init_4 : decode cX10_init 4 = .ok (.aload_n 0, 1) := by decide +kernel
theorem dX10_init_5 : decode cX10_init 5 = .ok (.ldc 7, 2) := by decide +kernel
theorem dX10_init_7 : decode cX10_init 7 = .ok (.newarray .int, 2) := by decide +kernel
theorem dX10_init_9 : decode cX10_init 9 = .ok (.putfield 8, 3) := by decide +kernel
theorem dX10_init_12 : decode cX10_init 12 = .ok (.aload_n 0, 1) := by decide +kernel
theorem dX10_init_13 : decode cX10_init 13 = .ok (.ldc 14, 2) := by decide +kernel
theorem dX10_init_15 : decode cX10_init 15 = .ok (.newarray .int, 2) := by decide +kernel
theorem dX10_init_17 : decode cX10_init 17 = .ok (.putfield 15, 3) := by decide +kernel
theorem dX10_init_20 : decode cX10_init 20 = .ok (.aload_n 0, 1) := by decide +kernel
theorem dX10_init_21 : decode cX10_init 21 = .ok (.sipush 186, 3) := by decide +kernel
theorem dX10_init_24 : decode cX10_init 24 = .ok (.newarray .int, 2) := by decide +kernel
theorem dX10_init_26 : decode cX10_init 26 = .ok (.putfield 18, 3) := by decide +kernel
theorem dX10_init_29 : decode cX10_init 29 = .ok (.aload_n 0, 1) := by decide +kernel
theorem dX10_init_30 : decode cX10_init 30 = .ok (.sipush 183, 3) := by decide +kernel
theorem dX10_init_33 : decode cX10_init 33 = .ok (.newarray .int, 2) := by decide +kernel
theorem dX10_init_35 : decode cX10_init 35 = .ok (.putfield 21, 3) := by decide +kernel
theorem dX10_init_38 : decode cX10_init 38 = .ok (.aload_n 0, 1) := by decide +kernel
theorem dX10_init_39 : decode cX10_init 39 = .ok (.sipush 183, 3) := by decide +kernel
theorem dX10_init_42 : decode cX10_init 42 = .ok (.newarray .int, 2) := by decide +kernel
theorem dX10_init_44 : decode cX10_init 44 = .ok (.putfield 24, 3) := by decide +kernel
theorem dX10_init_47 : decode cX10_init 47 = .ok (.aload_n 0, 1) := by decide +kernel
theorem dX10_init_48 : decode cX10_init 48 = .ok (.ldc 27, 2) := by decide +kernel
theorem dX10_init_50 : decode cX10_init 50 = .ok (.newarray .int, 2) := by decide +kernel
theorem dX10_init_52 : decode cX10_init 52 = .ok (.putfield 28, 3) := by decide +kernel
theorem dX10_init_55 : decode cX10_init 55 = .ok (.aload_n 0, 1) := by decide +kernel
theorem dX10_init_56 : decode cX10_init 56 = .ok (.ldc 27, 2) := by decide +kernel
theorem dX10_init_58 : decode cX10_init 58 = .ok (.newarray .int, 2) := by decide +kernel
theorem dX10_init_60 : decode cX10_init 60 = .ok (.putfield 31, 3) := by decide +kernel
theorem dX10_init_63 : decode cX10_init 63 = .ok (.aload_n 0, 1) := by decide +kernel
theorem dX10_init_64 : decode cX10_init 64 = .ok (.ldc 27, 2) := by decide +kernel
theorem dX10_init_66 : decode cX10_init 66 = .ok (.newarray .int, 2) := by decide +kernel
theorem dX10_init_68 : decode cX10_init 68 = .ok (.putfield 34, 3) := by decide +kernel
theorem dX10_init_71 : decode cX10_init 71 = .ok (.aload_n 0, 1) := by decide +kernel
theorem dX10_init_72 : decode cX10_init 72 = .ok (.ldc 27, 2) := by decide +kernel
theorem dX10_init_74 : decode cX10_init 74 = .ok (.newarray .int, 2) := by decide +kernel
theorem dX10_init_76 : decode cX10_init 76 = .ok (.putfield 37, 3) := by decide +kernel
theorem dX10_init_79 : decode cX10_init 79 = .ok (.aload_n 0, 1) := by decide +kernel
theorem dX10_init_80 : decode cX10_init 80 = .ok (.ldc 27, 2) := by decide +kernel
theorem dX10_init_82 : decode cX10_init 82 = .ok (.newarray .long, 2) := by decide +kernel
theorem dX10_init_84 : decode cX10_init 84 = .ok (.putfield 40, 3) := by decide +kernel
theorem dX10_init_87 : decode cX10_init 87 = .ok (.aload_n 0, 1) := by decide +kernel
theorem dX10_init_88 : decode cX10_init 88 = .ok (.sipush 3360, 3) := by decide +kernel
theorem dX10_init_91 : decode cX10_init 91 = .ok (.newarray .int, 2) := by decide +kernel
theorem dX10_init_93 : decode cX10_init 93 = .ok (.putfield 44, 3) := by decide +kernel
theorem dX10_init_96 : decode cX10_init 96 = .ok (.aload_n 0, 1) := by decide +kernel
theorem dX10_init_97 : decode cX10_init 97 = .ok (.iconst 1, 1) := by decide +kernel
theorem dX10_init_98 : decode cX10_init 98 = .ok (.newarray .int, 2) := by decide +kernel
theorem dX10_init_100 : decode cX10_init 100 = .ok (.putfield 47, 3) := by decide +kernel
theorem dX10_init_103 : decode cX10_init 103 = .ok (.aload_n 0, 1) := by decide +kernel
theorem dX10_init_104 : decode cX10_init 104 = .ok (.iconst 1, 1) := by decide +kernel
theorem dX10_init_105 : decode cX10_init 105 = .ok (.putfield 50, 3) := by decide +kernel
theorem dX10_init_108 : decode cX10_init 108 = .ok (.aload_n 0, 1) := by decide +kernel
theorem dX10_init_109 : decode cX10_init 109 = .ok (.lconst 1, 1) := by decide +kernel
theorem dX10_init_110 : decode cX10_init 110 = .ok (.putfield 54, 3) := by decide +kernel
theorem dX10_init_113 : decode cX10_init 113 = .ok (.aload_n 0, 1) := by decide +kernel
theorem dX10_init_114 : decode cX10_init 114 = .ok (.bipush 60, 2) := by decide +kernel
theorem dX10_init_116 : decode cX10_init 116 = .ok (.newarray .int, 2) := by decide +kernel
theorem dX10_init_118 : decode cX10_init 118 = .ok (.putfield 58, 3) := by decide +kernel
theorem dX10_init_121 : decode cX10_init 121 = .ok (.aload_n 0, 1) := by decide +kernel
theorem dX10_init_122 : decode cX10_init 122 = .ok (.bipush 60, 2) := by decide +kernel
theorem dX10_init_124 : decode cX10_init 124 = .ok (.newarray .int, 2) := by decide +kernel
theorem dX10_init_126 : decode cX10_init 126 = .ok (.putfield 61, 3) := by decide +kernel
theorem dX10_init_129 : decode cX10_init 129 = .ok (.aload_n 0, 1) := by decide +kernel
theorem dX10_init_130 : decode cX10_init 130 = .ok (.bipush 60, 2) := by decide +kernel
theorem dX10_init_132 : decode cX10_init 132 = .ok (.newarray .long, 2) := by decide +kernel
theorem dX10_init_134 : decode cX10_init 134 = .ok (.putfield 64, 3) := by decide +kernel
theorem dX10_init_137 : decode cX10_init 137 = .ok (.aload_n 0, 1) := by decide +kernel
theorem dX10_init_138 : decode cX10_init 138 = .ok (.bipush 6, 2) := by decide +kernel
theorem dX10_init_140 : decode cX10_init 140 = .ok (.newarray .int, 2) := by decide +kernel
theorem dX10_init_142 : decode cX10_init 142 = .ok (.putfield 67, 3) := by decide +kernel
theorem dX10_init_145 : decode cX10_init 145 = .ok (.aload_n 0, 1) := by decide +kernel
theorem dX10_init_146 : decode cX10_init 146 = .ok (.sipush 1200, 3) := by decide +kernel
theorem dX10_init_149 : decode cX10_init 149 = .ok (.newarray .int, 2) := by decide +kernel
theorem dX10_init_151 : decode cX10_init 151 = .ok (.putfield 70, 3) := by decide +kernel
theorem dX10_init_154 : decode cX10_init 154 = .ok (.aload_n 0, 1) := by decide +kernel
theorem dX10_init_155 : decode cX10_init 155 = .ok (.sipush 1200, 3) := by decide +kernel
theorem dX10_init_158 : decode cX10_init 158 = .ok (.newarray .int, 2) := by decide +kernel
theorem dX10_init_160 : decode cX10_init 160 = .ok (.putfield 73, 3) := by decide +kernel
theorem dX10_init_163 : decode cX10_init 163 = .ok (.aload_n 0, 1) := by decide +kernel
theorem dX10_init_164 : decode cX10_init 164 = .ok (.sipush 1200, 3) := by decide +kernel
theorem dX10_init_167 : decode cX10_init 167 = .ok (.newarray .boolean, 2) := by decide +kernel
theorem dX10_init_169 : decode cX10_init 169 = .ok (.putfield 76, 3) := by decide +kernel
theorem dX10_init_172 : decode cX10_init 172 = .ok (.aload_n 0, 1) := by decide +kernel
theorem dX10_init_173 : decode cX10_init 173 = .ok (.sipush 400, 3) := by decide +kernel
theorem dX10_init_176 : decode cX10_init 176 = .ok (.newarray .int, 2) := by decide +kernel
theorem dX10_init_178 : decode cX10_init 178 = .ok (.putfield 80, 3) := by decide +kernel
theorem dX10_init_181 : decode cX10_init 181 = .ok (.aload_n 0, 1) := by decide +kernel
theorem dX10_init_182 : decode cX10_init 182 = .ok (.sipush 400, 3) := by decide +kernel
theorem dX10_init_185 : decode cX10_init 185 = .ok (.newarray .int, 2) := by decide +kernel
theorem dX10_init_187 : decode cX10_init 187 = .ok (.putfield 83, 3) := by decide +kernel
theorem dX10_init_190 : decode cX10_init 190 = .ok (.aload_n 0, 1) := by decide +kernel
theorem dX10_init_191 : decode cX10_init 191 = .ok (.lconst 1, 1) := by decide +kernel
theorem dX10_init_192 : decode cX10_init 192 = .ok (.putfield 86, 3) := by decide +kernel
theorem dX10_init_195 : decode cX10_init 195 = .ok (.aload_n 0, 1) := by decide +kernel
theorem dX10_init_196 : decode cX10_init 196 = .ok (.bipush 6, 2) := by decide +kernel
theorem dX10_init_198 : decode cX10_init 198 = .ok (.newarray .int, 2) := by decide +kernel
theorem dX10_init_200 : decode cX10_init 200 = .ok (.putfield 89, 3) := by decide +kernel
theorem dX10_init_203 : decode cX10_init 203 = .ok (.aload_n 0, 1) := by decide +kernel
theorem dX10_init_204 : decode cX10_init 204 = .ok (.ldc 92, 2) := by decide +kernel
theorem dX10_init_206 : decode cX10_init 206 = .ok (.newarray .int, 2) := by decide +kernel
theorem dX10_init_208 : decode cX10_init 208 = .ok (.putfield 93, 3) := by decide +kernel
theorem dX10_init_211 : decode cX10_init 211 = .ok (.aload_n 0, 1) := by decide +kernel
theorem dX10_init_212 : decode cX10_init 212 = .ok (.iconst 3, 1) := by decide +kernel
theorem dX10_init_213 : decode cX10_init 213 = .ok (.newarray .int, 2) := by decide +kernel
theorem dX10_init_215 : decode cX10_init 215 = .ok (.putfield 96, 3) := by decide +kernel
theorem dX10_init_218 : decode cX10_init 218 = .ok (.iconst 0, 1) := by decide +kernel
theorem dX10_init_219 : decode cX10_init 219 = .ok (.istore_n 1, 1) := by decide +kernel
theorem dX10_init_220 : decode cX10_init 220 = .ok (.iload_n 1, 1) := by decide +kernel
theorem dX10_init_221 : decode cX10_init 221 = .ok (.bipush 6, 2) := by decide +kernel
theorem dX10_init_223 : decode cX10_init 223 = .ok (.if_icmp .ge 31, 3) := by decide +kernel
theorem dX10_init_226 : decode cX10_init 226 = .ok (.aload_n 0, 1) := by decide +kernel
theorem dX10_init_227 : decode cX10_init 227 = .ok (.getfield 67, 3) := by decide +kernel
theorem dX10_init_230 : decode cX10_init 230 = .ok (.iload_n 1, 1) := by decide +kernel
theorem dX10_init_231 : decode cX10_init 231 = .ok (.iload_n 1, 1) := by decide +kernel
theorem dX10_init_232 : decode cX10_init 232 = .ok (.ifCond .ne 7, 3) := by decide +kernel
theorem dX10_init_235 : decode cX10_init 235 = .ok (.iconst 0, 1) := by decide +kernel
theorem dX10_init_236 : decode cX10_init 236 = .ok (.goto 4, 3) := by decide +kernel
theorem dX10_init_239 : decode cX10_init 239 = .ok (.iconst (-1), 1) := by decide +kernel
theorem dX10_init_240 : decode cX10_init 240 = .ok (.iastore, 1) := by decide +kernel
theorem dX10_init_241 : decode cX10_init 241 = .ok (.aload_n 0, 1) := by decide +kernel
theorem dX10_init_242 : decode cX10_init 242 = .ok (.getfield 89, 3) := by decide +kernel
theorem dX10_init_245 : decode cX10_init 245 = .ok (.iload_n 1, 1) := by decide +kernel
theorem dX10_init_246 : decode cX10_init 246 = .ok (.iconst (-1), 1) := by decide +kernel
theorem dX10_init_247 : decode cX10_init 247 = .ok (.iastore, 1) := by decide +kernel
theorem dX10_init_248 : decode cX10_init 248 = .ok (.iinc 1 1, 3) := by decide +kernel
theorem dX10_init_251 : decode cX10_init 251 = .ok (.goto (-31), 3) := by decide +kernel
theorem dX10_init_254 : decode cX10_init 254 = .ok (.aload_n 0, 1) := by decide +kernel
theorem dX10_init_255 : decode cX10_init 255 = .ok (.getfield 58, 3) := by decide +kernel
theorem dX10_init_258 : decode cX10_init 258 = .ok (.iconst 0, 1) := by decide +kernel
theorem dX10_init_259 : decode cX10_init 259 = .ok (.iconst (-1), 1) := by decide +kernel
theorem dX10_init_260 : decode cX10_init 260 = .ok (.iastore, 1) := by decide +kernel
theorem dX10_init_261 : decode cX10_init 261 = .ok (.aload_n 0, 1) := by decide +kernel
theorem dX10_init_262 : decode cX10_init 262 = .ok (.getfield 61, 3) := by decide +kernel
theorem dX10_init_265 : decode cX10_init 265 = .ok (.iconst 0, 1) := by decide +kernel
theorem dX10_init_266 : decode cX10_init 266 = .ok (.iconst (-1), 1) := by decide +kernel
theorem dX10_init_267 : decode cX10_init 267 = .ok (.iastore, 1) := by decide +kernel
theorem dX10_init_268 : decode cX10_init 268 = .ok (.aload_n 0, 1) := by decide +kernel
theorem dX10_init_269 : decode cX10_init 269 = .ok (.getfield 64, 3) := by decide +kernel
theorem dX10_init_272 : decode cX10_init 272 = .ok (.iconst 0, 1) := by decide +kernel
theorem dX10_init_273 : decode cX10_init 273 = .ok (.lconst 1, 1) := by decide +kernel
theorem dX10_init_274 : decode cX10_init 274 = .ok (.lastore, 1) := by decide +kernel
theorem dX10_init_275 : decode cX10_init 275 = .ok (.iconst 0, 1) := by decide +kernel
theorem dX10_init_276 : decode cX10_init 276 = .ok (.istore_n 1, 1) := by decide +kernel
theorem dX10_init_277 : decode cX10_init 277 = .ok (.iload_n 1, 1) := by decide +kernel
theorem dX10_init_278 : decode cX10_init 278 = .ok (.iconst 3, 1) := by decide +kernel
theorem dX10_init_279 : decode cX10_init 279 = .ok (.if_icmp .ge 15, 3) := by decide +kernel
theorem dX10_init_282 : decode cX10_init 282 = .ok (.aload_n 0, 1) := by decide +kernel
theorem dX10_init_283 : decode cX10_init 283 = .ok (.iconst 0, 1) := by decide +kernel
theorem dX10_init_284 : decode cX10_init 284 = .ok (.iload_n 1, 1) := by decide +kernel
theorem dX10_init_285 : decode cX10_init 285 = .ok (.invokevirtual 99, 3) := by decide +kernel
theorem dX10_init_288 : decode cX10_init 288 = .ok (.iinc 1 1, 3) := by decide +kernel
theorem dX10_init_291 : decode cX10_init 291 = .ok (.goto (-14), 3) := by decide +kernel
theorem dX10_init_294 : decode cX10_init 294 = .ok (.return_, 1) := by decide +kernel
theorem EX10_init {bc bs : Nat} {h : jj_H} {Q : Value → jj_H → Prop} (r0 : Nat) (H : ∀ d : jj_D, r0 ≠ 0 ∧ (1 ≤ bc ∧ 37200 ≤ bs ∧ (∀ h1, h1 = wA h 21 37200 → (jK h1 r0 = 11 ∧ (∀ h2, h2 = wR h1 501 r0 0 (jZ h + 1) → (jj_WP d mX10_init (bc - 1) (bs - 37200) 12 [(0, .ref r0)] [] h2 Q)))))) : jj_C mX10_init bc bs [.ref r0] h Q := j_enter (by decide +kernel) (Nat.le_of_ble_eq_true rfl) rfl fun d => have H := H d; j_aload_n dX10_init_0 rfl 0 rfl (j_objInit ml_X10_1 im_Object co_Object dX10_init_1 (Nat.le_of_ble_eq_true rfl) (by decide) (by decide) H.1 (j_aload_n dX10_init_4 rfl 0 rfl (j_ldc (v := 37200) dX10_init_5 kc_X10_7 (jj_bud (cj := 1) (sj := 37200) H.2.1 H.2.2.1 (j_newI (bc := (bc - 1)) (bs := (bs - 37200)) (N := 37200) ac_int dX10_init_7 (by decide) rfl (by decide) (j_putR (f := 501) cls_X10 1 (by decide) fl_X10_8 rfl rfl (Or.inr ⟨_, rfl⟩) (Or.inr ⟨rfl, rfl, rfl⟩) dX10_init_9 (H.2.2.2 _ rfl).1 (j_sub [0] rfl (((H.2.2.2 _ rfl).2 _ rfl)))))))))
theorem VX10_init_12 {d : jj_D} {bc bs : Nat} {h : jj_H} {Q : Value → jj_H → Prop} (r0 : Nat) (H : 1 ≤ bc ∧ 111600 ≤ bs ∧ (∀ h1, h1 = wA h 21 111600 → (jK h1 r0 = 11 ∧ (∀ h2, h2 = wR h1 502 r0 0 (jZ h + 1) → (jj_WP d mX10_init (bc - 1) (bs - 111600) 20 [(0, .ref r0)] [] h2 Q))))) : jj_WP d mX10_init bc bs 12 [(0, .ref r0)] [] h Q := j_aload_n dX10_init_12 rfl 0 rfl (j_ldc (v := 111600) dX10_init_13 kc_X10_14 (jj_bud (cj := 1) (sj := 111600) H.1 H.2.1 (j_newI (bc := (bc - 1)) (bs := (bs - 111600)) (N := 111600) ac_int dX10_init_15 (by decide) rfl (by decide) (j_putR (f := 502) cls_X10 2 (by decide) fl_X10_15 rfl rfl (Or.inr ⟨_, rfl⟩) (Or.inr ⟨rfl, rfl, rfl⟩) dX10_init_17 (H.2.2 _ rfl).1 (j_sub [0] rfl (((H.2.2 _ rfl).2 _ rfl)))))))
theorem VX10_init_20 {d : jj_D} {bc bs : Nat} {h : jj_H} {Q : Value → jj_H → Prop} (r0 : Nat) (H : 1 ≤ bc ∧ 186 ≤ bs ∧ (∀ h1, h1 = wA h 21 186 → (jK h1 r0 = 11 ∧ (∀ h2, h2 = wR h1 503 r0 0 (jZ h + 1) → (jj_WP d mX10_init (bc - 1) (bs - 186) 29 [(0, .ref r0)] [] h2 Q))))) : jj_WP d mX10_init bc bs 20 [(0, .ref r0)] [] h Q := j_aload_n dX10_init_20 rfl 0 rfl (j_sipush (v := 186) dX10_init_21 rfl (jj_bud (cj := 1) (sj := 186) H.1 H.2.1 (j_newI (bc := (bc - 1)) (bs := (bs - 186)) (N := 186) ac_int dX10_init_24 (by decide) rfl (by decide) (j_putR (f := 503) cls_X10 3 (by decide) fl_X10_18 rfl rfl (Or.inr ⟨_, rfl⟩) (Or.inr ⟨rfl, rfl, rfl⟩) dX10_init_26 (H.2.2 _ rfl).1 (j_sub [0] rfl (((H.2.2 _ rfl).2 _ rfl)))))))
theorem VX10_init_29 {d : jj_D} {bc bs : Nat} {h : jj_H} {Q : Value → jj_H → Prop} (r0 : Nat) (H : 1 ≤ bc ∧ 183 ≤ bs ∧ (∀ h1, h1 = wA h 21 183 → (jK h1 r0 = 11 ∧ (∀ h2, h2 = wR h1 504 r0 0 (jZ h + 1) → (jj_WP d mX10_init (bc - 1) (bs - 183) 38 [(0, .ref r0)] [] h2 Q))))) : jj_WP d mX10_init bc bs 29 [(0, .ref r0)] [] h Q := j_aload_n dX10_init_29 rfl 0 rfl (j_sipush (v := 183) dX10_init_30 rfl (jj_bud (cj := 1) (sj := 183) H.1 H.2.1 (j_newI (bc := (bc - 1)) (bs := (bs - 183)) (N := 183) ac_int dX10_init_33 (by decide) rfl (by decide) (j_putR (f := 504) cls_X10 4 (by decide) fl_X10_21 rfl rfl (Or.inr ⟨_, rfl⟩) (Or.inr ⟨rfl, rfl, rfl⟩) dX10_init_35 (H.2.2 _ rfl).1 (j_sub [0] rfl (((H.2.2 _ rfl).2 _ rfl)))))))
theorem VX10_init_38 {d : jj_D} {bc bs : Nat} {h : jj_H} {Q : Value → jj_H → Prop} (r0 : Nat) (H : 1 ≤ bc ∧ 183 ≤ bs ∧ (∀ h1, h1 = wA h 21 183 → (jK h1 r0 = 11 ∧ (∀ h2, h2 = wR h1 505 r0 0 (jZ h + 1) → (jj_WP d mX10_init (bc - 1) (bs - 183) 47 [(0, .ref r0)] [] h2 Q))))) : jj_WP d mX10_init bc bs 38 [(0, .ref r0)] [] h Q := j_aload_n dX10_init_38 rfl 0 rfl (j_sipush (v := 183) dX10_init_39 rfl (jj_bud (cj := 1) (sj := 183) H.1 H.2.1 (j_newI (bc := (bc - 1)) (bs := (bs - 183)) (N := 183) ac_int dX10_init_42 (by decide) rfl (by decide) (j_putR (f := 505) cls_X10 5 (by decide) fl_X10_24 rfl rfl (Or.inr ⟨_, rfl⟩) (Or.inr ⟨rfl, rfl, rfl⟩) dX10_init_44 (H.2.2 _ rfl).1 (j_sub [0] rfl (((H.2.2 _ rfl).2 _ rfl)))))))
theorem VX10_init_47 {d : jj_D} {bc bs : Nat} {h : jj_H} {Q : Value → jj_H → Prop} (r0 : Nat) (H : 1 ≤ bc ∧ 38430 ≤ bs ∧ (∀ h1, h1 = wA h 21 38430 → (jK h1 r0 = 11 ∧ (∀ h2, h2 = wR h1 506 r0 0 (jZ h + 1) → (jj_WP d mX10_init (bc - 1) (bs - 38430) 55 [(0, .ref r0)] [] h2 Q))))) : jj_WP d mX10_init bc bs 47 [(0, .ref r0)] [] h Q := j_aload_n dX10_init_47 rfl 0 rfl (j_ldc (v := 38430) dX10_init_48 kc_X10_27 (jj_bud (cj := 1) (sj := 38430) H.1 H.2.1 (j_newI (bc := (bc - 1)) (bs := (bs - 38430)) (N := 38430) ac_int dX10_init_50 (by decide) rfl (by decide) (j_putR (f := 506) cls_X10 6 (by decide) fl_X10_28 rfl rfl (Or.inr ⟨_, rfl⟩) (Or.inr ⟨rfl, rfl, rfl⟩) dX10_init_52 (H.2.2 _ rfl).1 (j_sub [0] rfl (((H.2.2 _ rfl).2 _ rfl)))))))
theorem VX10_init_55 {d : jj_D} {bc bs : Nat} {h : jj_H} {Q : Value → jj_H → Prop} (r0 : Nat) (H : 1 ≤ bc ∧ 38430 ≤ bs ∧ (∀ h1, h1 = wA h 21 38430 → (jK h1 r0 = 11 ∧ (∀ h2, h2 = wR h1 507 r0 0 (jZ h + 1) → (jj_WP d mX10_init (bc - 1) (bs - 38430) 63 [(0, .ref r0)] [] h2 Q))))) : jj_WP d mX10_init bc bs 55 [(0, .ref r0)] [] h Q := j_aload_n dX10_init_55 rfl 0 rfl (j_ldc (v := 38430) dX10_init_56 kc_X10_27 (jj_bud (cj := 1) (sj := 38430) H.1 H.2.1 (j_newI (bc := (bc - 1)) (bs := (bs - 38430)) (N := 38430) ac_int dX10_init_58 (by decide) rfl (by decide) (j_putR (f := 507) cls_X10 7 (by decide) fl_X10_31 rfl rfl (Or.inr ⟨_, rfl⟩) (Or.inr ⟨rfl, rfl, rfl⟩) dX10_init_60 (H.2.2 _ rfl).1 (j_sub [0] rfl (((H.2.2 _ rfl).2 _ rfl)))))))
theorem VX10_init_63 {d : jj_D} {bc bs : Nat} {h : jj_H} {Q : Value → jj_H → Prop} (r0 : Nat) (H : 1 ≤ bc ∧ 38430 ≤ bs ∧ (∀ h1, h1 = wA h 21 38430 → (jK h1 r0 = 11 ∧ (∀ h2, h2 = wR h1 508 r0 0 (jZ h + 1) → (jj_WP d mX10_init (bc - 1) (bs - 38430) 71 [(0, .ref r0)] [] h2 Q))))) : jj_WP d mX10_init bc bs 63 [(0, .ref r0)] [] h Q := j_aload_n dX10_init_63 rfl 0 rfl (j_ldc (v := 38430) dX10_init_64 kc_X10_27 (jj_bud (cj := 1) (sj := 38430) H.1 H.2.1 (j_newI (bc := (bc - 1)) (bs := (bs - 38430)) (N := 38430) ac_int dX10_init_66 (by decide) rfl (by decide) (j_putR (f := 508) cls_X10 8 (by decide) fl_X10_34 rfl rfl (Or.inr ⟨_, rfl⟩) (Or.inr ⟨rfl, rfl, rfl⟩) dX10_init_68 (H.2.2 _ rfl).1 (j_sub [0] rfl (((H.2.2 _ rfl).2 _ rfl)))))))
theorem VX10_init_71 {d : jj_D} {bc bs : Nat} {h : jj_H} {Q : Value → jj_H → Prop} (r0 : Nat) (H : 1 ≤ bc ∧ 38430 ≤ bs ∧ (∀ h1, h1 = wA h 21 38430 → (jK h1 r0 = 11 ∧ (∀ h2, h2 = wR h1 509 r0 0 (jZ h + 1) → (jj_WP d mX10_init (bc - 1) (bs - 38430) 79 [(0, .ref r0)] [] h2 Q))))) : jj_WP d mX10_init bc bs 71 [(0, .ref r0)] [] h Q := j_aload_n dX10_init_71 rfl 0 rfl (j_ldc (v := 38430) dX10_init_72 kc_X10_27 (jj_bud (cj := 1) (sj := 38430) H.1 H.2.1 (j_newI (bc := (bc - 1)) (bs := (bs - 38430)) (N := 38430) ac_int dX10_init_74 (by decide) rfl (by decide) (j_putR (f := 509) cls_X10 9 (by decide) fl_X10_37 rfl rfl (Or.inr ⟨_, rfl⟩) (Or.inr ⟨rfl, rfl, rfl⟩) dX10_init_76 (H.2.2 _ rfl).1 (j_sub [0] rfl (((H.2.2 _ rfl).2 _ rfl)))))))
theorem VX10_init_79 {d : jj_D} {bc bs : Nat} {h : jj_H} {Q : Value → jj_H → Prop} (r0 : Nat) (H : 1 ≤ bc ∧ 38430 ≤ bs ∧ (∀ h1, h1 = wA h 22 38430 → (jK h1 r0 = 11 ∧ (∀ h2, h2 = wR h1 510 r0 0 (jZ h + 1) → (jj_WP d mX10_init (bc - 1) (bs - 38430) 87 [(0, .ref r0)] [] h2 Q))))) : jj_WP d mX10_init bc bs 79 [(0, .ref r0)] [] h Q := j_aload_n dX10_init_79 rfl 0 rfl (j_ldc (v := 38430) dX10_init_80 kc_X10_27 (jj_bud (cj := 1) (sj := 38430) H.1 H.2.1 (j_newL (bc := (bc - 1)) (bs := (bs - 38430)) (N := 38430) ac_long dX10_init_82 (by decide) rfl (by decide) (j_putR (f := 510) cls_X10 10 (by decide) fl_X10_40 rfl rfl (Or.inr ⟨_, rfl⟩) (Or.inr ⟨rfl, rfl, rfl⟩) dX10_init_84 (H.2.2 _ rfl).1 (j_sub [0] rfl (((H.2.2 _ rfl).2 _ rfl)))))))
theorem VX10_init_87 {d : jj_D} {bc bs : Nat} {h : jj_H} {Q : Value → jj_H → Prop} (r0 : Nat) (H : 1 ≤ bc ∧ 3360 ≤ bs ∧ (∀ h1, h1 = wA h 21 3360 → (jK h1 r0 = 11 ∧ (∀ h2, h2 = wR h1 511 r0 0 (jZ h + 1) → (jj_WP d mX10_init (bc - 1) (bs - 3360) 96 [(0, .ref r0)] [] h2 Q))))) : jj_WP d mX10_init bc bs 87 [(0, .ref r0)] [] h Q := j_aload_n dX10_init_87 rfl 0 rfl (j_sipush (v := 3360) dX10_init_88 rfl (jj_bud (cj := 1) (sj := 3360) H.1 H.2.1 (j_newI (bc := (bc - 1)) (bs := (bs - 3360)) (N := 3360) ac_int dX10_init_91 (by decide) rfl (by decide) (j_putR (f := 511) cls_X10 11 (by decide) fl_X10_44 rfl rfl (Or.inr ⟨_, rfl⟩) (Or.inr ⟨rfl, rfl, rfl⟩) dX10_init_93 (H.2.2 _ rfl).1 (j_sub [0] rfl (((H.2.2 _ rfl).2 _ rfl)))))))
theorem VX10_init_96 {d : jj_D} {bc bs : Nat} {h : jj_H} {Q : Value → jj_H → Prop} (r0 : Nat) (H : 1 ≤ bc ∧ 1 ≤ bs ∧ (∀ h1, h1 = wA h 21 1 → (jK h1 r0 = 11 ∧ (∀ h2, h2 = wR h1 512 r0 0 (jZ h + 1) → (jj_WP d mX10_init (bc - 1) (bs - 1) 103 [(0, .ref r0)] [] h2 Q))))) : jj_WP d mX10_init bc bs 96 [(0, .ref r0)] [] h Q := j_aload_n dX10_init_96 rfl 0 rfl (j_iconst (v := 1) dX10_init_97 rfl (jj_bud (cj := 1) (sj := 1) H.1 H.2.1 (j_newI (bc := (bc - 1)) (bs := (bs - 1)) (N := 1) ac_int dX10_init_98 (by decide) rfl (by decide) (j_putR (f := 512) cls_X10 12 (by decide) fl_X10_47 rfl rfl (Or.inr ⟨_, rfl⟩) (Or.inr ⟨rfl, rfl, rfl⟩) dX10_init_100 (H.2.2 _ rfl).1 (j_sub [0] rfl (((H.2.2 _ rfl).2 _ rfl)))))))
theorem VX10_init_103 {d : jj_D} {bc bs : Nat} {h : jj_H} {Q : Value → jj_H → Prop} (r0 : Nat) (H : jK h r0 = 11 ∧ (∀ h1, h1 = wI h 513 r0 0 1 → (jj_WP d mX10_init bc bs 108 [(0, .ref r0)] [] h1 Q))) : jj_WP d mX10_init bc bs 103 [(0, .ref r0)] [] h Q := j_aload_n dX10_init_103 rfl 0 rfl (j_iconst (v := 1) dX10_init_104 rfl (j_putI (f := 513) cls_X10 13 (by decide) fl_X10_50 rfl rfl rfl (Or.inl rfl) dX10_init_105 H.1 (j_sub [0] rfl ((H.2 _ rfl)))))
theorem VX10_init_108 {d : jj_D} {bc bs : Nat} {h : jj_H} {Q : Value → jj_H → Prop} (r0 : Nat) (H : jK h r0 = 11 ∧ (∀ h1, h1 = wL h 514 r0 0 1 → (jj_WP d mX10_init bc bs 113 [(0, .ref r0)] [] h1 Q))) : jj_WP d mX10_init bc bs 108 [(0, .ref r0)] [] h Q := j_aload_n dX10_init_108 rfl 0 rfl (j_lconst (v := 1) dX10_init_109 rfl (j_putL (f := 514) cls_X10 14 (by decide) fl_X10_54 rfl rfl rfl (Or.inl rfl) dX10_init_110 H.1 (j_sub [0] rfl ((H.2 _ rfl)))))
theorem VX10_init_113 {d : jj_D} {bc bs : Nat} {h : jj_H} {Q : Value → jj_H → Prop} (r0 : Nat) (H : 1 ≤ bc ∧ 60 ≤ bs ∧ (∀ h1, h1 = wA h 21 60 → (jK h1 r0 = 11 ∧ (∀ h2, h2 = wR h1 515 r0 0 (jZ h + 1) → (jj_WP d mX10_init (bc - 1) (bs - 60) 121 [(0, .ref r0)] [] h2 Q))))) : jj_WP d mX10_init bc bs 113 [(0, .ref r0)] [] h Q := j_aload_n dX10_init_113 rfl 0 rfl (j_bipush (v := 60) dX10_init_114 rfl (jj_bud (cj := 1) (sj := 60) H.1 H.2.1 (j_newI (bc := (bc - 1)) (bs := (bs - 60)) (N := 60) ac_int dX10_init_116 (by decide) rfl (by decide) (j_putR (f := 515) cls_X10 15 (by decide) fl_X10_58 rfl rfl (Or.inr ⟨_, rfl⟩) (Or.inr ⟨rfl, rfl, rfl⟩) dX10_init_118 (H.2.2 _ rfl).1 (j_sub [0] rfl (((H.2.2 _ rfl).2 _ rfl)))))))
theorem VX10_init_121 {d : jj_D} {bc bs : Nat} {h : jj_H} {Q : Value → jj_H → Prop} (r0 : Nat) (H : 1 ≤ bc ∧ 60 ≤ bs ∧ (∀ h1, h1 = wA h 21 60 → (jK h1 r0 = 11 ∧ (∀ h2, h2 = wR h1 516 r0 0 (jZ h + 1) → (jj_WP d mX10_init (bc - 1) (bs - 60) 129 [(0, .ref r0)] [] h2 Q))))) : jj_WP d mX10_init bc bs 121 [(0, .ref r0)] [] h Q := j_aload_n dX10_init_121 rfl 0 rfl (j_bipush (v := 60) dX10_init_122 rfl (jj_bud (cj := 1) (sj := 60) H.1 H.2.1 (j_newI (bc := (bc - 1)) (bs := (bs - 60)) (N := 60) ac_int dX10_init_124 (by decide) rfl (by decide) (j_putR (f := 516) cls_X10 16 (by decide) fl_X10_61 rfl rfl (Or.inr ⟨_, rfl⟩) (Or.inr ⟨rfl, rfl, rfl⟩) dX10_init_126 (H.2.2 _ rfl).1 (j_sub [0] rfl (((H.2.2 _ rfl).2 _ rfl)))))))
theorem VX10_init_129 {d : jj_D} {bc bs : Nat} {h : jj_H} {Q : Value → jj_H → Prop} (r0 : Nat) (H : 1 ≤ bc ∧ 60 ≤ bs ∧ (∀ h1, h1 = wA h 22 60 → (jK h1 r0 = 11 ∧ (∀ h2, h2 = wR h1 517 r0 0 (jZ h + 1) → (jj_WP d mX10_init (bc - 1) (bs - 60) 137 [(0, .ref r0)] [] h2 Q))))) : jj_WP d mX10_init bc bs 129 [(0, .ref r0)] [] h Q := j_aload_n dX10_init_129 rfl 0 rfl (j_bipush (v := 60) dX10_init_130 rfl (jj_bud (cj := 1) (sj := 60) H.1 H.2.1 (j_newL (bc := (bc - 1)) (bs := (bs - 60)) (N := 60) ac_long dX10_init_132 (by decide) rfl (by decide) (j_putR (f := 517) cls_X10 17 (by decide) fl_X10_64 rfl rfl (Or.inr ⟨_, rfl⟩) (Or.inr ⟨rfl, rfl, rfl⟩) dX10_init_134 (H.2.2 _ rfl).1 (j_sub [0] rfl (((H.2.2 _ rfl).2 _ rfl)))))))
theorem VX10_init_137 {d : jj_D} {bc bs : Nat} {h : jj_H} {Q : Value → jj_H → Prop} (r0 : Nat) (H : 1 ≤ bc ∧ 6 ≤ bs ∧ (∀ h1, h1 = wA h 21 6 → (jK h1 r0 = 11 ∧ (∀ h2, h2 = wR h1 518 r0 0 (jZ h + 1) → (jj_WP d mX10_init (bc - 1) (bs - 6) 145 [(0, .ref r0)] [] h2 Q))))) : jj_WP d mX10_init bc bs 137 [(0, .ref r0)] [] h Q := j_aload_n dX10_init_137 rfl 0 rfl (j_bipush (v := 6) dX10_init_138 rfl (jj_bud (cj := 1) (sj := 6) H.1 H.2.1 (j_newI (bc := (bc - 1)) (bs := (bs - 6)) (N := 6) ac_int dX10_init_140 (by decide) rfl (by decide) (j_putR (f := 518) cls_X10 18 (by decide) fl_X10_67 rfl rfl (Or.inr ⟨_, rfl⟩) (Or.inr ⟨rfl, rfl, rfl⟩) dX10_init_142 (H.2.2 _ rfl).1 (j_sub [0] rfl (((H.2.2 _ rfl).2 _ rfl)))))))
theorem VX10_init_145 {d : jj_D} {bc bs : Nat} {h : jj_H} {Q : Value → jj_H → Prop} (r0 : Nat) (H : 1 ≤ bc ∧ 1200 ≤ bs ∧ (∀ h1, h1 = wA h 21 1200 → (jK h1 r0 = 11 ∧ (∀ h2, h2 = wR h1 524 r0 0 (jZ h + 1) → (jj_WP d mX10_init (bc - 1) (bs - 1200) 154 [(0, .ref r0)] [] h2 Q))))) : jj_WP d mX10_init bc bs 145 [(0, .ref r0)] [] h Q := j_aload_n dX10_init_145 rfl 0 rfl (j_sipush (v := 1200) dX10_init_146 rfl (jj_bud (cj := 1) (sj := 1200) H.1 H.2.1 (j_newI (bc := (bc - 1)) (bs := (bs - 1200)) (N := 1200) ac_int dX10_init_149 (by decide) rfl (by decide) (j_putR (f := 524) cls_X10 24 (by decide) fl_X10_70 rfl rfl (Or.inr ⟨_, rfl⟩) (Or.inr ⟨rfl, rfl, rfl⟩) dX10_init_151 (H.2.2 _ rfl).1 (j_sub [0] rfl (((H.2.2 _ rfl).2 _ rfl)))))))
theorem VX10_init_154 {d : jj_D} {bc bs : Nat} {h : jj_H} {Q : Value → jj_H → Prop} (r0 : Nat) (H : 1 ≤ bc ∧ 1200 ≤ bs ∧ (∀ h1, h1 = wA h 21 1200 → (jK h1 r0 = 11 ∧ (∀ h2, h2 = wR h1 525 r0 0 (jZ h + 1) → (jj_WP d mX10_init (bc - 1) (bs - 1200) 163 [(0, .ref r0)] [] h2 Q))))) : jj_WP d mX10_init bc bs 154 [(0, .ref r0)] [] h Q := j_aload_n dX10_init_154 rfl 0 rfl (j_sipush (v := 1200) dX10_init_155 rfl (jj_bud (cj := 1) (sj := 1200) H.1 H.2.1 (j_newI (bc := (bc - 1)) (bs := (bs - 1200)) (N := 1200) ac_int dX10_init_158 (by decide) rfl (by decide) (j_putR (f := 525) cls_X10 25 (by decide) fl_X10_73 rfl rfl (Or.inr ⟨_, rfl⟩) (Or.inr ⟨rfl, rfl, rfl⟩) dX10_init_160 (H.2.2 _ rfl).1 (j_sub [0] rfl (((H.2.2 _ rfl).2 _ rfl)))))))
theorem VX10_init_163 {d : jj_D} {bc bs : Nat} {h : jj_H} {Q : Value → jj_H → Prop} (r0 : Nat) (H : 1 ≤ bc ∧ 1200 ≤ bs ∧ (∀ h1, h1 = wA h 23 1200 → (jK h1 r0 = 11 ∧ (∀ h2, h2 = wR h1 526 r0 0 (jZ h + 1) → (jj_WP d mX10_init (bc - 1) (bs - 1200) 172 [(0, .ref r0)] [] h2 Q))))) : jj_WP d mX10_init bc bs 163 [(0, .ref r0)] [] h Q := j_aload_n dX10_init_163 rfl 0 rfl (j_sipush (v := 1200) dX10_init_164 rfl (jj_bud (cj := 1) (sj := 1200) H.1 H.2.1 (j_newZ (bc := (bc - 1)) (bs := (bs - 1200)) (N := 1200) ac_boolean dX10_init_167 (by decide) rfl (by decide) (j_putR (f := 526) cls_X10 26 (by decide) fl_X10_76 rfl rfl (Or.inr ⟨_, rfl⟩) (Or.inr ⟨rfl, rfl, rfl⟩) dX10_init_169 (H.2.2 _ rfl).1 (j_sub [0] rfl (((H.2.2 _ rfl).2 _ rfl)))))))
theorem VX10_init_172 {d : jj_D} {bc bs : Nat} {h : jj_H} {Q : Value → jj_H → Prop} (r0 : Nat) (H : 1 ≤ bc ∧ 400 ≤ bs ∧ (∀ h1, h1 = wA h 21 400 → (jK h1 r0 = 11 ∧ (∀ h2, h2 = wR h1 528 r0 0 (jZ h + 1) → (jj_WP d mX10_init (bc - 1) (bs - 400) 181 [(0, .ref r0)] [] h2 Q))))) : jj_WP d mX10_init bc bs 172 [(0, .ref r0)] [] h Q := j_aload_n dX10_init_172 rfl 0 rfl (j_sipush (v := 400) dX10_init_173 rfl (jj_bud (cj := 1) (sj := 400) H.1 H.2.1 (j_newI (bc := (bc - 1)) (bs := (bs - 400)) (N := 400) ac_int dX10_init_176 (by decide) rfl (by decide) (j_putR (f := 528) cls_X10 28 (by decide) fl_X10_80 rfl rfl (Or.inr ⟨_, rfl⟩) (Or.inr ⟨rfl, rfl, rfl⟩) dX10_init_178 (H.2.2 _ rfl).1 (j_sub [0] rfl (((H.2.2 _ rfl).2 _ rfl)))))))
theorem VX10_init_181 {d : jj_D} {bc bs : Nat} {h : jj_H} {Q : Value → jj_H → Prop} (r0 : Nat) (H : 1 ≤ bc ∧ 400 ≤ bs ∧ (∀ h1, h1 = wA h 21 400 → (jK h1 r0 = 11 ∧ (∀ h2, h2 = wR h1 529 r0 0 (jZ h + 1) → (jj_WP d mX10_init (bc - 1) (bs - 400) 190 [(0, .ref r0)] [] h2 Q))))) : jj_WP d mX10_init bc bs 181 [(0, .ref r0)] [] h Q := j_aload_n dX10_init_181 rfl 0 rfl (j_sipush (v := 400) dX10_init_182 rfl (jj_bud (cj := 1) (sj := 400) H.1 H.2.1 (j_newI (bc := (bc - 1)) (bs := (bs - 400)) (N := 400) ac_int dX10_init_185 (by decide) rfl (by decide) (j_putR (f := 529) cls_X10 29 (by decide) fl_X10_83 rfl rfl (Or.inr ⟨_, rfl⟩) (Or.inr ⟨rfl, rfl, rfl⟩) dX10_init_187 (H.2.2 _ rfl).1 (j_sub [0] rfl (((H.2.2 _ rfl).2 _ rfl)))))))
theorem VX10_init_190 {d : jj_D} {bc bs : Nat} {h : jj_H} {Q : Value → jj_H → Prop} (r0 : Nat) (H : jK h r0 = 11 ∧ (∀ h1, h1 = wL h 530 r0 0 1 → (jj_WP d mX10_init bc bs 195 [(0, .ref r0)] [] h1 Q))) : jj_WP d mX10_init bc bs 190 [(0, .ref r0)] [] h Q := j_aload_n dX10_init_190 rfl 0 rfl (j_lconst (v := 1) dX10_init_191 rfl (j_putL (f := 530) cls_X10 30 (by decide) fl_X10_86 rfl rfl rfl (Or.inl rfl) dX10_init_192 H.1 (j_sub [0] rfl ((H.2 _ rfl)))))
theorem VX10_init_195 {d : jj_D} {bc bs : Nat} {h : jj_H} {Q : Value → jj_H → Prop} (r0 : Nat) (H : 1 ≤ bc ∧ 6 ≤ bs ∧ (∀ h1, h1 = wA h 21 6 → (jK h1 r0 = 11 ∧ (∀ h2, h2 = wR h1 531 r0 0 (jZ h + 1) → (jj_WP d mX10_init (bc - 1) (bs - 6) 203 [(0, .ref r0)] [] h2 Q))))) : jj_WP d mX10_init bc bs 195 [(0, .ref r0)] [] h Q := j_aload_n dX10_init_195 rfl 0 rfl (j_bipush (v := 6) dX10_init_196 rfl (jj_bud (cj := 1) (sj := 6) H.1 H.2.1 (j_newI (bc := (bc - 1)) (bs := (bs - 6)) (N := 6) ac_int dX10_init_198 (by decide) rfl (by decide) (j_putR (f := 531) cls_X10 31 (by decide) fl_X10_89 rfl rfl (Or.inr ⟨_, rfl⟩) (Or.inr ⟨rfl, rfl, rfl⟩) dX10_init_200 (H.2.2 _ rfl).1 (j_sub [0] rfl (((H.2.2 _ rfl).2 _ rfl)))))))
theorem VX10_init_203 {d : jj_D} {bc bs : Nat} {h : jj_H} {Q : Value → jj_H → Prop} (r0 : Nat) (H : 1 ≤ bc ∧ 65536 ≤ bs ∧ (∀ h1, h1 = wA h 21 65536 → (jK h1 r0 = 11 ∧ (∀ h2, h2 = wR h1 532 r0 0 (jZ h + 1) → (jj_WP d mX10_init (bc - 1) (bs - 65536) 211 [(0, .ref r0)] [] h2 Q))))) : jj_WP d mX10_init bc bs 203 [(0, .ref r0)] [] h Q := j_aload_n dX10_init_203 rfl 0 rfl (j_ldc (v := 65536) dX10_init_204 kc_X10_92 (jj_bud (cj := 1) (sj := 65536) H.1 H.2.1 (j_newI (bc := (bc - 1)) (bs := (bs - 65536)) (N := 65536) ac_int dX10_init_206 (by decide) rfl (by decide) (j_putR (f := 532) cls_X10 32 (by decide) fl_X10_93 rfl rfl (Or.inr ⟨_, rfl⟩) (Or.inr ⟨rfl, rfl, rfl⟩) dX10_init_208 (H.2.2 _ rfl).1 (j_sub [0] rfl (((H.2.2 _ rfl).2 _ rfl)))))))
theorem VX10_init_211 {d : jj_D} {bc bs : Nat} {h : jj_H} {Q : Value → jj_H → Prop} (r0 : Nat) (H : 1 ≤ bc ∧ 3 ≤ bs ∧ (∀ h1, h1 = wA h 21 3 → (jK h1 r0 = 11 ∧ (∀ h2, h2 = wR h1 533 r0 0 (jZ h + 1) → (jj_WP d mX10_init (bc - 1) (bs - 3) 218 [(0, .ref r0)] [] h2 Q))))) : jj_WP d mX10_init bc bs 211 [(0, .ref r0)] [] h Q := j_aload_n dX10_init_211 rfl 0 rfl (j_iconst (v := 3) dX10_init_212 rfl (jj_bud (cj := 1) (sj := 3) H.1 H.2.1 (j_newI (bc := (bc - 1)) (bs := (bs - 3)) (N := 3) ac_int dX10_init_213 (by decide) rfl (by decide) (j_putR (f := 533) cls_X10 33 (by decide) fl_X10_96 rfl rfl (Or.inr ⟨_, rfl⟩) (Or.inr ⟨rfl, rfl, rfl⟩) dX10_init_215 (H.2.2 _ rfl).1 (j_sub [0] rfl (((H.2.2 _ rfl).2 _ rfl)))))))
theorem VX10_init_218 {d : jj_D} {bc bs : Nat} {h : jj_H} {Q : Value → jj_H → Prop} (r0 : Nat) (H : jj_WP d mX10_init bc bs 220 [(0, .ref r0), (1, .int 0)] [] h Q) : jj_WP d mX10_init bc bs 218 [(0, .ref r0)] [] h Q := j_iconst (v := 0) dX10_init_218 rfl (j_istore_n (L' := [(1, .int 0), (0, .ref r0)]) dX10_init_219 rfl (by decide) rfl (j_sub [1, 0] rfl (H)))
theorem VX10_init_220 {d : jj_D} {bc bs : Nat} {h : jj_H} {Q : Value → jj_H → Prop} (r0 : Nat) (x1 : Int32) (H : (6 ≤ x1 → jK h r0 = 11 ∧ (jK h (jR h 515 r0 0) = 21 ∧ (vp_in 0 (jN h (jR h 515 r0 0)) ∧ (∀ h2, h2 = wI h 1000 (jR h 515 r0 0) (Int32.toNatClampNeg 0) (-1) → (jK h (jR h2 516 r0 0) = 21 ∧ (vp_in 0 (jN h (jR h2 516 r0 0)) ∧ (∀ h3, h3 = wI h2 1000 (jR h2 516 r0 0) (Int32.toNatClampNeg 0) (-1) → (jK h (jR h3 517 r0 0) = 22 ∧ (vp_in 0 (jN h (jR h3 517 r0 0)) ∧ (∀ h4, h4 = wL h3 1000 (jR h3 517 r0 0) (Int32.toNatClampNeg 0) 1 → (jj_WP d mX10_init bc bs 277 [(0, .ref r0), (1, .int 0)] [] h4 Q))))))))))) ∧ (¬ 6 ≤ x1 → jK h r0 = 11 ∧ ((¬ x1 = 0 → jK h (jR h 518 r0 0) = 21 ∧ (vp_in x1 (jN h (jR h 518 r0 0)) ∧ (∀ h6, h6 = wI h 1000 (jR h 518 r0 0) (Int32.toNatClampNeg x1) (-1) → (jK h (jR h6 531 r0 0) = 21 ∧ (vp_in x1 (jN h (jR h6 531 r0 0)) ∧ (∀ h7, h7 = wI h6 1000 (jR h6 531 r0 0) (Int32.toNatClampNeg x1) (-1) → (jj_WP d mX10_init bc bs 220 [(0, .ref r0), (1, .int (x1 + 1))] [] h7 Q))))))) ∧ (x1 = 0 → jK h (jR h 518 r0 0) = 21 ∧ (vp_in x1 (jN h (jR h 518 r0 0)) ∧ (∀ h8, h8 = wI h 1000 (jR h 518 r0 0) (Int32.toNatClampNeg x1) 0 → (jK h (jR h8 531 r0 0) = 21 ∧ (vp_in x1 (jN h (jR h8 531 r0 0)) ∧ (∀ h9, h9 = wI h8 1000 (jR h8 531 r0 0) (Int32.toNatClampNeg x1) (-1) → (jj_WP d mX10_init bc bs 220 [(0, .ref r0), (1, .int (x1 + 1))] [] h9 Q)))))))))) : jj_WP d mX10_init bc bs 220 [(0, .ref r0), (1, .int x1)] [] h Q := j_iload_n dX10_init_220 rfl 1 rfl (j_bipush (v := 6) dX10_init_221 rfl (j_icmp_ge (tgt := 254) dX10_init_223 (by decide) (fun c1 => j_aload_n dX10_init_254 rfl 0 rfl (j_getR (f := 515) cls_X10 15 (by decide) fl_X10_58 rfl rfl dX10_init_255 (H.1 c1).1 (j_iconst (v := 0) dX10_init_258 rfl (j_iconst (v := (-1)) dX10_init_259 rfl (j_iast dX10_init_260 (H.1 c1).2.1 (H.1 c1).2.2.1 (j_aload_n dX10_init_261 rfl 0 rfl (j_getR (f := 516) cls_X10 16 (by decide) fl_X10_61 rfl rfl dX10_init_262 (H.1 c1).1 (j_iconst (v := 0) dX10_init_265 rfl (j_iconst (v := (-1)) dX10_init_266 rfl (j_iast dX10_init_267 ((H.1 c1).2.2.2 _ rfl).1 ((H.1 c1).2.2.2 _ rfl).2.1 (j_aload_n dX10_init_268 rfl 0 rfl (j_getR (f := 517) cls_X10 17 (by decide) fl_X10_64 rfl rfl dX10_init_269 (H.1 c1).1 (j_iconst (v := 0) dX10_init_272 rfl (j_lconst (v := 1) dX10_init_273 rfl (j_last dX10_init_274 (((H.1 c1).2.2.2 _ rfl).2.2 _ rfl).1 (((H.1 c1).2.2.2 _ rfl).2.2 _ rfl).2.1 (j_iconst (v := 0) dX10_init_275 rfl (j_istore_n (L' := [(1, .int 0), (0, .ref r0)]) dX10_init_276 rfl (by decide) rfl (j_sub [1, 0] rfl (((((H.1 c1).2.2.2 _ rfl).2.2 _ rfl).2.2 _ rfl)))))))))))))))))))) (fun c1 => j_aload_n dX10_init_226 rfl 0 rfl (j_getR (f := 518) cls_X10 18 (by decide) fl_X10_67 rfl rfl dX10_init_227 (H.2 c1).1 (j_iload_n dX10_init_230 rfl 1 rfl (j_iload_n dX10_init_231 rfl 1 rfl (j_if_ne (tgt := 239) dX10_init_232 (by decide) (fun c5 => j_iconst (v := (-1)) dX10_init_239 rfl (j_iast dX10_init_240 ((H.2 c1).2.1 c5).1 ((H.2 c1).2.1 c5).2.1 (j_aload_n dX10_init_241 rfl 0 rfl (j_getR (f := 531) cls_X10 31 (by decide) fl_X10_89 rfl rfl dX10_init_242 (H.2 c1).1 (j_iload_n dX10_init_245 rfl 1 rfl (j_iconst (v := (-1)) dX10_init_246 rfl (j_iast dX10_init_247 (((H.2 c1).2.1 c5).2.2 _ rfl).1 (((H.2 c1).2.1 c5).2.2 _ rfl).2.1 (j_iinc (v := (x1 + 1)) (L' := [(1, .int (x1 + 1)), (0, .ref r0)]) dX10_init_248 1 rfl rfl (by decide) rfl (j_goto (tgt := 220) dX10_init_251 (by decide) (j_sub [1, 0] rfl (((((H.2 c1).2.1 c5).2.2 _ rfl).2.2 _ rfl)))))))))))) (fun c5 => j_iconst (v := 0) dX10_init_235 rfl (j_goto (tgt := 240) dX10_init_236 (by decide) (j_iast dX10_init_240 ((H.2 c1).2.2 c5).1 ((H.2 c1).2.2 c5).2.1 (j_aload_n dX10_init_241 rfl 0 rfl (j_getR (f := 531) cls_X10 31 (by decide) fl_X10_89 rfl rfl dX10_init_242 (H.2 c1).1 (j_iload_n dX10_init_245 rfl 1 rfl (j_iconst (v := (-1)) dX10_init_246 rfl (j_iast dX10_init_247 (((H.2 c1).2.2 c5).2.2 _ rfl).1 (((H.2 c1).2.2 c5).2.2 _ rfl).2.1 (j_iinc (v := (x1 + 1)) (L' := [(1, .int (x1 + 1)), (0, .ref r0)]) dX10_init_248 1 rfl rfl (by decide) rfl (j_goto (tgt := 220) dX10_init_251 (by decide) (j_sub [1, 0] rfl (((((H.2 c1).2.2 c5).2.2 _ rfl).2.2 _ rfl))))))))))))))))))))
theorem VX10_init_277 {d : jj_D} {bc bs : Nat} {h : jj_H} {Q : Value → jj_H → Prop} (r0 : Nat) (x1 : Int32) (H : (3 ≤ x1 → Q (.int 0) h) ∧ (¬ 3 ≤ x1 → jK h r0 = 11 ∧ (jj_C mX10_cut 0 0 [.ref r0, .int 0, .int x1] h (fun v3 h2 => jj_WP d mX10_init bc bs 277 [(0, .ref r0), (1, .int (x1 + 1))] [] h2 Q)))) : jj_WP d mX10_init bc bs 277 [(0, .ref r0), (1, .int x1)] [] h Q := j_iload_n dX10_init_277 rfl 1 rfl (j_iconst (v := 3) dX10_init_278 rfl (j_icmp_ge (tgt := 294) dX10_init_279 (by decide) (fun c1 => j_ret (v := .int 0) dX10_init_294 rfl ((H.1 c1))) (fun c1 => j_aload_n dX10_init_282 rfl 0 rfl (j_iconst (v := 0) dX10_init_283 rfl (j_iload_n dX10_init_284 rfl 1 rfl (j_callV0 (as := [.int 0, .int x1]) cm_X10_cut im_X10_cut se_X10_cut (ci := 10) rfl (by decide) ml_X10_99 ⟨by decide, by decide⟩ dX10_init_285 rfl rfl (Nat.le_of_ble_eq_true rfl) (H.2 c1).1 (jj_C.mono (H.2 c1).2 (fun v3 h2 H4 => j_iinc (v := (x1 + 1)) (L' := [(1, .int (x1 + 1)), (0, .ref r0)]) dX10_init_288 1 rfl rfl (by decide) rfl (j_goto (tgt := 277) dX10_init_291 (by decide) (j_sub [1, 0] rfl (H4)))))))))))
theorem dX10_isIn_0 : decode cX10_isIn 0 = .ok (.lload_n 0, 1) := by decide +kernel
theorem dX10_isIn_1 : decode cX10_isIn 1 = .ok (.lload_n 2, 1) := by decide +kernel
theorem dX10_isIn_2 : decode cX10_isIn 2 = .ok (.lcmp, 1) := by decide +kernel
theorem dX10_isIn_3 : decode cX10_isIn 3 = .ok (.ifCond .lt 14, 3) := by decide +kernel
theorem dX10_isIn_6 : decode cX10_isIn 6 = .ok (.lload_n 0, 1) := by decide +kernel
theorem dX10_isIn_7 : decode cX10_isIn 7 = .ok (.lload 4, 2) := by decide +kernel
theorem dX10_isIn_9 : decode cX10_isIn 9 = .ok (.lcmp, 1) := by decide +kernel
theorem dX10_isIn_10 : decode cX10_isIn 10 = .ok (.ifCond .gt 7, 3) := by decide +kernel
theorem dX10_isIn_13 : decode cX10_isIn 13 = .ok (.iconst 1, 1) := by decide +kernel
theorem dX10_isIn_14 : decode cX10_isIn 14 = .ok (.goto 4, 3) := by decide +kernel
theorem dX10_isIn_17 : decode cX10_isIn 17 = .ok (.iconst 0, 1) := by decide +kernel
theorem dX10_isIn_18 : decode cX10_isIn 18 = .ok (.ireturn, 1) := by decide +kernel
theorem EX10_isIn {h : jj_H} {Q : Value → jj_H → Prop} (l0 : Int64) (l2 : Int64) (l4 : Int64) (H : ∀ d : jj_D, (l0 < l2 → Q (.int 0) h) ∧ (¬ l0 < l2 → (l4 < l0 → Q (.int 0) h) ∧ (¬ l4 < l0 → Q (.int 1) h))) : jj_C mX10_isIn 0 0 [.long l0, .long l2, .long l4] h Q := j_enter (by decide +kernel) (Nat.le_of_ble_eq_true rfl) rfl fun d => have H := H d; j_lload_n dX10_isIn_0 rfl 0 rfl (j_lload_n dX10_isIn_1 rfl 1 rfl (j_lcmp dX10_isIn_2 (j_if_lt (tgt := 17) dX10_isIn_3 (by decide) (fun c1 => j_iconst (v := 0) dX10_isIn_17 rfl (j_ret (v := .int 0) ⟨dX10_isIn_18, _, rfl, by decide⟩ rfl ((H.1 ((lg_cmp_lt _ _).mp c1))))) (fun c1 => j_lload_n dX10_isIn_6 rfl 0 rfl (j_lload dX10_isIn_7 2 rfl (j_lcmp dX10_isIn_9 (j_if_gt (tgt := 17) dX10_isIn_10 (by decide) (fun c2 => j_iconst (v := 0) dX10_isIn_17 rfl (j_ret (v := .int 0) ⟨dX10_isIn_18, _, rfl, by decide⟩ rfl (((H.2 (fun z => c1 ((lg_cmp_lt _ _).mpr z))).1 ((lg_cmp_gt _ _).mp c2))))) (fun c2 => j_iconst (v := 1) dX10_isIn_13 rfl (j_goto (tgt := 18) dX10_isIn_14 (by decide) (j_ret (v := .int 1) ⟨dX10_isIn_18, _, rfl, by decide⟩ rfl (((H.2 (fun z => c1 ((lg_cmp_lt _ _).mpr z))).2 (fun z => c2 ((lg_cmp_gt _ _).mpr z))))))))))))))
theorem dX10_isTable_0 : decode cX10_isTable 0 = .ok (.iload_n 0, 1) := by decide +kernel
theorem dX10_isTable_1 : decode cX10_isTable 1 = .ok (.ifCond .lt 12, 3) := by decide +kernel
theorem dX10_isTable_4 : decode cX10_isTable 4 = .ok (.iload_n 0, 1) := by decide +kernel
theorem dX10_isTable_5 : decode cX10_isTable 5 = .ok (.iconst 3, 1) := by decide +kernel
theorem dX10_isTable_6 : decode cX10_isTable 6 = .ok (.if_icmp .ge 7, 3) := by decide +kernel
theorem dX10_isTable_9 : decode cX10_isTable 9 = .ok (.iconst 1, 1) := by decide +kernel
theorem dX10_isTable_10 : decode cX10_isTable 10 = .ok (.goto 4, 3) := by decide +kernel
theorem dX10_isTable_13 : decode cX10_isTable 13 = .ok (.iconst 0, 1) := by decide +kernel
theorem dX10_isTable_14 : decode cX10_isTable 14 = .ok (.ireturn, 1) := by decide +kernel
theorem EX10_isTable {h : jj_H} {Q : Value → jj_H → Prop} (x0 : Int32) (H : ∀ d : jj_D, (x0 < 0 → Q (.int 0) h) ∧ (¬ x0 < 0 → (3 ≤ x0 → Q (.int 0) h) ∧ (¬ 3 ≤ x0 → Q (.int 1) h))) : jj_C mX10_isTable 0 0 [.int x0] h Q := j_enter (by decide +kernel) (Nat.le_of_ble_eq_true rfl) rfl fun d => have H := H d; j_iload_n dX10_isTable_0 rfl 0 rfl (j_if_lt (tgt := 13) dX10_isTable_1 (by decide) (fun c1 => j_iconst (v := 0) dX10_isTable_13 rfl (j_ret (v := .int 0) ⟨dX10_isTable_14, _, rfl, by decide⟩ rfl ((H.1 c1)))) (fun c1 => j_iload_n dX10_isTable_4 rfl 0 rfl (j_iconst (v := 3) dX10_isTable_5 rfl (j_icmp_ge (tgt := 13) dX10_isTable_6 (by decide) (fun c2 => j_iconst (v := 0) dX10_isTable_13 rfl (j_ret (v := .int 0) ⟨dX10_isTable_14, _, rfl, by decide⟩ rfl (((H.2 c1).1 c2)))) (fun c2 => j_iconst (v := 1) dX10_isTable_9 rfl (j_goto (tgt := 14) dX10_isTable_10 (by decide) (j_ret (v := .int 1) ⟨dX10_isTable_14, _, rfl, by decide⟩ rfl (((H.2 c1).2 c2)))))))))
theorem dX10_isCommit_0 : decode cX10_isCommit 0 = .ok (.iload_n 1, 1) := by decide +kernel
theorem dX10_isCommit_1 : decode cX10_isCommit 1 = .ok (.ifCond .lt 26, 3) := by decide +kernel
theorem dX10_isCommit_4 : decode cX10_isCommit 4 = .ok (.iload_n 1, 1) := by decide +kernel
theorem dX10_isCommit_5 : decode cX10_isCommit 5 = .ok (.bipush 60, 2) := by decide +kernel
theorem dX10_isCommit_7 : decode cX10_isCommit 7 = .ok (.if_icmp .ge 20, 3) := by decide +kernel
theorem dX10_isCommit_10 : decode cX10_isCommit 10 = .ok (.aload_n 0, 1) := by decide +kernel
theorem dX10_isCommit_11 : decode cX10_isCommit 11 = .ok (.getfield 54, 3) := by decide +kernel
theorem dX10_isCommit_14 : decode cX10_isCommit 14 = .ok (.iload_n 1, 1) := by decide +kernel
theorem dX10_isCommit_15 : decode cX10_isCommit 15 = .ok (.lshr, 1) := by decide +kernel
theorem dX10_isCommit_16 : decode cX10_isCommit 16 = .ok (.lconst 1, 1) := by decide +kernel
theorem dX10_isCommit_17 : decode cX10_isCommit 17 = .ok (.land, 1) := by decide +kernel
theorem dX10_isCommit_18 : decode cX10_isCommit 18 = .ok (.lconst 0, 1) := by decide +kernel
theorem dX10_isCommit_19 : decode cX10_isCommit 19 = .ok (.lcmp, 1) := by decide +kernel
theorem dX10_isCommit_20 : decode cX10_isCommit 20 = .ok (.ifCond .eq 7, 3) := by decide +kernel
theorem dX10_isCommit_23 : decode cX10_isCommit 23 = .ok (.iconst 1, 1) := by decide +kernel
theorem dX10_isCommit_24 : decode cX10_isCommit 24 = .ok (.goto 4, 3) := by decide +kernel
theorem dX10_isCommit_27 : decode cX10_isCommit 27 = .ok (.iconst 0, 1) := by decide +kernel
theorem dX10_isCommit_28 : decode cX10_isCommit 28 = .ok (.ireturn, 1) := by decide +kernel
theorem EX10_isCommit {h : jj_H} {Q : Value → jj_H → Prop} (r0 : Nat) (x1 : Int32) (H : ∀ d : jj_D, (x1 < 0 → Q (.int 0) h) ∧ (¬ x1 < 0 → (60 ≤ x1 → Q (.int 0) h) ∧ (¬ 60 ≤ x1 → jK h r0 = 11 ∧ (((((jL h 514 r0 0) >>> (Int32.toInt64 x1 &&& 63)) &&& 1) = 0 → Q (.int 0) h) ∧ (¬ (((jL h 514 r0 0) >>> (Int32.toInt64 x1 &&& 63)) &&& 1) = 0 → Q (.int 1) h))))) : jj_C mX10_isCommit 0 0 [.ref r0, .int x1] h Q := j_enter (by decide +kernel) (Nat.le_of_ble_eq_true rfl) rfl fun d => have H := H d; j_iload_n dX10_isCommit_0 rfl 1 rfl (j_if_lt (tgt := 27) dX10_isCommit_1 (by decide) (fun c1 => j_iconst (v := 0) dX10_isCommit_27 rfl (j_ret (v := .int 0) ⟨dX10_isCommit_28, _, rfl, by decide⟩ rfl ((H.1 c1)))) (fun c1 => j_iload_n dX10_isCommit_4 rfl 1 rfl (j_bipush (v := 60) dX10_isCommit_5 rfl (j_icmp_ge (tgt := 27) dX10_isCommit_7 (by decide) (fun c2 => j_iconst (v := 0) dX10_isCommit_27 rfl (j_ret (v := .int 0) ⟨dX10_isCommit_28, _, rfl, by decide⟩ rfl (((H.2 c1).1 c2)))) (fun c2 => j_aload_n dX10_isCommit_10 rfl 0 rfl (j_getL (f := 514) cls_X10 14 (by decide) fl_X10_54 rfl rfl dX10_isCommit_11 ((H.2 c1).2 c2).1 (j_iload_n dX10_isCommit_14 rfl 1 rfl (j_lshr dX10_isCommit_15 (j_lconst (v := 1) dX10_isCommit_16 rfl (j_land dX10_isCommit_17 (j_lconst (v := 0) dX10_isCommit_18 rfl (j_lcmp dX10_isCommit_19 (j_if_eq (tgt := 27) dX10_isCommit_20 (by decide) (fun c3 => j_iconst (v := 0) dX10_isCommit_27 rfl (j_ret (v := .int 0) ⟨dX10_isCommit_28, _, rfl, by decide⟩ rfl ((((H.2 c1).2 c2).2.1 ((lg_cmp_eq _ _).mp c3))))) (fun c3 => j_iconst (v := 1) dX10_isCommit_23 rfl (j_goto (tgt := 28) dX10_isCommit_24 (by decide) (j_ret (v := .int 1) ⟨dX10_isCommit_28, _, rfl, by decide⟩ rfl ((((H.2 c1).2 c2).2.2 (fun z => c3 ((lg_cmp_eq _ _).mpr z))))))))))))))))))))
theorem dX10_placeOf_0 : decode cX10_placeOf 0 = .ok (.iload_n 1, 1) := by decide +kernel
theorem dX10_placeOf_1 : decode cX10_placeOf 1 = .ok (.iconst (-1), 1) := by decide +kernel
theorem dX10_placeOf_2 : decode cX10_placeOf 2 = .ok (.if_icmp .ne 8, 3) := by decide +kernel
theorem dX10_placeOf_5 : decode cX10_placeOf 5 = .ok (.bipush 60, 2) := by decide +kernel
theorem dX10_placeOf_7 : decode cX10_placeOf 7 = .ok (.goto 17, 3) := by decide +kernel
theorem dX10_placeOf_10 : decode cX10_placeOf 10 = .ok (.aload_n 0, 1) := by decide +kernel
theorem dX10_placeOf_11 : decode cX10_placeOf 11 = .ok (.iload_n 1, 1) := by decide +kernel
theorem dX10_placeOf_12 : decode cX10_placeOf 12 = .ok (.invokevirtual 106, 3) := by decide +kernel
theorem dX10_placeOf_15 : decode cX10_placeOf 15 = .ok (.ifCond .eq 7, 3) := by decide +kernel
theorem dX10_placeOf_18 : decode cX10_placeOf 18 = .ok (.iload_n 1, 1) := by decide +kernel
theorem dX10_placeOf_19 : decode cX10_placeOf 19 = .ok (.goto 5, 3) := by decide +kernel
theorem dX10_placeOf_22 : decode cX10_placeOf 22 = .ok (.bipush (-5), 2) := by decide +kernel
theorem dX10_placeOf_24 : decode cX10_placeOf 24 = .ok (.ireturn, 1) := by decide +kernel
theorem EX10_placeOf {h : jj_H} {Q : Value → jj_H → Prop} (r0 : Nat) (x1 : Int32) (H : ∀ d : jj_D, (¬ x1 = (-1) → jK h r0 = 11 ∧ (jj_C mX10_isCommit 0 0 [.ref r0, .int x1] h (fun v3 h2 => jj_vi (fun y4 => (y4 = 0 → Q (.int (-5)) h2) ∧ (¬ y4 = 0 → Q (.int x1) h2)) v3))) ∧ (x1 = (-1) → Q (.int 60) h)) : jj_C mX10_placeOf 0 0 [.ref r0, .int x1] h Q := j_enter (by decide +kernel) (Nat.le_of_ble_eq_true rfl) rfl fun d => have H := H d; j_iload_n dX10_placeOf_0 rfl 1 rfl (j_iconst (v := (-1)) dX10_placeOf_1 rfl (j_icmp_ne (tgt := 10) dX10_placeOf_2 (by decide) (fun c1 => j_aload_n dX10_placeOf_10 rfl 0 rfl (j_iload_n dX10_placeOf_11 rfl 1 rfl (j_callV0 (as := [.int x1]) cm_X10_isCommit im_X10_isCommit se_X10_isCommit (ci := 10) rfl (by decide) ml_X10_106 ⟨by decide, by decide⟩ dX10_placeOf_12 rfl rfl (Nat.le_of_ble_eq_true rfl) (H.1 c1).1 (jj_C.mono (H.1 c1).2 (fun v3 h2 H5 => jj_vi_e (fun y4 H5 => j_if_eq (tgt := 22) dX10_placeOf_15 (by decide) (fun c6 => j_bipush (v := (-5)) dX10_placeOf_22 rfl (j_ret (v := .int (-5)) ⟨dX10_placeOf_24, _, rfl⟩ rfl ((H5.1 c6)))) (fun c6 => j_iload_n dX10_placeOf_18 rfl 1 rfl (j_goto (tgt := 24) dX10_placeOf_19 (by decide) (j_ret (v := .int x1) ⟨dX10_placeOf_24, _, rfl⟩ rfl ((H5.2 c6)))))) H5))))) (fun c1 => j_bipush (v := 60) dX10_placeOf_5 rfl (j_goto (tgt := 24) dX10_placeOf_7 (by decide) (j_ret (v := .int 60) ⟨dX10_placeOf_24, _, rfl⟩ rfl ((H.2 c1)))))))
theorem dX10_rowAt_0 : decode cX10_rowAt 0 = .ok (.sipush 600, 3) := by decide +kernel
theorem dX10_rowAt_3 : decode cX10_rowAt 3 = .ok (.iload_n 1, 1) := by decide +kernel
theorem dX10_rowAt_4 : decode cX10_rowAt 4 = .ok (.imul, 1) := by decide +kernel
theorem dX10_rowAt_5 : decode cX10_rowAt 5 = .ok (.sipush 200, 3) := by decide +kernel
theorem dX10_rowAt_8 : decode cX10_rowAt 8 = .ok (.iload_n 2, 1) := by decide +kernel
theorem dX10_rowAt_9 : decode cX10_rowAt 9 = .ok (.imul, 1) := by decide +kernel
theorem dX10_rowAt_10 : decode cX10_rowAt 10 = .ok (.iadd, 1) := by decide +kernel
theorem dX10_rowAt_11 : decode cX10_rowAt 11 = .ok (.iload_n 3, 1) := by decide +kernel
theorem dX10_rowAt_12 : decode cX10_rowAt 12 = .ok (.iadd, 1) := by decide +kernel
theorem dX10_rowAt_13 : decode cX10_rowAt 13 = .ok (.ireturn, 1) := by decide +kernel
theorem EX10_rowAt {h : jj_H} {Q : Value → jj_H → Prop} (r0 : Nat) (x1 : Int32) (x2 : Int32) (x3 : Int32) (H : ∀ d : jj_D, Q (.int (((600 * x1) + (200 * x2)) + x3)) h) : jj_C mX10_rowAt 0 0 [.ref r0, .int x1, .int x2, .int x3] h Q := j_enter (by decide +kernel) (Nat.le_of_ble_eq_true rfl) rfl fun d => have H := H d; j_sipush (v := 600) dX10_rowAt_0 rfl (j_iload_n dX10_rowAt_3 rfl 1 rfl (j_imul dX10_rowAt_4 (j_sipush (v := 200) dX10_rowAt_5 rfl (j_iload_n dX10_rowAt_8 rfl 2 rfl (j_imul dX10_rowAt_9 (j_iadd dX10_rowAt_10 (j_iload_n dX10_rowAt_11 rfl 3 rfl (j_iadd dX10_rowAt_12 (j_ret (v := .int (((600 * x1) + (200 * x2)) + x3)) ⟨dX10_rowAt_13, _, rfl⟩ rfl (H))))))))))
theorem dX10_rankOf_0 : decode cX10_rankOf 0 = .ok (.iconst 0, 1) := by decide +kernel
theorem dX10_rankOf_1 : decode cX10_rankOf 1 = .ok (.istore 4, 2) := by decide +kernel
theorem dX10_rankOf_3 : decode cX10_rankOf 3 = .ok (.iload 4, 2) := by decide +kernel
theorem dX10_rankOf_5 : decode cX10_rankOf 5 = .ok (.aload_n 0, 1) := by decide +kernel
theorem dX10_rankOf_6 : decode cX10_rankOf 6 = .ok (.getfield 18, 3) := by decide +kernel
theorem dX10_rankOf_9 : decode cX10_rankOf 9 = .ok (.iconst 3, 1) := by decide +kernel
theorem dX10_rankOf_10 : decode cX10_rankOf 10 = .ok (.iload_n 1, 1) := by decide +kernel
theorem dX10_rankOf_11 : decode cX10_rankOf 11 = .ok (.imul, 1) := by decide +kernel
theorem dX10_rankOf_12 : decode cX10_rankOf 12 = .ok (.iload_n 2, 1) := by decide +kernel
theorem dX10_rankOf_13 : decode cX10_rankOf 13 = .ok (.iadd, 1) := by decide +kernel
theorem dX10_rankOf_14 : decode cX10_rankOf 14 = .ok (.iaload, 1) := by decide +kernel
theorem dX10_rankOf_15 : decode cX10_rankOf 15 = .ok (.if_icmp .ge 26, 3) := by decide +kernel
theorem dX10_rankOf_18 : decode cX10_rankOf 18 = .ok (.aload_n 0, 1) := by decide +kernel
theorem dX10_rankOf_19 : decode cX10_rankOf 19 = .ok (.getfield 8, 3) := by decide +kernel
theorem dX10_rankOf_22 : decode cX10_rankOf 22 = .ok (.aload_n 0, 1) := by decide +kernel
theorem dX10_rankOf_23 : decode cX10_rankOf 23 = .ok (.iload_n 1, 1) := by decide +kernel
theorem dX10_rankOf_24 : decode cX10_rankOf 24 = .ok (.iload_n 2, 1) := by decide +kernel
theorem dX10_rankOf_25 : decode cX10_rankOf 25 = .ok (.iload 4, 2) := by decide +kernel
theorem dX10_rankOf_27 : decode cX10_rankOf 27 = .ok (.invokevirtual 110, 3) := by decide +kernel
theorem dX10_rankOf_30 : decode cX10_rankOf 30 = .ok (.iaload, 1) := by decide +kernel
theorem dX10_rankOf_31 : decode cX10_rankOf 31 = .ok (.iload_n 3, 1) := by decide +kernel
theorem dX10_rankOf_32 : decode cX10_rankOf 32 = .ok (.if_icmp .ge 9, 3) := by decide +kernel
theorem dX10_rankOf_35 : decode cX10_rankOf 35 = .ok (.iinc 4 1, 3) := by decide +kernel
theorem dX10_rankOf_38 : decode cX10_rankOf 38 = .ok (.goto (-35), 3) := by decide +kernel
theorem dX10_rankOf_41 : decode cX10_rankOf 41 = .ok (.iload 4, 2) := by decide +kernel
theorem dX10_rankOf_43 : decode cX10_rankOf 43 = .ok (.ireturn, 1) := by decide +kernel
theorem EX10_rankOf {h : jj_H} {Q : Value → jj_H → Prop} (r0 : Nat) (x1 : Int32) (x2 : Int32) (x3 : Int32) (H : ∀ d : jj_D, jj_WP d mX10_rankOf 0 0 3 [(0, .ref r0), (1, .int x1), (2, .int x2), (3, .int x3), (4, .int 0)] [] h Q) : jj_C mX10_rankOf 0 0 [.ref r0, .int x1, .int x2, .int x3] h Q := j_enter (by decide +kernel) (Nat.le_of_ble_eq_true rfl) rfl fun d => have H := H d; j_iconst (v := 0) dX10_rankOf_0 rfl (j_istore (L' := [(4, .int 0), (0, .ref r0), (1, .int x1), (2, .int x2), (3, .int x3)]) dX10_rankOf_1 (by decide) rfl (j_sub [1, 2, 3, 4, 0] rfl (H)))
theorem VX10_rankOf_3 {d : jj_D} {h : jj_H} {Q : Value → jj_H → Prop} (r0 : Nat) (x1 : Int32) (x2 : Int32) (x3 : Int32) (x4 : Int32) (H : jK h r0 = 11 ∧ (jK h (jR h 503 r0 0) = 21 ∧ (vp_in ((3 * x1) + x2) (jN h (jR h 503 r0 0)) ∧ (((jI h 1000 (jR h 503 r0 0) (Int32.toNatClampNeg ((3 * x1) + x2))) ≤ x4 → Q (.int x4) h) ∧ (¬ (jI h 1000 (jR h 503 r0 0) (Int32.toNatClampNeg ((3 * x1) + x2))) ≤ x4 → jj_C mX10_rowAt 0 0 [.ref r0, .int x1, .int x2, .int x4] h (fun v3 h2 => jj_vi (fun y4 => jK h2 (jR h 501 r0 0) = 21 ∧ (vp_in y4 (jN h2 (jR h 501 r0 0)) ∧ ((x3 ≤ (jI h2 1000 (jR h 501 r0 0) (Int32.toNatClampNeg y4)) → Q (.int x4) h2) ∧ (¬ x3 ≤ (jI h2 1000 (jR h 501 r0 0) (Int32.toNatClampNeg y4)) → jj_WP d mX10_rankOf 0 0 3 [(0, .ref r0), (1, .int x1), (2, .int x2), (3, .int x3), (4, .int (x4 + 1))] [] h2 Q)))) v3)))))) : jj_WP d mX10_rankOf 0 0 3 [(0, .ref r0), (1, .int x1), (2, .int x2), (3, .int x3), (4, .int x4)] [] h Q := j_iload dX10_rankOf_3 4 rfl (j_aload_n dX10_rankOf_5 rfl 0 rfl (j_getR (f := 503) cls_X10 3 (by decide) fl_X10_18 rfl rfl dX10_rankOf_6 H.1 (j_iconst (v := 3) dX10_rankOf_9 rfl (j_iload_n dX10_rankOf_10 rfl 1 rfl (j_imul dX10_rankOf_11 (j_iload_n dX10_rankOf_12 rfl 2 rfl (j_iadd dX10_rankOf_13 (j_iald dX10_rankOf_14 H.2.1 H.2.2.1 (j_icmp_ge (tgt := 41) dX10_rankOf_15 (by decide) (fun c1 => j_iload dX10_rankOf_41 4 rfl (j_ret (v := .int x4) ⟨dX10_rankOf_43, _, rfl⟩ rfl ((H.2.2.2.1 c1)))) (fun c1 => j_aload_n dX10_rankOf_18 rfl 0 rfl (j_getR (f := 501) cls_X10 1 (by decide) fl_X10_8 rfl rfl dX10_rankOf_19 H.1 (j_aload_n dX10_rankOf_22 rfl 0 rfl (j_iload_n dX10_rankOf_23 rfl 1 rfl (j_iload_n dX10_rankOf_24 rfl 2 rfl (j_iload dX10_rankOf_25 4 rfl (j_callV0 (as := [.int x1, .int x2, .int x4]) cm_X10_rowAt im_X10_rowAt se_X10_rowAt (ci := 10) rfl (by decide) ml_X10_110 ⟨by decide, by decide⟩ dX10_rankOf_27 rfl rfl (Nat.le_of_ble_eq_true rfl) H.1 (jj_C.mono (H.2.2.2.2 c1) (fun v3 h2 H5 => jj_vi_e (fun y4 H5 => j_iald dX10_rankOf_30 H5.1 H5.2.1 (j_iload_n dX10_rankOf_31 rfl 3 rfl (j_icmp_ge (tgt := 41) dX10_rankOf_32 (by decide) (fun c6 => j_iload dX10_rankOf_41 4 rfl (j_ret (v := .int x4) ⟨dX10_rankOf_43, _, rfl⟩ rfl ((H5.2.2.1 c6)))) (fun c6 => j_iinc (v := (x4 + 1)) (L' := [(4, .int (x4 + 1)), (0, .ref r0), (1, .int x1), (2, .int x2), (3, .int x3)]) dX10_rankOf_35 4 rfl rfl (by decide) rfl (j_goto (tgt := 3) dX10_rankOf_38 (by decide) (j_sub [1, 2, 3, 4, 0] rfl ((H5.2.2.2 c6)))))))) H5))))))))))))))))))
theorem dX10_find_0 : decode cX10_find 0 = .ok (.aload_n 0, 1) := by decide +kernel
theorem dX10_find_1 : decode cX10_find 1 = .ok (.iload_n 1, 1) := by decide +kernel
theorem dX10_find_2 : decode cX10_find 2 = .ok (.iload_n 2, 1) := by decide +kernel
theorem dX10_find_3 : decode cX10_find 3 = .ok (.iload_n 3, 1) := by decide +kernel
theorem dX10_find_4 : decode cX10_find 4 = .ok (.invokevirtual 114, 3) := by decide +kernel
theorem dX10_find_7 : decode cX10_find 7 = .ok (.istore 4, 2) := by decide +kernel
theorem dX10_find_9 : decode cX10_find 9 = .ok (.aload_n 0, 1) := by decide +kernel
theorem dX10_find_10 : decode cX10_find 10 = .ok (.iload_n 1, 1) := by decide +kernel
theorem dX10_find_11 : decode cX10_find 11 = .ok (.iload_n 2, 1) := by decide +kernel
theorem dX10_find_12 : decode cX10_find 12 = .ok (.iload 4, 2) := by decide +kernel
theorem dX10_find_14 : decode cX10_find 14 = .ok (.invokevirtual 110, 3) := by decide +kernel
theorem dX10_find_17 : decode cX10_find 17 = .ok (.istore 5, 2) := by decide +kernel
theorem dX10_find_19 : decode cX10_find 19 = .ok (.iload 4, 2) := by decide +kernel
theorem dX10_find_21 : decode cX10_find 21 = .ok (.aload_n 0, 1) := by decide +kernel
theorem dX10_find_22 : decode cX10_find 22 = .ok (.getfield 18, 3) := by decide +kernel
theorem dX10_find_25 : decode cX10_find 25 = .ok (.iconst 3, 1) := by decide +kernel
theorem dX10_find_26 : decode cX10_find 26 = .ok (.iload_n 1, 1) := by decide +kernel
theorem dX10_find_27 : decode cX10_find 27 = .ok (.imul, 1) := by decide +kernel
theorem dX10_find_28 : decode cX10_find 28 = .ok (.iload_n 2, 1) := by decide +kernel
theorem dX10_find_29 : decode cX10_find 29 = .ok (.iadd, 1) := by decide +kernel
theorem dX10_find_30 : decode cX10_find 30 = .ok (.iaload, 1) := by decide +kernel
theorem dX10_find_31 : decode cX10_find 31 = .ok (.if_icmp .ge 19, 3) := by decide +kernel
theorem dX10_find_34 : decode cX10_find 34 = .ok (.aload_n 0, 1) := by decide +kernel
theorem dX10_find_35 : decode cX10_find 35 = .ok (.getfield 8, 3) := by decide +kernel
theorem dX10_find_38 : decode cX10_find 38 = .ok (.iload 5, 2) := by decide +kernel
theorem dX10_find_40 : decode cX10_find 40 = .ok (.iaload, 1) := by decide +kernel
theorem dX10_find_41 : decode cX10_find 41 = .ok (.iload_n 3, 1) := by decide +kernel
theorem dX10_find_42 : decode cX10_find 42 = .ok (.if_icmp .ne 8, 3) := by decide +kernel
theorem dX10_find_45 : decode cX10_find 45 = .ok (.iload 5, 2) := by decide +kernel
theorem dX10_find_47 : decode cX10_find 47 = .ok (.goto 4, 3) := by decide +kernel
theorem dX10_find_50 : decode cX10_find 50 = .ok (.iconst (-1), 1) := by decide +kernel
theorem dX10_find_51 : decode cX10_find 51 = .ok (.ireturn, 1) := by decide +kernel
theorem EX10_find {h : jj_H} {Q : Value → jj_H → Prop} (r0 : Nat) (x1 : Int32) (x2 : Int32) (x3 : Int32) (H : ∀ d : jj_D, jK h r0 = 11 ∧ (jj_C mX10_rankOf 0 0 [.ref r0, .int x1, .int x2, .int x3] h (fun v2 h1 => jj_vi (fun y3 => jK h1 r0 = 11 ∧ (jj_C mX10_rowAt 0 0 [.ref r0, .int x1, .int x2, .int y3] h1 (fun v6 h5 => jj_vi (fun y7 => jK h5 r0 = 11 ∧ (jK h5 (jR h5 503 r0 0) = 21 ∧ (vp_in ((3 * x1) + x2) (jN h5 (jR h5 503 r0 0)) ∧ (((jI h5 1000 (jR h5 503 r0 0) (Int32.toNatClampNeg ((3 * x1) + x2))) ≤ y3 → Q (.int (-1)) h5) ∧ (¬ (jI h5 1000 (jR h5 503 r0 0) (Int32.toNatClampNeg ((3 * x1) + x2))) ≤ y3 → jK h5 (jR h5 501 r0 0) = 21 ∧ (vp_in y7 (jN h5 (jR h5 501 r0 0)) ∧ ((¬ (jI h5 1000 (jR h5 501 r0 0) (Int32.toNatClampNeg y7)) = x3 → Q (.int (-1)) h5) ∧ ((jI h5 1000 (jR h5 501 r0 0) (Int32.toNatClampNeg y7)) = x3 → Q (.int y7) h5)))))))) v6))) v2))) : jj_C mX10_find 0 0 [.ref r0, .int x1, .int x2, .int x3] h Q := j_enter (by decide +kernel) (Nat.le_of_ble_eq_true rfl) rfl fun d => have H := H d; j_aload_n dX10_find_0 rfl 0 rfl (j_iload_n dX10_find_1 rfl 1 rfl (j_iload_n dX10_find_2 rfl 2 rfl (j_iload_n dX10_find_3 rfl 3 rfl (j_callV0 (as := [.int x1, .int x2, .int x3]) cm_X10_rankOf im_X10_rankOf se_X10_rankOf (ci := 10) rfl (by decide) ml_X10_114 ⟨by decide, by decide⟩ dX10_find_4 rfl rfl (Nat.le_of_ble_eq_true rfl) H.1 (jj_C.mono H.2 (fun v2 h1 H4 => jj_vi_e (fun y3 H4 => j_istore (L' := [(4, .int y3), (0, .ref r0), (1, .int x1), (2, .int x2), (3, .int x3)]) dX10_find_7 (by decide) rfl (j_aload_n dX10_find_9 rfl 1 rfl (j_iload_n dX10_find_10 rfl 2 rfl (j_iload_n dX10_find_11 rfl 3 rfl (j_iload dX10_find_12 0 rfl (j_callV0 (as := [.int x1, .int x2, .int y3]) cm_X10_rowAt im_X10_rowAt se_X10_rowAt (ci := 10) rfl (by decide) ml_X10_110 ⟨by decide, by decide⟩ dX10_find_14 rfl rfl (Nat.le_of_ble_eq_true rfl) H4.1 (jj_C.mono H4.2 (fun v6 h5 H8 => jj_vi_e (fun y7 H8 => j_istore (L' := [(5, .int y7), (4, .int y3), (0, .ref r0), (1, .int x1), (2, .int x2), (3, .int x3)]) dX10_find_17 (by decide) rfl (j_iload dX10_find_19 1 rfl (j_aload_n dX10_find_21 rfl 2 rfl (j_getR (f := 503) cls_X10 3 (by decide) fl_X10_18 rfl rfl dX10_find_22 H8.1 (j_iconst (v := 3) dX10_find_25 rfl (j_iload_n dX10_find_26 rfl 3 rfl (j_imul dX10_find_27 (j_iload_n dX10_find_28 rfl 4 rfl (j_iadd dX10_find_29 (j_iald dX10_find_30 H8.2.1 H8.2.2.1 (j_icmp_ge (tgt := 50) dX10_find_31 (by decide) (fun c9 => j_iconst (v := (-1)) dX10_find_50 rfl (j_ret (v := .int (-1)) ⟨dX10_find_51, _, rfl⟩ rfl ((H8.2.2.2.1 c9)))) (fun c9 => j_aload_n dX10_find_34 rfl 2 rfl (j_getR (f := 501) cls_X10 1 (by decide) fl_X10_8 rfl rfl dX10_find_35 H8.1 (j_iload dX10_find_38 0 rfl (j_iald dX10_find_40 (H8.2.2.2.2 c9).1 (H8.2.2.2.2 c9).2.1 (j_iload_n dX10_find_41 rfl 5 rfl (j_icmp_ne (tgt := 50) dX10_find_42 (by decide) (fun c10 => j_iconst (v := (-1)) dX10_find_50 rfl (j_ret (v := .int (-1)) ⟨dX10_find_51, _, rfl⟩ rfl (((H8.2.2.2.2 c9).2.2.1 c10)))) (fun c10 => j_iload dX10_find_45 0 rfl (j_goto (tgt := 51) dX10_find_47 (by decide) (j_ret (v := .int y7) ⟨dX10_find_51, _, rfl⟩ rfl (((H8.2.2.2.2 c9).2.2.2 c10)))))))))))))))))))))) H8)))))))) H4))))))
theorem dX10_copyRow_0 : decode cX10_copyRow 0 = .ok (.aload_n 0, 1) := by decide +kernel
theorem dX10_copyRow_1 : decode cX10_copyRow 1 = .ok (.getfield 8, 3) := by decide +kernel
theorem dX10_copyRow_4 : decode cX10_copyRow 4 = .ok (.iload_n 2, 1) := by decide +kernel
theorem dX10_copyRow_5 : decode cX10_copyRow 5 = .ok (.aload_n 0, 1) := by decide +kernel
theorem dX10_copyRow_6 : decode cX10_copyRow 6 = .ok (.getfield 8, 3) := by decide +kernel
theorem dX10_copyRow_9 : decode cX10_copyRow 9 = .ok (.iload_n 1, 1) := by decide +kernel
theorem dX10_copyRow_10 : decode cX10_copyRow 10 = .ok (.iaload, 1) := by decide +kernel
theorem dX10_copyRow_11 : decode cX10_copyRow 11 = .ok (.iastore, 1) := by decide +kernel
theorem dX10_copyRow_12 : decode cX10_copyRow 12 = .ok (.aload_n 0, 1) := by decide +kernel
theorem dX10_copyRow_13 : decode cX10_copyRow 13 = .ok (.getfield 15, 3) := by decide +kernel
theorem dX10_copyRow_16 : decode cX10_copyRow 16 = .ok (.iconst 3, 1) := by decide +kernel
theorem dX10_copyRow_17 : decode cX10_copyRow 17 = .ok (.iload_n 2, 1) := by decide +kernel
theorem dX10_copyRow_18 : decode cX10_copyRow 18 = .ok (.imul, 1) := by decide +kernel
theorem dX10_copyRow_19 : decode cX10_copyRow 19 = .ok (.aload_n 0, 1) := by decide +kernel
theorem dX10_copyRow_20 : decode cX10_copyRow 20 = .ok (.getfield 15, 3) := by decide +kernel
theorem dX10_copyRow_23 : decode cX10_copyRow 23 = .ok (.iconst 3, 1) := by decide +kernel
theorem dX10_copyRow_24 : decode cX10_copyRow 24 = .ok (.iload_n 1, 1) := by decide +kernel
theorem dX10_copyRow_25 : decode cX10_copyRow 25 = .ok (.imul, 1) := by decide +kernel
theorem dX10_copyRow_26 : decode cX10_copyRow 26 = .ok (.iaload, 1) := by decide +kernel
theorem dX10_copyRow_27 : decode cX10_copyRow 27 = .ok (.iastore, 1) := by decide +kernel
theorem dX10_copyRow_28 : decode cX10_copyRow 28 = .ok (.aload_n 0, 1) := by decide +kernel
theorem dX10_copyRow_29 : decode cX10_copyRow 29 = .ok (.getfield 15, 3) := by decide +kernel
theorem dX10_copyRow_32 : decode cX10_copyRow 32 = .ok (.iconst 3, 1) := by decide +kernel
theorem dX10_copyRow_33 : decode cX10_copyRow 33 = .ok (.iload_n 2, 1) := by decide +kernel
theorem dX10_copyRow_34 : decode cX10_copyRow 34 = .ok (.imul, 1) := by decide +kernel
theorem dX10_copyRow_35 : decode cX10_copyRow 35 = .ok (.iconst 1, 1) := by decide +kernel
theorem dX10_copyRow_36 : decode cX10_copyRow 36 = .ok (.iadd, 1) := by decide +kernel
theorem dX10_copyRow_37 : decode cX10_copyRow 37 = .ok (.aload_n 0, 1) := by decide +kernel
theorem dX10_copyRow_38 : decode cX10_copyRow 38 = .ok (.getfield 15, 3) := by decide +kernel
theorem dX10_copyRow_41 : decode cX10_copyRow 41 = .ok (.iconst 3, 1) := by decide +kernel
theorem dX10_copyRow_42 : decode cX10_copyRow 42 = .ok (.iload_n 1, 1) := by decide +kernel
theorem dX10_copyRow_43 : decode cX10_copyRow 43 = .ok (.imul, 1) := by decide +kernel
theorem dX10_copyRow_44 : decode cX10_copyRow 44 = .ok (.iconst 1, 1) := by decide +kernel
theorem dX10_copyRow_45 : decode cX10_copyRow 45 = .ok (.iadd, 1) := by decide +kernel
theorem dX10_copyRow_46 : decode cX10_copyRow 46 = .ok (.iaload, 1) := by decide +kernel
theorem dX10_copyRow_47 : decode cX10_copyRow 47 = .ok (.iastore, 1) := by decide +kernel
theorem dX10_copyRow_48 : decode cX10_copyRow 48 = .ok (.aload_n 0, 1) := by decide +kernel
theorem dX10_copyRow_49 : decode cX10_copyRow 49 = .ok (.getfield 15, 3) := by decide +kernel
theorem dX10_copyRow_52 : decode cX10_copyRow 52 = .ok (.iconst 3, 1) := by decide +kernel
theorem dX10_copyRow_53 : decode cX10_copyRow 53 = .ok (.iload_n 2, 1) := by decide +kernel
theorem dX10_copyRow_54 : decode cX10_copyRow 54 = .ok (.imul, 1) := by decide +kernel
theorem dX10_copyRow_55 : decode cX10_copyRow 55 = .ok (.iconst 2, 1) := by decide +kernel
theorem dX10_copyRow_56 : decode cX10_copyRow 56 = .ok (.iadd, 1) := by decide +kernel
theorem dX10_copyRow_57 : decode cX10_copyRow 57 = .ok (.aload_n 0, 1) := by decide +kernel
theorem dX10_copyRow_58 : decode cX10_copyRow 58 = .ok (.getfield 15, 3) := by decide +kernel
theorem dX10_copyRow_61 : decode cX10_copyRow 61 = .ok (.iconst 3, 1) := by decide +kernel
theorem dX10_copyRow_62 : decode cX10_copyRow 62 = .ok (.iload_n 1, 1) := by decide +kernel
theorem dX10_copyRow_63 : decode cX10_copyRow 63 = .ok (.imul, 1) := by decide +kernel
theorem dX10_copyRow_64 : decode cX10_copyRow 64 = .ok (.iconst 2, 1) := by decide +kernel
theorem dX10_copyRow_65 : decode cX10_copyRow 65 = .ok (.iadd, 1) := by decide +kernel
theorem dX10_copyRow_66 : decode cX10_copyRow 66 = .ok (.iaload, 1) := by decide +kernel
theorem dX10_copyRow_67 : decode cX10_copyRow 67 = .ok (.iastore, 1) := by decide +kernel
theorem dX10_copyRow_68 : decode cX10_copyRow 68 = .ok (.return_, 1) := by decide +kernel
theorem EX10_copyRow {h : jj_H} {Q : Value → jj_H → Prop} (r0 : Nat) (x1 : Int32) (x2 : Int32) (H : ∀ d : jj_D, jK h r0 = 11 ∧ (jK h (jR h 501 r0 0) = 21 ∧ (vp_in x1 (jN h (jR h 501 r0 0)) ∧ (vp_in x2 (jN h (jR h 501 r0 0)) ∧ (∀ h1, h1 = wI h 1000 (jR h 501 r0 0) (Int32.toNatClampNeg x2) (jI h 1000 (jR h 501 r0 0) (Int32.toNatClampNeg x1)) → (jK h (jR h1 502 r0 0) = 21 ∧ (vp_in (3 * x1) (jN h (jR h1 502 r0 0)) ∧ (vp_in (3 * x2) (jN h (jR h1 502 r0 0)) ∧ (∀ h2, h2 = wI h1 1000 (jR h1 502 r0 0) (Int32.toNatClampNeg (3 * x2)) (jI h1 1000 (jR h1 502 r0 0) (Int32.toNatClampNeg (3 * x1))) → (jK h (jR h2 502 r0 0) = 21 ∧ (vp_in ((3 * x1) + 1) (jN h (jR h2 502 r0 0)) ∧ (vp_in ((3 * x2) + 1) (jN h (jR h2 502 r0 0)) ∧ (∀ h3, h3 = wI h2 1000 (jR h2 502 r0 0) (Int32.toNatClampNeg ((3 * x2) + 1)) (jI h2 1000 (jR h2 502 r0 0) (Int32.toNatClampNeg ((3 * x1) + 1))) → (jK h (jR h3 502 r0 0) = 21 ∧ (vp_in ((3 * x1) + 2) (jN h (jR h3 502 r0 0)) ∧ (vp_in ((3 * x2) + 2) (jN h (jR h3 502 r0 0)) ∧ (∀ h4, h4 = wI h3 1000 (jR h3 502 r0 0) (Int32.toNatClampNeg ((3 * x2) + 2)) (jI h3 1000 (jR h3 502 r0 0) (Int32.toNatClampNeg ((3 * x1) + 2))) → (Q (.int 0) h4)))))))))))))))))) : jj_C mX10_copyRow 0 0 [.ref r0, .int x1, .int x2] h Q := j_enter (by decide +kernel) (Nat.le_of_ble_eq_true rfl) rfl fun d => have H := H d; j_aload_n dX10_copyRow_0 rfl 0 rfl (j_getR (f := 501) cls_X10 1 (by decide) fl_X10_8 rfl rfl dX10_copyRow_1 H.1 (j_iload_n dX10_copyRow_4 rfl 2 rfl (j_aload_n dX10_copyRow_5 rfl 0 rfl (j_getR (f := 501) cls_X10 1 (by decide) fl_X10_8 rfl rfl dX10_copyRow_6 H.1 (j_iload_n dX10_copyRow_9 rfl 1 rfl (j_iald dX10_copyRow_10 H.2.1 H.2.2.1 (j_iast dX10_copyRow_11 H.2.1 H.2.2.2.1 (j_aload_n dX10_copyRow_12 rfl 0 rfl (j_getR (f := 502) cls_X10 2 (by decide) fl_X10_15 rfl rfl dX10_copyRow_13 H.1 (j_iconst (v := 3) dX10_copyRow_16 rfl (j_iload_n dX10_copyRow_17 rfl 2 rfl (j_imul dX10_copyRow_18 (j_aload_n dX10_copyRow_19 rfl 0 rfl (j_getR (f := 502) cls_X10 2 (by decide) fl_X10_15 rfl rfl dX10_copyRow_20 H.1 (j_iconst (v := 3) dX10_copyRow_23 rfl (j_iload_n dX10_copyRow_24 rfl 1 rfl (j_imul dX10_copyRow_25 (j_iald dX10_copyRow_26 (H.2.2.2.2 _ rfl).1 (H.2.2.2.2 _ rfl).2.1 (j_iast dX10_copyRow_27 (H.2.2.2.2 _ rfl).1 (H.2.2.2.2 _ rfl).2.2.1 (j_aload_n dX10_copyRow_28 rfl 0 rfl (j_getR (f := 502) cls_X10 2 (by decide) fl_X10_15 rfl rfl dX10_copyRow_29 H.1 (j_iconst (v := 3) dX10_copyRow_32 rfl (j_iload_n dX10_copyRow_33 rfl 2 rfl (j_imul dX10_copyRow_34 (j_iconst (v := 1) dX10_copyRow_35 rfl (j_iadd dX10_copyRow_36 (j_aload_n dX10_copyRow_37 rfl 0 rfl (j_getR (f := 502) cls_X10 2 (by decide) fl_X10_15 rfl rfl dX10_copyRow_38 H.1 (j_iconst (v := 3) dX10_copyRow_41 rfl (j_iload_n dX10_copyRow_42 rfl 1 rfl (j_imul dX10_copyRow_43 (j_iconst (v := 1) dX10_copyRow_44 rfl (j_iadd dX10_copyRow_45 (j_iald dX10_copyRow_46 ((H.2.2.2.2 _ rfl).2.2.2 _ rfl).1 ((H.2.2.2.2 _ rfl).2.2.2 _ rfl).2.1 (j_iast dX10_copyRow_47 ((H.2.2.2.2 _ rfl).2.2.2 _ rfl).1 ((H.2.2.2.2 _ rfl).2.2.2 _ rfl).2.2.1 (j_aload_n dX10_copyRow_48 rfl 0 rfl (j_getR (f := 502) cls_X10 2 (by decide) fl_X10_15 rfl rfl dX10_copyRow_49 H.1 (j_iconst (v := 3) dX10_copyRow_52 rfl (j_iload_n dX10_copyRow_53 rfl 2 rfl (j_imul dX10_copyRow_54 (j_iconst (v := 2) dX10_copyRow_55 rfl (j_iadd dX10_copyRow_56 (j_aload_n dX10_copyRow_57 rfl 0 rfl (j_getR (f := 502) cls_X10 2 (by decide) fl_X10_15 rfl rfl dX10_copyRow_58 H.1 (j_iconst (v := 3) dX10_copyRow_61 rfl (j_iload_n dX10_copyRow_62 rfl 1 rfl (j_imul dX10_copyRow_63 (j_iconst (v := 2) dX10_copyRow_64 rfl (j_iadd dX10_copyRow_65 (j_iald dX10_copyRow_66 (((H.2.2.2.2 _ rfl).2.2.2 _ rfl).2.2.2 _ rfl).1 (((H.2.2.2.2 _ rfl).2.2.2 _ rfl).2.2.2 _ rfl).2.1 (j_iast dX10_copyRow_67 (((H.2.2.2.2 _ rfl).2.2.2 _ rfl).2.2.2 _ rfl).1 (((H.2.2.2.2 _ rfl).2.2.2 _ rfl).2.2.2 _ rfl).2.2.1 (j_ret (v := .int 0) dX10_copyRow_68 rfl (((((H.2.2.2.2 _ rfl).2.2.2 _ rfl).2.2.2 _ rfl).2.2.2 _ rfl))))))))))))))))))))))))))))))))))))))))))))))))))))))
theorem dX10_copyTable_0 : decode cX10_copyTable 0 = .ok (.iconst 0, 1) := by decide +kernel
theorem dX10_copyTable_1 : decode cX10_copyTable 1 = .ok (.istore 4, 2) := by decide +kernel
theorem dX10_copyTable_3 : decode cX10_copyTable 3 = .ok (.iload 4, 2) := by decide +kernel
theorem dX10_copyTable_5 : decode cX10_copyTable 5 = .ok (.aload_n 0, 1) := by decide +kernel
theorem dX10_copyTable_6 : decode cX10_copyTable 6 = .ok (.getfield 18, 3) := by decide +kernel
theorem dX10_copyTable_9 : decode cX10_copyTable 9 = .ok (.iconst 3, 1) := by decide +kernel
theorem dX10_copyTable_10 : decode cX10_copyTable 10 = .ok (.iload_n 1, 1) := by decide +kernel
theorem dX10_copyTable_11 : decode cX10_copyTable 11 = .ok (.imul, 1) := by decide +kernel
theorem dX10_copyTable_12 : decode cX10_copyTable 12 = .ok (.iload_n 3, 1) := by decide +kernel
theorem dX10_copyTable_13 : decode cX10_copyTable 13 = .ok (.iadd, 1) := by decide +kernel
theorem dX10_copyTable_14 : decode cX10_copyTable 14 = .ok (.iaload, 1) := by decide +kernel
theorem dX10_copyTable_15 : decode cX10_copyTable 15 = .ok (.if_icmp .ge 29, 3) := by decide +kernel
theorem dX10_copyTable_18 : decode cX10_copyTable 18 = .ok (.aload_n 0, 1) := by decide +kernel
theorem dX10_copyTable_19 : decode cX10_copyTable 19 = .ok (.aload_n 0, 1) := by decide +kernel
theorem dX10_copyTable_20 : decode cX10_copyTable 20 = .ok (.iload_n 1, 1) := by decide +kernel
theorem dX10_copyTable_21 : decode cX10_copyTable 21 = .ok (.iload_n 3, 1) := by decide +kernel
theorem dX10_copyTable_22 : decode cX10_copyTable 22 = .ok (.iload 4, 2) := by decide +kernel
theorem dX10_copyTable_24 : decode cX10_copyTable 24 = .ok (.invokevirtual 110, 3) := by decide +kernel
theorem dX10_copyTable_27 : decode cX10_copyTable 27 = .ok (.aload_n 0, 1) := by decide +kernel
theorem dX10_copyTable_28 : decode cX10_copyTable 28 = .ok (.iload_n 2, 1) := by decide +kernel
theorem dX10_copyTable_29 : decode cX10_copyTable 29 = .ok (.iload_n 3, 1) := by decide +kernel
theorem dX10_copyTable_30 : decode cX10_copyTable 30 = .ok (.iload 4, 2) := by decide +kernel
theorem dX10_copyTable_32 : decode cX10_copyTable 32 = .ok (.invokevirtual 110, 3) := by decide +kernel
theorem dX10_copyTable_35 : decode cX10_copyTable 35 = .ok (.invokevirtual 117, 3) := by decide +kernel
theorem dX10_copyTable_38 : decode cX10_copyTable 38 = .ok (.iinc 4 1, 3) := by decide +kernel
theorem dX10_copyTable_41 : decode cX10_copyTable 41 = .ok (.goto (-38), 3) := by decide +kernel
theorem dX10_copyTable_44 : decode cX10_copyTable 44 = .ok (.aload_n 0, 1) := by decide +kernel
theorem dX10_copyTable_45 : decode cX10_copyTable 45 = .ok (.getfield 18, 3) := by decide +kernel
theorem dX10_copyTable_48 : decode cX10_copyTable 48 = .ok (.iconst 3, 1) := by decide +kernel
theorem dX10_copyTable_49 : decode cX10_copyTable 49 = .ok (.iload_n 2, 1) := by decide +kernel
theorem dX10_copyTable_50 : decode cX10_copyTable 50 = .ok (.imul, 1) := by decide +kernel
theorem dX10_copyTable_51 : decode cX10_copyTable 51 = .ok (.iload_n 3, 1) := by decide +kernel
theorem dX10_copyTable_52 : decode cX10_copyTable 52 = .ok (.iadd, 1) := by decide +kernel
theorem dX10_copyTable_53 : decode cX10_copyTable 53 = .ok (.aload_n 0, 1) := by decide +kernel
theorem dX10_copyTable_54 : decode cX10_copyTable 54 = .ok (.getfield 18, 3) := by decide +kernel
theorem dX10_copyTable_57 : decode cX10_copyTable 57 = .ok (.iconst 3, 1) := by decide +kernel
theorem dX10_copyTable_58 : decode cX10_copyTable 58 = .ok (.iload_n 1, 1) := by decide +kernel
theorem dX10_copyTable_59 : decode cX10_copyTable 59 = .ok (.imul, 1) := by decide +kernel
theorem dX10_copyTable_60 : decode cX10_copyTable 60 = .ok (.iload_n 3, 1) := by decide +kernel
theorem dX10_copyTable_61 : decode cX10_copyTable 61 = .ok (.iadd, 1) := by decide +kernel
theorem dX10_copyTable_62 : decode cX10_copyTable 62 = .ok (.iaload, 1) := by decide +kernel
theorem dX10_copyTable_63 : decode cX10_copyTable 63 = .ok (.iastore, 1) := by decide +kernel
theorem dX10_copyTable_64 : decode cX10_copyTable 64 = .ok (.return_, 1) := by decide +kernel
theorem EX10_copyTable {h : jj_H} {Q : Value → jj_H → Prop} (r0 : Nat) (x1 : Int32) (x2 : Int32) (x3 : Int32) (H : ∀ d : jj_D, jj_WP d mX10_copyTable 0 0 3 [(0, .ref r0), (1, .int x1), (2, .int x2), (3, .int x3), (4, .int 0)] [] h Q) : jj_C mX10_copyTable 0 0 [.ref r0, .int x1, .int x2, .int x3] h Q := j_enter (by decide +kernel) (Nat.le_of_ble_eq_true rfl) rfl fun d => have H := H d; j_iconst (v := 0) dX10_copyTable_0 rfl (j_istore (L' := [(4, .int 0), (0, .ref r0), (1, .int x1), (2, .int x2), (3, .int x3)]) dX10_copyTable_1 (by decide) rfl (j_sub [1, 2, 3, 4, 0] rfl (H)))
theorem VX10_copyTable_3 {d : jj_D} {h : jj_H} {Q : Value → jj_H → Prop} (r0 : Nat) (x1 : Int32) (x2 : Int32) (x3 : Int32) (x4 : Int32) (H : jK h r0 = 11 ∧ (jK h (jR h 503 r0 0) = 21 ∧ (vp_in ((3 * x1) + x3) (jN h (jR h 503 r0 0)) ∧ (((jI h 1000 (jR h 503 r0 0) (Int32.toNatClampNeg ((3 * x1) + x3))) ≤ x4 → vp_in ((3 * x2) + x3) (jN h (jR h 503 r0 0)) ∧ (∀ h2, h2 = wI h 1000 (jR h 503 r0 0) (Int32.toNatClampNeg ((3 * x2) + x3)) (jI h 1000 (jR h 503 r0 0) (Int32.toNatClampNeg ((3 * x1) + x3))) → (Q (.int 0) h2))) ∧ (¬ (jI h 1000 (jR h 503 r0 0) (Int32.toNatClampNeg ((3 * x1) + x3))) ≤ x4 → jj_C mX10_rowAt 0 0 [.ref r0, .int x1, .int x3, .int x4] h (fun v4 h3 => jj_vi (fun y5 => jK h3 r0 = 11 ∧ (jj_C mX10_rowAt 0 0 [.ref r0, .int x2, .int x3, .int x4] h3 (fun v8 h7 => jj_vi (fun y9 => jK h7 r0 = 11 ∧ (jj_C mX10_copyRow 0 0 [.ref r0, .int y5, .int y9] h7 (fun v12 h11 => jj_WP d mX10_copyTable 0 0 3 [(0, .ref r0), (1, .int x1), (2, .int x2), (3, .int x3), (4, .int (x4 + 1))] [] h11 Q))) v8))) v4)))))) : jj_WP d mX10_copyTable 0 0 3 [(0, .ref r0), (1, .int x1), (2, .int x2), (3, .int x3), (4, .int x4)] [] h Q := j_iload dX10_copyTable_3 4 rfl (j_aload_n dX10_copyTable_5 rfl 0 rfl (j_getR (f := 503) cls_X10 3 (by decide) fl_X10_18 rfl rfl dX10_copyTable_6 H.1 (j_iconst (v := 3) dX10_copyTable_9 rfl (j_iload_n dX10_copyTable_10 rfl 1 rfl (j_imul dX10_copyTable_11 (j_iload_n dX10_copyTable_12 rfl 3 rfl (j_iadd dX10_copyTable_13 (j_iald dX10_copyTable_14 H.2.1 H.2.2.1 (j_icmp_ge (tgt := 44) dX10_copyTable_15 (by decide) (fun c1 => j_aload_n dX10_copyTable_44 rfl 0 rfl (j_getR (f := 503) cls_X10 3 (by decide) fl_X10_18 rfl rfl dX10_copyTable_45 H.1 (j_iconst (v := 3) dX10_copyTable_48 rfl (j_iload_n dX10_copyTable_49 rfl 2 rfl (j_imul dX10_copyTable_50 (j_iload_n dX10_copyTable_51 rfl 3 rfl (j_iadd dX10_copyTable_52 (j_aload_n dX10_copyTable_53 rfl 0 rfl (j_getR (f := 503) cls_X10 3 (by decide) fl_X10_18 rfl rfl dX10_copyTable_54 H.1 (j_iconst (v := 3) dX10_copyTable_57 rfl (j_iload_n dX10_copyTable_58 rfl 1 rfl (j_imul dX10_copyTable_59 (j_iload_n dX10_copyTable_60 rfl 3 rfl (j_iadd dX10_copyTable_61 (j_iald dX10_copyTable_62 H.2.1 H.2.2.1 (j_iast dX10_copyTable_63 H.2.1 (H.2.2.2.1 c1).1 (j_ret (v := .int 0) dX10_copyTable_64 rfl (((H.2.2.2.1 c1).2 _ rfl))))))))))))))))))) (fun c1 => j_aload_n dX10_copyTable_18 rfl 0 rfl (j_aload_n dX10_copyTable_19 rfl 0 rfl (j_iload_n dX10_copyTable_20 rfl 1 rfl (j_iload_n dX10_copyTable_21 rfl 3 rfl (j_iload dX10_copyTable_22 4 rfl (j_callV0 (as := [.int x1, .int x3, .int x4]) cm_X10_rowAt im_X10_rowAt se_X10_rowAt (ci := 10) rfl (by decide) ml_X10_110 ⟨by decide, by decide⟩ dX10_copyTable_24 rfl rfl (Nat.le_of_ble_eq_true rfl) H.1 (jj_C.mono (H.2.2.2.2 c1) (fun v4 h3 H6 => jj_vi_e (fun y5 H6 => j_aload_n dX10_copyTable_27 rfl 0 rfl (j_iload_n dX10_copyTable_28 rfl 2 rfl (j_iload_n dX10_copyTable_29 rfl 3 rfl (j_iload dX10_copyTable_30 4 rfl (j_callV0 (as := [.int x2, .int x3, .int x4]) cm_X10_rowAt im_X10_rowAt se_X10_rowAt (ci := 10) rfl (by decide) ml_X10_110 ⟨by decide, by decide⟩ dX10_copyTable_32 rfl rfl (Nat.le_of_ble_eq_true rfl) H6.1 (jj_C.mono H6.2 (fun v8 h7 H10 => jj_vi_e (fun y9 H10 => j_callV0 (as := [.int y5, .int y9]) cm_X10_copyRow im_X10_copyRow se_X10_copyRow (ci := 10) rfl (by decide) ml_X10_117 ⟨by decide, by decide⟩ dX10_copyTable_35 rfl rfl (Nat.le_of_ble_eq_true rfl) H10.1 (jj_C.mono H10.2 (fun v12 h11 H13 => j_iinc (v := (x4 + 1)) (L' := [(4, .int (x4 + 1)), (0, .ref r0), (1, .int x1), (2, .int x2), (3, .int x3)]) dX10_copyTable_38 4 rfl rfl (by decide) rfl (j_goto (tgt := 3) dX10_copyTable_41 (by decide) (j_sub [1, 2, 3, 4, 0] rfl (H13)))))) H10))))))) H6)))))))))))))))))
theorem dX10_copy_0 : decode cX10_copy 0 = .ok (.iconst 0, 1) := by decide +kernel
theorem dX10_copy_1 : decode cX10_copy 1 = .ok (.istore_n 3, 1) := by decide +kernel
theorem dX10_copy_2 : decode cX10_copy 2 = .ok (.iload_n 3, 1) := by decide +kernel
theorem dX10_copy_3 : decode cX10_copy 3 = .ok (.iconst 3, 1) := by decide +kernel
theorem dX10_copy_4 : decode cX10_copy 4 = .ok (.if_icmp .ge 16, 3) := by decide +kernel
theorem dX10_copy_7 : decode cX10_copy 7 = .ok (.aload_n 0, 1) := by decide +kernel
theorem dX10_copy_8 : decode cX10_copy 8 = .ok (.iload_n 1, 1) := by decide +kernel
theorem dX10_copy_9 : decode cX10_copy 9 = .ok (.iload_n 2, 1) := by decide +kernel
theorem dX10_copy_10 : decode cX10_copy 10 = .ok (.iload_n 3, 1) := by decide +kernel
theorem dX10_copy_11 : decode cX10_copy 11 = .ok (.invokevirtual 120, 3) := by decide +kernel
theorem dX10_copy_14 : decode cX10_copy 14 = .ok (.iinc 3 1, 3) := by decide +kernel
theorem dX10_copy_17 : decode cX10_copy 17 = .ok (.goto (-15), 3) := by decide +kernel
theorem dX10_copy_20 : decode cX10_copy 20 = .ok (.return_, 1) := by decide +kernel
theorem EX10_copy {h : jj_H} {Q : Value → jj_H → Prop} (r0 : Nat) (x1 : Int32) (x2 : Int32) (H : ∀ d : jj_D, jj_WP d mX10_copy 0 0 2 [(0, .ref r0), (1, .int x1), (2, .int x2), (3, .int 0)] [] h Q) : jj_C mX10_copy 0 0 [.ref r0, .int x1, .int x2] h Q := j_enter (by decide +kernel) (Nat.le_of_ble_eq_true rfl) rfl fun d => have H := H d; j_iconst (v := 0) dX10_copy_0 rfl (j_istore_n (L' := [(3, .int 0), (0, .ref r0), (1, .int x1), (2, .int x2)]) dX10_copy_1 rfl (by decide) rfl (j_sub [1, 2, 3, 0] rfl (H)))
theorem VX10_copy_2 {d : jj_D} {h : jj_H} {Q : Value → jj_H → Prop} (r0 : Nat) (x1 : Int32) (x2 : Int32) (x3 : Int32) (H : (3 ≤ x3 → Q (.int 0) h) ∧ (¬ 3 ≤ x3 → jK h r0 = 11 ∧ (jj_C mX10_copyTable 0 0 [.ref r0, .int x1, .int x2, .int x3] h (fun v3 h2 => jj_WP d mX10_copy 0 0 2 [(0, .ref r0), (1, .int x1), (2, .int x2), (3, .int (x3 + 1))] [] h2 Q)))) : jj_WP d mX10_copy 0 0 2 [(0, .ref r0), (1, .int x1), (2, .int x2), (3, .int x3)] [] h Q := j_iload_n dX10_copy_2 rfl 3 rfl (j_iconst (v := 3) dX10_copy_3 rfl (j_icmp_ge (tgt := 20) dX10_copy_4 (by decide) (fun c1 => j_ret (v := .int 0) dX10_copy_20 rfl ((H.1 c1))) (fun c1 => j_aload_n dX10_copy_7 rfl 0 rfl (j_iload_n dX10_copy_8 rfl 1 rfl (j_iload_n dX10_copy_9 rfl 2 rfl (j_iload_n dX10_copy_10 rfl 3 rfl (j_callV0 (as := [.int x1, .int x2, .int x3]) cm_X10_copyTable im_X10_copyTable se_X10_copyTable (ci := 10) rfl (by decide) ml_X10_120 ⟨by decide, by decide⟩ dX10_copy_11 rfl rfl (Nat.le_of_ble_eq_true rfl) (H.2 c1).1 (jj_C.mono (H.2 c1).2 (fun v3 h2 H4 => j_iinc (v := (x3 + 1)) (L' := [(3, .int (x3 + 1)), (0, .ref r0), (1, .int x1), (2, .int x2)]) dX10_copy_14 3 rfl rfl (by decide) rfl (j_goto (tgt := 2) dX10_copy_17 (by decide) (j_sub [1, 2, 3, 0] rfl (H4))))))))))))
theorem dX10_lay_0 : decode cX10_lay 0 = .ok (.aload_n 0, 1) := by decide +kernel
theorem dX10_lay_1 : decode cX10_lay 1 = .ok (.iload_n 1, 1) := by decide +kernel
theorem dX10_lay_2 : decode cX10_lay 2 = .ok (.iload_n 2, 1) := by decide +kernel
theorem dX10_lay_3 : decode cX10_lay 3 = .ok (.iload_n 3, 1) := by decide +kernel
theorem dX10_lay_4 : decode cX10_lay 4 = .ok (.invokevirtual 124, 3) := by decide +kernel
theorem dX10_lay_7 : decode cX10_lay 7 = .ok (.istore 7, 2) := by decide +kernel
theorem dX10_lay_9 : decode cX10_lay 9 = .ok (.iload 7, 2) := by decide +kernel
theorem dX10_lay_11 : decode cX10_lay 11 = .ok (.ifCond .ge 7, 3) := by decide +kernel
theorem dX10_lay_14 : decode cX10_lay 14 = .ok (.iconst 1, 1) := by decide +kernel
theorem dX10_lay_15 : decode cX10_lay 15 = .ok (.goto 4, 3) := by decide +kernel
theorem dX10_lay_18 : decode cX10_lay 18 = .ok (.iconst 0, 1) := by decide +kernel
theorem dX10_lay_19 : decode cX10_lay 19 = .ok (.istore 8, 2) := by decide +kernel
theorem dX10_lay_21 : decode cX10_lay 21 = .ok (.iload 8, 2) := by decide +kernel
theorem dX10_lay_23 : decode cX10_lay 23 = .ok (.ifCond .eq 83, 3) := by decide +kernel
theorem dX10_lay_26 : decode cX10_lay 26 = .ok (.aload_n 0, 1) := by decide +kernel
theorem dX10_lay_27 : decode cX10_lay 27 = .ok (.iload_n 1, 1) := by decide +kernel
theorem dX10_lay_28 : decode cX10_lay 28 = .ok (.iload_n 2, 1) := by decide +kernel
theorem dX10_lay_29 : decode cX10_lay 29 = .ok (.iload_n 3, 1) := by decide +kernel
theorem dX10_lay_30 : decode cX10_lay 30 = .ok (.invokevirtual 114, 3) := by decide +kernel
theorem dX10_lay_33 : decode cX10_lay 33 = .ok (.istore 9, 2) := by decide +kernel
theorem dX10_lay_35 : decode cX10_lay 35 = .ok (.aload_n 0, 1) := by decide +kernel
theorem dX10_lay_36 : decode cX10_lay 36 = .ok (.getfield 18, 3) := by decide +kernel
theorem dX10_lay_39 : decode cX10_lay 39 = .ok (.iconst 3, 1) := by decide +kernel
theorem dX10_lay_40 : decode cX10_lay 40 = .ok (.iload_n 1, 1) := by decide +kernel
theorem dX10_lay_41 : decode cX10_lay 41 = .ok (.imul, 1) := by decide +kernel
theorem dX10_lay_42 : decode cX10_lay 42 = .ok (.iload_n 2, 1) := by decide +kernel
theorem dX10_lay_43 : decode cX10_lay 43 = .ok (.iadd, 1) := by decide +kernel
theorem dX10_lay_44 : decode cX10_lay 44 = .ok (.iaload, 1) := by decide +kernel
theorem dX10_lay_45 : decode cX10_lay 45 = .ok (.istore 10, 2) := by decide +kernel
theorem dX10_lay_47 : decode cX10_lay 47 = .ok (.iload 10, 2) := by decide +kernel
theorem dX10_lay_49 : decode cX10_lay 49 = .ok (.iload 9, 2) := by decide +kernel
theorem dX10_lay_51 : decode cX10_lay 51 = .ok (.if_icmp .le 31, 3) := by decide +kernel
theorem dX10_lay_54 : decode cX10_lay 54 = .ok (.aload_n 0, 1) := by decide +kernel
theorem dX10_lay_55 : decode cX10_lay 55 = .ok (.aload_n 0, 1) := by decide +kernel
theorem dX10_lay_56 : decode cX10_lay 56 = .ok (.iload_n 1, 1) := by decide +kernel
theorem dX10_lay_57 : decode cX10_lay 57 = .ok (.iload_n 2, 1) := by decide +kernel
theorem dX10_lay_58 : decode cX10_lay 58 = .ok (.iload 10, 2) := by decide +kernel
theorem dX10_lay_60 : decode cX10_lay 60 = .ok (.iconst 1, 1) := by decide +kernel
theorem dX10_lay_61 : decode cX10_lay 61 = .ok (.isub, 1) := by decide +kernel
theorem dX10_lay_62 : decode cX10_lay 62 = .ok (.invokevirtual 110, 3) := by decide +kernel
theorem dX10_lay_65 : decode cX10_lay 65 = .ok (.aload_n 0, 1) := by decide +kernel
theorem dX10_lay_66 : decode cX10_lay 66 = .ok (.iload_n 1, 1) := by decide +kernel
theorem dX10_lay_67 : decode cX10_lay 67 = .ok (.iload_n 2, 1) := by decide +kernel
theorem dX10_lay_68 : decode cX10_lay 68 = .ok (.iload 10, 2) := by decide +kernel
theorem dX10_lay_70 : decode cX10_lay 70 = .ok (.invokevirtual 110, 3) := by decide +kernel
theorem dX10_lay_73 : decode cX10_lay 73 = .ok (.invokevirtual 117, 3) := by decide +kernel
theorem dX10_lay_76 : decode cX10_lay 76 = .ok (.iinc 10 (-1), 3) := by decide +kernel
theorem dX10_lay_79 : decode cX10_lay 79 = .ok (.goto (-32), 3) := by decide +kernel
theorem dX10_lay_82 : decode cX10_lay 82 = .ok (.aload_n 0, 1) := by decide +kernel
theorem dX10_lay_83 : decode cX10_lay 83 = .ok (.getfield 18, 3) := by decide +kernel
theorem dX10_lay_86 : decode cX10_lay 86 = .ok (.iconst 3, 1) := by decide +kernel
theorem dX10_lay_87 : decode cX10_lay 87 = .ok (.iload_n 1, 1) := by decide +kernel
theorem dX10_lay_88 : decode cX10_lay 88 = .ok (.imul, 1) := by decide +kernel
theorem dX10_lay_89 : decode cX10_lay 89 = .ok (.iload_n 2, 1) := by decide +kernel
theorem dX10_lay_90 : decode cX10_lay 90 = .ok (.iadd, 1) := by decide +kernel
theorem dX10_lay_91 : decode cX10_lay 91 = .ok (.dup2, 1) := by decide +kernel
theorem dX10_lay_92 : decode cX10_lay 92 = .ok (.iaload, 1) := by decide +kernel
theorem dX10_lay_93 : decode cX10_lay 93 = .ok (.iconst 1, 1) := by decide +kernel
theorem dX10_lay_94 : decode cX10_lay 94 = .ok (.iadd, 1) := by decide +kernel
theorem dX10_lay_95 : decode cX10_lay 95 = .ok (.iastore, 1) := by decide +kernel
theorem dX10_lay_96 : decode cX10_lay 96 = .ok (.aload_n 0, 1) := by decide +kernel
theorem dX10_lay_97 : decode cX10_lay 97 = .ok (.iload_n 1, 1) := by decide +kernel
theorem dX10_lay_98 : decode cX10_lay 98 = .ok (.iload_n 2, 1) := by decide +kernel
theorem dX10_lay_99 : decode cX10_lay 99 = .ok (.iload 9, 2) := by decide +kernel
theorem dX10_lay_101 : decode cX10_lay 101 = .ok (.invokevirtual 110, 3) := by decide +kernel
theorem dX10_lay_104 : decode cX10_lay 104 = .ok (.istore 7, 2) := by decide +kernel
theorem dX10_lay_106 : decode cX10_lay 106 = .ok (.aload_n 0, 1) := by decide +kernel
theorem dX10_lay_107 : decode cX10_lay 107 = .ok (.getfield 8, 3) := by decide +kernel
theorem dX10_lay_110 : decode cX10_lay 110 = .ok (.iload 7, 2) := by decide +kernel
theorem dX10_lay_112 : decode cX10_lay 112 = .ok (.iload_n 3, 1) := by decide +kernel
theorem dX10_lay_113 : decode cX10_lay 113 = .ok (.iastore, 1) := by decide +kernel
theorem dX10_lay_114 : decode cX10_lay 114 = .ok (.aload_n 0, 1) := by decide +kernel
theorem dX10_lay_115 : decode cX10_lay 115 = .ok (.getfield 15, 3) := by decide +kernel
theorem dX10_lay_118 : decode cX10_lay 118 = .ok (.iconst 3, 1) := by decide +kernel
theorem dX10_lay_119 : decode cX10_lay 119 = .ok (.iload 7, 2) := by decide +kernel
theorem dX10_lay_121 : decode cX10_lay 121 = .ok (.imul, 1) := by decide +kernel
theorem dX10_lay_122 : decode cX10_lay 122 = .ok (.iload 4, 2) := by decide +kernel
theorem dX10_lay_124 : decode cX10_lay 124 = .ok (.iastore, 1) := by decide +kernel
theorem dX10_lay_125 : decode cX10_lay 125 = .ok (.aload_n 0, 1) := by decide +kernel
theorem dX10_lay_126 : decode cX10_lay 126 = .ok (.getfield 15, 3) := by decide +kernel
theorem dX10_lay_129 : decode cX10_lay 129 = .ok (.iconst 3, 1) := by decide +kernel
theorem dX10_lay_130 : decode cX10_lay 130 = .ok (.iload 7, 2) := by decide +kernel
theorem dX10_lay_132 : decode cX10_lay 132 = .ok (.imul, 1) := by decide +kernel
theorem dX10_lay_133 : decode cX10_lay 133 = .ok (.iconst 1, 1) := by decide +kernel
theorem dX10_lay_134 : decode cX10_lay 134 = .ok (.iadd, 1) := by decide +kernel
theorem dX10_lay_135 : decode cX10_lay 135 = .ok (.iload 5, 2) := by decide +kernel
theorem dX10_lay_137 : decode cX10_lay 137 = .ok (.iastore, 1) := by decide +kernel
theorem dX10_lay_138 : decode cX10_lay 138 = .ok (.aload_n 0, 1) := by decide +kernel
theorem dX10_lay_139 : decode cX10_lay 139 = .ok (.getfield 15, 3) := by decide +kernel
theorem dX10_lay_142 : decode cX10_lay 142 = .ok (.iconst 3, 1) := by decide +kernel
theorem dX10_lay_143 : decode cX10_lay 143 = .ok (.iload 7, 2) := by decide +kernel
theorem dX10_lay_145 : decode cX10_lay 145 = .ok (.imul, 1) := by decide +kernel
theorem dX10_lay_146 : decode cX10_lay 146 = .ok (.iconst 2, 1) := by decide +kernel
theorem dX10_lay_147 : decode cX10_lay 147 = .ok (.iadd, 1) := by decide +kernel
theorem dX10_lay_148 : decode cX10_lay 148 = .ok (.iload 6, 2) := by decide +kernel
theorem dX10_lay_150 : decode cX10_lay 150 = .ok (.iastore, 1) := by decide +kernel
theorem dX10_lay_151 : decode cX10_lay 151 = .ok (.iload 8, 2) := by decide +kernel
theorem dX10_lay_153 : decode cX10_lay 153 = .ok (.ireturn, 1) := by decide +kernel
theorem EX10_lay {h : jj_H} {Q : Value → jj_H → Prop} (r0 : Nat) (x1 : Int32) (x2 : Int32) (x3 : Int32) (x4 : Int32) (x5 : Int32) (x6 : Int32) (H : ∀ d : jj_D, jK h r0 = 11 ∧ (jj_C mX10_find 0 0 [.ref r0, .int x1, .int x2, .int x3] h (fun v2 h1 => jj_vi (fun y3 => (0 ≤ y3 → jj_WP d mX10_lay 0 0 19 [(0, .ref r0), (1, .int x1), (2, .int x2), (3, .int x3), (4, .int x4), (5, .int x5), (6, .int x6), (7, .int y3)] [.int 0] h1 Q) ∧ (¬ 0 ≤ y3 → jj_WP d mX10_lay 0 0 19 [(0, .ref r0), (1, .int x1), (2, .int x2), (3, .int x3), (4, .int x4), (5, .int x5), (6, .int x6), (7, .int y3)] [.int 1] h1 Q)) v2))) : jj_C mX10_lay 0 0 [.ref r0, .int x1, .int x2, .int x3, .int x4, .int x5, .int x6] h Q := j_enter (by decide +kernel) (Nat.le_of_ble_eq_true rfl) rfl fun d => have H := H d; j_aload_n dX10_lay_0 rfl 0 rfl (j_iload_n dX10_lay_1 rfl 1 rfl (j_iload_n dX10_lay_2 rfl 2 rfl (j_iload_n dX10_lay_3 rfl 3 rfl (j_callV0 (as := [.int x1, .int x2, .int x3]) cm_X10_find im_X10_find se_X10_find (ci := 10) rfl (by decide) ml_X10_124 ⟨by decide, by decide⟩ dX10_lay_4 rfl rfl (Nat.le_of_ble_eq_true rfl) H.1 (jj_C.mono H.2 (fun v2 h1 H4 => jj_vi_e (fun y3 H4 => j_istore (L' := [(7, .int y3), (0, .ref r0), (1, .int x1), (2, .int x2), (3, .int x3), (4, .int x4), (5, .int x5), (6, .int x6)]) dX10_lay_7 (by decide) rfl (j_iload dX10_lay_9 0 rfl (j_if_ge (tgt := 18) dX10_lay_11 (by decide) (fun c5 => j_iconst (v := 0) dX10_lay_18 rfl (j_sub [1, 2, 3, 4, 5, 6, 7, 0] rfl ((H4.1 c5)))) (fun c5 => j_iconst (v := 1) dX10_lay_14 rfl (j_goto (tgt := 19) dX10_lay_15 (by decide) (j_sub [1, 2, 3, 4, 5, 6, 7, 0] rfl ((H4.2 c5)))))))) H4))))))
theorem VX10_lay_19 {d : jj_D} {h : jj_H} {Q : Value → jj_H → Prop} (r0 : Nat) (x1 : Int32) (x2 : Int32) (x3 : Int32) (x4 : Int32) (x5 : Int32) (x6 : Int32) (x7 : Int32) (xs0 : Int32) (H : (xs0 = 0 → jj_WP d mX10_lay 0 0 106 [(0, .ref r0), (3, .int x3), (4, .int x4), (5, .int x5), (6, .int x6), (7, .int x7), (8, .int xs0)] [] h Q) ∧ (¬ xs0 = 0 → jK h r0 = 11 ∧ (jj_C mX10_rankOf 0 0 [.ref r0, .int x1, .int x2, .int x3] h (fun v3 h2 => jj_vi (fun y4 => jK h2 r0 = 11 ∧ (jK h2 (jR h2 503 r0 0) = 21 ∧ (vp_in ((3 * x1) + x2) (jN h2 (jR h2 503 r0 0)) ∧ (jj_WP d mX10_lay 0 0 47 [(0, .ref r0), (1, .int x1), (2, .int x2), (3, .int x3), (4, .int x4), (5, .int x5), (6, .int x6), (8, .int xs0), (9, .int y4), (10, .int (jI h2 1000 (jR h2 503 r0 0) (Int32.toNatClampNeg ((3 * x1) + x2))))] [] h2 Q)))) v3)))) : jj_WP d mX10_lay 0 0 19 [(0, .ref r0), (1, .int x1), (2, .int x2), (3, .int x3), (4, .int x4), (5, .int x5), (6, .int x6), (7, .int x7)] [.int xs0] h Q := j_istore (L' := [(8, .int xs0), (0, .ref r0), (1, .int x1), (2, .int x2), (3, .int x3), (4, .int x4), (5, .int x5), (6, .int x6), (7, .int x7)]) dX10_lay_19 (by decide) rfl (j_iload dX10_lay_21 0 rfl (j_if_eq (tgt := 106) dX10_lay_23 (by decide) (fun c1 => j_sub [1, 4, 5, 6, 7, 8, 0] rfl ((H.1 c1))) (fun c1 => j_aload_n dX10_lay_26 rfl 1 rfl (j_iload_n dX10_lay_27 rfl 2 rfl (j_iload_n dX10_lay_28 rfl 3 rfl (j_iload_n dX10_lay_29 rfl 4 rfl (j_callV0 (as := [.int x1, .int x2, .int x3]) cm_X10_rankOf im_X10_rankOf se_X10_rankOf (ci := 10) rfl (by decide) ml_X10_114 ⟨by decide, by decide⟩ dX10_lay_30 rfl rfl (Nat.le_of_ble_eq_true rfl) (H.2 c1).1 (jj_C.mono (H.2 c1).2 (fun v3 h2 H5 => jj_vi_e (fun y4 H5 => j_istore (L' := [(9, .int y4), (8, .int xs0), (0, .ref r0), (1, .int x1), (2, .int x2), (3, .int x3), (4, .int x4), (5, .int x5), (6, .int x6), (7, .int x7)]) dX10_lay_33 (by decide) rfl (j_aload_n dX10_lay_35 rfl 2 rfl (j_getR (f := 503) cls_X10 3 (by decide) fl_X10_18 rfl rfl dX10_lay_36 H5.1 (j_iconst (v := 3) dX10_lay_39 rfl (j_iload_n dX10_lay_40 rfl 3 rfl (j_imul dX10_lay_41 (j_iload_n dX10_lay_42 rfl 4 rfl (j_iadd dX10_lay_43 (j_iald dX10_lay_44 H5.2.1 H5.2.2.1 (j_istore (L' := [(10, .int (jI h2 1000 (jR h2 503 r0 0) (Int32.toNatClampNeg ((3 * x1) + x2)))), (9, .int y4), (8, .int xs0), (0, .ref r0), (1, .int x1), (2, .int x2), (3, .int x3), (4, .int x4), (5, .int x5), (6, .int x6), (7, .int x7)]) dX10_lay_45 (by decide) rfl (j_sub [3, 4, 5, 6, 7, 8, 9, 2, 1, 0] rfl (H5.2.2.2)))))))))))) H5)))))))))
theorem VX10_lay_106 {d : jj_D} {h : jj_H} {Q : Value → jj_H → Prop} (r0 : Nat) (x3 : Int32) (x4 : Int32) (x5 : Int32) (x6 : Int32) (x7 : Int32) (x8 : Int32) (H : jK h r0 = 11 ∧ (jK h (jR h 501 r0 0) = 21 ∧ (vp_in x7 (jN h (jR h 501 r0 0)) ∧ (∀ h1, h1 = wI h 1000 (jR h 501 r0 0) (Int32.toNatClampNeg x7) x3 → (jK h (jR h1 502 r0 0) = 21 ∧ (vp_in (3 * x7) (jN h (jR h1 502 r0 0)) ∧ (∀ h2, h2 = wI h1 1000 (jR h1 502 r0 0) (Int32.toNatClampNeg (3 * x7)) x4 → (jK h (jR h2 502 r0 0) = 21 ∧ (vp_in ((3 * x7) + 1) (jN h (jR h2 502 r0 0)) ∧ (∀ h3, h3 = wI h2 1000 (jR h2 502 r0 0) (Int32.toNatClampNeg ((3 * x7) + 1)) x5 → (jK h (jR h3 502 r0 0) = 21 ∧ (vp_in ((3 * x7) + 2) (jN h (jR h3 502 r0 0)) ∧ (∀ h4, h4 = wI h3 1000 (jR h3 502 r0 0) (Int32.toNatClampNeg ((3 * x7) + 2)) x6 → ((x8 = 0 ∨ x8 = 1) ∧ Q (.int x8) h4)))))))))))))) : jj_WP d mX10_lay 0 0 106 [(0, .ref r0), (3, .int x3), (4, .int x4), (5, .int x5), (6, .int x6), (7, .int x7), (8, .int x8)] [] h Q := j_aload_n dX10_lay_106 rfl 0 rfl (j_getR (f := 501) cls_X10 1 (by decide) fl_X10_8 rfl rfl dX10_lay_107 H.1 (j_iload dX10_lay_110 5 rfl (j_iload_n dX10_lay_112 rfl 1 rfl (j_iast dX10_lay_113 H.2.1 H.2.2.1 (j_aload_n dX10_lay_114 rfl 0 rfl (j_getR (f := 502) cls_X10 2 (by decide) fl_X10_15 rfl rfl dX10_lay_115 H.1 (j_iconst (v := 3) dX10_lay_118 rfl (j_iload dX10_lay_119 5 rfl (j_imul dX10_lay_121 (j_iload dX10_lay_122 2 rfl (j_iast dX10_lay_124 (H.2.2.2 _ rfl).1 (H.2.2.2 _ rfl).2.1 (j_aload_n dX10_lay_125 rfl 0 rfl (j_getR (f := 502) cls_X10 2 (by decide) fl_X10_15 rfl rfl dX10_lay_126 H.1 (j_iconst (v := 3) dX10_lay_129 rfl (j_iload dX10_lay_130 5 rfl (j_imul dX10_lay_132 (j_iconst (v := 1) dX10_lay_133 rfl (j_iadd dX10_lay_134 (j_iload dX10_lay_135 3 rfl (j_iast dX10_lay_137 ((H.2.2.2 _ rfl).2.2 _ rfl).1 ((H.2.2.2 _ rfl).2.2 _ rfl).2.1 (j_aload_n dX10_lay_138 rfl 0 rfl (j_getR (f := 502) cls_X10 2 (by decide) fl_X10_15 rfl rfl dX10_lay_139 H.1 (j_iconst (v := 3) dX10_lay_142 rfl (j_iload dX10_lay_143 5 rfl (j_imul dX10_lay_145 (j_iconst (v := 2) dX10_lay_146 rfl (j_iadd dX10_lay_147 (j_iload dX10_lay_148 4 rfl (j_iast dX10_lay_150 (((H.2.2.2 _ rfl).2.2 _ rfl).2.2 _ rfl).1 (((H.2.2.2 _ rfl).2.2 _ rfl).2.2 _ rfl).2.1 (j_iload dX10_lay_151 6 rfl (j_ret (v := .int x8) ⟨dX10_lay_153, _, rfl, ((((H.2.2.2 _ rfl).2.2 _ rfl).2.2 _ rfl).2.2 _ rfl).1⟩ rfl (((((H.2.2.2 _ rfl).2.2 _ rfl).2.2 _ rfl).2.2 _ rfl).2))))))))))))))))))))))))))))))))
theorem VX10_lay_47 {d : jj_D} {h : jj_H} {Q : Value → jj_H → Prop} (r0 : Nat) (x1 : Int32) (x2 : Int32) (x3 : Int32) (x4 : Int32) (x5 : Int32) (x6 : Int32) (x8 : Int32) (x9 : Int32) (x10 : Int32) (H : (x10 ≤ x9 → jK h r0 = 11 ∧ (jK h (jR h 503 r0 0) = 21 ∧ (vp_in ((3 * x1) + x2) (jN h (jR h 503 r0 0)) ∧ (∀ h2, h2 = wI h 1000 (jR h 503 r0 0) (Int32.toNatClampNeg ((3 * x1) + x2)) ((jI h 1000 (jR h 503 r0 0) (Int32.toNatClampNeg ((3 * x1) + x2))) + 1) → (jj_C mX10_rowAt 0 0 [.ref r0, .int x1, .int x2, .int x9] h2 (fun v4 h3 => jj_vi (fun y5 => jj_WP d mX10_lay 0 0 106 [(0, .ref r0), (3, .int x3), (4, .int x4), (5, .int x5), (6, .int x6), (7, .int y5), (8, .int x8)] [] h3 Q) v4)))))) ∧ (¬ x10 ≤ x9 → jK h r0 = 11 ∧ (jj_C mX10_rowAt 0 0 [.ref r0, .int x1, .int x2, .int (x10 - 1)] h (fun v8 h7 => jj_vi (fun y9 => jK h7 r0 = 11 ∧ (jj_C mX10_rowAt 0 0 [.ref r0, .int x1, .int x2, .int x10] h7 (fun v12 h11 => jj_vi (fun y13 => jK h11 r0 = 11 ∧ (jj_C mX10_copyRow 0 0 [.ref r0, .int y9, .int y13] h11 (fun v16 h15 => jj_WP d mX10_lay 0 0 47 [(0, .ref r0), (1, .int x1), (2, .int x2), (3, .int x3), (4, .int x4), (5, .int x5), (6, .int x6), (8, .int x8), (9, .int x9), (10, .int (x10 + (-1)))] [] h15 Q))) v12))) v8)))) : jj_WP d mX10_lay 0 0 47 [(0, .ref r0), (1, .int x1), (2, .int x2), (3, .int x3), (4, .int x4), (5, .int x5), (6, .int x6), (8, .int x8), (9, .int x9), (10, .int x10)] [] h Q := j_iload dX10_lay_47 9 rfl (j_iload dX10_lay_49 8 rfl (j_icmp_le (tgt := 82) dX10_lay_51 (by decide) (fun c1 => j_aload_n dX10_lay_82 rfl 0 rfl (j_getR (f := 503) cls_X10 3 (by decide) fl_X10_18 rfl rfl dX10_lay_83 (H.1 c1).1 (j_iconst (v := 3) dX10_lay_86 rfl (j_iload_n dX10_lay_87 rfl 1 rfl (j_imul dX10_lay_88 (j_iload_n dX10_lay_89 rfl 2 rfl (j_iadd dX10_lay_90 (j_dup2 dX10_lay_91 rfl rfl (j_iald dX10_lay_92 (H.1 c1).2.1 (H.1 c1).2.2.1 (j_iconst (v := 1) dX10_lay_93 rfl (j_iadd dX10_lay_94 (j_iast dX10_lay_95 (H.1 c1).2.1 (H.1 c1).2.2.1 (j_aload_n dX10_lay_96 rfl 0 rfl (j_iload_n dX10_lay_97 rfl 1 rfl (j_iload_n dX10_lay_98 rfl 2 rfl (j_iload dX10_lay_99 8 rfl (j_callV0 (as := [.int x1, .int x2, .int x9]) cm_X10_rowAt im_X10_rowAt se_X10_rowAt (ci := 10) rfl (by decide) ml_X10_110 ⟨by decide, by decide⟩ dX10_lay_101 rfl rfl (Nat.le_of_ble_eq_true rfl) (H.1 c1).1 (jj_C.mono ((H.1 c1).2.2.2 _ rfl) (fun v4 h3 H6 => jj_vi_e (fun y5 H6 => j_istore (L' := [(7, .int y5), (0, .ref r0), (1, .int x1), (2, .int x2), (3, .int x3), (4, .int x4), (5, .int x5), (6, .int x6), (8, .int x8), (9, .int x9), (10, .int x10)]) dX10_lay_104 (by decide) rfl (j_sub [1, 4, 5, 6, 7, 0, 8] rfl (H6))) H6))))))))))))))))))) (fun c1 => j_aload_n dX10_lay_54 rfl 0 rfl (j_aload_n dX10_lay_55 rfl 0 rfl (j_iload_n dX10_lay_56 rfl 1 rfl (j_iload_n dX10_lay_57 rfl 2 rfl (j_iload dX10_lay_58 9 rfl (j_iconst (v := 1) dX10_lay_60 rfl (j_isub dX10_lay_61 (j_callV0 (as := [.int x1, .int x2, .int (x10 - 1)]) cm_X10_rowAt im_X10_rowAt se_X10_rowAt (ci := 10) rfl (by decide) ml_X10_110 ⟨by decide, by decide⟩ dX10_lay_62 rfl rfl (Nat.le_of_ble_eq_true rfl) (H.2 c1).1 (jj_C.mono (H.2 c1).2 (fun v8 h7 H10 => jj_vi_e (fun y9 H10 => j_aload_n dX10_lay_65 rfl 0 rfl (j_iload_n dX10_lay_66 rfl 1 rfl (j_iload_n dX10_lay_67 rfl 2 rfl (j_iload dX10_lay_68 9 rfl (j_callV0 (as := [.int x1, .int x2, .int x10]) cm_X10_rowAt im_X10_rowAt se_X10_rowAt (ci := 10) rfl (by decide) ml_X10_110 ⟨by decide, by decide⟩ dX10_lay_70 rfl rfl (Nat.le_of_ble_eq_true rfl) H10.1 (jj_C.mono H10.2 (fun v12 h11 H14 => jj_vi_e (fun y13 H14 => j_callV0 (as := [.int y9, .int y13]) cm_X10_copyRow im_X10_copyRow se_X10_copyRow (ci := 10) rfl (by decide) ml_X10_117 ⟨by decide, by decide⟩ dX10_lay_73 rfl rfl (Nat.le_of_ble_eq_true rfl) H14.1 (jj_C.mono H14.2 (fun v16 h15 H17 => j_iinc (v := (x10 + (-1))) (L' := [(10, .int (x10 + (-1))), (0, .ref r0), (1, .int x1), (2, .int x2), (3, .int x3), (4, .int x4), (5, .int x5), (6, .int x6), (8, .int x8), (9, .int x9)]) dX10_lay_76 9 rfl rfl (by decide) rfl (j_goto (tgt := 47) dX10_lay_79 (by decide) (j_sub [1, 2, 3, 4, 5, 6, 7, 8, 9, 0] rfl (H17)))))) H14))))))) H10))))))))))))
theorem dX10_takeAway_0 : decode cX10_takeAway 0 = .ok (.aload_n 0, 1) := by decide +kernel
theorem dX10_takeAway_1 : decode cX10_takeAway 1 = .ok (.iload_n 1, 1) := by decide +kernel
theorem dX10_takeAway_2 : decode cX10_takeAway 2 = .ok (.iload_n 2, 1) := by decide +kernel
theorem dX10_takeAway_3 : decode cX10_takeAway 3 = .ok (.iload_n 3, 1) := by decide +kernel
theorem dX10_takeAway_4 : decode cX10_takeAway 4 = .ok (.invokevirtual 124, 3) := by decide +kernel
theorem dX10_takeAway_7 : decode cX10_takeAway 7 = .ok (.ifCond .ge 5, 3) := by decide +kernel
theorem dX10_takeAway_10 : decode cX10_takeAway 10 = .ok (.iconst 0, 1) := by decide +kernel
theorem dX10_takeAway_11 : decode cX10_takeAway 11 = .ok (.ireturn, 1) := by decide +kernel
theorem dX10_takeAway_12 : decode cX10_takeAway 12 = .ok (.aload_n 0, 1) := by decide +kernel
theorem dX10_takeAway_13 : decode cX10_takeAway 13 = .ok (.iload_n 1, 1) := by decide +kernel
theorem dX10_takeAway_14 : decode cX10_takeAway 14 = .ok (.iload_n 2, 1) := by decide +kernel
theorem dX10_takeAway_15 : decode cX10_takeAway 15 = .ok (.iload_n 3, 1) := by decide +kernel
theorem dX10_takeAway_16 : decode cX10_takeAway 16 = .ok (.invokevirtual 114, 3) := by decide +kernel
theorem dX10_takeAway_19 : decode cX10_takeAway 19 = .ok (.istore 4, 2) := by decide +kernel
theorem dX10_takeAway_21 : decode cX10_takeAway 21 = .ok (.aload_n 0, 1) := by decide +kernel
theorem dX10_takeAway_22 : decode cX10_takeAway 22 = .ok (.getfield 18, 3) := by decide +kernel
theorem dX10_takeAway_25 : decode cX10_takeAway 25 = .ok (.iconst 3, 1) := by decide +kernel
theorem dX10_takeAway_26 : decode cX10_takeAway 26 = .ok (.iload_n 1, 1) := by decide +kernel
theorem dX10_takeAway_27 : decode cX10_takeAway 27 = .ok (.imul, 1) := by decide +kernel
theorem dX10_takeAway_28 : decode cX10_takeAway 28 = .ok (.iload_n 2, 1) := by decide +kernel
theorem dX10_takeAway_29 : decode cX10_takeAway 29 = .ok (.iadd, 1) := by decide +kernel
theorem dX10_takeAway_30 : decode cX10_takeAway 30 = .ok (.dup2, 1) := by decide +kernel
theorem dX10_takeAway_31 : decode cX10_takeAway 31 = .ok (.iaload, 1) := by decide +kernel
theorem dX10_takeAway_32 : decode cX10_takeAway 32 = .ok (.iconst 1, 1) := by decide +kernel
theorem dX10_takeAway_33 : decode cX10_takeAway 33 = .ok (.isub, 1) := by decide +kernel
theorem dX10_takeAway_34 : decode cX10_takeAway 34 = .ok (.iastore, 1) := by decide +kernel
theorem dX10_takeAway_35 : decode cX10_takeAway 35 = .ok (.iload 4, 2) := by decide +kernel
theorem dX10_takeAway_37 : decode cX10_takeAway 37 = .ok (.istore 5, 2) := by decide +kernel
theorem dX10_takeAway_39 : decode cX10_takeAway 39 = .ok (.iload 5, 2) := by decide +kernel
theorem dX10_takeAway_41 : decode cX10_takeAway 41 = .ok (.aload_n 0, 1) := by decide +kernel
theorem dX10_takeAway_42 : decode cX10_takeAway 42 = .ok (.getfield 18, 3) := by decide +kernel
theorem dX10_takeAway_45 : decode cX10_takeAway 45 = .ok (.iconst 3, 1) := by decide +kernel
theorem dX10_takeAway_46 : decode cX10_takeAway 46 = .ok (.iload_n 1, 1) := by decide +kernel
theorem dX10_takeAway_47 : decode cX10_takeAway 47 = .ok (.imul, 1) := by decide +kernel
theorem dX10_takeAway_48 : decode cX10_takeAway 48 = .ok (.iload_n 2, 1) := by decide +kernel
theorem dX10_takeAway_49 : decode cX10_takeAway 49 = .ok (.iadd, 1) := by decide +kernel
theorem dX10_takeAway_50 : decode cX10_takeAway 50 = .ok (.iaload, 1) := by decide +kernel
theorem dX10_takeAway_51 : decode cX10_takeAway 51 = .ok (.if_icmp .ge 31, 3) := by decide +kernel
theorem dX10_takeAway_54 : decode cX10_takeAway 54 = .ok (.aload_n 0, 1) := by decide +kernel
theorem dX10_takeAway_55 : decode cX10_takeAway 55 = .ok (.aload_n 0, 1) := by decide +kernel
theorem dX10_takeAway_56 : decode cX10_takeAway 56 = .ok (.iload_n 1, 1) := by decide +kernel
theorem dX10_takeAway_57 : decode cX10_takeAway 57 = .ok (.iload_n 2, 1) := by decide +kernel
theorem dX10_takeAway_58 : decode cX10_takeAway 58 = .ok (.iload 5, 2) := by decide +kernel
theorem dX10_takeAway_60 : decode cX10_takeAway 60 = .ok (.iconst 1, 1) := by decide +kernel
theorem dX10_takeAway_61 : decode cX10_takeAway 61 = .ok (.iadd, 1) := by decide +kernel
theorem dX10_takeAway_62 : decode cX10_takeAway 62 = .ok (.invokevirtual 110, 3) := by decide +kernel
theorem dX10_takeAway_65 : decode cX10_takeAway 65 = .ok (.aload_n 0, 1) := by decide +kernel
theorem dX10_takeAway_66 : decode cX10_takeAway 66 = .ok (.iload_n 1, 1) := by decide +kernel
theorem dX10_takeAway_67 : decode cX10_takeAway 67 = .ok (.iload_n 2, 1) := by decide +kernel
theorem dX10_takeAway_68 : decode cX10_takeAway 68 = .ok (.iload 5, 2) := by decide +kernel
theorem dX10_takeAway_70 : decode cX10_takeAway 70 = .ok (.invokevirtual 110, 3) := by decide +kernel
theorem dX10_takeAway_73 : decode cX10_takeAway 73 = .ok (.invokevirtual 117, 3) := by decide +kernel
theorem dX10_takeAway_76 : decode cX10_takeAway 76 = .ok (.iinc 5 1, 3) := by decide +kernel
theorem dX10_takeAway_79 : decode cX10_takeAway 79 = .ok (.goto (-40), 3) := by decide +kernel
theorem dX10_takeAway_82 : decode cX10_takeAway 82 = .ok (.iconst 1, 1) := by decide +kernel
theorem dX10_takeAway_83 : decode cX10_takeAway 83 = .ok (.ireturn, 1) := by decide +kernel
theorem EX10_takeAway {h : jj_H} {Q : Value → jj_H → Prop} (r0 : Nat) (x1 : Int32) (x2 : Int32) (x3 : Int32) (H : ∀ d : jj_D, jK h r0 = 11 ∧ (jj_C mX10_find 0 0 [.ref r0, .int x1, .int x2, .int x3] h (fun v2 h1 => jj_vi (fun y3 => (0 ≤ y3 → jK h1 r0 = 11 ∧ (jj_C mX10_rankOf 0 0 [.ref r0, .int x1, .int x2, .int x3] h1 (fun v7 h6 => jj_vi (fun y8 => jK h6 r0 = 11 ∧ (jK h6 (jR h6 503 r0 0) = 21 ∧ (vp_in ((3 * x1) + x2) (jN h6 (jR h6 503 r0 0)) ∧ (∀ h10, h10 = wI h6 1000 (jR h6 503 r0 0) (Int32.toNatClampNeg ((3 * x1) + x2)) ((jI h6 1000 (jR h6 503 r0 0) (Int32.toNatClampNeg ((3 * x1) + x2))) - 1) → (jj_WP d mX10_takeAway 0 0 39 [(0, .ref r0), (1, .int x1), (2, .int x2), (5, .int y8)] [] h10 Q))))) v7))) ∧ (¬ 0 ≤ y3 → Q (.int 0) h1)) v2))) : jj_C mX10_takeAway 0 0 [.ref r0, .int x1, .int x2, .int x3] h Q := j_enter (by decide +kernel) (Nat.le_of_ble_eq_true rfl) rfl fun d => have H := H d; j_aload_n dX10_takeAway_0 rfl 0 rfl (j_iload_n dX10_takeAway_1 rfl 1 rfl (j_iload_n dX10_takeAway_2 rfl 2 rfl (j_iload_n dX10_takeAway_3 rfl 3 rfl (j_callV0 (as := [.int x1, .int x2, .int x3]) cm_X10_find im_X10_find se_X10_find (ci := 10) rfl (by decide) ml_X10_124 ⟨by decide, by decide⟩ dX10_takeAway_4 rfl rfl (Nat.le_of_ble_eq_true rfl) H.1 (jj_C.mono H.2 (fun v2 h1 H4 => jj_vi_e (fun y3 H4 => j_if_ge (tgt := 12) dX10_takeAway_7 (by decide) (fun c5 => j_aload_n dX10_takeAway_12 rfl 0 rfl (j_iload_n dX10_takeAway_13 rfl 1 rfl (j_iload_n dX10_takeAway_14 rfl 2 rfl (j_iload_n dX10_takeAway_15 rfl 3 rfl (j_callV0 (as := [.int x1, .int x2, .int x3]) cm_X10_rankOf im_X10_rankOf se_X10_rankOf (ci := 10) rfl (by decide) ml_X10_114 ⟨by decide, by decide⟩ dX10_takeAway_16 rfl rfl (Nat.le_of_ble_eq_true rfl) (H4.1 c5).1 (jj_C.mono (H4.1 c5).2 (fun v7 h6 H9 => jj_vi_e (fun y8 H9 => j_istore (L' := [(4, .int y8), (0, .ref r0), (1, .int x1), (2, .int x2), (3, .int x3)]) dX10_takeAway_19 (by decide) rfl (j_aload_n dX10_takeAway_21 rfl 1 rfl (j_getR (f := 503) cls_X10 3 (by decide) fl_X10_18 rfl rfl dX10_takeAway_22 H9.1 (j_iconst (v := 3) dX10_takeAway_25 rfl (j_iload_n dX10_takeAway_26 rfl 2 rfl (j_imul dX10_takeAway_27 (j_iload_n dX10_takeAway_28 rfl 3 rfl (j_iadd dX10_takeAway_29 (j_dup2 dX10_takeAway_30 rfl rfl (j_iald dX10_takeAway_31 H9.2.1 H9.2.2.1 (j_iconst (v := 1) dX10_takeAway_32 rfl (j_isub dX10_takeAway_33 (j_iast dX10_takeAway_34 H9.2.1 H9.2.2.1 (j_iload dX10_takeAway_35 0 rfl (j_istore (L' := [(5, .int y8), (4, .int y8), (0, .ref r0), (1, .int x1), (2, .int x2), (3, .int x3)]) dX10_takeAway_37 (by decide) rfl (j_sub [2, 3, 4, 0] rfl ((H9.2.2.2 _ rfl)))))))))))))))))) H9))))))) (fun c5 => j_iconst (v := 0) dX10_takeAway_10 rfl (j_ret (v := .int 0) ⟨dX10_takeAway_11, _, rfl, by decide⟩ rfl ((H4.2 c5))))) H4))))))
theorem VX10_takeAway_39 {d : jj_D} {h : jj_H} {Q : Value → jj_H → Prop} (r0 : Nat) (x1 : Int32) (x2 : Int32) (x5 : Int32) (H : jK h r0 = 11 ∧ (jK h (jR h 503 r0 0) = 21 ∧ (vp_in ((3 * x1) + x2) (jN h (jR h 503 r0 0)) ∧ (((jI h 1000 (jR h 503 r0 0) (Int32.toNatClampNeg ((3 * x1) + x2))) ≤ x5 → Q (.int 1) h) ∧ (¬ (jI h 1000 (jR h 503 r0 0) (Int32.toNatClampNeg ((3 * x1) + x2))) ≤ x5 → jj_C mX10_rowAt 0 0 [.ref r0, .int x1, .int x2, .int (x5 + 1)] h (fun v3 h2 => jj_vi (fun y4 => jK h2 r0 = 11 ∧ (jj_C mX10_rowAt 0 0 [.ref r0, .int x1, .int x2, .int x5] h2 (fun v7 h6 => jj_vi (fun y8 => jK h6 r0 = 11 ∧ (jj_C mX10_copyRow 0 0 [.ref r0, .int y4, .int y8] h6 (fun v11 h10 => jj_WP d mX10_takeAway 0 0 39 [(0, .ref r0), (1, .int x1), (2, .int x2), (5, .int (x5 + 1))] [] h10 Q))) v7))) v3)))))) : jj_WP d mX10_takeAway 0 0 39 [(0, .ref r0), (1, .int x1), (2, .int x2), (5, .int x5)] [] h Q := j_iload dX10_takeAway_39 3 rfl (j_aload_n dX10_takeAway_41 rfl 0 rfl (j_getR (f := 503) cls_X10 3 (by decide) fl_X10_18 rfl rfl dX10_takeAway_42 H.1 (j_iconst (v := 3) dX10_takeAway_45 rfl (j_iload_n dX10_takeAway_46 rfl 1 rfl (j_imul dX10_takeAway_47 (j_iload_n dX10_takeAway_48 rfl 2 rfl (j_iadd dX10_takeAway_49 (j_iald dX10_takeAway_50 H.2.1 H.2.2.1 (j_icmp_ge (tgt := 82) dX10_takeAway_51 (by decide) (fun c1 => j_iconst (v := 1) dX10_takeAway_82 rfl (j_ret (v := .int 1) ⟨dX10_takeAway_83, _, rfl, by decide⟩ rfl ((H.2.2.2.1 c1)))) (fun c1 => j_aload_n dX10_takeAway_54 rfl 0 rfl (j_aload_n dX10_takeAway_55 rfl 0 rfl (j_iload_n dX10_takeAway_56 rfl 1 rfl (j_iload_n dX10_takeAway_57 rfl 2 rfl (j_iload dX10_takeAway_58 3 rfl (j_iconst (v := 1) dX10_takeAway_60 rfl (j_iadd dX10_takeAway_61 (j_callV0 (as := [.int x1, .int x2, .int (x5 + 1)]) cm_X10_rowAt im_X10_rowAt se_X10_rowAt (ci := 10) rfl (by decide) ml_X10_110 ⟨by decide, by decide⟩ dX10_takeAway_62 rfl rfl (Nat.le_of_ble_eq_true rfl) H.1 (jj_C.mono (H.2.2.2.2 c1) (fun v3 h2 H5 => jj_vi_e (fun y4 H5 => j_aload_n dX10_takeAway_65 rfl 0 rfl (j_iload_n dX10_takeAway_66 rfl 1 rfl (j_iload_n dX10_takeAway_67 rfl 2 rfl (j_iload dX10_takeAway_68 3 rfl (j_callV0 (as := [.int x1, .int x2, .int x5]) cm_X10_rowAt im_X10_rowAt se_X10_rowAt (ci := 10) rfl (by decide) ml_X10_110 ⟨by decide, by decide⟩ dX10_takeAway_70 rfl rfl (Nat.le_of_ble_eq_true rfl) H5.1 (jj_C.mono H5.2 (fun v7 h6 H9 => jj_vi_e (fun y8 H9 => j_callV0 (as := [.int y4, .int y8]) cm_X10_copyRow im_X10_copyRow se_X10_copyRow (ci := 10) rfl (by decide) ml_X10_117 ⟨by decide, by decide⟩ dX10_takeAway_73 rfl rfl (Nat.le_of_ble_eq_true rfl) H9.1 (jj_C.mono H9.2 (fun v11 h10 H12 => j_iinc (v := (x5 + 1)) (L' := [(5, .int (x5 + 1)), (0, .ref r0), (1, .int x1), (2, .int x2)]) dX10_takeAway_76 3 rfl rfl (by decide) rfl (j_goto (tgt := 39) dX10_takeAway_79 (by decide) (j_sub [1, 2, 3, 0] rfl (H12)))))) H9))))))) H5)))))))))))))))))))
theorem dX10_isRowAlike_0 : decode cX10_isRowAlike 0 = .ok (.aload_n 0, 1) := by decide +kernel
theorem dX10_isRowAlike_1 : decode cX10_isRowAlike 1 = .ok (.getfield 8, 3) := by decide +kernel
theorem dX10_isRowAlike_4 : decode cX10_isRowAlike 4 = .ok (.iload_n 1, 1) := by decide +kernel
theorem dX10_isRowAlike_5 : decode cX10_isRowAlike 5 = .ok (.iaload, 1) := by decide +kernel
theorem dX10_isRowAlike_6 : decode cX10_isRowAlike 6 = .ok (.aload_n 0, 1) := by decide +kernel
theorem dX10_isRowAlike_7 : decode cX10_isRowAlike 7 = .ok (.getfield 8, 3) := by decide +kernel
theorem dX10_isRowAlike_10 : decode cX10_isRowAlike 10 = .ok (.iload_n 2, 1) := by decide +kernel
theorem dX10_isRowAlike_11 : decode cX10_isRowAlike 11 = .ok (.iaload, 1) := by decide +kernel
theorem dX10_isRowAlike_12 : decode cX10_isRowAlike 12 = .ok (.if_icmp .ne 72, 3) := by decide +kernel
theorem dX10_isRowAlike_15 : decode cX10_isRowAlike 15 = .ok (.aload_n 0, 1) := by decide +kernel
theorem dX10_isRowAlike_16 : decode cX10_isRowAlike 16 = .ok (.getfield 15, 3) := by decide +kernel
theorem dX10_isRowAlike_19 : decode cX10_isRowAlike 19 = .ok (.iconst 3, 1) := by decide +kernel
theorem dX10_isRowAlike_20 : decode cX10_isRowAlike 20 = .ok (.iload_n 1, 1) := by decide +kernel
theorem dX10_isRowAlike_21 : decode cX10_isRowAlike 21 = .ok (.imul, 1) := by decide +kernel
theorem dX10_isRowAlike_22 : decode cX10_isRowAlike 22 = .ok (.iaload, 1) := by decide +kernel
theorem dX10_isRowAlike_23 : decode cX10_isRowAlike 23 = .ok (.aload_n 0, 1) := by decide +kernel
theorem dX10_isRowAlike_24 : decode cX10_isRowAlike 24 = .ok (.getfield 15, 3) := by decide +kernel
theorem dX10_isRowAlike_27 : decode cX10_isRowAlike 27 = .ok (.iconst 3, 1) := by decide +kernel
theorem dX10_isRowAlike_28 : decode cX10_isRowAlike 28 = .ok (.iload_n 2, 1) := by decide +kernel
theorem dX10_isRowAlike_29 : decode cX10_isRowAlike 29 = .ok (.imul, 1) := by decide +kernel
theorem dX10_isRowAlike_30 : decode cX10_isRowAlike 30 = .ok (.iaload, 1) := by decide +kernel
theorem dX10_isRowAlike_31 : decode cX10_isRowAlike 31 = .ok (.if_icmp .ne 53, 3) := by decide +kernel
theorem dX10_isRowAlike_34 : decode cX10_isRowAlike 34 = .ok (.aload_n 0, 1) := by decide +kernel
theorem dX10_isRowAlike_35 : decode cX10_isRowAlike 35 = .ok (.getfield 15, 3) := by decide +kernel
theorem dX10_isRowAlike_38 : decode cX10_isRowAlike 38 = .ok (.iconst 3, 1) := by decide +kernel
theorem dX10_isRowAlike_39 : decode cX10_isRowAlike 39 = .ok (.iload_n 1, 1) := by decide +kernel
theorem dX10_isRowAlike_40 : decode cX10_isRowAlike 40 = .ok (.imul, 1) := by decide +kernel
theorem dX10_isRowAlike_41 : decode cX10_isRowAlike 41 = .ok (.iconst 1, 1) := by decide +kernel
theorem dX10_isRowAlike_42 : decode cX10_isRowAlike 42 = .ok (.iadd, 1) := by decide +kernel
theorem dX10_isRowAlike_43 : decode cX10_isRowAlike 43 = .ok (.iaload, 1) := by decide +kernel
theorem dX10_isRowAlike_44 : decode cX10_isRowAlike 44 = .ok (.aload_n 0, 1) := by decide +kernel
theorem dX10_isRowAlike_45 : decode cX10_isRowAlike 45 = .ok (.getfield 15, 3) := by decide +kernel
theorem dX10_isRowAlike_48 : decode cX10_isRowAlike 48 = .ok (.iconst 3, 1) := by decide +kernel
theorem dX10_isRowAlike_49 : decode cX10_isRowAlike 49 = .ok (.iload_n 2, 1) := by decide +kernel
theorem dX10_isRowAlike_50 : decode cX10_isRowAlike 50 = .ok (.imul, 1) := by decide +kernel
theorem dX10_isRowAlike_51 : decode cX10_isRowAlike 51 = .ok (.iconst 1, 1) := by decide +kernel
theorem dX10_isRowAlike_52 : decode cX10_isRowAlike 52 = .ok (.iadd, 1) := by decide +kernel
theorem dX10_isRowAlike_53 : decode cX10_isRowAlike 53 = .ok (.iaload, 1) := by decide +kernel
theorem dX10_isRowAlike_54 : decode cX10_isRowAlike 54 = .ok (.if_icmp .ne 30, 3) := by decide +kernel
theorem dX10_isRowAlike_57 : decode cX10_isRowAlike 57 = .ok (.aload_n 0, 1) := by decide +kernel
theorem dX10_isRowAlike_58 : decode cX10_isRowAlike 58 = .ok (.getfield 15, 3) := by decide +kernel
theorem dX10_isRowAlike_61 : decode cX10_isRowAlike 61 = .ok (.iconst 3, 1) := by decide +kernel
theorem dX10_isRowAlike_62 : decode cX10_isRowAlike 62 = .ok (.iload_n 1, 1) := by decide +kernel
theorem dX10_isRowAlike_63 : decode cX10_isRowAlike 63 = .ok (.imul, 1) := by decide +kernel
theorem dX10_isRowAlike_64 : decode cX10_isRowAlike 64 = .ok (.iconst 2, 1) := by decide +kernel
theorem dX10_isRowAlike_65 : decode cX10_isRowAlike 65 = .ok (.iadd, 1) := by decide +kernel
theorem dX10_isRowAlike_66 : decode cX10_isRowAlike 66 = .ok (.iaload, 1) := by decide +kernel
theorem dX10_isRowAlike_67 : decode cX10_isRowAlike 67 = .ok (.aload_n 0, 1) := by decide +kernel
theorem dX10_isRowAlike_68 : decode cX10_isRowAlike 68 = .ok (.getfield 15, 3) := by decide +kernel
theorem dX10_isRowAlike_71 : decode cX10_isRowAlike 71 = .ok (.iconst 3, 1) := by decide +kernel
theorem dX10_isRowAlike_72 : decode cX10_isRowAlike 72 = .ok (.iload_n 2, 1) := by decide +kernel
theorem dX10_isRowAlike_73 : decode cX10_isRowAlike 73 = .ok (.imul, 1) := by decide +kernel
theorem dX10_isRowAlike_74 : decode cX10_isRowAlike 74 = .ok (.iconst 2, 1) := by decide +kernel
theorem dX10_isRowAlike_75 : decode cX10_isRowAlike 75 = .ok (.iadd, 1) := by decide +kernel
theorem dX10_isRowAlike_76 : decode cX10_isRowAlike 76 = .ok (.iaload, 1) := by decide +kernel
theorem dX10_isRowAlike_77 : decode cX10_isRowAlike 77 = .ok (.if_icmp .ne 7, 3) := by decide +kernel
theorem dX10_isRowAlike_80 : decode cX10_isRowAlike 80 = .ok (.iconst 1, 1) := by decide +kernel
theorem dX10_isRowAlike_81 : decode cX10_isRowAlike 81 = .ok (.goto 4, 3) := by decide +kernel
theorem dX10_isRowAlike_84 : decode cX10_isRowAlike 84 = .ok (.iconst 0, 1) := by decide +kernel
theorem dX10_isRowAlike_85 : decode cX10_isRowAlike 85 = .ok (.ireturn, 1) := by decide +kernel
theorem EX10_isRowAlike {h : jj_H} {Q : Value → jj_H → Prop} (r0 : Nat) (x1 : Int32) (x2 : Int32) (H : ∀ d : jj_D, jK h r0 = 11 ∧ (jK h (jR h 501 r0 0) = 21 ∧ (vp_in x1 (jN h (jR h 501 r0 0)) ∧ (vp_in x2 (jN h (jR h 501 r0 0)) ∧ ((¬ (jI h 1000 (jR h 501 r0 0) (Int32.toNatClampNeg x1)) = (jI h 1000 (jR h 501 r0 0) (Int32.toNatClampNeg x2)) → Q (.int 0) h) ∧ ((jI h 1000 (jR h 501 r0 0) (Int32.toNatClampNeg x1)) = (jI h 1000 (jR h 501 r0 0) (Int32.toNatClampNeg x2)) → jK h (jR h 502 r0 0) = 21 ∧ (vp_in (3 * x1) (jN h (jR h 502 r0 0)) ∧ (vp_in (3 * x2) (jN h (jR h 502 r0 0)) ∧ ((¬ (jI h 1000 (jR h 502 r0 0) (Int32.toNatClampNeg (3 * x1))) = (jI h 1000 (jR h 502 r0 0) (Int32.toNatClampNeg (3 * x2))) → Q (.int 0) h) ∧ ((jI h 1000 (jR h 502 r0 0) (Int32.toNatClampNeg (3 * x1))) = (jI h 1000 (jR h 502 r0 0) (Int32.toNatClampNeg (3 * x2))) → vp_in ((3 * x1) + 1) (jN h (jR h 502 r0 0)) ∧ (vp_in ((3 * x2) + 1) (jN h (jR h 502 r0 0)) ∧ ((¬ (jI h 1000 (jR h 502 r0 0) (Int32.toNatClampNeg ((3 * x1) + 1))) = (jI h 1000 (jR h 502 r0 0) (Int32.toNatClampNeg ((3 * x2) + 1))) → Q (.int 0) h) ∧ ((jI h 1000 (jR h 502 r0 0) (Int32.toNatClampNeg ((3 * x1) + 1))) = (jI h 1000 (jR h 502 r0 0) (Int32.toNatClampNeg ((3 * x2) + 1))) → vp_in ((3 * x1) + 2) (jN h (jR h 502 r0 0)) ∧ (vp_in ((3 * x2) + 2) (jN h (jR h 502 r0 0)) ∧ ((¬ (jI h 1000 (jR h 502 r0 0) (Int32.toNatClampNeg ((3 * x1) + 2))) = (jI h 1000 (jR h 502 r0 0) (Int32.toNatClampNeg ((3 * x2) + 2))) → Q (.int 0) h) ∧ ((jI h 1000 (jR h 502 r0 0) (Int32.toNatClampNeg ((3 * x1) + 2))) = (jI h 1000 (jR h 502 r0 0) (Int32.toNatClampNeg ((3 * x2) + 2))) → Q (.int 1) h)))))))))))))))) : jj_C mX10_isRowAlike 0 0 [.ref r0, .int x1, .int x2] h Q := j_enter (by decide +kernel) (Nat.le_of_ble_eq_true rfl) rfl fun d => have H := H d; j_aload_n dX10_isRowAlike_0 rfl 0 rfl (j_getR (f := 501) cls_X10 1 (by decide) fl_X10_8 rfl rfl dX10_isRowAlike_1 H.1 (j_iload_n dX10_isRowAlike_4 rfl 1 rfl (j_iald dX10_isRowAlike_5 H.2.1 H.2.2.1 (j_aload_n dX10_isRowAlike_6 rfl 0 rfl (j_getR (f := 501) cls_X10 1 (by decide) fl_X10_8 rfl rfl dX10_isRowAlike_7 H.1 (j_iload_n dX10_isRowAlike_10 rfl 2 rfl (j_iald dX10_isRowAlike_11 H.2.1 H.2.2.2.1 (j_icmp_ne (tgt := 84) dX10_isRowAlike_12 (by decide) (fun c1 => j_iconst (v := 0) dX10_isRowAlike_84 rfl (j_ret (v := .int 0) ⟨dX10_isRowAlike_85, _, rfl, by decide⟩ rfl ((H.2.2.2.2.1 c1)))) (fun c1 => j_aload_n dX10_isRowAlike_15 rfl 0 rfl (j_getR (f := 502) cls_X10 2 (by decide) fl_X10_15 rfl rfl dX10_isRowAlike_16 H.1 (j_iconst (v := 3) dX10_isRowAlike_19 rfl (j_iload_n dX10_isRowAlike_20 rfl 1 rfl (j_imul dX10_isRowAlike_21 (j_iald dX10_isRowAlike_22 (H.2.2.2.2.2 c1).1 (H.2.2.2.2.2 c1).2.1 (j_aload_n dX10_isRowAlike_23 rfl 0 rfl (j_getR (f := 502) cls_X10 2 (by decide) fl_X10_15 rfl rfl dX10_isRowAlike_24 H.1 (j_iconst (v := 3) dX10_isRowAlike_27 rfl (j_iload_n dX10_isRowAlike_28 rfl 2 rfl (j_imul dX10_isRowAlike_29 (j_iald dX10_isRowAlike_30 (H.2.2.2.2.2 c1).1 (H.2.2.2.2.2 c1).2.2.1 (j_icmp_ne (tgt := 84) dX10_isRowAlike_31 (by decide) (fun c2 => j_iconst (v := 0) dX10_isRowAlike_84 rfl (j_ret (v := .int 0) ⟨dX10_isRowAlike_85, _, rfl, by decide⟩ rfl (((H.2.2.2.2.2 c1).2.2.2.1 c2)))) (fun c2 => j_aload_n dX10_isRowAlike_34 rfl 0 rfl (j_getR (f := 502) cls_X10 2 (by decide) fl_X10_15 rfl rfl dX10_isRowAlike_35 H.1 (j_iconst (v := 3) dX10_isRowAlike_38 rfl (j_iload_n dX10_isRowAlike_39 rfl 1 rfl (j_imul dX10_isRowAlike_40 (j_iconst (v := 1) dX10_isRowAlike_41 rfl (j_iadd dX10_isRowAlike_42 (j_iald dX10_isRowAlike_43 (H.2.2.2.2.2 c1).1 ((H.2.2.2.2.2 c1).2.2.2.2 c2).1 (j_aload_n dX10_isRowAlike_44 rfl 0 rfl (j_getR (f := 502) cls_X10 2 (by decide) fl_X10_15 rfl rfl dX10_isRowAlike_45 H.1 (j_iconst (v := 3) dX10_isRowAlike_48 rfl (j_iload_n dX10_isRowAlike_49 rfl 2 rfl (j_imul dX10_isRowAlike_50 (j_iconst (v := 1) dX10_isRowAlike_51 rfl (j_iadd dX10_isRowAlike_52 (j_iald dX10_isRowAlike_53 (H.2.2.2.2.2 c1).1 ((H.2.2.2.2.2 c1).2.2.2.2 c2).2.1 (j_icmp_ne (tgt := 84) dX10_isRowAlike_54 (by decide) (fun c3 => j_iconst (v := 0) dX10_isRowAlike_84 rfl (j_ret (v := .int 0) ⟨dX10_isRowAlike_85, _, rfl, by decide⟩ rfl ((((H.2.2.2.2.2 c1).2.2.2.2 c2).2.2.1 c3)))) (fun c3 => j_aload_n dX10_isRowAlike_57 rfl 0 rfl (j_getR (f := 502) cls_X10 2 (by decide) fl_X10_15 rfl rfl dX10_isRowAlike_58 H.1 (j_iconst (v := 3) dX10_isRowAlike_61 rfl (j_iload_n dX10_isRowAlike_62 rfl 1 rfl (j_imul dX10_isRowAlike_63 (j_iconst (v := 2) dX10_isRowAlike_64 rfl (j_iadd dX10_isRowAlike_65 (j_iald dX10_isRowAlike_66 (H.2.2.2.2.2 c1).1 (((H.2.2.2.2.2 c1).2.2.2.2 c2).2.2.2 c3).1 (j_aload_n dX10_isRowAlike_67 rfl 0 rfl (j_getR (f := 502) cls_X10 2 (by decide) fl_X10_15 rfl rfl dX10_isRowAlike_68 H.1 (j_iconst (v := 3) dX10_isRowAlike_71 rfl (j_iload_n dX10_isRowAlike_72 rfl 2 rfl (j_imul dX10_isRowAlike_73 (j_iconst (v := 2) dX10_isRowAlike_74 rfl (j_iadd dX10_isRowAlike_75 (j_iald dX10_isRowAlike_76 (H.2.2.2.2.2 c1).1 (((H.2.2.2.2.2 c1).2.2.2.2 c2).2.2.2 c3).2.1 (j_icmp_ne (tgt := 84) dX10_isRowAlike_77 (by decide) (fun c4 => j_iconst (v := 0) dX10_isRowAlike_84 rfl (j_ret (v := .int 0) ⟨dX10_isRowAlike_85, _, rfl, by decide⟩ rfl (((((H.2.2.2.2.2 c1).2.2.2.2 c2).2.2.2 c3).2.2.1 c4)))) (fun c4 => j_iconst (v := 1) dX10_isRowAlike_80 rfl (j_goto (tgt := 85) dX10_isRowAlike_81 (by decide) (j_ret (v := .int 1) ⟨dX10_isRowAlike_85, _, rfl, by decide⟩ rfl (((((H.2.2.2.2.2 c1).2.2.2.2 c2).2.2.2 c3).2.2.2 c4))))))))))))))))))))))))))))))))))))))))))))))))))))))))))))
theorem dX10_isAlike_0 : decode cX10_isAlike 0 = .ok (.iconst 0, 1) := by decide +kernel
theorem dX10_isAlike_1 : decode cX10_isAlike 1 = .ok (.istore_n 3, 1) := by decide +kernel
theorem dX10_isAlike_2 : decode cX10_isAlike 2 = .ok (.iload_n 3, 1) := by decide +kernel
theorem dX10_isAlike_3 : decode cX10_isAlike 3 = .ok (.iconst 3, 1) := by decide +kernel
theorem dX10_isAlike_4 : decode cX10_isAlike 4 = .ok (.if_icmp .ge 97, 3) := by decide +kernel
theorem dX10_isAlike_7 : decode cX10_isAlike 7 = .ok (.aload_n 0, 1) := by decide +kernel
theorem dX10_isAlike_8 : decode cX10_isAlike 8 = .ok (.getfield 18, 3) := by decide +kernel
theorem dX10_isAlike_11 : decode cX10_isAlike 11 = .ok (.iconst 3, 1) := by decide +kernel
theorem dX10_isAlike_12 : decode cX10_isAlike 12 = .ok (.iload_n 1, 1) := by decide +kernel
theorem dX10_isAlike_13 : decode cX10_isAlike 13 = .ok (.imul, 1) := by decide +kernel
theorem dX10_isAlike_14 : decode cX10_isAlike 14 = .ok (.iload_n 3, 1) := by decide +kernel
theorem dX10_isAlike_15 : decode cX10_isAlike 15 = .ok (.iadd, 1) := by decide +kernel
theorem dX10_isAlike_16 : decode cX10_isAlike 16 = .ok (.iaload, 1) := by decide +kernel
theorem dX10_isAlike_17 : decode cX10_isAlike 17 = .ok (.aload_n 0, 1) := by decide +kernel
theorem dX10_isAlike_18 : decode cX10_isAlike 18 = .ok (.getfield 18, 3) := by decide +kernel
theorem dX10_isAlike_21 : decode cX10_isAlike 21 = .ok (.iconst 3, 1) := by decide +kernel
theorem dX10_isAlike_22 : decode cX10_isAlike 22 = .ok (.iload_n 2, 1) := by decide +kernel
theorem dX10_isAlike_23 : decode cX10_isAlike 23 = .ok (.imul, 1) := by decide +kernel
theorem dX10_isAlike_24 : decode cX10_isAlike 24 = .ok (.iload_n 3, 1) := by decide +kernel
theorem dX10_isAlike_25 : decode cX10_isAlike 25 = .ok (.iadd, 1) := by decide +kernel
theorem dX10_isAlike_26 : decode cX10_isAlike 26 = .ok (.iaload, 1) := by decide +kernel
theorem dX10_isAlike_27 : decode cX10_isAlike 27 = .ok (.if_icmp .ne 7, 3) := by decide +kernel
theorem dX10_isAlike_30 : decode cX10_isAlike 30 = .ok (.iconst 1, 1) := by decide +kernel
theorem dX10_isAlike_31 : decode cX10_isAlike 31 = .ok (.goto 4, 3) := by decide +kernel
theorem dX10_isAlike_34 : decode cX10_isAlike 34 = .ok (.iconst 0, 1) := by decide +kernel
theorem dX10_isAlike_35 : decode cX10_isAlike 35 = .ok (.istore 4, 2) := by decide +kernel
theorem dX10_isAlike_37 : decode cX10_isAlike 37 = .ok (.iconst 0, 1) := by decide +kernel
theorem dX10_isAlike_38 : decode cX10_isAlike 38 = .ok (.istore 5, 2) := by decide +kernel
theorem dX10_isAlike_40 : decode cX10_isAlike 40 = .ok (.iload 4, 2) := by decide +kernel
theorem dX10_isAlike_42 : decode cX10_isAlike 42 = .ok (.ifCond .eq 46, 3) := by decide +kernel
theorem dX10_isAlike_45 : decode cX10_isAlike 45 = .ok (.iload 5, 2) := by decide +kernel
theorem dX10_isAlike_47 : decode cX10_isAlike 47 = .ok (.aload_n 0, 1) := by decide +kernel
theorem dX10_isAlike_48 : decode cX10_isAlike 48 = .ok (.getfield 18, 3) := by decide +kernel
theorem dX10_isAlike_51 : decode cX10_isAlike 51 = .ok (.iconst 3, 1) := by decide +kernel
theorem dX10_isAlike_52 : decode cX10_isAlike 52 = .ok (.iload_n 1, 1) := by decide +kernel
theorem dX10_isAlike_53 : decode cX10_isAlike 53 = .ok (.imul, 1) := by decide +kernel
theorem dX10_isAlike_54 : decode cX10_isAlike 54 = .ok (.iload_n 3, 1) := by decide +kernel
theorem dX10_isAlike_55 : decode cX10_isAlike 55 = .ok (.iadd, 1) := by decide +kernel
theorem dX10_isAlike_56 : decode cX10_isAlike 56 = .ok (.iaload, 1) := by decide +kernel
theorem dX10_isAlike_57 : decode cX10_isAlike 57 = .ok (.if_icmp .ge 31, 3) := by decide +kernel
theorem dX10_isAlike_60 : decode cX10_isAlike 60 = .ok (.aload_n 0, 1) := by decide +kernel
theorem dX10_isAlike_61 : decode cX10_isAlike 61 = .ok (.aload_n 0, 1) := by decide +kernel
theorem dX10_isAlike_62 : decode cX10_isAlike 62 = .ok (.iload_n 1, 1) := by decide +kernel
theorem dX10_isAlike_63 : decode cX10_isAlike 63 = .ok (.iload_n 3, 1) := by decide +kernel
theorem dX10_isAlike_64 : decode cX10_isAlike 64 = .ok (.iload 5, 2) := by decide +kernel
theorem dX10_isAlike_66 : decode cX10_isAlike 66 = .ok (.invokevirtual 110, 3) := by decide +kernel
theorem dX10_isAlike_69 : decode cX10_isAlike 69 = .ok (.aload_n 0, 1) := by decide +kernel
theorem dX10_isAlike_70 : decode cX10_isAlike 70 = .ok (.iload_n 2, 1) := by decide +kernel
theorem dX10_isAlike_71 : decode cX10_isAlike 71 = .ok (.iload_n 3, 1) := by decide +kernel
theorem dX10_isAlike_72 : decode cX10_isAlike 72 = .ok (.iload 5, 2) := by decide +kernel
theorem dX10_isAlike_74 : decode cX10_isAlike 74 = .ok (.invokevirtual 110, 3) := by decide +kernel
theorem dX10_isAlike_77 : decode cX10_isAlike 77 = .ok (.invokevirtual 127, 3) := by decide +kernel
theorem dX10_isAlike_80 : decode cX10_isAlike 80 = .ok (.istore 4, 2) := by decide +kernel
theorem dX10_isAlike_82 : decode cX10_isAlike 82 = .ok (.iinc 5 1, 3) := by decide +kernel
theorem dX10_isAlike_85 : decode cX10_isAlike 85 = .ok (.goto (-45), 3) := by decide +kernel
theorem dX10_isAlike_88 : decode cX10_isAlike 88 = .ok (.iload 4, 2) := by decide +kernel
theorem dX10_isAlike_90 : decode cX10_isAlike 90 = .ok (.ifCond .ne 5, 3) := by decide +kernel
theorem dX10_isAlike_93 : decode cX10_isAlike 93 = .ok (.iconst 0, 1) := by decide +kernel
theorem dX10_isAlike_94 : decode cX10_isAlike 94 = .ok (.ireturn, 1) := by decide +kernel
theorem dX10_isAlike_95 : decode cX10_isAlike 95 = .ok (.iinc 3 1, 3) := by decide +kernel
theorem dX10_isAlike_98 : decode cX10_isAlike 98 = .ok (.goto (-96), 3) := by decide +kernel
theorem dX10_isAlike_101 : decode cX10_isAlike 101 = .ok (.iconst 1, 1) := by decide +kernel
theorem dX10_isAlike_102 : decode cX10_isAlike 102 = .ok (.ireturn, 1) := by decide +kernel
theorem EX10_isAlike {h : jj_H} {Q : Value → jj_H → Prop} (r0 : Nat) (x1 : Int32) (x2 : Int32) (H : ∀ d : jj_D, jj_WP d mX10_isAlike 0 0 2 [(0, .ref r0), (1, .int x1), (2, .int x2), (3, .int 0)] [] h Q) : jj_C mX10_isAlike 0 0 [.ref r0, .int x1, .int x2] h Q := j_enter (by decide +kernel) (Nat.le_of_ble_eq_true rfl) rfl fun d => have H := H d; j_iconst (v := 0) dX10_isAlike_0 rfl (j_istore_n (L' := [(3, .int 0), (0, .ref r0), (1, .int x1), (2, .int x2)]) dX10_isAlike_1 rfl (by decide) rfl (j_sub [1, 2, 3, 0] rfl (H)))
theorem VX10_isAlike_2 {d : jj_D} {h : jj_H} {Q : Value → jj_H → Prop} (r0 : Nat) (x1 : Int32) (x2 : Int32) (x3 : Int32) (H : (3 ≤ x3 → Q (.int 1) h) ∧ (¬ 3 ≤ x3 → jK h r0 = 11 ∧ (jK h (jR h 503 r0 0) = 21 ∧ (vp_in ((3 * x1) + x3) (jN h (jR h 503 r0 0)) ∧ (vp_in ((3 * x2) + x3) (jN h (jR h 503 r0 0)) ∧ ((¬ (jI h 1000 (jR h 503 r0 0) (Int32.toNatClampNeg ((3 * x1) + x3))) = (jI h 1000 (jR h 503 r0 0) (Int32.toNatClampNeg ((3 * x2) + x3))) → jj_WP d mX10_isAlike 0 0 40 [(0, .ref r0), (1, .int x1), (2, .int x2), (3, .int x3), (4, .int 0), (5, .int 0)] [] h Q) ∧ ((jI h 1000 (jR h 503 r0 0) (Int32.toNatClampNeg ((3 * x1) + x3))) = (jI h 1000 (jR h 503 r0 0) (Int32.toNatClampNeg ((3 * x2) + x3))) → jj_WP d mX10_isAlike 0 0 40 [(0, .ref r0), (1, .int x1), (2, .int x2), (3, .int x3), (4, .int 1), (5, .int 0)] [] h Q))))))) : jj_WP d mX10_isAlike 0 0 2 [(0, .ref r0), (1, .int x1), (2, .int x2), (3, .int x3)] [] h Q := j_iload_n dX10_isAlike_2 rfl 3 rfl (j_iconst (v := 3) dX10_isAlike_3 rfl (j_icmp_ge (tgt := 101) dX10_isAlike_4 (by decide) (fun c1 => j_iconst (v := 1) dX10_isAlike_101 rfl (j_ret (v := .int 1) ⟨dX10_isAlike_102, _, rfl, by decide⟩ rfl ((H.1 c1)))) (fun c1 => j_aload_n dX10_isAlike_7 rfl 0 rfl (j_getR (f := 503) cls_X10 3 (by decide) fl_X10_18 rfl rfl dX10_isAlike_8 (H.2 c1).1 (j_iconst (v := 3) dX10_isAlike_11 rfl (j_iload_n dX10_isAlike_12 rfl 1 rfl (j_imul dX10_isAlike_13 (j_iload_n dX10_isAlike_14 rfl 3 rfl (j_iadd dX10_isAlike_15 (j_iald dX10_isAlike_16 (H.2 c1).2.1 (H.2 c1).2.2.1 (j_aload_n dX10_isAlike_17 rfl 0 rfl (j_getR (f := 503) cls_X10 3 (by decide) fl_X10_18 rfl rfl dX10_isAlike_18 (H.2 c1).1 (j_iconst (v := 3) dX10_isAlike_21 rfl (j_iload_n dX10_isAlike_22 rfl 2 rfl (j_imul dX10_isAlike_23 (j_iload_n dX10_isAlike_24 rfl 3 rfl (j_iadd dX10_isAlike_25 (j_iald dX10_isAlike_26 (H.2 c1).2.1 (H.2 c1).2.2.2.1 (j_icmp_ne (tgt := 34) dX10_isAlike_27 (by decide) (fun c2 => j_iconst (v := 0) dX10_isAlike_34 rfl (j_istore (L' := [(4, .int 0), (0, .ref r0), (1, .int x1), (2, .int x2), (3, .int x3)]) dX10_isAlike_35 (by decide) rfl (j_iconst (v := 0) dX10_isAlike_37 rfl (j_istore (L' := [(5, .int 0), (4, .int 0), (0, .ref r0), (1, .int x1), (2, .int x2), (3, .int x3)]) dX10_isAlike_38 (by decide) rfl (j_sub [2, 3, 4, 5, 1, 0] rfl (((H.2 c1).2.2.2.2.1 c2))))))) (fun c2 => j_iconst (v := 1) dX10_isAlike_30 rfl (j_goto (tgt := 35) dX10_isAlike_31 (by decide) (j_istore (L' := [(4, .int 1), (0, .ref r0), (1, .int x1), (2, .int x2), (3, .int x3)]) dX10_isAlike_35 (by decide) rfl (j_iconst (v := 0) dX10_isAlike_37 rfl (j_istore (L' := [(5, .int 0), (4, .int 1), (0, .ref r0), (1, .int x1), (2, .int x2), (3, .int x3)]) dX10_isAlike_38 (by decide) rfl (j_sub [2, 3, 4, 5, 1, 0] rfl (((H.2 c1).2.2.2.2.2 c2)))))))))))))))))))))))))))
theorem VX10_isAlike_40 {d : jj_D} {h : jj_H} {Q : Value → jj_H → Prop} (r0 : Nat) (x1 : Int32) (x2 : Int32) (x3 : Int32) (x4 : Int32) (x5 : Int32) (H : (x4 = 0 → (¬ x4 = 0 → jj_WP d mX10_isAlike 0 0 2 [(0, .ref r0), (1, .int x1), (2, .int x2), (3, .int (x3 + 1))] [] h Q) ∧ (x4 = 0 → Q (.int 0) h)) ∧ (¬ x4 = 0 → jK h r0 = 11 ∧ (jK h (jR h 503 r0 0) = 21 ∧ (vp_in ((3 * x1) + x3) (jN h (jR h 503 r0 0)) ∧ (((jI h 1000 (jR h 503 r0 0) (Int32.toNatClampNeg ((3 * x1) + x3))) ≤ x5 → (¬ x4 = 0 → jj_WP d mX10_isAlike 0 0 2 [(0, .ref r0), (1, .int x1), (2, .int x2), (3, .int (x3 + 1))] [] h Q) ∧ (x4 = 0 → Q (.int 0) h)) ∧ (¬ (jI h 1000 (jR h 503 r0 0) (Int32.toNatClampNeg ((3 * x1) + x3))) ≤ x5 → jj_C mX10_rowAt 0 0 [.ref r0, .int x1, .int x3, .int x5] h (fun v6 h5 => jj_vi (fun y7 => jK h5 r0 = 11 ∧ (jj_C mX10_rowAt 0 0 [.ref r0, .int x2, .int x3, .int x5] h5 (fun v10 h9 => jj_vi (fun y11 => jK h9 r0 = 11 ∧ (jj_C mX10_isRowAlike 0 0 [.ref r0, .int y7, .int y11] h9 (fun v14 h13 => jj_vi (fun y15 => jj_WP d mX10_isAlike 0 0 40 [(0, .ref r0), (1, .int x1), (2, .int x2), (3, .int x3), (4, .int y15), (5, .int (x5 + 1))] [] h13 Q) v14))) v10))) v6))))))) : jj_WP d mX10_isAlike 0 0 40 [(0, .ref r0), (1, .int x1), (2, .int x2), (3, .int x3), (4, .int x4), (5, .int x5)] [] h Q := j_iload dX10_isAlike_40 4 rfl (j_if_eq (tgt := 88) dX10_isAlike_42 (by decide) (fun c1 => j_iload dX10_isAlike_88 4 rfl (j_if_ne (tgt := 95) dX10_isAlike_90 (by decide) (fun c2 => j_iinc (v := (x3 + 1)) (L' := [(3, .int (x3 + 1)), (0, .ref r0), (1, .int x1), (2, .int x2), (4, .int x4), (5, .int x5)]) dX10_isAlike_95 3 rfl rfl (by decide) rfl (j_goto (tgt := 2) dX10_isAlike_98 (by decide) (j_sub [1, 2, 3, 0] rfl (((H.1 c1).1 c2))))) (fun c2 => j_iconst (v := 0) dX10_isAlike_93 rfl (j_ret (v := .int 0) ⟨dX10_isAlike_94, _, rfl, by decide⟩ rfl (((H.1 c1).2 c2)))))) (fun c1 => j_iload dX10_isAlike_45 5 rfl (j_aload_n dX10_isAlike_47 rfl 0 rfl (j_getR (f := 503) cls_X10 3 (by decide) fl_X10_18 rfl rfl dX10_isAlike_48 (H.2 c1).1 (j_iconst (v := 3) dX10_isAlike_51 rfl (j_iload_n dX10_isAlike_52 rfl 1 rfl (j_imul dX10_isAlike_53 (j_iload_n dX10_isAlike_54 rfl 3 rfl (j_iadd dX10_isAlike_55 (j_iald dX10_isAlike_56 (H.2 c1).2.1 (H.2 c1).2.2.1 (j_icmp_ge (tgt := 88) dX10_isAlike_57 (by decide) (fun c3 => j_iload dX10_isAlike_88 4 rfl (j_if_ne (tgt := 95) dX10_isAlike_90 (by decide) (fun c4 => j_iinc (v := (x3 + 1)) (L' := [(3, .int (x3 + 1)), (0, .ref r0), (1, .int x1), (2, .int x2), (4, .int x4), (5, .int x5)]) dX10_isAlike_95 3 rfl rfl (by decide) rfl (j_goto (tgt := 2) dX10_isAlike_98 (by decide) (j_sub [1, 2, 3, 0] rfl ((((H.2 c1).2.2.2.1 c3).1 c4))))) (fun c4 => j_iconst (v := 0) dX10_isAlike_93 rfl (j_ret (v := .int 0) ⟨dX10_isAlike_94, _, rfl, by decide⟩ rfl ((((H.2 c1).2.2.2.1 c3).2 c4)))))) (fun c3 => j_aload_n dX10_isAlike_60 rfl 0 rfl (j_aload_n dX10_isAlike_61 rfl 0 rfl (j_iload_n dX10_isAlike_62 rfl 1 rfl (j_iload_n dX10_isAlike_63 rfl 3 rfl (j_iload dX10_isAlike_64 5 rfl (j_callV0 (as := [.int x1, .int x3, .int x5]) cm_X10_rowAt im_X10_rowAt se_X10_rowAt (ci := 10) rfl (by decide) ml_X10_110 ⟨by decide, by decide⟩ dX10_isAlike_66 rfl rfl (Nat.le_of_ble_eq_true rfl) (H.2 c1).1 (jj_C.mono ((H.2 c1).2.2.2.2 c3) (fun v6 h5 H8 => jj_vi_e (fun y7 H8 => j_aload_n dX10_isAlike_69 rfl 0 rfl (j_iload_n dX10_isAlike_70 rfl 2 rfl (j_iload_n dX10_isAlike_71 rfl 3 rfl (j_iload dX10_isAlike_72 5 rfl (j_callV0 (as := [.int x2, .int x3, .int x5]) cm_X10_rowAt im_X10_rowAt se_X10_rowAt (ci := 10) rfl (by decide) ml_X10_110 ⟨by decide, by decide⟩ dX10_isAlike_74 rfl rfl (Nat.le_of_ble_eq_true rfl) H8.1 (jj_C.mono H8.2 (fun v10 h9 H12 => jj_vi_e (fun y11 H12 => j_callV0 (as := [.int y7, .int y11]) cm_X10_isRowAlike im_X10_isRowAlike se_X10_isRowAlike (ci := 10) rfl (by decide) ml_X10_127 ⟨by decide, by decide⟩ dX10_isAlike_77 rfl rfl (Nat.le_of_ble_eq_true rfl) H12.1 (jj_C.mono H12.2 (fun v14 h13 H16 => jj_vi_e (fun y15 H16 => j_istore (L' := [(4, .int y15), (0, .ref r0), (1, .int x1), (2, .int x2), (3, .int x3), (5, .int x5)]) dX10_isAlike_80 (by decide) rfl (j_iinc (v := (x5 + 1)) (L' := [(5, .int (x5 + 1)), (4, .int y15), (0, .ref r0), (1, .int x1), (2, .int x2), (3, .int x3)]) dX10_isAlike_82 5 rfl rfl (by decide) rfl (j_goto (tgt := 40) dX10_isAlike_85 (by decide) (j_sub [2, 3, 4, 5, 1, 0] rfl (H16))))) H16))) H12))))))) H8)))))))))))))))))))
theorem dX10_isClean_0 : decode cX10_isClean 0 = .ok (.aload_n 0, 1) := by decide +kernel
theorem dX10_isClean_1 : decode cX10_isClean 1 = .ok (.bipush 60, 2) := by decide +kernel
theorem dX10_isClean_3 : decode cX10_isClean 3 = .ok (.aload_n 0, 1) := by decide +kernel
theorem dX10_isClean_4 : decode cX10_isClean 4 = .ok (.getfield 67, 3) := by decide +kernel
theorem dX10_isClean_7 : decode cX10_isClean 7 = .ok (.aload_n 0, 1) := by decide +kernel
theorem dX10_isClean_8 : decode cX10_isClean 8 = .ok (.getfield 131, 3) := by decide +kernel
theorem dX10_isClean_11 : decode cX10_isClean 11 = .ok (.iaload, 1) := by decide +kernel
theorem dX10_isClean_12 : decode cX10_isClean 12 = .ok (.invokevirtual 134, 3) := by decide +kernel
theorem dX10_isClean_15 : decode cX10_isClean 15 = .ok (.ireturn, 1) := by decide +kernel
theorem EX10_isClean {h : jj_H} {Q : Value → jj_H → Prop} (r0 : Nat) (H : ∀ d : jj_D, jK h r0 = 11 ∧ (jK h (jR h 518 r0 0) = 21 ∧ (vp_in (jI h 519 r0 0) (jN h (jR h 518 r0 0)) ∧ (jj_C mX10_isAlike 0 0 [.ref r0, .int 60, .int (jI h 1000 (jR h 518 r0 0) (Int32.toNatClampNeg (jI h 519 r0 0)))] h (fun v2 h1 => jj_vi (fun y3 => (y3 = 0 ∨ y3 = 1) ∧ Q (.int y3) h1) v2))))) : jj_C mX10_isClean 0 0 [.ref r0] h Q := j_enter (by decide +kernel) (Nat.le_of_ble_eq_true rfl) rfl fun d => have H := H d; j_aload_n dX10_isClean_0 rfl 0 rfl (j_bipush (v := 60) dX10_isClean_1 rfl (j_aload_n dX10_isClean_3 rfl 0 rfl (j_getR (f := 518) cls_X10 18 (by decide) fl_X10_67 rfl rfl dX10_isClean_4 H.1 (j_aload_n dX10_isClean_7 rfl 0 rfl (j_getI (f := 519) cls_X10 19 (by decide) fl_X10_131 rfl (by decide) dX10_isClean_8 H.1 (j_iald dX10_isClean_11 H.2.1 H.2.2.1 (j_callV0 (as := [.int 60, .int (jI h 1000 (jR h 518 r0 0) (Int32.toNatClampNeg (jI h 519 r0 0)))]) cm_X10_isAlike im_X10_isAlike se_X10_isAlike (ci := 10) rfl (by decide) ml_X10_134 ⟨by decide, by decide⟩ dX10_isClean_12 rfl rfl (Nat.le_of_ble_eq_true rfl) H.1 (jj_C.mono H.2.2.2 (fun v2 h1 H4 => jj_vi_e (fun y3 H4 => j_ret (v := .int y3) ⟨dX10_isClean_15, _, rfl, H4.1⟩ rfl (H4.2)) H4)))))))))
theorem dX10_turned_0 : decode cX10_turned 0 = .ok (.iload_n 0, 1) := by decide +kernel
theorem dX10_turned_1 : decode cX10_turned 1 = .ok (.iload_n 1, 1) := by decide +kernel
theorem dX10_turned_2 : decode cX10_turned 2 = .ok (.ishl, 1) := by decide +kernel
theorem dX10_turned_3 : decode cX10_turned 3 = .ok (.iload_n 0, 1) := by decide +kernel
theorem dX10_turned_4 : decode cX10_turned 4 = .ok (.bipush 32, 2) := by decide +kernel
theorem dX10_turned_6 : decode cX10_turned 6 = .ok (.iload_n 1, 1) := by decide +kernel
theorem dX10_turned_7 : decode cX10_turned 7 = .ok (.isub, 1) := by decide +kernel
theorem dX10_turned_8 : decode cX10_turned 8 = .ok (.iushr, 1) := by decide +kernel
theorem dX10_turned_9 : decode cX10_turned 9 = .ok (.ior, 1) := by decide +kernel
theorem dX10_turned_10 : decode cX10_turned 10 = .ok (.ireturn, 1) := by decide +kernel
theorem EX10_turned {h : jj_H} {Q : Value → jj_H → Prop} (x0 : Int32) (x1 : Int32) (H : ∀ d : jj_D, Q (.int ((x0 <<< (x1 &&& 31)) ||| (Int32.toUInt32 x0 >>> (Int32.toUInt32 (32 - x1) &&& Int32.toUInt32 31)).toInt32)) h) : jj_C mX10_turned 0 0 [.int x0, .int x1] h Q := j_enter (by decide +kernel) (Nat.le_of_ble_eq_true rfl) rfl fun d => have H := H d; j_iload_n dX10_turned_0 rfl 0 rfl (j_iload_n dX10_turned_1 rfl 1 rfl (j_ishl dX10_turned_2 (j_iload_n dX10_turned_3 rfl 0 rfl (j_bipush (v := 32) dX10_turned_4 rfl (j_iload_n dX10_turned_6 rfl 1 rfl (j_isub dX10_turned_7 (j_iushr dX10_turned_8 (j_ior dX10_turned_9 (j_ret (v := .int ((x0 <<< (x1 &&& 31)) ||| (Int32.toUInt32 x0 >>> (Int32.toUInt32 (32 - x1) &&& Int32.toUInt32 31)).toInt32)) ⟨dX10_turned_10, _, rfl⟩ rfl (H))))))))))
theorem dX10_toll_0 : decode cX10_toll 0 = .ok (.iload_n 0, 1) := by decide +kernel
theorem dX10_toll_1 : decode cX10_toll 1 = .ok (.iconst 1, 1) := by decide +kernel
theorem dX10_toll_2 : decode cX10_toll 2 = .ok (.iadd, 1) := by decide +kernel
theorem dX10_toll_3 : decode cX10_toll 3 = .ok (.ldc 137, 2) := by decide +kernel
theorem dX10_toll_5 : decode cX10_toll 5 = .ok (.imul, 1) := by decide +kernel
theorem dX10_toll_6 : decode cX10_toll 6 = .ok (.ireturn, 1) := by decide +kernel
theorem EX10_toll {h : jj_H} {Q : Value → jj_H → Prop} (x0 : Int32) (H : ∀ d : jj_D, Q (.int ((x0 + 1) * (-1640531535))) h) : jj_C mX10_toll 0 0 [.int x0] h Q := j_enter (by decide +kernel) (Nat.le_of_ble_eq_true rfl) rfl fun d => have H := H d; j_iload_n dX10_toll_0 rfl 0 rfl (j_iconst (v := 1) dX10_toll_1 rfl (j_iadd dX10_toll_2 (j_ldc (v := (-1640531535)) dX10_toll_3 kc_X10_137 (j_imul dX10_toll_5 (j_ret (v := .int ((x0 + 1) * (-1640531535))) ⟨dX10_toll_6, _, rfl⟩ rfl (H))))))
theorem dX10_layBytes_0 : decode cX10_layBytes 0 = .ok (.iload_n 3, 1) := by decide +kernel
theorem dX10_layBytes_1 : decode cX10_layBytes 1 = .ok (.iconst 1, 1) := by decide +kernel
theorem dX10_layBytes_2 : decode cX10_layBytes 2 = .ok (.isub, 1) := by decide +kernel
theorem dX10_layBytes_3 : decode cX10_layBytes 3 = .ok (.istore 4, 2) := by decide +kernel
theorem dX10_layBytes_5 : decode cX10_layBytes 5 = .ok (.iload 4, 2) := by decide +kernel
theorem dX10_layBytes_7 : decode cX10_layBytes 7 = .ok (.ifCond .lt 42, 3) := by decide +kernel
theorem dX10_layBytes_10 : decode cX10_layBytes 10 = .ok (.aload_n 0, 1) := by decide +kernel
theorem dX10_layBytes_11 : decode cX10_layBytes 11 = .ok (.getfield 44, 3) := by decide +kernel
theorem dX10_layBytes_14 : decode cX10_layBytes 14 = .ok (.aload_n 0, 1) := by decide +kernel
theorem dX10_layBytes_15 : decode cX10_layBytes 15 = .ok (.getfield 47, 3) := by decide +kernel
theorem dX10_layBytes_18 : decode cX10_layBytes 18 = .ok (.iconst 0, 1) := by decide +kernel
theorem dX10_layBytes_19 : decode cX10_layBytes 19 = .ok (.iaload, 1) := by decide +kernel
theorem dX10_layBytes_20 : decode cX10_layBytes 20 = .ok (.lload_n 1, 1) := by decide +kernel
theorem dX10_layBytes_21 : decode cX10_layBytes 21 = .ok (.bipush 8, 2) := by decide +kernel
theorem dX10_layBytes_23 : decode cX10_layBytes 23 = .ok (.iload 4, 2) := by decide +kernel
theorem dX10_layBytes_25 : decode cX10_layBytes 25 = .ok (.imul, 1) := by decide +kernel
theorem dX10_layBytes_26 : decode cX10_layBytes 26 = .ok (.lshr, 1) := by decide +kernel
theorem dX10_layBytes_27 : decode cX10_layBytes 27 = .ok (.ldc2_w 138, 3) := by decide +kernel
theorem dX10_layBytes_30 : decode cX10_layBytes 30 = .ok (.land, 1) := by decide +kernel
theorem dX10_layBytes_31 : decode cX10_layBytes 31 = .ok (.l2i, 1) := by decide +kernel
theorem dX10_layBytes_32 : decode cX10_layBytes 32 = .ok (.iastore, 1) := by decide +kernel
theorem dX10_layBytes_33 : decode cX10_layBytes 33 = .ok (.aload_n 0, 1) := by decide +kernel
theorem dX10_layBytes_34 : decode cX10_layBytes 34 = .ok (.getfield 47, 3) := by decide +kernel
theorem dX10_layBytes_37 : decode cX10_layBytes 37 = .ok (.iconst 0, 1) := by decide +kernel
theorem dX10_layBytes_38 : decode cX10_layBytes 38 = .ok (.dup2, 1) := by decide +kernel
theorem dX10_layBytes_39 : decode cX10_layBytes 39 = .ok (.iaload, 1) := by decide +kernel
theorem dX10_layBytes_40 : decode cX10_layBytes 40 = .ok (.iconst 1, 1) := by decide +kernel
theorem dX10_layBytes_41 : decode cX10_layBytes 41 = .ok (.iadd, 1) := by decide +kernel
theorem dX10_layBytes_42 : decode cX10_layBytes 42 = .ok (.iastore, 1) := by decide +kernel
theorem dX10_layBytes_43 : decode cX10_layBytes 43 = .ok (.iinc 4 (-1), 3) := by decide +kernel
theorem dX10_layBytes_46 : decode cX10_layBytes 46 = .ok (.goto (-41), 3) := by decide +kernel
theorem dX10_layBytes_49 : decode cX10_layBytes 49 = .ok (.return_, 1) := by decide +kernel
theorem EX10_layBytes {h : jj_H} {Q : Value → jj_H → Prop} (r0 : Nat) (l1 : Int64) (x3 : Int32) (H : ∀ d : jj_D, jj_WP d mX10_layBytes 0 0 5 [(0, .ref r0), (1, .long l1), (4, .int (x3 - 1))] [] h Q) : jj_C mX10_layBytes 0 0 [.ref r0, .long l1, .int x3] h Q := j_enter (by decide +kernel) (Nat.le_of_ble_eq_true rfl) rfl fun d => have H := H d; j_iload_n dX10_layBytes_0 rfl 2 rfl (j_iconst (v := 1) dX10_layBytes_1 rfl (j_isub dX10_layBytes_2 (j_istore (L' := [(4, .int (x3 - 1)), (0, .ref r0), (1, .long l1), (3, .int x3)]) dX10_layBytes_3 (by decide) rfl (j_sub [1, 2, 0] rfl (H)))))
theorem VX10_layBytes_5 {d : jj_D} {h : jj_H} {Q : Value → jj_H → Prop} (r0 : Nat) (l1 : Int64) (x4 : Int32) (H : (x4 < 0 → Q (.int 0) h) ∧ (¬ x4 < 0 → jK h r0 = 11 ∧ (jK h (jR h 512 r0 0) = 21 ∧ (vp_in 0 (jN h (jR h 512 r0 0)) ∧ (jK h (jR h 511 r0 0) = 21 ∧ (vp_in (jI h 1000 (jR h 512 r0 0) (Int32.toNatClampNeg 0)) (jN h (jR h 511 r0 0)) ∧ (∀ h2, h2 = wI h 1000 (jR h 511 r0 0) (Int32.toNatClampNeg (jI h 1000 (jR h 512 r0 0) (Int32.toNatClampNeg 0))) (Int64.toInt32 ((l1 >>> (Int32.toInt64 (8 * x4) &&& 63)) &&& 255)) → (jK h (jR h2 512 r0 0) = 21 ∧ (vp_in 0 (jN h (jR h2 512 r0 0)) ∧ (∀ h3, h3 = wI h2 1000 (jR h2 512 r0 0) (Int32.toNatClampNeg 0) ((jI h2 1000 (jR h2 512 r0 0) (Int32.toNatClampNeg 0)) + 1) → (jj_WP d mX10_layBytes 0 0 5 [(0, .ref r0), (1, .long l1), (4, .int (x4 + (-1)))] [] h3 Q))))))))))) : jj_WP d mX10_layBytes 0 0 5 [(0, .ref r0), (1, .long l1), (4, .int x4)] [] h Q := j_iload dX10_layBytes_5 2 rfl (j_if_lt (tgt := 49) dX10_layBytes_7 (by decide) (fun c1 => j_ret (v := .int 0) dX10_layBytes_49 rfl ((H.1 c1))) (fun c1 => j_aload_n dX10_layBytes_10 rfl 0 rfl (j_getR (f := 511) cls_X10 11 (by decide) fl_X10_44 rfl rfl dX10_layBytes_11 (H.2 c1).1 (j_aload_n dX10_layBytes_14 rfl 0 rfl (j_getR (f := 512) cls_X10 12 (by decide) fl_X10_47 rfl rfl dX10_layBytes_15 (H.2 c1).1 (j_iconst (v := 0) dX10_layBytes_18 rfl (j_iald dX10_layBytes_19 (H.2 c1).2.1 (H.2 c1).2.2.1 (j_lload_n dX10_layBytes_20 rfl 1 rfl (j_bipush (v := 8) dX10_layBytes_21 rfl (j_iload dX10_layBytes_23 2 rfl (j_imul dX10_layBytes_25 (j_lshr dX10_layBytes_26 (j_ldc2 (v := 255) dX10_layBytes_27 kc_X10_138 (j_land dX10_layBytes_30 (j_l2i dX10_layBytes_31 (j_iast dX10_layBytes_32 (H.2 c1).2.2.2.1 (H.2 c1).2.2.2.2.1 (j_aload_n dX10_layBytes_33 rfl 0 rfl (j_getR (f := 512) cls_X10 12 (by decide) fl_X10_47 rfl rfl dX10_layBytes_34 (H.2 c1).1 (j_iconst (v := 0) dX10_layBytes_37 rfl (j_dup2 dX10_layBytes_38 rfl rfl (j_iald dX10_layBytes_39 ((H.2 c1).2.2.2.2.2 _ rfl).1 ((H.2 c1).2.2.2.2.2 _ rfl).2.1 (j_iconst (v := 1) dX10_layBytes_40 rfl (j_iadd dX10_layBytes_41 (j_iast dX10_layBytes_42 ((H.2 c1).2.2.2.2.2 _ rfl).1 ((H.2 c1).2.2.2.2.2 _ rfl).2.1 (j_iinc (v := (x4 + (-1))) (L' := [(4, .int (x4 + (-1))), (0, .ref r0), (1, .long l1)]) dX10_layBytes_43 2 rfl rfl (by decide) rfl (j_goto (tgt := 5) dX10_layBytes_46 (by decide) (j_sub [1, 2, 0] rfl ((((H.2 c1).2.2.2.2.2 _ rfl).2.2 _ rfl)))))))))))))))))))))))))))))
theorem dX10_layLevel_0 : decode cX10_layLevel 0 = .ok (.aload_n 0, 1) := by decide +kernel
theorem dX10_layLevel_1 : decode cX10_layLevel 1 = .ok (.getfield 47, 3) := by decide +kernel
theorem dX10_layLevel_4 : decode cX10_layLevel 4 = .ok (.iconst 0, 1) := by decide +kernel
theorem dX10_layLevel_5 : decode cX10_layLevel 5 = .ok (.iconst 0, 1) := by decide +kernel
theorem dX10_layLevel_6 : decode cX10_layLevel 6 = .ok (.iastore, 1) := by decide +kernel
theorem dX10_layLevel_7 : decode cX10_layLevel 7 = .ok (.iconst 3, 1) := by decide +kernel
theorem dX10_layLevel_8 : decode cX10_layLevel 8 = .ok (.iload_n 1, 1) := by decide +kernel
theorem dX10_layLevel_9 : decode cX10_layLevel 9 = .ok (.imul, 1) := by decide +kernel
theorem dX10_layLevel_10 : decode cX10_layLevel 10 = .ok (.iload_n 2, 1) := by decide +kernel
theorem dX10_layLevel_11 : decode cX10_layLevel 11 = .ok (.iadd, 1) := by decide +kernel
theorem dX10_layLevel_12 : decode cX10_layLevel 12 = .ok (.sipush 210, 3) := by decide +kernel
theorem dX10_layLevel_15 : decode cX10_layLevel 15 = .ok (.imul, 1) := by decide +kernel
theorem dX10_layLevel_16 : decode cX10_layLevel 16 = .ok (.istore 6, 2) := by decide +kernel
theorem dX10_layLevel_18 : decode cX10_layLevel 18 = .ok (.iload_n 3, 1) := by decide +kernel
theorem dX10_layLevel_19 : decode cX10_layLevel 19 = .ok (.ifCond .ne 102, 3) := by decide +kernel
theorem dX10_layLevel_22 : decode cX10_layLevel 22 = .ok (.iconst 0, 1) := by decide +kernel
theorem dX10_layLevel_23 : decode cX10_layLevel 23 = .ok (.istore 7, 2) := by decide +kernel
theorem dX10_layLevel_25 : decode cX10_layLevel 25 = .ok (.iload 7, 2) := by decide +kernel
theorem dX10_layLevel_27 : decode cX10_layLevel 27 = .ok (.aload_n 0, 1) := by decide +kernel
theorem dX10_layLevel_28 : decode cX10_layLevel 28 = .ok (.getfield 18, 3) := by decide +kernel
theorem dX10_layLevel_31 : decode cX10_layLevel 31 = .ok (.iconst 3, 1) := by decide +kernel
theorem dX10_layLevel_32 : decode cX10_layLevel 32 = .ok (.iload_n 1, 1) := by decide +kernel
theorem dX10_layLevel_33 : decode cX10_layLevel 33 = .ok (.imul, 1) := by decide +kernel
theorem dX10_layLevel_34 : decode cX10_layLevel 34 = .ok (.iload_n 2, 1) := by decide +kernel
theorem dX10_layLevel_35 : decode cX10_layLevel 35 = .ok (.iadd, 1) := by decide +kernel
theorem dX10_layLevel_36 : decode cX10_layLevel 36 = .ok (.iaload, 1) := by decide +kernel
theorem dX10_layLevel_37 : decode cX10_layLevel 37 = .ok (.if_icmp .ge 81, 3) := by decide +kernel
theorem dX10_layLevel_40 : decode cX10_layLevel 40 = .ok (.aload_n 0, 1) := by decide +kernel
theorem dX10_layLevel_41 : decode cX10_layLevel 41 = .ok (.iload_n 1, 1) := by decide +kernel
theorem dX10_layLevel_42 : decode cX10_layLevel 42 = .ok (.iload_n 2, 1) := by decide +kernel
theorem dX10_layLevel_43 : decode cX10_layLevel 43 = .ok (.iload 7, 2) := by decide +kernel
theorem dX10_layLevel_45 : decode cX10_layLevel 45 = .ok (.invokevirtual 110, 3) := by decide +kernel
theorem dX10_layLevel_48 : decode cX10_layLevel 48 = .ok (.istore 8, 2) := by decide +kernel
theorem dX10_layLevel_50 : decode cX10_layLevel 50 = .ok (.aload_n 0, 1) := by decide +kernel
theorem dX10_layLevel_51 : decode cX10_layLevel 51 = .ok (.aload_n 0, 1) := by decide +kernel
theorem dX10_layLevel_52 : decode cX10_layLevel 52 = .ok (.getfield 8, 3) := by decide +kernel
theorem dX10_layLevel_55 : decode cX10_layLevel 55 = .ok (.iload 8, 2) := by decide +kernel
theorem dX10_layLevel_57 : decode cX10_layLevel 57 = .ok (.iaload, 1) := by decide +kernel
theorem dX10_layLevel_58 : decode cX10_layLevel 58 = .ok (.i2l, 1) := by decide +kernel
theorem dX10_layLevel_59 : decode cX10_layLevel 59 = .ok (.iconst 4, 1) := by decide +kernel
theorem dX10_layLevel_60 : decode cX10_layLevel 60 = .ok (.invokevirtual 140, 3) := by decide +kernel
theorem dX10_layLevel_63 : decode cX10_layLevel 63 = .ok (.aload_n 0, 1) := by decide +kernel
theorem dX10_layLevel_64 : decode cX10_layLevel 64 = .ok (.aload_n 0, 1) := by decide +kernel
theorem dX10_layLevel_65 : decode cX10_layLevel 65 = .ok (.getfield 15, 3) := by decide +kernel
theorem dX10_layLevel_68 : decode cX10_layLevel 68 = .ok (.iconst 3, 1) := by decide +kernel
theorem dX10_layLevel_69 : decode cX10_layLevel 69 = .ok (.iload 8, 2) := by decide +kernel
theorem dX10_layLevel_71 : decode cX10_layLevel 71 = .ok (.imul, 1) := by decide +kernel
theorem dX10_layLevel_72 : decode cX10_layLevel 72 = .ok (.iaload, 1) := by decide +kernel
theorem dX10_layLevel_73 : decode cX10_layLevel 73 = .ok (.i2l, 1) := by decide +kernel
theorem dX10_layLevel_74 : decode cX10_layLevel 74 = .ok (.iconst 4, 1) := by decide +kernel
theorem dX10_layLevel_75 : decode cX10_layLevel 75 = .ok (.invokevirtual 140, 3) := by decide +kernel
theorem dX10_layLevel_78 : decode cX10_layLevel 78 = .ok (.aload_n 0, 1) := by decide +kernel
theorem dX10_layLevel_79 : decode cX10_layLevel 79 = .ok (.aload_n 0, 1) := by decide +kernel
theorem dX10_layLevel_80 : decode cX10_layLevel 80 = .ok (.getfield 15, 3) := by decide +kernel
theorem dX10_layLevel_83 : decode cX10_layLevel 83 = .ok (.iconst 3, 1) := by decide +kernel
theorem dX10_layLevel_84 : decode cX10_layLevel 84 = .ok (.iload 8, 2) := by decide +kernel
theorem dX10_layLevel_86 : decode cX10_layLevel 86 = .ok (.imul, 1) := by decide +kernel
theorem dX10_layLevel_87 : decode cX10_layLevel 87 = .ok (.iconst 1, 1) := by decide +kernel
theorem dX10_layLevel_88 : decode cX10_layLevel 88 = .ok (.iadd, 1) := by decide +kernel
theorem dX10_layLevel_89 : decode cX10_layLevel 89 = .ok (.iaload, 1) := by decide +kernel
theorem dX10_layLevel_90 : decode cX10_layLevel 90 = .ok (.i2l, 1) := by decide +kernel
theorem dX10_layLevel_91 : decode cX10_layLevel 91 = .ok (.iconst 4, 1) := by decide +kernel
theorem dX10_layLevel_92 : decode cX10_layLevel 92 = .ok (.invokevirtual 140, 3) := by decide +kernel
theorem dX10_layLevel_95 : decode cX10_layLevel 95 = .ok (.aload_n 0, 1) := by decide +kernel
theorem dX10_layLevel_96 : decode cX10_layLevel 96 = .ok (.aload_n 0, 1) := by decide +kernel
theorem dX10_layLevel_97 : decode cX10_layLevel 97 = .ok (.getfield 15, 3) := by decide +kernel
theorem dX10_layLevel_100 : decode cX10_layLevel 100 = .ok (.iconst 3, 1) := by decide +kernel
theorem dX10_layLevel_101 : decode cX10_layLevel 101 = .ok (.iload 8, 2) := by decide +kernel
theorem dX10_layLevel_103 : decode cX10_layLevel 103 = .ok (.imul, 1) := by decide +kernel
theorem dX10_layLevel_104 : decode cX10_layLevel 104 = .ok (.iconst 2, 1) := by decide +kernel
theorem dX10_layLevel_105 : decode cX10_layLevel 105 = .ok (.iadd, 1) := by decide +kernel
theorem dX10_layLevel_106 : decode cX10_layLevel 106 = .ok (.iaload, 1) := by decide +kernel
theorem dX10_layLevel_107 : decode cX10_layLevel 107 = .ok (.i2l, 1) := by decide +kernel
theorem dX10_layLevel_108 : decode cX10_layLevel 108 = .ok (.iconst 4, 1) := by decide +kernel
theorem dX10_layLevel_109 : decode cX10_layLevel 109 = .ok (.invokevirtual 140, 3) := by decide +kernel
theorem dX10_layLevel_112 : decode cX10_layLevel 112 = .ok (.iinc 7 1, 3) := by decide +kernel
theorem dX10_layLevel_115 : decode cX10_layLevel 115 = .ok (.goto (-90), 3) := by decide +kernel
theorem dX10_layLevel_118 : decode cX10_layLevel 118 = .ok (.goto 96, 3) := by decide +kernel
theorem dX10_layLevel_121 : decode cX10_layLevel 121 = .ok (.iload 4, 2) := by decide +kernel
theorem dX10_layLevel_123 : decode cX10_layLevel 123 = .ok (.istore 7, 2) := by decide +kernel
theorem dX10_layLevel_125 : decode cX10_layLevel 125 = .ok (.iload 7, 2) := by decide +kernel
theorem dX10_layLevel_127 : decode cX10_layLevel 127 = .ok (.iload 5, 2) := by decide +kernel
theorem dX10_layLevel_129 : decode cX10_layLevel 129 = .ok (.if_icmp .ge 85, 3) := by decide +kernel
theorem dX10_layLevel_132 : decode cX10_layLevel 132 = .ok (.aload_n 0, 1) := by decide +kernel
theorem dX10_layLevel_133 : decode cX10_layLevel 133 = .ok (.iload_n 1, 1) := by decide +kernel
theorem dX10_layLevel_134 : decode cX10_layLevel 134 = .ok (.iload_n 2, 1) := by decide +kernel
theorem dX10_layLevel_135 : decode cX10_layLevel 135 = .ok (.aload_n 0, 1) := by decide +kernel
theorem dX10_layLevel_136 : decode cX10_layLevel 136 = .ok (.getfield 34, 3) := by decide +kernel
theorem dX10_layLevel_139 : decode cX10_layLevel 139 = .ok (.iload 6, 2) := by decide +kernel
theorem dX10_layLevel_141 : decode cX10_layLevel 141 = .ok (.iload 7, 2) := by decide +kernel
theorem dX10_layLevel_143 : decode cX10_layLevel 143 = .ok (.iadd, 1) := by decide +kernel
theorem dX10_layLevel_144 : decode cX10_layLevel 144 = .ok (.iaload, 1) := by decide +kernel
theorem dX10_layLevel_145 : decode cX10_layLevel 145 = .ok (.aload_n 0, 1) := by decide +kernel
theorem dX10_layLevel_146 : decode cX10_layLevel 146 = .ok (.getfield 37, 3) := by decide +kernel
theorem dX10_layLevel_149 : decode cX10_layLevel 149 = .ok (.iload 6, 2) := by decide +kernel
theorem dX10_layLevel_151 : decode cX10_layLevel 151 = .ok (.iload 7, 2) := by decide +kernel
theorem dX10_layLevel_153 : decode cX10_layLevel 153 = .ok (.iadd, 1) := by decide +kernel
theorem dX10_layLevel_154 : decode cX10_layLevel 154 = .ok (.iaload, 1) := by decide +kernel
theorem dX10_layLevel_155 : decode cX10_layLevel 155 = .ok (.iadd, 1) := by decide +kernel
theorem dX10_layLevel_156 : decode cX10_layLevel 156 = .ok (.iconst 1, 1) := by decide +kernel
theorem dX10_layLevel_157 : decode cX10_layLevel 157 = .ok (.isub, 1) := by decide +kernel
theorem dX10_layLevel_158 : decode cX10_layLevel 158 = .ok (.invokevirtual 110, 3) := by decide +kernel
theorem dX10_layLevel_161 : decode cX10_layLevel 161 = .ok (.istore 8, 2) := by decide +kernel
theorem dX10_layLevel_163 : decode cX10_layLevel 163 = .ok (.aload_n 0, 1) := by decide +kernel
theorem dX10_layLevel_164 : decode cX10_layLevel 164 = .ok (.aload_n 0, 1) := by decide +kernel
theorem dX10_layLevel_165 : decode cX10_layLevel 165 = .ok (.getfield 8, 3) := by decide +kernel
theorem dX10_layLevel_168 : decode cX10_layLevel 168 = .ok (.iload 8, 2) := by decide +kernel
theorem dX10_layLevel_170 : decode cX10_layLevel 170 = .ok (.iaload, 1) := by decide +kernel
theorem dX10_layLevel_171 : decode cX10_layLevel 171 = .ok (.i2l, 1) := by decide +kernel
theorem dX10_layLevel_172 : decode cX10_layLevel 172 = .ok (.iconst 4, 1) := by decide +kernel
theorem dX10_layLevel_173 : decode cX10_layLevel 173 = .ok (.invokevirtual 140, 3) := by decide +kernel
theorem dX10_layLevel_176 : decode cX10_layLevel 176 = .ok (.aload_n 0, 1) := by decide +kernel
theorem dX10_layLevel_177 : decode cX10_layLevel 177 = .ok (.aload_n 0, 1) := by decide +kernel
theorem dX10_layLevel_178 : decode cX10_layLevel 178 = .ok (.getfield 40, 3) := by decide +kernel
theorem dX10_layLevel_181 : decode cX10_layLevel 181 = .ok (.iload 6, 2) := by decide +kernel
theorem dX10_layLevel_183 : decode cX10_layLevel 183 = .ok (.iload 7, 2) := by decide +kernel
theorem dX10_layLevel_185 : decode cX10_layLevel 185 = .ok (.iadd, 1) := by decide +kernel
theorem dX10_layLevel_186 : decode cX10_layLevel 186 = .ok (.laload, 1) := by decide +kernel
theorem dX10_layLevel_187 : decode cX10_layLevel 187 = .ok (.bipush 8, 2) := by decide +kernel
theorem dX10_layLevel_189 : decode cX10_layLevel 189 = .ok (.invokevirtual 140, 3) := by decide +kernel
theorem dX10_layLevel_192 : decode cX10_layLevel 192 = .ok (.aload_n 0, 1) := by decide +kernel
theorem dX10_layLevel_193 : decode cX10_layLevel 193 = .ok (.aload_n 0, 1) := by decide +kernel
theorem dX10_layLevel_194 : decode cX10_layLevel 194 = .ok (.getfield 37, 3) := by decide +kernel
theorem dX10_layLevel_197 : decode cX10_layLevel 197 = .ok (.iload 6, 2) := by decide +kernel
theorem dX10_layLevel_199 : decode cX10_layLevel 199 = .ok (.iload 7, 2) := by decide +kernel
theorem dX10_layLevel_201 : decode cX10_layLevel 201 = .ok (.iadd, 1) := by decide +kernel
theorem dX10_layLevel_202 : decode cX10_layLevel 202 = .ok (.iaload, 1) := by decide +kernel
theorem dX10_layLevel_203 : decode cX10_layLevel 203 = .ok (.i2l, 1) := by decide +kernel
theorem dX10_layLevel_204 : decode cX10_layLevel 204 = .ok (.iconst 4, 1) := by decide +kernel
theorem dX10_layLevel_205 : decode cX10_layLevel 205 = .ok (.invokevirtual 140, 3) := by decide +kernel
theorem dX10_layLevel_208 : decode cX10_layLevel 208 = .ok (.iinc 7 1, 3) := by decide +kernel
theorem dX10_layLevel_211 : decode cX10_layLevel 211 = .ok (.goto (-86), 3) := by decide +kernel
theorem dX10_layLevel_214 : decode cX10_layLevel 214 = .ok (.aload_n 0, 1) := by decide +kernel
theorem dX10_layLevel_215 : decode cX10_layLevel 215 = .ok (.getfield 47, 3) := by decide +kernel
theorem dX10_layLevel_218 : decode cX10_layLevel 218 = .ok (.iconst 0, 1) := by decide +kernel
theorem dX10_layLevel_219 : decode cX10_layLevel 219 = .ok (.iaload, 1) := by decide +kernel
theorem dX10_layLevel_220 : decode cX10_layLevel 220 = .ok (.bipush 16, 2) := by decide +kernel
theorem dX10_layLevel_222 : decode cX10_layLevel 222 = .ok (.idiv, 1) := by decide +kernel
theorem dX10_layLevel_223 : decode cX10_layLevel 223 = .ok (.ireturn, 1) := by decide +kernel
theorem EX10_layLevel {h : jj_H} {Q : Value → jj_H → Prop} (r0 : Nat) (x1 : Int32) (x2 : Int32) (x3 : Int32) (x4 : Int32) (x5 : Int32) (H : ∀ d : jj_D, jK h r0 = 11 ∧ (jK h (jR h 512 r0 0) = 21 ∧ (vp_in 0 (jN h (jR h 512 r0 0)) ∧ (∀ h1, h1 = wI h 1000 (jR h 512 r0 0) (Int32.toNatClampNeg 0) 0 → ((¬ x3 = 0 → jj_WP d mX10_layLevel 0 0 125 [(0, .ref r0), (1, .int x1), (2, .int x2), (5, .int x5), (6, .int (((3 * x1) + x2) * 210)), (7, .int x4)] [] h1 Q) ∧ (x3 = 0 → jj_WP d mX10_layLevel 0 0 25 [(0, .ref r0), (1, .int x1), (2, .int x2), (7, .int 0)] [] h1 Q)))))) : jj_C mX10_layLevel 0 0 [.ref r0, .int x1, .int x2, .int x3, .int x4, .int x5] h Q := j_enter (by decide +kernel) (Nat.le_of_ble_eq_true rfl) rfl fun d => have H := H d; j_aload_n dX10_layLevel_0 rfl 0 rfl (j_getR (f := 512) cls_X10 12 (by decide) fl_X10_47 rfl rfl dX10_layLevel_1 H.1 (j_iconst (v := 0) dX10_layLevel_4 rfl (j_iconst (v := 0) dX10_layLevel_5 rfl (j_iast dX10_layLevel_6 H.2.1 H.2.2.1 (j_iconst (v := 3) dX10_layLevel_7 rfl (j_iload_n dX10_layLevel_8 rfl 1 rfl (j_imul dX10_layLevel_9 (j_iload_n dX10_layLevel_10 rfl 2 rfl (j_iadd dX10_layLevel_11 (j_sipush (v := 210) dX10_layLevel_12 rfl (j_imul dX10_layLevel_15 (j_istore (L' := [(6, .int (((3 * x1) + x2) * 210)), (0, .ref r0), (1, .int x1), (2, .int x2), (3, .int x3), (4, .int x4), (5, .int x5)]) dX10_layLevel_16 (by decide) rfl (j_iload_n dX10_layLevel_18 rfl 4 rfl (j_if_ne (tgt := 121) dX10_layLevel_19 (by decide) (fun c2 => j_iload dX10_layLevel_121 5 rfl (j_istore (L' := [(7, .int x4), (6, .int (((3 * x1) + x2) * 210)), (0, .ref r0), (1, .int x1), (2, .int x2), (3, .int x3), (4, .int x4), (5, .int x5)]) dX10_layLevel_123 (by decide) rfl (j_sub [2, 3, 4, 7, 1, 0] rfl (((H.2.2.2 _ rfl).1 c2))))) (fun c2 => j_iconst (v := 0) dX10_layLevel_22 rfl (j_istore (L' := [(7, .int 0), (6, .int (((3 * x1) + x2) * 210)), (0, .ref r0), (1, .int x1), (2, .int x2), (3, .int x3), (4, .int x4), (5, .int x5)]) dX10_layLevel_23 (by decide) rfl (j_sub [2, 3, 4, 0] rfl (((H.2.2.2 _ rfl).2 c2)))))))))))))))))))
theorem VX10_layLevel_125 {d : jj_D} {h : jj_H} {Q : Value → jj_H → Prop} (r0 : Nat) (x1 : Int32) (x2 : Int32) (x5 : Int32) (x6 : Int32) (x7 : Int32) (H : (x5 ≤ x7 → jK h r0 = 11 ∧ (jK h (jR h 512 r0 0) = 21 ∧ (vp_in 0 (jN h (jR h 512 r0 0)) ∧ (Q (.int ((jI h 1000 (jR h 512 r0 0) (Int32.toNatClampNeg 0)) / 16)) h)))) ∧ (¬ x5 ≤ x7 → jK h r0 = 11 ∧ (jK h (jR h 508 r0 0) = 21 ∧ (vp_in (x6 + x7) (jN h (jR h 508 r0 0)) ∧ (jK h (jR h 509 r0 0) = 21 ∧ (vp_in (x6 + x7) (jN h (jR h 509 r0 0)) ∧ (jj_C mX10_rowAt 0 0 [.ref r0, .int x1, .int x2, .int (((jI h 1000 (jR h 508 r0 0) (Int32.toNatClampNeg (x6 + x7))) + (jI h 1000 (jR h 509 r0 0) (Int32.toNatClampNeg (x6 + x7)))) - 1)] h (fun v3 h2 => jj_vi (fun y4 => jK h2 r0 = 11 ∧ (jK h2 (jR h2 501 r0 0) = 21 ∧ (vp_in y4 (jN h2 (jR h2 501 r0 0)) ∧ (jj_C mX10_layBytes 0 0 [.ref r0, .long (Int32.toInt64 (jI h2 1000 (jR h2 501 r0 0) (Int32.toNatClampNeg y4))), .int 4] h2 (fun v7 h6 => jK h6 r0 = 11 ∧ (jK h6 (jR h6 510 r0 0) = 22 ∧ (vp_in (x6 + x7) (jN h6 (jR h6 510 r0 0)) ∧ (jj_C mX10_layBytes 0 0 [.ref r0, .long (jL h6 1000 (jR h6 510 r0 0) (Int32.toNatClampNeg (x6 + x7))), .int 8] h6 (fun v10 h9 => jK h9 r0 = 11 ∧ (jK h9 (jR h9 509 r0 0) = 21 ∧ (vp_in (x6 + x7) (jN h9 (jR h9 509 r0 0)) ∧ (jj_C mX10_layBytes 0 0 [.ref r0, .long (Int32.toInt64 (jI h9 1000 (jR h9 509 r0 0) (Int32.toNatClampNeg (x6 + x7)))), .int 4] h9 (fun v13 h12 => jj_WP d mX10_layLevel 0 0 125 [(0, .ref r0), (1, .int x1), (2, .int x2), (5, .int x5), (6, .int x6), (7, .int (x7 + 1))] [] h12 Q))))))))))))) v3)))))))) : jj_WP d mX10_layLevel 0 0 125 [(0, .ref r0), (1, .int x1), (2, .int x2), (5, .int x5), (6, .int x6), (7, .int x7)] [] h Q := j_iload dX10_layLevel_125 5 rfl (j_iload dX10_layLevel_127 3 rfl (j_icmp_ge (tgt := 214) dX10_layLevel_129 (by decide) (fun c1 => j_aload_n dX10_layLevel_214 rfl 0 rfl (j_getR (f := 512) cls_X10 12 (by decide) fl_X10_47 rfl rfl dX10_layLevel_215 (H.1 c1).1 (j_iconst (v := 0) dX10_layLevel_218 rfl (j_iald dX10_layLevel_219 (H.1 c1).2.1 (H.1 c1).2.2.1 (j_bipush (v := 16) dX10_layLevel_220 rfl (j_idiv dX10_layLevel_222 (by decide) (j_ret (v := .int ((jI h 1000 (jR h 512 r0 0) (Int32.toNatClampNeg 0)) / 16)) ⟨dX10_layLevel_223, _, rfl⟩ rfl ((H.1 c1).2.2.2)))))))) (fun c1 => j_aload_n dX10_layLevel_132 rfl 0 rfl (j_iload_n dX10_layLevel_133 rfl 1 rfl (j_iload_n dX10_layLevel_134 rfl 2 rfl (j_aload_n dX10_layLevel_135 rfl 0 rfl (j_getR (f := 508) cls_X10 8 (by decide) fl_X10_34 rfl rfl dX10_layLevel_136 (H.2 c1).1 (j_iload dX10_layLevel_139 4 rfl (j_iload dX10_layLevel_141 5 rfl (j_iadd dX10_layLevel_143 (j_iald dX10_layLevel_144 (H.2 c1).2.1 (H.2 c1).2.2.1 (j_aload_n dX10_layLevel_145 rfl 0 rfl (j_getR (f := 509) cls_X10 9 (by decide) fl_X10_37 rfl rfl dX10_layLevel_146 (H.2 c1).1 (j_iload dX10_layLevel_149 4 rfl (j_iload dX10_layLevel_151 5 rfl (j_iadd dX10_layLevel_153 (j_iald dX10_layLevel_154 (H.2 c1).2.2.2.1 (H.2 c1).2.2.2.2.1 (j_iadd dX10_layLevel_155 (j_iconst (v := 1) dX10_layLevel_156 rfl (j_isub dX10_layLevel_157 (j_callV0 (as := [.int x1, .int x2, .int (((jI h 1000 (jR h 508 r0 0) (Int32.toNatClampNeg (x6 + x7))) + (jI h 1000 (jR h 509 r0 0) (Int32.toNatClampNeg (x6 + x7)))) - 1)]) cm_X10_rowAt im_X10_rowAt se_X10_rowAt (ci := 10) rfl (by decide) ml_X10_110 ⟨by decide, by decide⟩ dX10_layLevel_158 rfl rfl (Nat.le_of_ble_eq_true rfl) (H.2 c1).1 (jj_C.mono (H.2 c1).2.2.2.2.2 (fun v3 h2 H5 => jj_vi_e (fun y4 H5 => j_istore (L' := [(8, .int y4), (0, .ref r0), (1, .int x1), (2, .int x2), (5, .int x5), (6, .int x6), (7, .int x7)]) dX10_layLevel_161 (by decide) rfl (j_aload_n dX10_layLevel_163 rfl 1 rfl (j_aload_n dX10_layLevel_164 rfl 1 rfl (j_getR (f := 501) cls_X10 1 (by decide) fl_X10_8 rfl rfl dX10_layLevel_165 H5.1 (j_iload dX10_layLevel_168 0 rfl (j_iald dX10_layLevel_170 H5.2.1 H5.2.2.1 (j_i2l dX10_layLevel_171 (j_iconst (v := 4) dX10_layLevel_172 rfl (j_callV0 (as := [.long (Int32.toInt64 (jI h2 1000 (jR h2 501 r0 0) (Int32.toNatClampNeg y4))), .int 4]) cm_X10_layBytes im_X10_layBytes se_X10_layBytes (ci := 10) rfl (by decide) ml_X10_140 ⟨by decide, by decide⟩ dX10_layLevel_173 rfl rfl (Nat.le_of_ble_eq_true rfl) H5.1 (jj_C.mono H5.2.2.2 (fun v7 h6 H8 => j_aload_n dX10_layLevel_176 rfl 1 rfl (j_aload_n dX10_layLevel_177 rfl 1 rfl (j_getR (f := 510) cls_X10 10 (by decide) fl_X10_40 rfl rfl dX10_layLevel_178 H8.1 (j_iload dX10_layLevel_181 5 rfl (j_iload dX10_layLevel_183 6 rfl (j_iadd dX10_layLevel_185 (j_lald dX10_layLevel_186 H8.2.1 H8.2.2.1 (j_bipush (v := 8) dX10_layLevel_187 rfl (j_callV0 (as := [.long (jL h6 1000 (jR h6 510 r0 0) (Int32.toNatClampNeg (x6 + x7))), .int 8]) cm_X10_layBytes im_X10_layBytes se_X10_layBytes (ci := 10) rfl (by decide) ml_X10_140 ⟨by decide, by decide⟩ dX10_layLevel_189 rfl rfl (Nat.le_of_ble_eq_true rfl) H8.1 (jj_C.mono H8.2.2.2 (fun v10 h9 H11 => j_aload_n dX10_layLevel_192 rfl 1 rfl (j_aload_n dX10_layLevel_193 rfl 1 rfl (j_getR (f := 509) cls_X10 9 (by decide) fl_X10_37 rfl rfl dX10_layLevel_194 H11.1 (j_iload dX10_layLevel_197 5 rfl (j_iload dX10_layLevel_199 6 rfl (j_iadd dX10_layLevel_201 (j_iald dX10_layLevel_202 H11.2.1 H11.2.2.1 (j_i2l dX10_layLevel_203 (j_iconst (v := 4) dX10_layLevel_204 rfl (j_callV0 (as := [.long (Int32.toInt64 (jI h9 1000 (jR h9 509 r0 0) (Int32.toNatClampNeg (x6 + x7)))), .int 4]) cm_X10_layBytes im_X10_layBytes se_X10_layBytes (ci := 10) rfl (by decide) ml_X10_140 ⟨by decide, by decide⟩ dX10_layLevel_205 rfl rfl (Nat.le_of_ble_eq_true rfl) H11.1 (jj_C.mono H11.2.2.2 (fun v13 h12 H14 => j_iinc (v := (x7 + 1)) (L' := [(7, .int (x7 + 1)), (8, .int y4), (0, .ref r0), (1, .int x1), (2, .int x2), (5, .int x5), (6, .int x6)]) dX10_layLevel_208 6 rfl rfl (by decide) rfl (j_goto (tgt := 125) dX10_layLevel_211 (by decide) (j_sub [2, 3, 4, 5, 6, 0] rfl (H14))))))))))))))))))))))))))))))))))) H5)))))))))))))))))))))))
theorem VX10_layLevel_25 {d : jj_D} {h : jj_H} {Q : Value → jj_H → Prop} (r0 : Nat) (x1 : Int32) (x2 : Int32) (x7 : Int32) (H : jK h r0 = 11 ∧ (jK h (jR h 503 r0 0) = 21 ∧ (vp_in ((3 * x1) + x2) (jN h (jR h 503 r0 0)) ∧ (((jI h 1000 (jR h 503 r0 0) (Int32.toNatClampNeg ((3 * x1) + x2))) ≤ x7 → jK h (jR h 512 r0 0) = 21 ∧ (vp_in 0 (jN h (jR h 512 r0 0)) ∧ (Q (.int ((jI h 1000 (jR h 512 r0 0) (Int32.toNatClampNeg 0)) / 16)) h))) ∧ (¬ (jI h 1000 (jR h 503 r0 0) (Int32.toNatClampNeg ((3 * x1) + x2))) ≤ x7 → jj_C mX10_rowAt 0 0 [.ref r0, .int x1, .int x2, .int x7] h (fun v3 h2 => jj_vi (fun y4 => jK h2 r0 = 11 ∧ (jK h2 (jR h2 501 r0 0) = 21 ∧ (vp_in y4 (jN h2 (jR h2 501 r0 0)) ∧ (jj_C mX10_layBytes 0 0 [.ref r0, .long (Int32.toInt64 (jI h2 1000 (jR h2 501 r0 0) (Int32.toNatClampNeg y4))), .int 4] h2 (fun v7 h6 => jK h6 r0 = 11 ∧ (jK h6 (jR h6 502 r0 0) = 21 ∧ (vp_in (3 * y4) (jN h6 (jR h6 502 r0 0)) ∧ (jj_C mX10_layBytes 0 0 [.ref r0, .long (Int32.toInt64 (jI h6 1000 (jR h6 502 r0 0) (Int32.toNatClampNeg (3 * y4)))), .int 4] h6 (fun v10 h9 => jK h9 r0 = 11 ∧ (jK h9 (jR h9 502 r0 0) = 21 ∧ (vp_in ((3 * y4) + 1) (jN h9 (jR h9 502 r0 0)) ∧ (jj_C mX10_layBytes 0 0 [.ref r0, .long (Int32.toInt64 (jI h9 1000 (jR h9 502 r0 0) (Int32.toNatClampNeg ((3 * y4) + 1)))), .int 4] h9 (fun v13 h12 => jK h12 r0 = 11 ∧ (jK h12 (jR h12 502 r0 0) = 21 ∧ (vp_in ((3 * y4) + 2) (jN h12 (jR h12 502 r0 0)) ∧ (jj_C mX10_layBytes 0 0 [.ref r0, .long (Int32.toInt64 (jI h12 1000 (jR h12 502 r0 0) (Int32.toNatClampNeg ((3 * y4) + 2)))), .int 4] h12 (fun v16 h15 => jj_WP d mX10_layLevel 0 0 25 [(0, .ref r0), (1, .int x1), (2, .int x2), (7, .int (x7 + 1))] [] h15 Q))))))))))))))))) v3)))))) : jj_WP d mX10_layLevel 0 0 25 [(0, .ref r0), (1, .int x1), (2, .int x2), (7, .int x7)] [] h Q := j_iload dX10_layLevel_25 3 rfl (j_aload_n dX10_layLevel_27 rfl 0 rfl (j_getR (f := 503) cls_X10 3 (by decide) fl_X10_18 rfl rfl dX10_layLevel_28 H.1 (j_iconst (v := 3) dX10_layLevel_31 rfl (j_iload_n dX10_layLevel_32 rfl 1 rfl (j_imul dX10_layLevel_33 (j_iload_n dX10_layLevel_34 rfl 2 rfl (j_iadd dX10_layLevel_35 (j_iald dX10_layLevel_36 H.2.1 H.2.2.1 (j_icmp_ge (tgt := 118) dX10_layLevel_37 (by decide) (fun c1 => j_goto (tgt := 214) dX10_layLevel_118 (by decide) (j_aload_n dX10_layLevel_214 rfl 0 rfl (j_getR (f := 512) cls_X10 12 (by decide) fl_X10_47 rfl rfl dX10_layLevel_215 H.1 (j_iconst (v := 0) dX10_layLevel_218 rfl (j_iald dX10_layLevel_219 (H.2.2.2.1 c1).1 (H.2.2.2.1 c1).2.1 (j_bipush (v := 16) dX10_layLevel_220 rfl (j_idiv dX10_layLevel_222 (by decide) (j_ret (v := .int ((jI h 1000 (jR h 512 r0 0) (Int32.toNatClampNeg 0)) / 16)) ⟨dX10_layLevel_223, _, rfl⟩ rfl ((H.2.2.2.1 c1).2.2))))))))) (fun c1 => j_aload_n dX10_layLevel_40 rfl 0 rfl (j_iload_n dX10_layLevel_41 rfl 1 rfl (j_iload_n dX10_layLevel_42 rfl 2 rfl (j_iload dX10_layLevel_43 3 rfl (j_callV0 (as := [.int x1, .int x2, .int x7]) cm_X10_rowAt im_X10_rowAt se_X10_rowAt (ci := 10) rfl (by decide) ml_X10_110 ⟨by decide, by decide⟩ dX10_layLevel_45 rfl rfl (Nat.le_of_ble_eq_true rfl) H.1 (jj_C.mono (H.2.2.2.2 c1) (fun v3 h2 H5 => jj_vi_e (fun y4 H5 => j_istore (L' := [(8, .int y4), (0, .ref r0), (1, .int x1), (2, .int x2), (7, .int x7)]) dX10_layLevel_48 (by decide) rfl (j_aload_n dX10_layLevel_50 rfl 1 rfl (j_aload_n dX10_layLevel_51 rfl 1 rfl (j_getR (f := 501) cls_X10 1 (by decide) fl_X10_8 rfl rfl dX10_layLevel_52 H5.1 (j_iload dX10_layLevel_55 0 rfl (j_iald dX10_layLevel_57 H5.2.1 H5.2.2.1 (j_i2l dX10_layLevel_58 (j_iconst (v := 4) dX10_layLevel_59 rfl (j_callV0 (as := [.long (Int32.toInt64 (jI h2 1000 (jR h2 501 r0 0) (Int32.toNatClampNeg y4))), .int 4]) cm_X10_layBytes im_X10_layBytes se_X10_layBytes (ci := 10) rfl (by decide) ml_X10_140 ⟨by decide, by decide⟩ dX10_layLevel_60 rfl rfl (Nat.le_of_ble_eq_true rfl) H5.1 (jj_C.mono H5.2.2.2 (fun v7 h6 H8 => j_aload_n dX10_layLevel_63 rfl 1 rfl (j_aload_n dX10_layLevel_64 rfl 1 rfl (j_getR (f := 502) cls_X10 2 (by decide) fl_X10_15 rfl rfl dX10_layLevel_65 H8.1 (j_iconst (v := 3) dX10_layLevel_68 rfl (j_iload dX10_layLevel_69 0 rfl (j_imul dX10_layLevel_71 (j_iald dX10_layLevel_72 H8.2.1 H8.2.2.1 (j_i2l dX10_layLevel_73 (j_iconst (v := 4) dX10_layLevel_74 rfl (j_callV0 (as := [.long (Int32.toInt64 (jI h6 1000 (jR h6 502 r0 0) (Int32.toNatClampNeg (3 * y4)))), .int 4]) cm_X10_layBytes im_X10_layBytes se_X10_layBytes (ci := 10) rfl (by decide) ml_X10_140 ⟨by decide, by decide⟩ dX10_layLevel_75 rfl rfl (Nat.le_of_ble_eq_true rfl) H8.1 (jj_C.mono H8.2.2.2 (fun v10 h9 H11 => j_aload_n dX10_layLevel_78 rfl 1 rfl (j_aload_n dX10_layLevel_79 rfl 1 rfl (j_getR (f := 502) cls_X10 2 (by decide) fl_X10_15 rfl rfl dX10_layLevel_80 H11.1 (j_iconst (v := 3) dX10_layLevel_83 rfl (j_iload dX10_layLevel_84 0 rfl (j_imul dX10_layLevel_86 (j_iconst (v := 1) dX10_layLevel_87 rfl (j_iadd dX10_layLevel_88 (j_iald dX10_layLevel_89 H11.2.1 H11.2.2.1 (j_i2l dX10_layLevel_90 (j_iconst (v := 4) dX10_layLevel_91 rfl (j_callV0 (as := [.long (Int32.toInt64 (jI h9 1000 (jR h9 502 r0 0) (Int32.toNatClampNeg ((3 * y4) + 1)))), .int 4]) cm_X10_layBytes im_X10_layBytes se_X10_layBytes (ci := 10) rfl (by decide) ml_X10_140 ⟨by decide, by decide⟩ dX10_layLevel_92 rfl rfl (Nat.le_of_ble_eq_true rfl) H11.1 (jj_C.mono H11.2.2.2 (fun v13 h12 H14 => j_aload_n dX10_layLevel_95 rfl 1 rfl (j_aload_n dX10_layLevel_96 rfl 1 rfl (j_getR (f := 502) cls_X10 2 (by decide) fl_X10_15 rfl rfl dX10_layLevel_97 H14.1 (j_iconst (v := 3) dX10_layLevel_100 rfl (j_iload dX10_layLevel_101 0 rfl (j_imul dX10_layLevel_103 (j_iconst (v := 2) dX10_layLevel_104 rfl (j_iadd dX10_layLevel_105 (j_iald dX10_layLevel_106 H14.2.1 H14.2.2.1 (j_i2l dX10_layLevel_107 (j_iconst (v := 4) dX10_layLevel_108 rfl (j_callV0 (as := [.long (Int32.toInt64 (jI h12 1000 (jR h12 502 r0 0) (Int32.toNatClampNeg ((3 * y4) + 2)))), .int 4]) cm_X10_layBytes im_X10_layBytes se_X10_layBytes (ci := 10) rfl (by decide) ml_X10_140 ⟨by decide, by decide⟩ dX10_layLevel_109 rfl rfl (Nat.le_of_ble_eq_true rfl) H14.1 (jj_C.mono H14.2.2.2 (fun v16 h15 H17 => j_iinc (v := (x7 + 1)) (L' := [(7, .int (x7 + 1)), (8, .int y4), (0, .ref r0), (1, .int x1), (2, .int x2)]) dX10_layLevel_112 4 rfl rfl (by decide) rfl (j_goto (tgt := 25) dX10_layLevel_115 (by decide) (j_sub [2, 3, 4, 0] rfl (H17))))))))))))))))))))))))))))))))))))))))))))))))))) H5))))))))))))))))
theorem dX10_node_0 : decode cX10_node 0 = .ok (.iconst 3, 1) := by decide +kernel
theorem dX10_node_1 : decode cX10_node 1 = .ok (.iload_n 1, 1) := by decide +kernel
theorem dX10_node_2 : decode cX10_node 2 = .ok (.imul, 1) := by decide +kernel
theorem dX10_node_3 : decode cX10_node 3 = .ok (.iload_n 2, 1) := by decide +kernel
theorem dX10_node_4 : decode cX10_node 4 = .ok (.iadd, 1) := by decide +kernel
theorem dX10_node_5 : decode cX10_node 5 = .ok (.istore 7, 2) := by decide +kernel
theorem dX10_node_7 : decode cX10_node 7 = .ok (.iload 7, 2) := by decide +kernel
theorem dX10_node_9 : decode cX10_node 9 = .ok (.sipush 210, 3) := by decide +kernel
theorem dX10_node_12 : decode cX10_node 12 = .ok (.imul, 1) := by decide +kernel
theorem dX10_node_13 : decode cX10_node 13 = .ok (.aload_n 0, 1) := by decide +kernel
theorem dX10_node_14 : decode cX10_node 14 = .ok (.getfield 21, 3) := by decide +kernel
theorem dX10_node_17 : decode cX10_node 17 = .ok (.iload 7, 2) := by decide +kernel
theorem dX10_node_19 : decode cX10_node 19 = .ok (.iaload, 1) := by decide +kernel
theorem dX10_node_20 : decode cX10_node 20 = .ok (.iadd, 1) := by decide +kernel
theorem dX10_node_21 : decode cX10_node 21 = .ok (.istore 8, 2) := by decide +kernel
theorem dX10_node_23 : decode cX10_node 23 = .ok (.iload_n 3, 1) := by decide +kernel
theorem dX10_node_24 : decode cX10_node 24 = .ok (.i2l, 1) := by decide +kernel
theorem dX10_node_25 : decode cX10_node 25 = .ok (.lconst 1, 1) := by decide +kernel
theorem dX10_node_26 : decode cX10_node 26 = .ok (.ladd, 1) := by decide +kernel
theorem dX10_node_27 : decode cX10_node 27 = .ok (.lstore 9, 2) := by decide +kernel
theorem dX10_node_29 : decode cX10_node 29 = .ok (.bipush 16, 2) := by decide +kernel
theorem dX10_node_31 : decode cX10_node 31 = .ok (.iload 4, 2) := by decide +kernel
theorem dX10_node_33 : decode cX10_node 33 = .ok (.imul, 1) := by decide +kernel
theorem dX10_node_34 : decode cX10_node 34 = .ok (.istore 11, 2) := by decide +kernel
theorem dX10_node_36 : decode cX10_node 36 = .ok (.iload 11, 2) := by decide +kernel
theorem dX10_node_38 : decode cX10_node 38 = .ok (.bipush 16, 2) := by decide +kernel
theorem dX10_node_40 : decode cX10_node 40 = .ok (.iload 4, 2) := by decide +kernel
theorem dX10_node_42 : decode cX10_node 42 = .ok (.iload 5, 2) := by decide +kernel
theorem dX10_node_44 : decode cX10_node 44 = .ok (.iadd, 1) := by decide +kernel
theorem dX10_node_45 : decode cX10_node 45 = .ok (.imul, 1) := by decide +kernel
theorem dX10_node_46 : decode cX10_node 46 = .ok (.if_icmp .ge 39, 3) := by decide +kernel
theorem dX10_node_49 : decode cX10_node 49 = .ok (.lload 9, 2) := by decide +kernel
theorem dX10_node_51 : decode cX10_node 51 = .ok (.aload_n 0, 1) := by decide +kernel
theorem dX10_node_52 : decode cX10_node 52 = .ok (.getfield 44, 3) := by decide +kernel
theorem dX10_node_55 : decode cX10_node 55 = .ok (.iload 11, 2) := by decide +kernel
theorem dX10_node_57 : decode cX10_node 57 = .ok (.iaload, 1) := by decide +kernel
theorem dX10_node_58 : decode cX10_node 58 = .ok (.i2l, 1) := by decide +kernel
theorem dX10_node_59 : decode cX10_node 59 = .ok (.lxor, 1) := by decide +kernel
theorem dX10_node_60 : decode cX10_node 60 = .ok (.lstore 9, 2) := by decide +kernel
theorem dX10_node_62 : decode cX10_node 62 = .ok (.lload 9, 2) := by decide +kernel
theorem dX10_node_64 : decode cX10_node 64 = .ok (.bipush 29, 2) := by decide +kernel
theorem dX10_node_66 : decode cX10_node 66 = .ok (.lshl, 1) := by decide +kernel
theorem dX10_node_67 : decode cX10_node 67 = .ok (.lload 9, 2) := by decide +kernel
theorem dX10_node_69 : decode cX10_node 69 = .ok (.bipush 35, 2) := by decide +kernel
theorem dX10_node_71 : decode cX10_node 71 = .ok (.lushr, 1) := by decide +kernel
theorem dX10_node_72 : decode cX10_node 72 = .ok (.lor, 1) := by decide +kernel
theorem dX10_node_73 : decode cX10_node 73 = .ok (.ldc2_w 144, 3) := by decide +kernel
theorem dX10_node_76 : decode cX10_node 76 = .ok (.lmul, 1) := by decide +kernel
theorem dX10_node_77 : decode cX10_node 77 = .ok (.lstore 9, 2) := by decide +kernel
theorem dX10_node_79 : decode cX10_node 79 = .ok (.iinc 11 1, 3) := by decide +kernel
theorem dX10_node_82 : decode cX10_node 82 = .ok (.goto (-46), 3) := by decide +kernel
theorem dX10_node_85 : decode cX10_node 85 = .ok (.aload_n 0, 1) := by decide +kernel
theorem dX10_node_86 : decode cX10_node 86 = .ok (.getfield 28, 3) := by decide +kernel
theorem dX10_node_89 : decode cX10_node 89 = .ok (.iload 8, 2) := by decide +kernel
theorem dX10_node_91 : decode cX10_node 91 = .ok (.iload_n 3, 1) := by decide +kernel
theorem dX10_node_92 : decode cX10_node 92 = .ok (.iastore, 1) := by decide +kernel
theorem dX10_node_93 : decode cX10_node 93 = .ok (.aload_n 0, 1) := by decide +kernel
theorem dX10_node_94 : decode cX10_node 94 = .ok (.getfield 31, 3) := by decide +kernel
theorem dX10_node_97 : decode cX10_node 97 = .ok (.iload 8, 2) := by decide +kernel
theorem dX10_node_99 : decode cX10_node 99 = .ok (.iload 5, 2) := by decide +kernel
theorem dX10_node_101 : decode cX10_node 101 = .ok (.iastore, 1) := by decide +kernel
theorem dX10_node_102 : decode cX10_node 102 = .ok (.aload_n 0, 1) := by decide +kernel
theorem dX10_node_103 : decode cX10_node 103 = .ok (.getfield 40, 3) := by decide +kernel
theorem dX10_node_106 : decode cX10_node 106 = .ok (.iload 8, 2) := by decide +kernel
theorem dX10_node_108 : decode cX10_node 108 = .ok (.lload 9, 2) := by decide +kernel
theorem dX10_node_110 : decode cX10_node 110 = .ok (.lastore, 1) := by decide +kernel
theorem dX10_node_111 : decode cX10_node 111 = .ok (.iload_n 3, 1) := by decide +kernel
theorem dX10_node_112 : decode cX10_node 112 = .ok (.ifCond .ne 24, 3) := by decide +kernel
theorem dX10_node_115 : decode cX10_node 115 = .ok (.aload_n 0, 1) := by decide +kernel
theorem dX10_node_116 : decode cX10_node 116 = .ok (.getfield 34, 3) := by decide +kernel
theorem dX10_node_119 : decode cX10_node 119 = .ok (.iload 8, 2) := by decide +kernel
theorem dX10_node_121 : decode cX10_node 121 = .ok (.iload 4, 2) := by decide +kernel
theorem dX10_node_123 : decode cX10_node 123 = .ok (.iastore, 1) := by decide +kernel
theorem dX10_node_124 : decode cX10_node 124 = .ok (.aload_n 0, 1) := by decide +kernel
theorem dX10_node_125 : decode cX10_node 125 = .ok (.getfield 37, 3) := by decide +kernel
theorem dX10_node_128 : decode cX10_node 128 = .ok (.iload 8, 2) := by decide +kernel
theorem dX10_node_130 : decode cX10_node 130 = .ok (.iload 5, 2) := by decide +kernel
theorem dX10_node_132 : decode cX10_node 132 = .ok (.iastore, 1) := by decide +kernel
theorem dX10_node_133 : decode cX10_node 133 = .ok (.goto 74, 3) := by decide +kernel
theorem dX10_node_136 : decode cX10_node 136 = .ok (.iload 7, 2) := by decide +kernel
theorem dX10_node_138 : decode cX10_node 138 = .ok (.sipush 210, 3) := by decide +kernel
theorem dX10_node_141 : decode cX10_node 141 = .ok (.imul, 1) := by decide +kernel
theorem dX10_node_142 : decode cX10_node 142 = .ok (.iload 6, 2) := by decide +kernel
theorem dX10_node_144 : decode cX10_node 144 = .ok (.iadd, 1) := by decide +kernel
theorem dX10_node_145 : decode cX10_node 145 = .ok (.iload 4, 2) := by decide +kernel
theorem dX10_node_147 : decode cX10_node 147 = .ok (.iadd, 1) := by decide +kernel
theorem dX10_node_148 : decode cX10_node 148 = .ok (.istore 11, 2) := by decide +kernel
theorem dX10_node_150 : decode cX10_node 150 = .ok (.aload_n 0, 1) := by decide +kernel
theorem dX10_node_151 : decode cX10_node 151 = .ok (.getfield 34, 3) := by decide +kernel
theorem dX10_node_154 : decode cX10_node 154 = .ok (.iload 8, 2) := by decide +kernel
theorem dX10_node_156 : decode cX10_node 156 = .ok (.aload_n 0, 1) := by decide +kernel
theorem dX10_node_157 : decode cX10_node 157 = .ok (.getfield 34, 3) := by decide +kernel
theorem dX10_node_160 : decode cX10_node 160 = .ok (.iload 11, 2) := by decide +kernel
theorem dX10_node_162 : decode cX10_node 162 = .ok (.iaload, 1) := by decide +kernel
theorem dX10_node_163 : decode cX10_node 163 = .ok (.iastore, 1) := by decide +kernel
theorem dX10_node_164 : decode cX10_node 164 = .ok (.iconst 0, 1) := by decide +kernel
theorem dX10_node_165 : decode cX10_node 165 = .ok (.istore 12, 2) := by decide +kernel
theorem dX10_node_167 : decode cX10_node 167 = .ok (.iconst 0, 1) := by decide +kernel
theorem dX10_node_168 : decode cX10_node 168 = .ok (.istore 13, 2) := by decide +kernel
theorem dX10_node_170 : decode cX10_node 170 = .ok (.iload 13, 2) := by decide +kernel
theorem dX10_node_172 : decode cX10_node 172 = .ok (.iload 5, 2) := by decide +kernel
theorem dX10_node_174 : decode cX10_node 174 = .ok (.if_icmp .ge 24, 3) := by decide +kernel
theorem dX10_node_177 : decode cX10_node 177 = .ok (.iload 12, 2) := by decide +kernel
theorem dX10_node_179 : decode cX10_node 179 = .ok (.aload_n 0, 1) := by decide +kernel
theorem dX10_node_180 : decode cX10_node 180 = .ok (.getfield 37, 3) := by decide +kernel
theorem dX10_node_183 : decode cX10_node 183 = .ok (.iload 11, 2) := by decide +kernel
theorem dX10_node_185 : decode cX10_node 185 = .ok (.iload 13, 2) := by decide +kernel
theorem dX10_node_187 : decode cX10_node 187 = .ok (.iadd, 1) := by decide +kernel
theorem dX10_node_188 : decode cX10_node 188 = .ok (.iaload, 1) := by decide +kernel
theorem dX10_node_189 : decode cX10_node 189 = .ok (.iadd, 1) := by decide +kernel
theorem dX10_node_190 : decode cX10_node 190 = .ok (.istore 12, 2) := by decide +kernel
theorem dX10_node_192 : decode cX10_node 192 = .ok (.iinc 13 1, 3) := by decide +kernel
theorem dX10_node_195 : decode cX10_node 195 = .ok (.goto (-25), 3) := by decide +kernel
theorem dX10_node_198 : decode cX10_node 198 = .ok (.aload_n 0, 1) := by decide +kernel
theorem dX10_node_199 : decode cX10_node 199 = .ok (.getfield 37, 3) := by decide +kernel
theorem dX10_node_202 : decode cX10_node 202 = .ok (.iload 8, 2) := by decide +kernel
theorem dX10_node_204 : decode cX10_node 204 = .ok (.iload 12, 2) := by decide +kernel
theorem dX10_node_206 : decode cX10_node 206 = .ok (.iastore, 1) := by decide +kernel
theorem dX10_node_207 : decode cX10_node 207 = .ok (.aload_n 0, 1) := by decide +kernel
theorem dX10_node_208 : decode cX10_node 208 = .ok (.getfield 21, 3) := by decide +kernel
theorem dX10_node_211 : decode cX10_node 211 = .ok (.iload 7, 2) := by decide +kernel
theorem dX10_node_213 : decode cX10_node 213 = .ok (.dup2, 1) := by decide +kernel
theorem dX10_node_214 : decode cX10_node 214 = .ok (.iaload, 1) := by decide +kernel
theorem dX10_node_215 : decode cX10_node 215 = .ok (.iconst 1, 1) := by decide +kernel
theorem dX10_node_216 : decode cX10_node 216 = .ok (.iadd, 1) := by decide +kernel
theorem dX10_node_217 : decode cX10_node 217 = .ok (.iastore, 1) := by decide +kernel
theorem dX10_node_218 : decode cX10_node 218 = .ok (.return_, 1) := by decide +kernel
theorem EX10_node {h : jj_H} {Q : Value → jj_H → Prop} (r0 : Nat) (x1 : Int32) (x2 : Int32) (x3 : Int32) (x4 : Int32) (x5 : Int32) (x6 : Int32) (H : ∀ d : jj_D, jK h r0 = 11 ∧ (jK h (jR h 504 r0 0) = 21 ∧ (vp_in ((3 * x1) + x2) (jN h (jR h 504 r0 0)) ∧ (jj_WP d mX10_node 0 0 36 [(0, .ref r0), (3, .int x3), (4, .int x4), (5, .int x5), (6, .int x6), (7, .int ((3 * x1) + x2)), (8, .int ((((3 * x1) + x2) * 210) + (jI h 1000 (jR h 504 r0 0) (Int32.toNatClampNeg ((3 * x1) + x2))))), (9, .long ((Int32.toInt64 x3) + 1)), (11, .int (16 * x4))] [] h Q)))) : jj_C mX10_node 0 0 [.ref r0, .int x1, .int x2, .int x3, .int x4, .int x5, .int x6] h Q := j_enter (by decide +kernel) (Nat.le_of_ble_eq_true rfl) rfl fun d => have H := H d; j_iconst (v := 3) dX10_node_0 rfl (j_iload_n dX10_node_1 rfl 1 rfl (j_imul dX10_node_2 (j_iload_n dX10_node_3 rfl 2 rfl (j_iadd dX10_node_4 (j_istore (L' := [(7, .int ((3 * x1) + x2)), (0, .ref r0), (1, .int x1), (2, .int x2), (3, .int x3), (4, .int x4), (5, .int x5), (6, .int x6)]) dX10_node_5 (by decide) rfl (j_iload dX10_node_7 0 rfl (j_sipush (v := 210) dX10_node_9 rfl (j_imul dX10_node_12 (j_aload_n dX10_node_13 rfl 1 rfl (j_getR (f := 504) cls_X10 4 (by decide) fl_X10_21 rfl rfl dX10_node_14 H.1 (j_iload dX10_node_17 0 rfl (j_iald dX10_node_19 H.2.1 H.2.2.1 (j_iadd dX10_node_20 (j_istore (L' := [(8, .int ((((3 * x1) + x2) * 210) + (jI h 1000 (jR h 504 r0 0) (Int32.toNatClampNeg ((3 * x1) + x2))))), (7, .int ((3 * x1) + x2)), (0, .ref r0), (1, .int x1), (2, .int x2), (3, .int x3), (4, .int x4), (5, .int x5), (6, .int x6)]) dX10_node_21 (by decide) rfl (j_iload_n dX10_node_23 rfl 5 rfl (j_i2l dX10_node_24 (j_lconst (v := 1) dX10_node_25 rfl (j_ladd dX10_node_26 (j_lstore (L' := [(9, .long ((Int32.toInt64 x3) + 1)), (8, .int ((((3 * x1) + x2) * 210) + (jI h 1000 (jR h 504 r0 0) (Int32.toNatClampNeg ((3 * x1) + x2))))), (7, .int ((3 * x1) + x2)), (0, .ref r0), (1, .int x1), (2, .int x2), (3, .int x3), (4, .int x4), (5, .int x5), (6, .int x6)]) dX10_node_27 (by decide) rfl (j_bipush (v := 16) dX10_node_29 rfl (j_iload dX10_node_31 7 rfl (j_imul dX10_node_33 (j_istore (L' := [(11, .int (16 * x4)), (9, .long ((Int32.toInt64 x3) + 1)), (8, .int ((((3 * x1) + x2) * 210) + (jI h 1000 (jR h 504 r0 0) (Int32.toNatClampNeg ((3 * x1) + x2))))), (7, .int ((3 * x1) + x2)), (0, .ref r0), (1, .int x1), (2, .int x2), (3, .int x3), (4, .int x4), (5, .int x5), (6, .int x6)]) dX10_node_34 (by decide) rfl (j_sub [4, 7, 8, 9, 10, 3, 2, 1, 0] rfl (H.2.2.2)))))))))))))))))))))))))
theorem VX10_node_36 {d : jj_D} {h : jj_H} {Q : Value → jj_H → Prop} (r0 : Nat) (x3 : Int32) (x4 : Int32) (x5 : Int32) (x6 : Int32) (x7 : Int32) (x8 : Int32) (l9 : Int64) (x11 : Int32) (H : ((16 * (x4 + x5)) ≤ x11 → jK h r0 = 11 ∧ (jK h (jR h 506 r0 0) = 21 ∧ (vp_in x8 (jN h (jR h 506 r0 0)) ∧ (∀ h2, h2 = wI h 1000 (jR h 506 r0 0) (Int32.toNatClampNeg x8) x3 → (jK h (jR h2 507 r0 0) = 21 ∧ (vp_in x8 (jN h (jR h2 507 r0 0)) ∧ (∀ h3, h3 = wI h2 1000 (jR h2 507 r0 0) (Int32.toNatClampNeg x8) x5 → (jK h (jR h3 510 r0 0) = 22 ∧ (vp_in x8 (jN h (jR h3 510 r0 0)) ∧ (∀ h4, h4 = wL h3 1000 (jR h3 510 r0 0) (Int32.toNatClampNeg x8) l9 → ((¬ x3 = 0 → jK h (jR h4 508 r0 0) = 21 ∧ (vp_in (((x7 * 210) + x6) + x4) (jN h (jR h4 508 r0 0)) ∧ (vp_in x8 (jN h (jR h4 508 r0 0)) ∧ (∀ h6, h6 = wI h4 1000 (jR h4 508 r0 0) (Int32.toNatClampNeg x8) (jI h4 1000 (jR h4 508 r0 0) (Int32.toNatClampNeg (((x7 * 210) + x6) + x4))) → (jj_WP d mX10_node 0 0 170 [(0, .ref r0), (5, .int x5), (7, .int x7), (8, .int x8), (11, .int (((x7 * 210) + x6) + x4)), (12, .int 0), (13, .int 0)] [] h6 Q))))) ∧ (x3 = 0 → jK h (jR h4 508 r0 0) = 21 ∧ (vp_in x8 (jN h (jR h4 508 r0 0)) ∧ (∀ h7, h7 = wI h4 1000 (jR h4 508 r0 0) (Int32.toNatClampNeg x8) x4 → (jK h (jR h7 509 r0 0) = 21 ∧ (vp_in x8 (jN h (jR h7 509 r0 0)) ∧ (∀ h8, h8 = wI h7 1000 (jR h7 509 r0 0) (Int32.toNatClampNeg x8) x5 → (jK h (jR h8 504 r0 0) = 21 ∧ (vp_in x7 (jN h (jR h8 504 r0 0)) ∧ (∀ h9, h9 = wI h8 1000 (jR h8 504 r0 0) (Int32.toNatClampNeg x7) ((jI h8 1000 (jR h8 504 r0 0) (Int32.toNatClampNeg x7)) + 1) → (Q (.int 0) h9))))))))))))))))))))) ∧ (¬ (16 * (x4 + x5)) ≤ x11 → jK h r0 = 11 ∧ (jK h (jR h 511 r0 0) = 21 ∧ (vp_in x11 (jN h (jR h 511 r0 0)) ∧ (jj_WP d mX10_node 0 0 36 [(0, .ref r0), (3, .int x3), (4, .int x4), (5, .int x5), (6, .int x6), (7, .int x7), (8, .int x8), (9, .long ((((l9 ^^^ (Int32.toInt64 (jI h 1000 (jR h 511 r0 0) (Int32.toNatClampNeg x11)))) <<< (Int32.toInt64 29 &&& 63)) ||| (Int64.toUInt64 (l9 ^^^ (Int32.toInt64 (jI h 1000 (jR h 511 r0 0) (Int32.toNatClampNeg x11)))) >>> ((Int32.toInt64 35).toUInt64 &&& Int64.toUInt64 63)).toInt64) * (-2960836687051489901))), (11, .int (x11 + 1))] [] h Q))))) : jj_WP d mX10_node 0 0 36 [(0, .ref r0), (3, .int x3), (4, .int x4), (5, .int x5), (6, .int x6), (7, .int x7), (8, .int x8), (9, .long l9), (11, .int x11)] [] h Q := j_iload dX10_node_36 8 rfl (j_bipush (v := 16) dX10_node_38 rfl (j_iload dX10_node_40 2 rfl (j_iload dX10_node_42 3 rfl (j_iadd dX10_node_44 (j_imul dX10_node_45 (j_icmp_ge (tgt := 85) dX10_node_46 (by decide) (fun c1 => j_aload_n dX10_node_85 rfl 0 rfl (j_getR (f := 506) cls_X10 6 (by decide) fl_X10_28 rfl rfl dX10_node_86 (H.1 c1).1 (j_iload dX10_node_89 6 rfl (j_iload_n dX10_node_91 rfl 1 rfl (j_iast dX10_node_92 (H.1 c1).2.1 (H.1 c1).2.2.1 (j_aload_n dX10_node_93 rfl 0 rfl (j_getR (f := 507) cls_X10 7 (by decide) fl_X10_31 rfl rfl dX10_node_94 (H.1 c1).1 (j_iload dX10_node_97 6 rfl (j_iload dX10_node_99 3 rfl (j_iast dX10_node_101 ((H.1 c1).2.2.2 _ rfl).1 ((H.1 c1).2.2.2 _ rfl).2.1 (j_aload_n dX10_node_102 rfl 0 rfl (j_getR (f := 510) cls_X10 10 (by decide) fl_X10_40 rfl rfl dX10_node_103 (H.1 c1).1 (j_iload dX10_node_106 6 rfl (j_lload dX10_node_108 7 rfl (j_last dX10_node_110 (((H.1 c1).2.2.2 _ rfl).2.2 _ rfl).1 (((H.1 c1).2.2.2 _ rfl).2.2 _ rfl).2.1 (j_iload_n dX10_node_111 rfl 1 rfl (j_if_ne (tgt := 136) dX10_node_112 (by decide) (fun c5 => j_iload dX10_node_136 5 rfl (j_sipush (v := 210) dX10_node_138 rfl (j_imul dX10_node_141 (j_iload dX10_node_142 4 rfl (j_iadd dX10_node_144 (j_iload dX10_node_145 2 rfl (j_iadd dX10_node_147 (j_istore (L' := [(11, .int (((x7 * 210) + x6) + x4)), (0, .ref r0), (3, .int x3), (4, .int x4), (5, .int x5), (6, .int x6), (7, .int x7), (8, .int x8), (9, .long l9)]) dX10_node_148 (by decide) rfl (j_aload_n dX10_node_150 rfl 1 rfl (j_getR (f := 508) cls_X10 8 (by decide) fl_X10_34 rfl rfl dX10_node_151 (H.1 c1).1 (j_iload dX10_node_154 7 rfl (j_aload_n dX10_node_156 rfl 1 rfl (j_getR (f := 508) cls_X10 8 (by decide) fl_X10_34 rfl rfl dX10_node_157 (H.1 c1).1 (j_iload dX10_node_160 0 rfl (j_iald dX10_node_162 (((((H.1 c1).2.2.2 _ rfl).2.2 _ rfl).2.2 _ rfl).1 c5).1 (((((H.1 c1).2.2.2 _ rfl).2.2 _ rfl).2.2 _ rfl).1 c5).2.1 (j_iast dX10_node_163 (((((H.1 c1).2.2.2 _ rfl).2.2 _ rfl).2.2 _ rfl).1 c5).1 (((((H.1 c1).2.2.2 _ rfl).2.2 _ rfl).2.2 _ rfl).1 c5).2.2.1 (j_iconst (v := 0) dX10_node_164 rfl (j_istore (L' := [(12, .int 0), (11, .int (((x7 * 210) + x6) + x4)), (0, .ref r0), (3, .int x3), (4, .int x4), (5, .int x5), (6, .int x6), (7, .int x7), (8, .int x8), (9, .long l9)]) dX10_node_165 (by decide) rfl (j_iconst (v := 0) dX10_node_167 rfl (j_istore (L' := [(13, .int 0), (12, .int 0), (11, .int (((x7 * 210) + x6) + x4)), (0, .ref r0), (3, .int x3), (4, .int x4), (5, .int x5), (6, .int x6), (7, .int x7), (8, .int x8), (9, .long l9)]) dX10_node_168 (by decide) rfl (j_sub [3, 6, 8, 9, 2, 1, 0] rfl (((((((H.1 c1).2.2.2 _ rfl).2.2 _ rfl).2.2 _ rfl).1 c5).2.2.2 _ rfl))))))))))))))))))))))) (fun c5 => j_aload_n dX10_node_115 rfl 0 rfl (j_getR (f := 508) cls_X10 8 (by decide) fl_X10_34 rfl rfl dX10_node_116 (H.1 c1).1 (j_iload dX10_node_119 6 rfl (j_iload dX10_node_121 2 rfl (j_iast dX10_node_123 (((((H.1 c1).2.2.2 _ rfl).2.2 _ rfl).2.2 _ rfl).2 c5).1 (((((H.1 c1).2.2.2 _ rfl).2.2 _ rfl).2.2 _ rfl).2 c5).2.1 (j_aload_n dX10_node_124 rfl 0 rfl (j_getR (f := 509) cls_X10 9 (by decide) fl_X10_37 rfl rfl dX10_node_125 (H.1 c1).1 (j_iload dX10_node_128 6 rfl (j_iload dX10_node_130 3 rfl (j_iast dX10_node_132 ((((((H.1 c1).2.2.2 _ rfl).2.2 _ rfl).2.2 _ rfl).2 c5).2.2 _ rfl).1 ((((((H.1 c1).2.2.2 _ rfl).2.2 _ rfl).2.2 _ rfl).2 c5).2.2 _ rfl).2.1 (j_goto (tgt := 207) dX10_node_133 (by decide) (j_aload_n dX10_node_207 rfl 0 rfl (j_getR (f := 504) cls_X10 4 (by decide) fl_X10_21 rfl rfl dX10_node_208 (H.1 c1).1 (j_iload dX10_node_211 5 rfl (j_dup2 dX10_node_213 rfl rfl (j_iald dX10_node_214 (((((((H.1 c1).2.2.2 _ rfl).2.2 _ rfl).2.2 _ rfl).2 c5).2.2 _ rfl).2.2 _ rfl).1 (((((((H.1 c1).2.2.2 _ rfl).2.2 _ rfl).2.2 _ rfl).2 c5).2.2 _ rfl).2.2 _ rfl).2.1 (j_iconst (v := 1) dX10_node_215 rfl (j_iadd dX10_node_216 (j_iast dX10_node_217 (((((((H.1 c1).2.2.2 _ rfl).2.2 _ rfl).2.2 _ rfl).2 c5).2.2 _ rfl).2.2 _ rfl).1 (((((((H.1 c1).2.2.2 _ rfl).2.2 _ rfl).2.2 _ rfl).2 c5).2.2 _ rfl).2.2 _ rfl).2.1 (j_ret (v := .int 0) dX10_node_218 rfl (((((((((H.1 c1).2.2.2 _ rfl).2.2 _ rfl).2.2 _ rfl).2 c5).2.2 _ rfl).2.2 _ rfl).2.2 _ rfl))))))))))))))))))))))))))))))))))))))) (fun c1 => j_lload dX10_node_49 7 rfl (j_aload_n dX10_node_51 rfl 0 rfl (j_getR (f := 511) cls_X10 11 (by decide) fl_X10_44 rfl rfl dX10_node_52 (H.2 c1).1 (j_iload dX10_node_55 8 rfl (j_iald dX10_node_57 (H.2 c1).2.1 (H.2 c1).2.2.1 (j_i2l dX10_node_58 (j_lxor dX10_node_59 (j_lstore (L' := [(9, .long (l9 ^^^ (Int32.toInt64 (jI h 1000 (jR h 511 r0 0) (Int32.toNatClampNeg x11))))), (0, .ref r0), (3, .int x3), (4, .int x4), (5, .int x5), (6, .int x6), (7, .int x7), (8, .int x8), (11, .int x11)]) dX10_node_60 (by decide) rfl (j_lload dX10_node_62 0 rfl (j_bipush (v := 29) dX10_node_64 rfl (j_lshl dX10_node_66 (j_lload dX10_node_67 0 rfl (j_bipush (v := 35) dX10_node_69 rfl (j_lushr dX10_node_71 (j_lor dX10_node_72 (j_ldc2 (v := (-2960836687051489901)) dX10_node_73 kc_X10_144 (j_lmul dX10_node_76 (j_lstore (L' := [(9, .long ((((l9 ^^^ (Int32.toInt64 (jI h 1000 (jR h 511 r0 0) (Int32.toNatClampNeg x11)))) <<< (Int32.toInt64 29 &&& 63)) ||| (Int64.toUInt64 (l9 ^^^ (Int32.toInt64 (jI h 1000 (jR h 511 r0 0) (Int32.toNatClampNeg x11)))) >>> ((Int32.toInt64 35).toUInt64 &&& Int64.toUInt64 63)).toInt64) * (-2960836687051489901))), (0, .ref r0), (3, .int x3), (4, .int x4), (5, .int x5), (6, .int x6), (7, .int x7), (8, .int x8), (11, .int x11)]) dX10_node_77 (by decide) rfl (j_iinc (v := (x11 + 1)) (L' := [(11, .int (x11 + 1)), (9, .long ((((l9 ^^^ (Int32.toInt64 (jI h 1000 (jR h 511 r0 0) (Int32.toNatClampNeg x11)))) <<< (Int32.toInt64 29 &&& 63)) ||| (Int64.toUInt64 (l9 ^^^ (Int32.toInt64 (jI h 1000 (jR h 511 r0 0) (Int32.toNatClampNeg x11)))) >>> ((Int32.toInt64 35).toUInt64 &&& Int64.toUInt64 63)).toInt64) * (-2960836687051489901))), (0, .ref r0), (3, .int x3), (4, .int x4), (5, .int x5), (6, .int x6), (7, .int x7), (8, .int x8)]) dX10_node_79 8 rfl rfl (by decide) rfl (j_goto (tgt := 36) dX10_node_82 (by decide) (j_sub [2, 3, 4, 5, 6, 7, 8, 1, 0] rfl ((H.2 c1).2.2.2))))))))))))))))))))))))))))
theorem VX10_node_170 {d : jj_D} {h : jj_H} {Q : Value → jj_H → Prop} (r0 : Nat) (x5 : Int32) (x7 : Int32) (x8 : Int32) (x11 : Int32) (x12 : Int32) (x13 : Int32) (H : (x5 ≤ x13 → jK h r0 = 11 ∧ (jK h (jR h 509 r0 0) = 21 ∧ (vp_in x8 (jN h (jR h 509 r0 0)) ∧ (∀ h2, h2 = wI h 1000 (jR h 509 r0 0) (Int32.toNatClampNeg x8) x12 → (jK h (jR h2 504 r0 0) = 21 ∧ (vp_in x7 (jN h (jR h2 504 r0 0)) ∧ (∀ h3, h3 = wI h2 1000 (jR h2 504 r0 0) (Int32.toNatClampNeg x7) ((jI h2 1000 (jR h2 504 r0 0) (Int32.toNatClampNeg x7)) + 1) → (Q (.int 0) h3)))))))) ∧ (¬ x5 ≤ x13 → jK h r0 = 11 ∧ (jK h (jR h 509 r0 0) = 21 ∧ (vp_in (x11 + x13) (jN h (jR h 509 r0 0)) ∧ (jj_WP d mX10_node 0 0 170 [(0, .ref r0), (5, .int x5), (7, .int x7), (8, .int x8), (11, .int x11), (12, .int (x12 + (jI h 1000 (jR h 509 r0 0) (Int32.toNatClampNeg (x11 + x13))))), (13, .int (x13 + 1))] [] h Q))))) : jj_WP d mX10_node 0 0 170 [(0, .ref r0), (5, .int x5), (7, .int x7), (8, .int x8), (11, .int x11), (12, .int x12), (13, .int x13)] [] h Q := j_iload dX10_node_170 6 rfl (j_iload dX10_node_172 1 rfl (j_icmp_ge (tgt := 198) dX10_node_174 (by decide) (fun c1 => j_aload_n dX10_node_198 rfl 0 rfl (j_getR (f := 509) cls_X10 9 (by decide) fl_X10_37 rfl rfl dX10_node_199 (H.1 c1).1 (j_iload dX10_node_202 3 rfl (j_iload dX10_node_204 5 rfl (j_iast dX10_node_206 (H.1 c1).2.1 (H.1 c1).2.2.1 (j_aload_n dX10_node_207 rfl 0 rfl (j_getR (f := 504) cls_X10 4 (by decide) fl_X10_21 rfl rfl dX10_node_208 (H.1 c1).1 (j_iload dX10_node_211 2 rfl (j_dup2 dX10_node_213 rfl rfl (j_iald dX10_node_214 ((H.1 c1).2.2.2 _ rfl).1 ((H.1 c1).2.2.2 _ rfl).2.1 (j_iconst (v := 1) dX10_node_215 rfl (j_iadd dX10_node_216 (j_iast dX10_node_217 ((H.1 c1).2.2.2 _ rfl).1 ((H.1 c1).2.2.2 _ rfl).2.1 (j_ret (v := .int 0) dX10_node_218 rfl ((((H.1 c1).2.2.2 _ rfl).2.2 _ rfl)))))))))))))))) (fun c1 => j_iload dX10_node_177 5 rfl (j_aload_n dX10_node_179 rfl 0 rfl (j_getR (f := 509) cls_X10 9 (by decide) fl_X10_37 rfl rfl dX10_node_180 (H.2 c1).1 (j_iload dX10_node_183 4 rfl (j_iload dX10_node_185 6 rfl (j_iadd dX10_node_187 (j_iald dX10_node_188 (H.2 c1).2.1 (H.2 c1).2.2.1 (j_iadd dX10_node_189 (j_istore (L' := [(12, .int (x12 + (jI h 1000 (jR h 509 r0 0) (Int32.toNatClampNeg (x11 + x13))))), (0, .ref r0), (5, .int x5), (7, .int x7), (8, .int x8), (11, .int x11), (13, .int x13)]) dX10_node_190 (by decide) rfl (j_iinc (v := (x13 + 1)) (L' := [(13, .int (x13 + 1)), (12, .int (x12 + (jI h 1000 (jR h 509 r0 0) (Int32.toNatClampNeg (x11 + x13))))), (0, .ref r0), (5, .int x5), (7, .int x7), (8, .int x8), (11, .int x11)]) dX10_node_192 6 rfl rfl (by decide) rfl (j_goto (tgt := 170) dX10_node_195 (by decide) (j_sub [2, 3, 4, 5, 6, 1, 0] rfl ((H.2 c1).2.2.2)))))))))))))))
