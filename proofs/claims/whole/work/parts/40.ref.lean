theorem dX12_modulo_0 : decode cX12_modulo 0 = .ok (.iload_n 0, 1) := by decide +kernel
theorem dX12_modulo_1 : decode cX12_modulo 1 = .ok (.iload_n 1, 1) := by decide +kernel
theorem dX12_modulo_2 : decode cX12_modulo 2 = .ok (.irem, 1) := by decide +kernel
theorem dX12_modulo_3 : decode cX12_modulo 3 = .ok (.istore_n 2, 1) := by decide +kernel
theorem dX12_modulo_4 : decode cX12_modulo 4 = .ok (.iload_n 2, 1) := by decide +kernel
theorem dX12_modulo_5 : decode cX12_modulo 5 = .ok (.ifCond .ge 9, 3) := by decide +kernel
theorem dX12_modulo_8 : decode cX12_modulo 8 = .ok (.iload_n 2, 1) := by decide +kernel
theorem dX12_modulo_9 : decode cX12_modulo 9 = .ok (.iload_n 1, 1) := by decide +kernel
theorem dX12_modulo_10 : decode cX12_modulo 10 = .ok (.iadd, 1) := by decide +kernel
theorem dX12_modulo_11 : decode cX12_modulo 11 = .ok (.goto 4, 3) := by decide +kernel
theorem dX12_modulo_14 : decode cX12_modulo 14 = .ok (.iload_n 2, 1) := by decide +kernel
theorem dX12_modulo_15 : decode cX12_modulo 15 = .ok (.ireturn, 1) := by decide +kernel
abbrev rm_X12_modulo : Room := { frames := 0, cells := 0, slots := 0, locals := 0 }
def wp_X12_modulo (p0 : Int32) (p1 : Int32) (σ : Sto) (Q : Int32 → Sto → Prop) : Prop := (¬ p1 = 0 ∧ (∀ x2 : Int32, x2 = p0 - p0 / p1 * p1 → ((0 ≤ x2 → Q x2 σ) ∧ (¬ 0 ≤ x2 → Q (x2 + p1) σ))))
set_option maxHeartbeats 4000000 in
set_option maxRecDepth 100000 in
theorem c_X12_modulo (l : Launch) (D : va_G) (cy : Nat → ClassId) (p0 : Int32) (p1 : Int32) (σ : Sto) (Q : Int32 → Sto → Prop) (h : wp_X12_modulo p0 p1 σ Q) : Mt l D cy yX12_modulo cX12_modulo 3 (some .int) rm_X12_modulo [.int p0, .int p1] σ (PsI Q) := by
  unfold wp_X12_modulo at h
  refine mt_of (by decide +kernel) (Nat.le_of_ble_eq_true rfl) ?_
  intro p e s m args below meth c A ls C hr hnm hl
  have C : Cx p s m args meth c D cy A cX12_modulo 3 RX12 := C
  have hl : lv_has ls 3 [(0, .int p0), (1, .int p1)] := hl
  refine x_iload_n C dX12_modulo_0 rfl (lv_at hl 0 rfl) ?_
  refine x_iload_n C dX12_modulo_1 rfl (lv_at hl 1 rfl) ?_
  obtain ⟨g1, h⟩ := h
  refine x_irem C dX12_modulo_2 g1 ?_
  refine x_topi (fun x2 e3 => ?_)
  have h := h x2 e3
  refine x_istore_n (i := 2) (lv' := [(2, .int x2), (0, .int p0), (1, .int p1)]) C dX12_modulo_3 rfl hl (by decide) (by first | rfl | simp [vrc, cat_i, cat_r, cat_l]) (fun ls hl => ?_)
  refine x_iload_n C dX12_modulo_4 rfl (lv_at hl 0 rfl) ?_
  refine x_if_ge (tgt := 14) C dX12_modulo_5 (by decide) (fun c4 => ?_) (fun c4 => ?_)
  · have h := h.1 c4
    refine x_iload_n C dX12_modulo_14 rfl (lv_at hl 0 rfl) ?_
    exact x_iret C hr dX12_modulo_15 ⟨_, rfl, h⟩
  · have h := h.2 c4
    refine x_iload_n C dX12_modulo_8 rfl (lv_at hl 0 rfl) ?_
    refine x_iload_n C dX12_modulo_9 rfl (lv_at hl 2 rfl) ?_
    refine x_iadd C dX12_modulo_10 ?_
    refine x_goto (tgt := 15) C dX12_modulo_11 (by decide) ?_
    exact x_iret C hr dX12_modulo_15 ⟨_, rfl, h⟩
theorem dX12_init_0 : decode cX12_init 0 = .ok (.aload_n 0, 1) := by decide +kernel
theorem dX12_init_1 : decode cX12_init 1 = .ok (.invokespecial 1, 3) := by decide +kernel
theorem dX12_init_4 : decode cX12_init 4 = .ok (.aload_n 0, 1) := by decide +kernel
theorem dX12_init_5 : decode cX12_init 5 = .ok (.sipush 200, 3) := by decide +kernel
theorem dX12_init_8 : decode cX12_init 8 = .ok (.newarray .int, 2) := by decide +kernel
theorem dX12_init_10 : decode cX12_init 10 = .ok (.putfield 9, 3) := by decide +kernel
theorem dX12_init_13 : decode cX12_init 13 = .ok (.aload_n 0, 1) := by decide +kernel
theorem dX12_init_14 : decode cX12_init 14 = .ok (.sipush 200, 3) := by decide +kernel
theorem dX12_init_17 : decode cX12_init 17 = .ok (.newarray .boolean, 2) := by decide +kernel
theorem dX12_init_19 : decode cX12_init 19 = .ok (.putfield 13, 3) := by decide +kernel
theorem dX12_init_22 : decode cX12_init 22 = .ok (.aload_n 0, 1) := by decide +kernel
theorem dX12_init_23 : decode cX12_init 23 = .ok (.ldc 17, 2) := by decide +kernel
theorem dX12_init_25 : decode cX12_init 25 = .ok (.newarray .int, 2) := by decide +kernel
theorem dX12_init_27 : decode cX12_init 27 = .ok (.putfield 18, 3) := by decide +kernel
theorem dX12_init_30 : decode cX12_init 30 = .ok (.aload_n 0, 1) := by decide +kernel
theorem dX12_init_31 : decode cX12_init 31 = .ok (.sipush 200, 3) := by decide +kernel
theorem dX12_init_34 : decode cX12_init 34 = .ok (.newarray .int, 2) := by decide +kernel
theorem dX12_init_36 : decode cX12_init 36 = .ok (.putfield 21, 3) := by decide +kernel
theorem dX12_init_39 : decode cX12_init 39 = .ok (.aload_n 0, 1) := by decide +kernel
theorem dX12_init_40 : decode cX12_init 40 = .ok (.sipush 200, 3) := by decide +kernel
theorem dX12_init_43 : decode cX12_init 43 = .ok (.newarray .int, 2) := by decide +kernel
theorem dX12_init_45 : decode cX12_init 45 = .ok (.putfield 24, 3) := by decide +kernel
theorem dX12_init_48 : decode cX12_init 48 = .ok (.aload_n 0, 1) := by decide +kernel
theorem dX12_init_49 : decode cX12_init 49 = .ok (.sipush 640, 3) := by decide +kernel
theorem dX12_init_52 : decode cX12_init 52 = .ok (.newarray .int, 2) := by decide +kernel
theorem dX12_init_54 : decode cX12_init 54 = .ok (.putfield 27, 3) := by decide +kernel
theorem dX12_init_57 : decode cX12_init 57 = .ok (.aload_n 0, 1) := by decide +kernel
theorem dX12_init_58 : decode cX12_init 58 = .ok (.sipush 640, 3) := by decide +kernel
theorem dX12_init_61 : decode cX12_init 61 = .ok (.newarray .int, 2) := by decide +kernel
theorem dX12_init_63 : decode cX12_init 63 = .ok (.putfield 30, 3) := by decide +kernel
theorem dX12_init_66 : decode cX12_init 66 = .ok (.aload_n 0, 1) := by decide +kernel
theorem dX12_init_67 : decode cX12_init 67 = .ok (.iconst 1, 1) := by decide +kernel
theorem dX12_init_68 : decode cX12_init 68 = .ok (.putfield 33, 3) := by decide +kernel
theorem dX12_init_71 : decode cX12_init 71 = .ok (.aload_n 0, 1) := by decide +kernel
theorem dX12_init_72 : decode cX12_init 72 = .ok (.iconst 1, 1) := by decide +kernel
theorem dX12_init_73 : decode cX12_init 73 = .ok (.putfield 37, 3) := by decide +kernel
theorem dX12_init_76 : decode cX12_init 76 = .ok (.aload_n 0, 1) := by decide +kernel
theorem dX12_init_77 : decode cX12_init 77 = .ok (.bipush 7, 2) := by decide +kernel
theorem dX12_init_79 : decode cX12_init 79 = .ok (.newarray .boolean, 2) := by decide +kernel
theorem dX12_init_81 : decode cX12_init 81 = .ok (.putfield 41, 3) := by decide +kernel
theorem dX12_init_84 : decode cX12_init 84 = .ok (.aload_n 0, 1) := by decide +kernel
theorem dX12_init_85 : decode cX12_init 85 = .ok (.bipush 7, 2) := by decide +kernel
theorem dX12_init_87 : decode cX12_init 87 = .ok (.newarray .int, 2) := by decide +kernel
theorem dX12_init_89 : decode cX12_init 89 = .ok (.putfield 44, 3) := by decide +kernel
theorem dX12_init_92 : decode cX12_init 92 = .ok (.aload_n 0, 1) := by decide +kernel
theorem dX12_init_93 : decode cX12_init 93 = .ok (.bipush 7, 2) := by decide +kernel
theorem dX12_init_95 : decode cX12_init 95 = .ok (.newarray .int, 2) := by decide +kernel
theorem dX12_init_97 : decode cX12_init 97 = .ok (.putfield 47, 3) := by decide +kernel
theorem dX12_init_100 : decode cX12_init 100 = .ok (.aload_n 0, 1) := by decide +kernel
theorem dX12_init_101 : decode cX12_init 101 = .ok (.bipush 7, 2) := by decide +kernel
theorem dX12_init_103 : decode cX12_init 103 = .ok (.newarray .int, 2) := by decide +kernel
theorem dX12_init_105 : decode cX12_init 105 = .ok (.putfield 50, 3) := by decide +kernel
theorem dX12_init_108 : decode cX12_init 108 = .ok (.aload_n 0, 1) := by decide +kernel
theorem dX12_init_109 : decode cX12_init 109 = .ok (.bipush 7, 2) := by decide +kernel
theorem dX12_init_111 : decode cX12_init 111 = .ok (.newarray .int, 2) := by decide +kernel
theorem dX12_init_113 : decode cX12_init 113 = .ok (.putfield 53, 3) := by decide +kernel
theorem dX12_init_116 : decode cX12_init 116 = .ok (.aload_n 0, 1) := by decide +kernel
theorem dX12_init_117 : decode cX12_init 117 = .ok (.bipush 7, 2) := by decide +kernel
theorem dX12_init_119 : decode cX12_init 119 = .ok (.newarray .int, 2) := by decide +kernel
theorem dX12_init_121 : decode cX12_init 121 = .ok (.putfield 56, 3) := by decide +kernel
theorem dX12_init_124 : decode cX12_init 124 = .ok (.aload_n 0, 1) := by decide +kernel
theorem dX12_init_125 : decode cX12_init 125 = .ok (.bipush 7, 2) := by decide +kernel
theorem dX12_init_127 : decode cX12_init 127 = .ok (.newarray .int, 2) := by decide +kernel
theorem dX12_init_129 : decode cX12_init 129 = .ok (.putfield 59, 3) := by decide +kernel
theorem dX12_init_132 : decode cX12_init 132 = .ok (.aload_n 0, 1) := by decide +kernel
theorem dX12_init_133 : decode cX12_init 133 = .ok (.bipush 7, 2) := by decide +kernel
theorem dX12_init_135 : decode cX12_init 135 = .ok (.newarray .int, 2) := by decide +kernel
theorem dX12_init_137 : decode cX12_init 137 = .ok (.putfield 62, 3) := by decide +kernel
theorem dX12_init_140 : decode cX12_init 140 = .ok (.aload_n 0, 1) := by decide +kernel
theorem dX12_init_141 : decode cX12_init 141 = .ok (.bipush 7, 2) := by decide +kernel
theorem dX12_init_143 : decode cX12_init 143 = .ok (.newarray .int, 2) := by decide +kernel
theorem dX12_init_145 : decode cX12_init 145 = .ok (.putfield 65, 3) := by decide +kernel
theorem dX12_init_148 : decode cX12_init 148 = .ok (.aload_n 0, 1) := by decide +kernel
theorem dX12_init_149 : decode cX12_init 149 = .ok (.bipush 7, 2) := by decide +kernel
theorem dX12_init_151 : decode cX12_init 151 = .ok (.newarray .int, 2) := by decide +kernel
theorem dX12_init_153 : decode cX12_init 153 = .ok (.putfield 68, 3) := by decide +kernel
theorem dX12_init_156 : decode cX12_init 156 = .ok (.aload_n 0, 1) := by decide +kernel
theorem dX12_init_157 : decode cX12_init 157 = .ok (.sipush 700, 3) := by decide +kernel
theorem dX12_init_160 : decode cX12_init 160 = .ok (.newarray .boolean, 2) := by decide +kernel
theorem dX12_init_162 : decode cX12_init 162 = .ok (.putfield 71, 3) := by decide +kernel
theorem dX12_init_165 : decode cX12_init 165 = .ok (.aload_n 0, 1) := by decide +kernel
theorem dX12_init_166 : decode cX12_init 166 = .ok (.sipush 700, 3) := by decide +kernel
theorem dX12_init_169 : decode cX12_init 169 = .ok (.newarray .int, 2) := by decide +kernel
theorem dX12_init_171 : decode cX12_init 171 = .ok (.putfield 74, 3) := by decide +kernel
theorem dX12_init_174 : decode cX12_init 174 = .ok (.aload_n 0, 1) := by decide +kernel
theorem dX12_init_175 : decode cX12_init 175 = .ok (.sipush 700, 3) := by decide +kernel
theorem dX12_init_178 : decode cX12_init 178 = .ok (.newarray .int, 2) := by decide +kernel
theorem dX12_init_180 : decode cX12_init 180 = .ok (.putfield 77, 3) := by decide +kernel
theorem dX12_init_183 : decode cX12_init 183 = .ok (.aload_n 0, 1) := by decide +kernel
theorem dX12_init_184 : decode cX12_init 184 = .ok (.sipush 700, 3) := by decide +kernel
theorem dX12_init_187 : decode cX12_init 187 = .ok (.newarray .int, 2) := by decide +kernel
theorem dX12_init_189 : decode cX12_init 189 = .ok (.putfield 80, 3) := by decide +kernel
theorem dX12_init_192 : decode cX12_init 192 = .ok (.aload_n 0, 1) := by decide +kernel
theorem dX12_init_193 : decode cX12_init 193 = .ok (.sipush 700, 3) := by decide +kernel
theorem dX12_init_196 : decode cX12_init 196 = .ok (.newarray .int, 2) := by decide +kernel
theorem dX12_init_198 : decode cX12_init 198 = .ok (.putfield 83, 3) := by decide +kernel
theorem dX12_init_201 : decode cX12_init 201 = .ok (.aload_n 0, 1) := by decide +kernel
theorem dX12_init_202 : decode cX12_init 202 = .ok (.sipush 700, 3) := by decide +kernel
theorem dX12_init_205 : decode cX12_init 205 = .ok (.newarray .int, 2) := by decide +kernel
theorem dX12_init_207 : decode cX12_init 207 = .ok (.putfield 86, 3) := by decide +kernel
theorem dX12_init_210 : decode cX12_init 210 = .ok (.aload_n 0, 1) := by decide +kernel
theorem dX12_init_211 : decode cX12_init 211 = .ok (.bipush 7, 2) := by decide +kernel
theorem dX12_init_213 : decode cX12_init 213 = .ok (.newarray .int, 2) := by decide +kernel
theorem dX12_init_215 : decode cX12_init 215 = .ok (.putfield 89, 3) := by decide +kernel
theorem dX12_init_218 : decode cX12_init 218 = .ok (.aload_n 0, 1) := by decide +kernel
theorem dX12_init_219 : decode cX12_init 219 = .ok (.bipush 112, 2) := by decide +kernel
theorem dX12_init_221 : decode cX12_init 221 = .ok (.newarray .int, 2) := by decide +kernel
theorem dX12_init_223 : decode cX12_init 223 = .ok (.putfield 92, 3) := by decide +kernel
theorem dX12_init_226 : decode cX12_init 226 = .ok (.aload_n 0, 1) := by decide +kernel
theorem dX12_init_227 : decode cX12_init 227 = .ok (.bipush 112, 2) := by decide +kernel
theorem dX12_init_229 : decode cX12_init 229 = .ok (.newarray .int, 2) := by decide +kernel
theorem dX12_init_231 : decode cX12_init 231 = .ok (.putfield 95, 3) := by decide +kernel
theorem dX12_init_234 : decode cX12_init 234 = .ok (.aload_n 0, 1) := by decide +kernel
theorem dX12_init_235 : decode cX12_init 235 = .ok (.bipush 112, 2) := by decide +kernel
theorem dX12_init_237 : decode cX12_init 237 = .ok (.newarray .int, 2) := by decide +kernel
theorem dX12_init_239 : decode cX12_init 239 = .ok (.putfield 98, 3) := by decide +kernel
theorem dX12_init_242 : decode cX12_init 242 = .ok (.aload_n 0, 1) := by decide +kernel
theorem dX12_init_243 : decode cX12_init 243 = .ok (.bipush 112, 2) := by decide +kernel
theorem dX12_init_245 : decode cX12_init 245 = .ok (.newarray .int, 2) := by decide +kernel
theorem dX12_init_247 : decode cX12_init 247 = .ok (.putfield 101, 3) := by decide +kernel
theorem dX12_init_250 : decode cX12_init 250 = .ok (.aload_n 0, 1) := by decide +kernel
theorem dX12_init_251 : decode cX12_init 251 = .ok (.bipush 112, 2) := by decide +kernel
theorem dX12_init_253 : decode cX12_init 253 = .ok (.newarray .int, 2) := by decide +kernel
theorem dX12_init_255 : decode cX12_init 255 = .ok (.putfield 104, 3) := by decide +kernel
theorem dX12_init_258 : decode cX12_init 258 = .ok (.aload_n 0, 1) := by decide +kernel
theorem dX12_init_259 : decode cX12_init 259 = .ok (.bipush 112, 2) := by decide +kernel
theorem dX12_init_261 : decode cX12_init 261 = .ok (.newarray .int, 2) := by decide +kernel
theorem dX12_init_263 : decode cX12_init 263 = .ok (.putfield 107, 3) := by decide +kernel
theorem dX12_init_266 : decode cX12_init 266 = .ok (.aload_n 0, 1) := by decide +kernel
theorem dX12_init_267 : decode cX12_init 267 = .ok (.bipush 7, 2) := by decide +kernel
theorem dX12_init_269 : decode cX12_init 269 = .ok (.newarray .int, 2) := by decide +kernel
theorem dX12_init_271 : decode cX12_init 271 = .ok (.putfield 110, 3) := by decide +kernel
theorem dX12_init_274 : decode cX12_init 274 = .ok (.aload_n 0, 1) := by decide +kernel
theorem dX12_init_275 : decode cX12_init 275 = .ok (.bipush 7, 2) := by decide +kernel
theorem dX12_init_277 : decode cX12_init 277 = .ok (.newarray .int, 2) := by decide +kernel
theorem dX12_init_279 : decode cX12_init 279 = .ok (.putfield 113, 3) := by decide +kernel
theorem dX12_init_282 : decode cX12_init 282 = .ok (.aload_n 0, 1) := by decide +kernel
theorem dX12_init_283 : decode cX12_init 283 = .ok (.bipush 7, 2) := by decide +kernel
theorem dX12_init_285 : decode cX12_init 285 = .ok (.newarray .int, 2) := by decide +kernel
theorem dX12_init_287 : decode cX12_init 287 = .ok (.putfield 116, 3) := by decide +kernel
theorem dX12_init_290 : decode cX12_init 290 = .ok (.aload_n 0, 1) := by decide +kernel
theorem dX12_init_291 : decode cX12_init 291 = .ok (.bipush 7, 2) := by decide +kernel
theorem dX12_init_293 : decode cX12_init 293 = .ok (.newarray .int, 2) := by decide +kernel
theorem dX12_init_295 : decode cX12_init 295 = .ok (.putfield 119, 3) := by decide +kernel
theorem dX12_init_298 : decode cX12_init 298 = .ok (.aload_n 0, 1) := by decide +kernel
theorem dX12_init_299 : decode cX12_init 299 = .ok (.bipush 49, 2) := by decide +kernel
theorem dX12_init_301 : decode cX12_init 301 = .ok (.newarray .int, 2) := by decide +kernel
theorem dX12_init_303 : decode cX12_init 303 = .ok (.putfield 122, 3) := by decide +kernel
theorem dX12_init_306 : decode cX12_init 306 = .ok (.aload_n 0, 1) := by decide +kernel
theorem dX12_init_307 : decode cX12_init 307 = .ok (.bipush 49, 2) := by decide +kernel
theorem dX12_init_309 : decode cX12_init 309 = .ok (.newarray .int, 2) := by decide +kernel
theorem dX12_init_311 : decode cX12_init 311 = .ok (.putfield 125, 3) := by decide +kernel
theorem dX12_init_314 : decode cX12_init 314 = .ok (.aload_n 0, 1) := by decide +kernel
theorem dX12_init_315 : decode cX12_init 315 = .ok (.bipush 49, 2) := by decide +kernel
theorem dX12_init_317 : decode cX12_init 317 = .ok (.newarray .int, 2) := by decide +kernel
theorem dX12_init_319 : decode cX12_init 319 = .ok (.putfield 128, 3) := by decide +kernel
theorem dX12_init_322 : decode cX12_init 322 = .ok (.aload_n 0, 1) := by decide +kernel
theorem dX12_init_323 : decode cX12_init 323 = .ok (.bipush 49, 2) := by decide +kernel
theorem dX12_init_325 : decode cX12_init 325 = .ok (.newarray .int, 2) := by decide +kernel
theorem dX12_init_327 : decode cX12_init 327 = .ok (.putfield 131, 3) := by decide +kernel
theorem dX12_init_330 : decode cX12_init 330 = .ok (.aload_n 0, 1) := by decide +kernel
theorem dX12_init_331 : decode cX12_init 331 = .ok (.sipush 4900, 3) := by decide +kernel
theorem dX12_init_334 : decode cX12_init 334 = .ok (.newarray .boolean, 2) := by decide +kernel
theorem dX12_init_336 : decode cX12_init 336 = .ok (.putfield 134, 3) := by decide +kernel
theorem dX12_init_339 : decode cX12_init 339 = .ok (.aload_n 0, 1) := by decide +kernel
theorem dX12_init_340 : decode cX12_init 340 = .ok (.sipush 4900, 3) := by decide +kernel
theorem dX12_init_343 : decode cX12_init 343 = .ok (.newarray .int, 2) := by decide +kernel
theorem dX12_init_345 : decode cX12_init 345 = .ok (.putfield 137, 3) := by decide +kernel
theorem dX12_init_348 : decode cX12_init 348 = .ok (.aload_n 0, 1) := by decide +kernel
theorem dX12_init_349 : decode cX12_init 349 = .ok (.sipush 4900, 3) := by decide +kernel
theorem dX12_init_352 : decode cX12_init 352 = .ok (.newarray .int, 2) := by decide +kernel
theorem dX12_init_354 : decode cX12_init 354 = .ok (.putfield 140, 3) := by decide +kernel
theorem dX12_init_357 : decode cX12_init 357 = .ok (.aload_n 0, 1) := by decide +kernel
theorem dX12_init_358 : decode cX12_init 358 = .ok (.sipush 4900, 3) := by decide +kernel
theorem dX12_init_361 : decode cX12_init 361 = .ok (.newarray .int, 2) := by decide +kernel
theorem dX12_init_363 : decode cX12_init 363 = .ok (.putfield 143, 3) := by decide +kernel
theorem dX12_init_366 : decode cX12_init 366 = .ok (.aload_n 0, 1) := by decide +kernel
theorem dX12_init_367 : decode cX12_init 367 = .ok (.sipush 4900, 3) := by decide +kernel
theorem dX12_init_370 : decode cX12_init 370 = .ok (.newarray .int, 2) := by decide +kernel
theorem dX12_init_372 : decode cX12_init 372 = .ok (.putfield 146, 3) := by decide +kernel
theorem dX12_init_375 : decode cX12_init 375 = .ok (.aload_n 0, 1) := by decide +kernel
theorem dX12_init_376 : decode cX12_init 376 = .ok (.sipush 4900, 3) := by decide +kernel
theorem dX12_init_379 : decode cX12_init 379 = .ok (.newarray .int, 2) := by decide +kernel
theorem dX12_init_381 : decode cX12_init 381 = .ok (.putfield 149, 3) := by decide +kernel
theorem dX12_init_384 : decode cX12_init 384 = .ok (.aload_n 0, 1) := by decide +kernel
theorem dX12_init_385 : decode cX12_init 385 = .ok (.bipush 7, 2) := by decide +kernel
theorem dX12_init_387 : decode cX12_init 387 = .ok (.newarray .int, 2) := by decide +kernel
theorem dX12_init_389 : decode cX12_init 389 = .ok (.putfield 152, 3) := by decide +kernel
theorem dX12_init_392 : decode cX12_init 392 = .ok (.aload_n 0, 1) := by decide +kernel
theorem dX12_init_393 : decode cX12_init 393 = .ok (.bipush 7, 2) := by decide +kernel
theorem dX12_init_395 : decode cX12_init 395 = .ok (.newarray .int, 2) := by decide +kernel
theorem dX12_init_397 : decode cX12_init 397 = .ok (.putfield 155, 3) := by decide +kernel
theorem dX12_init_400 : decode cX12_init 400 = .ok (.aload_n 0, 1) := by decide +kernel
theorem dX12_init_401 : decode cX12_init 401 = .ok (.bipush 7, 2) := by decide +kernel
theorem dX12_init_403 : decode cX12_init 403 = .ok (.newarray .int, 2) := by decide +kernel
theorem dX12_init_405 : decode cX12_init 405 = .ok (.putfield 158, 3) := by decide +kernel
theorem dX12_init_408 : decode cX12_init 408 = .ok (.aload_n 0, 1) := by decide +kernel
theorem dX12_init_409 : decode cX12_init 409 = .ok (.bipush 7, 2) := by decide +kernel
theorem dX12_init_411 : decode cX12_init 411 = .ok (.newarray .int, 2) := by decide +kernel
theorem dX12_init_413 : decode cX12_init 413 = .ok (.putfield 161, 3) := by decide +kernel
theorem dX12_init_416 : decode cX12_init 416 = .ok (.aload_n 0, 1) := by decide +kernel
theorem dX12_init_417 : decode cX12_init 417 = .ok (.bipush 7, 2) := by decide +kernel
theorem dX12_init_419 : decode cX12_init 419 = .ok (.newarray .int, 2) := by decide +kernel
theorem dX12_init_421 : decode cX12_init 421 = .ok (.putfield 164, 3) := by decide +kernel
theorem dX12_init_424 : decode cX12_init 424 = .ok (.aload_n 0, 1) := by decide +kernel
theorem dX12_init_425 : decode cX12_init 425 = .ok (.bipush 8, 2) := by decide +kernel
theorem dX12_init_427 : decode cX12_init 427 = .ok (.newarray .int, 2) := by decide +kernel
theorem dX12_init_429 : decode cX12_init 429 = .ok (.putfield 167, 3) := by decide +kernel
theorem dX12_init_432 : decode cX12_init 432 = .ok (.aload_n 0, 1) := by decide +kernel
theorem dX12_init_433 : decode cX12_init 433 = .ok (.iconst 4, 1) := by decide +kernel
theorem dX12_init_434 : decode cX12_init 434 = .ok (.newarray .int, 2) := by decide +kernel
theorem dX12_init_436 : decode cX12_init 436 = .ok (.putfield 170, 3) := by decide +kernel
theorem dX12_init_439 : decode cX12_init 439 = .ok (.aload_n 0, 1) := by decide +kernel
theorem dX12_init_440 : decode cX12_init 440 = .ok (.iconst 4, 1) := by decide +kernel
theorem dX12_init_441 : decode cX12_init 441 = .ok (.newarray .int, 2) := by decide +kernel
theorem dX12_init_443 : decode cX12_init 443 = .ok (.putfield 173, 3) := by decide +kernel
theorem dX12_init_446 : decode cX12_init 446 = .ok (.aload_n 0, 1) := by decide +kernel
theorem dX12_init_447 : decode cX12_init 447 = .ok (.iconst 4, 1) := by decide +kernel
theorem dX12_init_448 : decode cX12_init 448 = .ok (.newarray .int, 2) := by decide +kernel
theorem dX12_init_450 : decode cX12_init 450 = .ok (.putfield 176, 3) := by decide +kernel
theorem dX12_init_453 : decode cX12_init 453 = .ok (.aload_n 0, 1) := by decide +kernel
theorem dX12_init_454 : decode cX12_init 454 = .ok (.iconst 4, 1) := by decide +kernel
theorem dX12_init_455 : decode cX12_init 455 = .ok (.newarray .boolean, 2) := by decide +kernel
theorem dX12_init_457 : decode cX12_init 457 = .ok (.putfield 179, 3) := by decide +kernel
theorem dX12_init_460 : decode cX12_init 460 = .ok (.aload_n 0, 1) := by decide +kernel
theorem dX12_init_461 : decode cX12_init 461 = .ok (.iconst 4, 1) := by decide +kernel
theorem dX12_init_462 : decode cX12_init 462 = .ok (.newarray .int, 2) := by decide +kernel
theorem dX12_init_464 : decode cX12_init 464 = .ok (.putfield 182, 3) := by decide +kernel
theorem dX12_init_467 : decode cX12_init 467 = .ok (.aload_n 0, 1) := by decide +kernel
theorem dX12_init_468 : decode cX12_init 468 = .ok (.iconst 4, 1) := by decide +kernel
theorem dX12_init_469 : decode cX12_init 469 = .ok (.newarray .int, 2) := by decide +kernel
theorem dX12_init_471 : decode cX12_init 471 = .ok (.putfield 185, 3) := by decide +kernel
theorem dX12_init_474 : decode cX12_init 474 = .ok (.aload_n 0, 1) := by decide +kernel
theorem dX12_init_475 : decode cX12_init 475 = .ok (.iconst 4, 1) := by decide +kernel
theorem dX12_init_476 : decode cX12_init 476 = .ok (.newarray .int, 2) := by decide +kernel
theorem dX12_init_478 : decode cX12_init 478 = .ok (.putfield 188, 3) := by decide +kernel
theorem dX12_init_481 : decode cX12_init 481 = .ok (.aload_n 0, 1) := by decide +kernel
theorem dX12_init_482 : decode cX12_init 482 = .ok (.iconst 4, 1) := by decide +kernel
theorem dX12_init_483 : decode cX12_init 483 = .ok (.newarray .int, 2) := by decide +kernel
theorem dX12_init_485 : decode cX12_init 485 = .ok (.putfield 191, 3) := by decide +kernel
theorem dX12_init_488 : decode cX12_init 488 = .ok (.aload_n 0, 1) := by decide +kernel
theorem dX12_init_489 : decode cX12_init 489 = .ok (.iconst 4, 1) := by decide +kernel
theorem dX12_init_490 : decode cX12_init 490 = .ok (.newarray .int, 2) := by decide +kernel
theorem dX12_init_492 : decode cX12_init 492 = .ok (.putfield 194, 3) := by decide +kernel
theorem dX12_init_495 : decode cX12_init 495 = .ok (.aload_n 0, 1) := by decide +kernel
theorem dX12_init_496 : decode cX12_init 496 = .ok (.iconst 4, 1) := by decide +kernel
theorem dX12_init_497 : decode cX12_init 497 = .ok (.newarray .int, 2) := by decide +kernel
theorem dX12_init_499 : decode cX12_init 499 = .ok (.putfield 197, 3) := by decide +kernel
theorem dX12_init_502 : decode cX12_init 502 = .ok (.aload_n 0, 1) := by decide +kernel
theorem dX12_init_503 : decode cX12_init 503 = .ok (.iconst 4, 1) := by decide +kernel
theorem dX12_init_504 : decode cX12_init 504 = .ok (.newarray .int, 2) := by decide +kernel
theorem dX12_init_506 : decode cX12_init 506 = .ok (.putfield 200, 3) := by decide +kernel
theorem dX12_init_509 : decode cX12_init 509 = .ok (.aload_n 0, 1) := by decide +kernel
theorem dX12_init_510 : decode cX12_init 510 = .ok (.iconst 4, 1) := by decide +kernel
theorem dX12_init_511 : decode cX12_init 511 = .ok (.newarray .int, 2) := by decide +kernel
theorem dX12_init_513 : decode cX12_init 513 = .ok (.putfield 203, 3) := by decide +kernel
theorem dX12_init_516 : decode cX12_init 516 = .ok (.aload_n 0, 1) := by decide +kernel
theorem dX12_init_517 : decode cX12_init 517 = .ok (.iconst 4, 1) := by decide +kernel
theorem dX12_init_518 : decode cX12_init 518 = .ok (.newarray .int, 2) := by decide +kernel
theorem dX12_init_520 : decode cX12_init 520 = .ok (.putfield 206, 3) := by decide +kernel
theorem dX12_init_523 : decode cX12_init 523 = .ok (.aload_n 0, 1) := by decide +kernel
theorem dX12_init_524 : decode cX12_init 524 = .ok (.sipush 256, 3) := by decide +kernel
theorem dX12_init_527 : decode cX12_init 527 = .ok (.newarray .int, 2) := by decide +kernel
theorem dX12_init_529 : decode cX12_init 529 = .ok (.putfield 209, 3) := by decide +kernel
theorem dX12_init_532 : decode cX12_init 532 = .ok (.aload_n 0, 1) := by decide +kernel
theorem dX12_init_533 : decode cX12_init 533 = .ok (.sipush 256, 3) := by decide +kernel
theorem dX12_init_536 : decode cX12_init 536 = .ok (.newarray .int, 2) := by decide +kernel
theorem dX12_init_538 : decode cX12_init 538 = .ok (.putfield 212, 3) := by decide +kernel
theorem dX12_init_541 : decode cX12_init 541 = .ok (.aload_n 0, 1) := by decide +kernel
theorem dX12_init_542 : decode cX12_init 542 = .ok (.sipush 256, 3) := by decide +kernel
theorem dX12_init_545 : decode cX12_init 545 = .ok (.newarray .int, 2) := by decide +kernel
theorem dX12_init_547 : decode cX12_init 547 = .ok (.putfield 215, 3) := by decide +kernel
theorem dX12_init_550 : decode cX12_init 550 = .ok (.aload_n 0, 1) := by decide +kernel
theorem dX12_init_551 : decode cX12_init 551 = .ok (.sipush 256, 3) := by decide +kernel
theorem dX12_init_554 : decode cX12_init 554 = .ok (.newarray .int, 2) := by decide +kernel
theorem dX12_init_556 : decode cX12_init 556 = .ok (.putfield 218, 3) := by decide +kernel
theorem dX12_init_559 : decode cX12_init 559 = .ok (.aload_n 0, 1) := by decide +kernel
theorem dX12_init_560 : decode cX12_init 560 = .ok (.sipush 256, 3) := by decide +kernel
theorem dX12_init_563 : decode cX12_init 563 = .ok (.newarray .int, 2) := by decide +kernel
theorem dX12_init_565 : decode cX12_init 565 = .ok (.putfield 221, 3) := by decide +kernel
theorem dX12_init_568 : decode cX12_init 568 = .ok (.aload_n 0, 1) := by decide +kernel
theorem dX12_init_569 : decode cX12_init 569 = .ok (.sipush 200, 3) := by decide +kernel
theorem dX12_init_572 : decode cX12_init 572 = .ok (.newarray .int, 2) := by decide +kernel
theorem dX12_init_574 : decode cX12_init 574 = .ok (.putfield 224, 3) := by decide +kernel
theorem dX12_init_577 : decode cX12_init 577 = .ok (.aload_n 0, 1) := by decide +kernel
theorem dX12_init_578 : decode cX12_init 578 = .ok (.sipush 200, 3) := by decide +kernel
theorem dX12_init_581 : decode cX12_init 581 = .ok (.newarray .int, 2) := by decide +kernel
theorem dX12_init_583 : decode cX12_init 583 = .ok (.putfield 227, 3) := by decide +kernel
theorem dX12_init_586 : decode cX12_init 586 = .ok (.aload_n 0, 1) := by decide +kernel
theorem dX12_init_587 : decode cX12_init 587 = .ok (.sipush 200, 3) := by decide +kernel
theorem dX12_init_590 : decode cX12_init 590 = .ok (.newarray .int, 2) := by decide +kernel
theorem dX12_init_592 : decode cX12_init 592 = .ok (.putfield 230, 3) := by decide +kernel
theorem dX12_init_595 : decode cX12_init 595 = .ok (.aload_n 0, 1) := by decide +kernel
theorem dX12_init_596 : decode cX12_init 596 = .ok (.sipush 200, 3) := by decide +kernel
theorem dX12_init_599 : decode cX12_init 599 = .ok (.newarray .int, 2) := by decide +kernel
theorem dX12_init_601 : decode cX12_init 601 = .ok (.putfield 233, 3) := by decide +kernel
theorem dX12_init_604 : decode cX12_init 604 = .ok (.aload_n 0, 1) := by decide +kernel
theorem dX12_init_605 : decode cX12_init 605 = .ok (.sipush 200, 3) := by decide +kernel
theorem dX12_init_608 : decode cX12_init 608 = .ok (.newarray .int, 2) := by decide +kernel
theorem dX12_init_610 : decode cX12_init 610 = .ok (.putfield 236, 3) := by decide +kernel
theorem dX12_init_613 : decode cX12_init 613 = .ok (.aload_n 0, 1) := by decide +kernel
theorem dX12_init_614 : decode cX12_init 614 = .ok (.sipush 200, 3) := by decide +kernel
theorem dX12_init_617 : decode cX12_init 617 = .ok (.newarray .int, 2) := by decide +kernel
theorem dX12_init_619 : decode cX12_init 619 = .ok (.putfield 239, 3) := by decide +kernel
theorem dX12_init_622 : decode cX12_init 622 = .ok (.aload_n 0, 1) := by decide +kernel
theorem dX12_init_623 : decode cX12_init 623 = .ok (.sipush 2560, 3) := by decide +kernel
theorem dX12_init_626 : decode cX12_init 626 = .ok (.newarray .int, 2) := by decide +kernel
theorem dX12_init_628 : decode cX12_init 628 = .ok (.putfield 242, 3) := by decide +kernel
theorem dX12_init_631 : decode cX12_init 631 = .ok (.aload_n 0, 1) := by decide +kernel
theorem dX12_init_632 : decode cX12_init 632 = .ok (.sipush 1500, 3) := by decide +kernel
theorem dX12_init_635 : decode cX12_init 635 = .ok (.newarray .int, 2) := by decide +kernel
theorem dX12_init_637 : decode cX12_init 637 = .ok (.putfield 245, 3) := by decide +kernel
theorem dX12_init_640 : decode cX12_init 640 = .ok (.aload_n 0, 1) := by decide +kernel
theorem dX12_init_641 : decode cX12_init 641 = .ok (.sipush 640, 3) := by decide +kernel
theorem dX12_init_644 : decode cX12_init 644 = .ok (.newarray .int, 2) := by decide +kernel
theorem dX12_init_646 : decode cX12_init 646 = .ok (.putfield 248, 3) := by decide +kernel
theorem dX12_init_649 : decode cX12_init 649 = .ok (.aload_n 0, 1) := by decide +kernel
theorem dX12_init_650 : decode cX12_init 650 = .ok (.iconst (-1), 1) := by decide +kernel
theorem dX12_init_651 : decode cX12_init 651 = .ok (.putfield 251, 3) := by decide +kernel
theorem dX12_init_654 : decode cX12_init 654 = .ok (.aload_n 0, 1) := by decide +kernel
theorem dX12_init_655 : decode cX12_init 655 = .ok (.iconst 3, 1) := by decide +kernel
theorem dX12_init_656 : decode cX12_init 656 = .ok (.iconst 2, 1) := by decide +kernel
theorem dX12_init_657 : decode cX12_init 657 = .ok (.iload_n 1, 1) := by decide +kernel
theorem dX12_init_658 : decode cX12_init 658 = .ok (.iconst 3, 1) := by decide +kernel
theorem dX12_init_659 : decode cX12_init 659 = .ok (.invokestatic 254, 3) := by decide +kernel
theorem dX12_init_662 : decode cX12_init 662 = .ok (.imul, 1) := by decide +kernel
theorem dX12_init_663 : decode cX12_init 663 = .ok (.iadd, 1) := by decide +kernel
theorem dX12_init_664 : decode cX12_init 664 = .ok (.putfield 258, 3) := by decide +kernel
theorem dX12_init_667 : decode cX12_init 667 = .ok (.aload_n 0, 1) := by decide +kernel
theorem dX12_init_668 : decode cX12_init 668 = .ok (.aload_n 0, 1) := by decide +kernel
theorem dX12_init_669 : decode cX12_init 669 = .ok (.getfield 258, 3) := by decide +kernel
theorem dX12_init_672 : decode cX12_init 672 = .ok (.iconst 2, 1) := by decide +kernel
theorem dX12_init_673 : decode cX12_init 673 = .ok (.idiv, 1) := by decide +kernel
theorem dX12_init_674 : decode cX12_init 674 = .ok (.putfield 261, 3) := by decide +kernel
theorem dX12_init_677 : decode cX12_init 677 = .ok (.aload_n 0, 1) := by decide +kernel
theorem dX12_init_678 : decode cX12_init 678 = .ok (.iconst 3, 1) := by decide +kernel
theorem dX12_init_679 : decode cX12_init 679 = .ok (.iload_n 2, 1) := by decide +kernel
theorem dX12_init_680 : decode cX12_init 680 = .ok (.bipush 6, 2) := by decide +kernel
theorem dX12_init_682 : decode cX12_init 682 = .ok (.invokestatic 254, 3) := by decide +kernel
theorem dX12_init_685 : decode cX12_init 685 = .ok (.iadd, 1) := by decide +kernel
theorem dX12_init_686 : decode cX12_init 686 = .ok (.putfield 264, 3) := by decide +kernel
theorem dX12_init_689 : decode cX12_init 689 = .ok (.iconst 0, 1) := by decide +kernel
theorem dX12_init_690 : decode cX12_init 690 = .ok (.istore_n 3, 1) := by decide +kernel
theorem dX12_init_691 : decode cX12_init 691 = .ok (.iload_n 3, 1) := by decide +kernel
theorem dX12_init_692 : decode cX12_init 692 = .ok (.bipush 7, 2) := by decide +kernel
theorem dX12_init_694 : decode cX12_init 694 = .ok (.if_icmp .ge 23, 3) := by decide +kernel
theorem dX12_init_697 : decode cX12_init 697 = .ok (.aload_n 0, 1) := by decide +kernel
theorem dX12_init_698 : decode cX12_init 698 = .ok (.getfield 47, 3) := by decide +kernel
theorem dX12_init_701 : decode cX12_init 701 = .ok (.iload_n 3, 1) := by decide +kernel
theorem dX12_init_702 : decode cX12_init 702 = .ok (.iconst 1, 1) := by decide +kernel
theorem dX12_init_703 : decode cX12_init 703 = .ok (.iastore, 1) := by decide +kernel
theorem dX12_init_704 : decode cX12_init 704 = .ok (.aload_n 0, 1) := by decide +kernel
theorem dX12_init_705 : decode cX12_init 705 = .ok (.getfield 56, 3) := by decide +kernel
theorem dX12_init_708 : decode cX12_init 708 = .ok (.iload_n 3, 1) := by decide +kernel
theorem dX12_init_709 : decode cX12_init 709 = .ok (.iconst 1, 1) := by decide +kernel
theorem dX12_init_710 : decode cX12_init 710 = .ok (.iastore, 1) := by decide +kernel
theorem dX12_init_711 : decode cX12_init 711 = .ok (.iinc 3 1, 3) := by decide +kernel
theorem dX12_init_714 : decode cX12_init 714 = .ok (.goto (-23), 3) := by decide +kernel
theorem dX12_init_717 : decode cX12_init 717 = .ok (.return_, 1) := by decide +kernel
abbrev rm_X12_init : Room := { frames := 1, cells := 77, slots := 171928, locals := 22 }
def f_X12_init_691 (a0 : Nat)  (Q : Sto → Prop) (L691 : Int32 × Nat × Nat → Sto → Prop) (t : Int32 × Nat × Nat) (σ : Sto) : Prop := (((7 : Int32) ≤ t.1 → ((t.2.1 ≤ 77 ∧ t.2.2 ≤ 171928) ∧ Q σ)) ∧ (¬ (7 : Int32) ≤ t.1 → (sK σ a0 = 12 ∧ (∃ b3 : Nat, sP σ a0 22 = some b3 ∧ (sK σ b3 = 14 ∧ (vp_in t.1 (sN σ b3) ∧ (∃ b7 : Nat, sP σ a0 25 = some b7 ∧ (sK σ b7 = 14 ∧ (vp_in t.1 (sN σ b7) ∧ (∀ x11 : Int32, x11 = t.1 + (1 : Int32) → L691 (x11, t.2.1, t.2.2) (stI (stI σ b3 t.1.toNatClampNeg (1 : Int32)) b7 t.1.toNatClampNeg (1 : Int32))))))))))))
set_option maxHeartbeats 4000000 in
set_option maxRecDepth 100000 in
theorem t_X12_init_691 {p : Program} {l : Launch} {e : Env} {s : State} {m : MethodId} {args : Array Value} {below : List Frame} {meth : Method} {c : Code} {D : va_G} {cy : Nat → ClassId} {A : Nat → Prop} {a0 : Nat} {Q : Sto → Prop} {L691 : Int32 × Nat × Nat → Sto → Prop} (C : Cx p s m args meth c D cy A cX12_init 4 RX12) (hr : meth.sig.returnType = none) (hnm : meth.name = yX12_init.name) (hL691 : ∀ (t : Int32 × Nat × Nat) (σ : Sto), L691 t σ → ∀ ls : Array Slot, lv_has ls 4 [(0, .ref a0), (3, .int t.1)] → Xw p l e rm_X12_init s m args below meth c D cy A σ t.2.1 t.2.2 (MQ below (Qst D cy A (PsV Q)) args s rm_X12_init.cells rm_X12_init.slots A) (F0 m 691 ls [])) : ∀ (t : Int32 × Nat × Nat) (σ : Sto), f_X12_init_691 a0  Q L691 t σ → ∀ ls : Array Slot, lv_has ls 4 [(0, .ref a0), (3, .int t.1)] → Xw p l e rm_X12_init s m args below meth c D cy A σ t.2.1 t.2.2 (MQ below (Qst D cy A (PsV Q)) args s rm_X12_init.cells rm_X12_init.slots A) (F0 m 691 ls []) := by
  intro t σ h ls hl
  unfold f_X12_init_691 at h
  refine x_iload_n C dX12_init_691 rfl (lv_at hl 1 rfl) ?_
  refine x_bipush (v := 7) C dX12_init_692 (by decide) ?_
  refine x_icmp_ge (tgt := 717) C dX12_init_694 (by decide) (fun c1 => ?_) (fun c1 => ?_)
  · have h := h.1 c1
    refine x_widen h.1.1 h.1.2 ?_
    exact x_vret C hr dX12_init_717 ⟨rfl, h.2⟩
  · have h := h.2 c1
    refine x_aload_n C dX12_init_697 rfl (lv_at hl 0 rfl) ?_
    obtain ⟨g2, h⟩ := h
    refine x_getP C fl_RX12_47 g2 dX12_init_698 ?_
    refine x_iload_n C dX12_init_701 rfl (lv_at hl 1 rfl) ?_
    refine x_iconst (v := 1) C dX12_init_702 (by decide) ?_
    obtain ⟨b3, g4, h⟩ := h
    refine x_nn2 g4 ?_
    obtain ⟨g5, h⟩ := h
    obtain ⟨g6, h⟩ := h
    refine x_iast C g5 g6 dX12_init_703 ?_
    refine x_aload_n C dX12_init_704 rfl (lv_at hl 0 rfl) ?_
    refine x_getP C fl_RX12_56 g2 dX12_init_705 ?_
    refine x_iload_n C dX12_init_708 rfl (lv_at hl 1 rfl) ?_
    refine x_iconst (v := 1) C dX12_init_709 (by decide) ?_
    obtain ⟨b7, g8, h⟩ := h
    refine x_nn2 g8 ?_
    obtain ⟨g9, h⟩ := h
    obtain ⟨g10, h⟩ := h
    refine x_iast C g9 g10 dX12_init_710 ?_
    obtain ⟨x11, e12⟩ : ∃ z : Int32, z = t.1 + (1 : Int32) := ⟨_, rfl⟩
    have h := h x11 e12
    refine x_iinc (v := x11) (lv' := [(3, .int x11), (0, .ref a0)]) C dX12_init_711 hl (q0 := 1) rfl (by rw [e12]; rfl) (by decide) (by first | rfl | simp [vrc, cat_i, cat_r, cat_l]) (fun ls hl => ?_)
    refine x_goto (tgt := 691) C dX12_init_714 (by decide) ?_
    exact hL691 (x11, t.2.1, t.2.2) _ h ls (lv_sub hl [1, 0] rfl)
def b_X12_init_689 (a0 : Nat)  (Q : Sto → Prop) (kc : Nat) (nc : Nat) (σ : Sto) : Prop := LF (f_X12_init_691 a0  Q) ((0 : Int32), kc, nc) σ
set_option maxHeartbeats 4000000 in
set_option maxRecDepth 100000 in
theorem t_X12_init_689 {p : Program} {l : Launch} {e : Env} {s : State} {m : MethodId} {args : Array Value} {below : List Frame} {meth : Method} {c : Code} {D : va_G} {cy : Nat → ClassId} {A : Nat → Prop} {a0 : Nat} {Q : Sto → Prop} (C : Cx p s m args meth c D cy A cX12_init 4 RX12) (hr : meth.sig.returnType = none) (hnm : meth.name = yX12_init.name) (kc : Nat) (nc : Nat) (σ : Sto) (h : b_X12_init_689 a0  Q kc nc σ) (ls : Array Slot) (hl : lv_has ls 4 [(0, .ref a0)]) : Xw p l e rm_X12_init s m args below meth c D cy A σ kc nc (MQ below (Qst D cy A (PsV Q)) args s rm_X12_init.cells rm_X12_init.slots A) (F0 m 689 ls []) := by
  unfold b_X12_init_689 at h
  refine x_iconst (v := 0) C dX12_init_689 (by decide) ?_
  refine x_istore_n (i := 3) (lv' := [(3, .int (0 : Int32)), (0, .ref a0)]) C dX12_init_690 rfl hl (by decide) (by first | rfl | simp [vrc, cat_i, cat_r, cat_l]) (fun ls hl => ?_)
  exact h (fun t σ => ∀ ls : Array Slot, lv_has ls 4 [(0, .ref a0), (3, .int t.1)] → Xw p l e rm_X12_init s m args below meth c D cy A σ t.2.1 t.2.2 (MQ below (Qst D cy A (PsV Q)) args s rm_X12_init.cells rm_X12_init.slots A) (F0 m 691 ls [])) (t_X12_init_691 C hr hnm  (fun t σ h => h)) ls (lv_sub hl [1, 0] rfl)
def b_X12_init_640 (a0 : Nat)  (Q : Sto → Prop) (p1 : Int32) (p2 : Int32) (kc : Nat) (nc : Nat) (σ : Sto) : Prop := (kc + 1 ≤ 77 ∧ nc + 640 ≤ 171928 ∧ (∀ q3 : Nat, ¬ sK σ q3 < 23 → ∀ σ5 : Sto, σ5 = stN σ q3 14 640 → (sK σ5 a0 = 12 ∧ (((kc + 1) ≤ 77 ∧ (nc + 640) ≤ 171928) ∧ (wp_X12_modulo p1 (3 : Int32) (stI (stP σ5 a0 92 (some q3)) a0 96 (-1 : Int32)) (fun (x10 : Int32) (σ9 : Sto) => (∀ x11 : Int32, x11 = (3 : Int32) + ((2 : Int32) * x10) → (sK σ9 a0 = 12 ∧ (∀ x14 : Int32, x14 = sI (stI σ9 a0 1 x11) a0 1 → (∀ x17 : Int32, x17 = x14 / (2 : Int32) → (((kc + 1) ≤ 77 ∧ (nc + 640) ≤ 171928) ∧ (wp_X12_modulo p2 (6 : Int32) (stI (stI σ9 a0 1 x11) a0 2 x17) (fun (x21 : Int32) (σ20 : Sto) => (∀ x22 : Int32, x22 = (3 : Int32) + x21 → (sK σ20 a0 = 12 ∧ b_X12_init_689 a0  Q ((kc + 1)) ((nc + 640)) (stI σ20 a0 3 x22))))))))))))))))
set_option maxHeartbeats 4000000 in
set_option maxRecDepth 100000 in
theorem t_X12_init_640 {p : Program} {l : Launch} {e : Env} {s : State} {m : MethodId} {args : Array Value} {below : List Frame} {meth : Method} {c : Code} {D : va_G} {cy : Nat → ClassId} {A : Nat → Prop} {a0 : Nat} {Q : Sto → Prop} (C : Cx p s m args meth c D cy A cX12_init 4 RX12) (hr : meth.sig.returnType = none) (hnm : meth.name = yX12_init.name) (p1 : Int32) (p2 : Int32) (kc : Nat) (nc : Nat) (σ : Sto) (h : b_X12_init_640 a0  Q p1 p2 kc nc σ) (ls : Array Slot) (hl : lv_has ls 4 [(0, .ref a0), (1, .int p1), (2, .int p2)]) : Xw p l e rm_X12_init s m args below meth c D cy A σ kc nc (MQ below (Qst D cy A (PsV Q)) args s rm_X12_init.cells rm_X12_init.slots A) (F0 m 640 ls []) := by
  unfold b_X12_init_640 at h
  refine x_aload_n C dX12_init_640 rfl (lv_at hl 0 rfl) ?_
  refine x_sipush (v := 640) C dX12_init_641 (by decide) ?_
  obtain ⟨g1, g2, h⟩ := h
  refine x_newa C nak_14 (by decide) (by decide) (by decide) g1 g2 dX12_init_644 (fun q3 g4 => ?_)
  refine x_nameS (fun σ5 e6 => ?_)
  have h := h q3 g4 σ5 e6
  obtain ⟨g7, h⟩ := h
  refine x_putR C fl_RX12_248 (rty_a _) (Or.inr ⟨hnm, _, _, _, rfl, rfl⟩) g7 dX12_init_646 ?_
  refine x_aload_n C dX12_init_649 rfl (lv_at hl 0 rfl) ?_
  refine x_iconst (v := -1) C dX12_init_650 (by decide) ?_
  refine x_putI C fl_RX12_251 (Or.inl rfl) g7 dX12_init_651 ?_
  refine x_aload_n C dX12_init_654 rfl (lv_at hl 0 rfl) ?_
  refine x_iconst (v := 3) C dX12_init_655 (by decide) ?_
  refine x_iconst (v := 2) C dX12_init_656 (by decide) ?_
  refine x_iload_n C dX12_init_657 rfl (lv_at hl 1 rfl) ?_
  refine x_iconst (v := 3) C dX12_init_658 (by decide) ?_
  obtain ⟨g8, h⟩ := h
  refine x_callS (rm := rm_X12_modulo) (rest := [.int (2 : Int32), .int (3 : Int32), .ref a0]) (As := [.int p1, .int (3 : Int32)]) C cs_RX12_254 (by decide) g8 rfl rfl (Nat.le_of_ble_eq_true rfl) hl.1 dX12_init_659 (c_X12_modulo l D cy p1 (3 : Int32) (stI (stP σ5 a0 92 (some q3)) a0 96 (-1 : Int32)) _ h) (ks_i (fun x10 σ9 h => ?_))
  refine x_imul C dX12_init_662 ?_
  refine x_iadd C dX12_init_663 ?_
  refine x_topi (fun x11 e12 => ?_)
  have h := h x11 e12
  obtain ⟨g13, h⟩ := h
  refine x_putI C fl_RX12_258 (Or.inl rfl) g13 dX12_init_664 ?_
  refine x_aload_n C dX12_init_667 rfl (lv_at hl 0 rfl) ?_
  refine x_aload_n C dX12_init_668 rfl (lv_at hl 0 rfl) ?_
  refine x_getI C fl_RX12_258 g13 dX12_init_669 ?_
  refine x_topi (fun x14 e15 => ?_)
  have h := h x14 e15
  refine x_iconst (v := 2) C dX12_init_672 (by decide) ?_
  refine x_idiv C dX12_init_673 (by decide) ?_
  refine x_topi (fun x17 e18 => ?_)
  have h := h x17 e18
  refine x_putI C fl_RX12_261 (Or.inl rfl) g13 dX12_init_674 ?_
  refine x_aload_n C dX12_init_677 rfl (lv_at hl 0 rfl) ?_
  refine x_iconst (v := 3) C dX12_init_678 (by decide) ?_
  refine x_iload_n C dX12_init_679 rfl (lv_at hl 2 rfl) ?_
  refine x_bipush (v := 6) C dX12_init_680 (by decide) ?_
  obtain ⟨g19, h⟩ := h
  refine x_callS (rm := rm_X12_modulo) (rest := [.int (3 : Int32), .ref a0]) (As := [.int p2, .int (6 : Int32)]) C cs_RX12_254 (by decide) g19 rfl rfl (Nat.le_of_ble_eq_true rfl) hl.1 dX12_init_682 (c_X12_modulo l D cy p2 (6 : Int32) (stI (stI σ9 a0 1 x11) a0 2 x17) _ h) (ks_i (fun x21 σ20 h => ?_))
  refine x_iadd C dX12_init_685 ?_
  refine x_topi (fun x22 e23 => ?_)
  have h := h x22 e23
  obtain ⟨g24, h⟩ := h
  refine x_putI C fl_RX12_264 (Or.inl rfl) g24 dX12_init_686 ?_
  exact t_X12_init_689 C hr hnm  ((kc + 1)) ((nc + 640)) _ h ls (lv_sub hl [0] rfl)
def b_X12_init_577 (a0 : Nat)  (Q : Sto → Prop) (p1 : Int32) (p2 : Int32) (kc : Nat) (nc : Nat) (σ : Sto) : Prop := (kc + 1 ≤ 77 ∧ nc + 200 ≤ 171928 ∧ (∀ q3 : Nat, ¬ sK σ q3 < 23 → ∀ σ5 : Sto, σ5 = stN σ q3 14 200 → (sK σ5 a0 = 12 ∧ ((kc + 1) + 1 ≤ 77 ∧ (nc + 200) + 200 ≤ 171928 ∧ (∀ q10 : Nat, ¬ sK σ5 q10 < 23 → ∀ σ12 : Sto, σ12 = stN (stP σ5 a0 83 (some q3)) q10 14 200 → (sK σ12 a0 = 12 ∧ (((kc + 1) + 1) + 1 ≤ 77 ∧ ((nc + 200) + 200) + 200 ≤ 171928 ∧ (∀ q17 : Nat, ¬ sK σ12 q17 < 23 → ∀ σ19 : Sto, σ19 = stN (stP σ12 a0 84 (some q10)) q17 14 200 → (sK σ19 a0 = 12 ∧ ((((kc + 1) + 1) + 1) + 1 ≤ 77 ∧ (((nc + 200) + 200) + 200) + 200 ≤ 171928 ∧ (∀ q24 : Nat, ¬ sK σ19 q24 < 23 → ∀ σ26 : Sto, σ26 = stN (stP σ19 a0 85 (some q17)) q24 14 200 → (sK σ26 a0 = 12 ∧ (((((kc + 1) + 1) + 1) + 1) + 1 ≤ 77 ∧ ((((nc + 200) + 200) + 200) + 200) + 200 ≤ 171928 ∧ (∀ q31 : Nat, ¬ sK σ26 q31 < 23 → ∀ σ33 : Sto, σ33 = stN (stP σ26 a0 86 (some q24)) q31 14 200 → (sK σ33 a0 = 12 ∧ ((((((kc + 1) + 1) + 1) + 1) + 1) + 1 ≤ 77 ∧ (((((nc + 200) + 200) + 200) + 200) + 200) + 2560 ≤ 171928 ∧ (∀ q38 : Nat, ¬ sK σ33 q38 < 23 → ∀ σ40 : Sto, σ40 = stN (stP σ33 a0 87 (some q31)) q38 14 2560 → (sK σ40 a0 = 12 ∧ (((((((kc + 1) + 1) + 1) + 1) + 1) + 1) + 1 ≤ 77 ∧ ((((((nc + 200) + 200) + 200) + 200) + 200) + 2560) + 1500 ≤ 171928 ∧ (∀ q45 : Nat, ¬ sK σ40 q45 < 23 → ∀ σ47 : Sto, σ47 = stN (stP σ40 a0 88 (some q38)) q45 14 1500 → (sK σ47 a0 = 12 ∧ b_X12_init_640 a0  Q p1 p2 ((((((((kc + 1) + 1) + 1) + 1) + 1) + 1) + 1)) ((((((((nc + 200) + 200) + 200) + 200) + 200) + 2560) + 1500)) (stP σ47 a0 90 (some q45)))))))))))))))))))))))
set_option maxHeartbeats 4000000 in
set_option maxRecDepth 100000 in
theorem t_X12_init_577 {p : Program} {l : Launch} {e : Env} {s : State} {m : MethodId} {args : Array Value} {below : List Frame} {meth : Method} {c : Code} {D : va_G} {cy : Nat → ClassId} {A : Nat → Prop} {a0 : Nat} {Q : Sto → Prop} (C : Cx p s m args meth c D cy A cX12_init 4 RX12) (hr : meth.sig.returnType = none) (hnm : meth.name = yX12_init.name) (p1 : Int32) (p2 : Int32) (kc : Nat) (nc : Nat) (σ : Sto) (h : b_X12_init_577 a0  Q p1 p2 kc nc σ) (ls : Array Slot) (hl : lv_has ls 4 [(0, .ref a0), (1, .int p1), (2, .int p2)]) : Xw p l e rm_X12_init s m args below meth c D cy A σ kc nc (MQ below (Qst D cy A (PsV Q)) args s rm_X12_init.cells rm_X12_init.slots A) (F0 m 577 ls []) := by
  unfold b_X12_init_577 at h
  refine x_aload_n C dX12_init_577 rfl (lv_at hl 0 rfl) ?_
  refine x_sipush (v := 200) C dX12_init_578 (by decide) ?_
  obtain ⟨g1, g2, h⟩ := h
  refine x_newa C nak_14 (by decide) (by decide) (by decide) g1 g2 dX12_init_581 (fun q3 g4 => ?_)
  refine x_nameS (fun σ5 e6 => ?_)
  have h := h q3 g4 σ5 e6
  obtain ⟨g7, h⟩ := h
  refine x_putR C fl_RX12_227 (rty_a _) (Or.inr ⟨hnm, _, _, _, rfl, rfl⟩) g7 dX12_init_583 ?_
  refine x_aload_n C dX12_init_586 rfl (lv_at hl 0 rfl) ?_
  refine x_sipush (v := 200) C dX12_init_587 (by decide) ?_
  obtain ⟨g8, g9, h⟩ := h
  refine x_newa C nak_14 (by decide) (by decide) (by decide) g8 g9 dX12_init_590 (fun q10 g11 => ?_)
  refine x_nameS (fun σ12 e13 => ?_)
  have h := h q10 g11 σ12 e13
  obtain ⟨g14, h⟩ := h
  refine x_putR C fl_RX12_230 (rty_a _) (Or.inr ⟨hnm, _, _, _, rfl, rfl⟩) g14 dX12_init_592 ?_
  refine x_aload_n C dX12_init_595 rfl (lv_at hl 0 rfl) ?_
  refine x_sipush (v := 200) C dX12_init_596 (by decide) ?_
  obtain ⟨g15, g16, h⟩ := h
  refine x_newa C nak_14 (by decide) (by decide) (by decide) g15 g16 dX12_init_599 (fun q17 g18 => ?_)
  refine x_nameS (fun σ19 e20 => ?_)
  have h := h q17 g18 σ19 e20
  obtain ⟨g21, h⟩ := h
  refine x_putR C fl_RX12_233 (rty_a _) (Or.inr ⟨hnm, _, _, _, rfl, rfl⟩) g21 dX12_init_601 ?_
  refine x_aload_n C dX12_init_604 rfl (lv_at hl 0 rfl) ?_
  refine x_sipush (v := 200) C dX12_init_605 (by decide) ?_
  obtain ⟨g22, g23, h⟩ := h
  refine x_newa C nak_14 (by decide) (by decide) (by decide) g22 g23 dX12_init_608 (fun q24 g25 => ?_)
  refine x_nameS (fun σ26 e27 => ?_)
  have h := h q24 g25 σ26 e27
  obtain ⟨g28, h⟩ := h
  refine x_putR C fl_RX12_236 (rty_a _) (Or.inr ⟨hnm, _, _, _, rfl, rfl⟩) g28 dX12_init_610 ?_
  refine x_aload_n C dX12_init_613 rfl (lv_at hl 0 rfl) ?_
  refine x_sipush (v := 200) C dX12_init_614 (by decide) ?_
  obtain ⟨g29, g30, h⟩ := h
  refine x_newa C nak_14 (by decide) (by decide) (by decide) g29 g30 dX12_init_617 (fun q31 g32 => ?_)
  refine x_nameS (fun σ33 e34 => ?_)
  have h := h q31 g32 σ33 e34
  obtain ⟨g35, h⟩ := h
  refine x_putR C fl_RX12_239 (rty_a _) (Or.inr ⟨hnm, _, _, _, rfl, rfl⟩) g35 dX12_init_619 ?_
  refine x_aload_n C dX12_init_622 rfl (lv_at hl 0 rfl) ?_
  refine x_sipush (v := 2560) C dX12_init_623 (by decide) ?_
  obtain ⟨g36, g37, h⟩ := h
  refine x_newa C nak_14 (by decide) (by decide) (by decide) g36 g37 dX12_init_626 (fun q38 g39 => ?_)
  refine x_nameS (fun σ40 e41 => ?_)
  have h := h q38 g39 σ40 e41
  obtain ⟨g42, h⟩ := h
  refine x_putR C fl_RX12_242 (rty_a _) (Or.inr ⟨hnm, _, _, _, rfl, rfl⟩) g42 dX12_init_628 ?_
  refine x_aload_n C dX12_init_631 rfl (lv_at hl 0 rfl) ?_
  refine x_sipush (v := 1500) C dX12_init_632 (by decide) ?_
  obtain ⟨g43, g44, h⟩ := h
  refine x_newa C nak_14 (by decide) (by decide) (by decide) g43 g44 dX12_init_635 (fun q45 g46 => ?_)
  refine x_nameS (fun σ47 e48 => ?_)
  have h := h q45 g46 σ47 e48
  obtain ⟨g49, h⟩ := h
  refine x_putR C fl_RX12_245 (rty_a _) (Or.inr ⟨hnm, _, _, _, rfl, rfl⟩) g49 dX12_init_637 ?_
  exact t_X12_init_640 C hr hnm  p1 p2 ((((((((kc + 1) + 1) + 1) + 1) + 1) + 1) + 1)) ((((((((nc + 200) + 200) + 200) + 200) + 200) + 2560) + 1500)) _ h ls (lv_sub hl [0, 1, 2] rfl)
def b_X12_init_516 (a0 : Nat)  (Q : Sto → Prop) (p1 : Int32) (p2 : Int32) (kc : Nat) (nc : Nat) (σ : Sto) : Prop := (kc + 1 ≤ 77 ∧ nc + 4 ≤ 171928 ∧ (∀ q3 : Nat, ¬ sK σ q3 < 23 → ∀ σ5 : Sto, σ5 = stN σ q3 14 4 → (sK σ5 a0 = 12 ∧ ((kc + 1) + 1 ≤ 77 ∧ (nc + 4) + 256 ≤ 171928 ∧ (∀ q10 : Nat, ¬ sK σ5 q10 < 23 → ∀ σ12 : Sto, σ12 = stN (stP σ5 a0 75 (some q3)) q10 14 256 → (sK σ12 a0 = 12 ∧ (((kc + 1) + 1) + 1 ≤ 77 ∧ ((nc + 4) + 256) + 256 ≤ 171928 ∧ (∀ q17 : Nat, ¬ sK σ12 q17 < 23 → ∀ σ19 : Sto, σ19 = stN (stP σ12 a0 76 (some q10)) q17 14 256 → (sK σ19 a0 = 12 ∧ ((((kc + 1) + 1) + 1) + 1 ≤ 77 ∧ (((nc + 4) + 256) + 256) + 256 ≤ 171928 ∧ (∀ q24 : Nat, ¬ sK σ19 q24 < 23 → ∀ σ26 : Sto, σ26 = stN (stP σ19 a0 77 (some q17)) q24 14 256 → (sK σ26 a0 = 12 ∧ (((((kc + 1) + 1) + 1) + 1) + 1 ≤ 77 ∧ ((((nc + 4) + 256) + 256) + 256) + 256 ≤ 171928 ∧ (∀ q31 : Nat, ¬ sK σ26 q31 < 23 → ∀ σ33 : Sto, σ33 = stN (stP σ26 a0 78 (some q24)) q31 14 256 → (sK σ33 a0 = 12 ∧ ((((((kc + 1) + 1) + 1) + 1) + 1) + 1 ≤ 77 ∧ (((((nc + 4) + 256) + 256) + 256) + 256) + 256 ≤ 171928 ∧ (∀ q38 : Nat, ¬ sK σ33 q38 < 23 → ∀ σ40 : Sto, σ40 = stN (stP σ33 a0 79 (some q31)) q38 14 256 → (sK σ40 a0 = 12 ∧ (((((((kc + 1) + 1) + 1) + 1) + 1) + 1) + 1 ≤ 77 ∧ ((((((nc + 4) + 256) + 256) + 256) + 256) + 256) + 200 ≤ 171928 ∧ (∀ q45 : Nat, ¬ sK σ40 q45 < 23 → ∀ σ47 : Sto, σ47 = stN (stP σ40 a0 80 (some q38)) q45 14 200 → (sK σ47 a0 = 12 ∧ b_X12_init_577 a0  Q p1 p2 ((((((((kc + 1) + 1) + 1) + 1) + 1) + 1) + 1)) ((((((((nc + 4) + 256) + 256) + 256) + 256) + 256) + 200)) (stP σ47 a0 82 (some q45)))))))))))))))))))))))
set_option maxHeartbeats 4000000 in
set_option maxRecDepth 100000 in
theorem t_X12_init_516 {p : Program} {l : Launch} {e : Env} {s : State} {m : MethodId} {args : Array Value} {below : List Frame} {meth : Method} {c : Code} {D : va_G} {cy : Nat → ClassId} {A : Nat → Prop} {a0 : Nat} {Q : Sto → Prop} (C : Cx p s m args meth c D cy A cX12_init 4 RX12) (hr : meth.sig.returnType = none) (hnm : meth.name = yX12_init.name) (p1 : Int32) (p2 : Int32) (kc : Nat) (nc : Nat) (σ : Sto) (h : b_X12_init_516 a0  Q p1 p2 kc nc σ) (ls : Array Slot) (hl : lv_has ls 4 [(0, .ref a0), (1, .int p1), (2, .int p2)]) : Xw p l e rm_X12_init s m args below meth c D cy A σ kc nc (MQ below (Qst D cy A (PsV Q)) args s rm_X12_init.cells rm_X12_init.slots A) (F0 m 516 ls []) := by
  unfold b_X12_init_516 at h
  refine x_aload_n C dX12_init_516 rfl (lv_at hl 0 rfl) ?_
  refine x_iconst (v := 4) C dX12_init_517 (by decide) ?_
  obtain ⟨g1, g2, h⟩ := h
  refine x_newa C nak_14 (by decide) (by decide) (by decide) g1 g2 dX12_init_518 (fun q3 g4 => ?_)
  refine x_nameS (fun σ5 e6 => ?_)
  have h := h q3 g4 σ5 e6
  obtain ⟨g7, h⟩ := h
  refine x_putR C fl_RX12_206 (rty_a _) (Or.inr ⟨hnm, _, _, _, rfl, rfl⟩) g7 dX12_init_520 ?_
  refine x_aload_n C dX12_init_523 rfl (lv_at hl 0 rfl) ?_
  refine x_sipush (v := 256) C dX12_init_524 (by decide) ?_
  obtain ⟨g8, g9, h⟩ := h
  refine x_newa C nak_14 (by decide) (by decide) (by decide) g8 g9 dX12_init_527 (fun q10 g11 => ?_)
  refine x_nameS (fun σ12 e13 => ?_)
  have h := h q10 g11 σ12 e13
  obtain ⟨g14, h⟩ := h
  refine x_putR C fl_RX12_209 (rty_a _) (Or.inr ⟨hnm, _, _, _, rfl, rfl⟩) g14 dX12_init_529 ?_
  refine x_aload_n C dX12_init_532 rfl (lv_at hl 0 rfl) ?_
  refine x_sipush (v := 256) C dX12_init_533 (by decide) ?_
  obtain ⟨g15, g16, h⟩ := h
  refine x_newa C nak_14 (by decide) (by decide) (by decide) g15 g16 dX12_init_536 (fun q17 g18 => ?_)
  refine x_nameS (fun σ19 e20 => ?_)
  have h := h q17 g18 σ19 e20
  obtain ⟨g21, h⟩ := h
  refine x_putR C fl_RX12_212 (rty_a _) (Or.inr ⟨hnm, _, _, _, rfl, rfl⟩) g21 dX12_init_538 ?_
  refine x_aload_n C dX12_init_541 rfl (lv_at hl 0 rfl) ?_
  refine x_sipush (v := 256) C dX12_init_542 (by decide) ?_
  obtain ⟨g22, g23, h⟩ := h
  refine x_newa C nak_14 (by decide) (by decide) (by decide) g22 g23 dX12_init_545 (fun q24 g25 => ?_)
  refine x_nameS (fun σ26 e27 => ?_)
  have h := h q24 g25 σ26 e27
  obtain ⟨g28, h⟩ := h
  refine x_putR C fl_RX12_215 (rty_a _) (Or.inr ⟨hnm, _, _, _, rfl, rfl⟩) g28 dX12_init_547 ?_
  refine x_aload_n C dX12_init_550 rfl (lv_at hl 0 rfl) ?_
  refine x_sipush (v := 256) C dX12_init_551 (by decide) ?_
  obtain ⟨g29, g30, h⟩ := h
  refine x_newa C nak_14 (by decide) (by decide) (by decide) g29 g30 dX12_init_554 (fun q31 g32 => ?_)
  refine x_nameS (fun σ33 e34 => ?_)
  have h := h q31 g32 σ33 e34
  obtain ⟨g35, h⟩ := h
  refine x_putR C fl_RX12_218 (rty_a _) (Or.inr ⟨hnm, _, _, _, rfl, rfl⟩) g35 dX12_init_556 ?_
  refine x_aload_n C dX12_init_559 rfl (lv_at hl 0 rfl) ?_
  refine x_sipush (v := 256) C dX12_init_560 (by decide) ?_
  obtain ⟨g36, g37, h⟩ := h
  refine x_newa C nak_14 (by decide) (by decide) (by decide) g36 g37 dX12_init_563 (fun q38 g39 => ?_)
  refine x_nameS (fun σ40 e41 => ?_)
  have h := h q38 g39 σ40 e41
  obtain ⟨g42, h⟩ := h
  refine x_putR C fl_RX12_221 (rty_a _) (Or.inr ⟨hnm, _, _, _, rfl, rfl⟩) g42 dX12_init_565 ?_
  refine x_aload_n C dX12_init_568 rfl (lv_at hl 0 rfl) ?_
  refine x_sipush (v := 200) C dX12_init_569 (by decide) ?_
  obtain ⟨g43, g44, h⟩ := h
  refine x_newa C nak_14 (by decide) (by decide) (by decide) g43 g44 dX12_init_572 (fun q45 g46 => ?_)
  refine x_nameS (fun σ47 e48 => ?_)
  have h := h q45 g46 σ47 e48
  obtain ⟨g49, h⟩ := h
  refine x_putR C fl_RX12_224 (rty_a _) (Or.inr ⟨hnm, _, _, _, rfl, rfl⟩) g49 dX12_init_574 ?_
  exact t_X12_init_577 C hr hnm  p1 p2 ((((((((kc + 1) + 1) + 1) + 1) + 1) + 1) + 1)) ((((((((nc + 4) + 256) + 256) + 256) + 256) + 256) + 200)) _ h ls (lv_sub hl [0, 1, 2] rfl)
def b_X12_init_467 (a0 : Nat)  (Q : Sto → Prop) (p1 : Int32) (p2 : Int32) (kc : Nat) (nc : Nat) (σ : Sto) : Prop := (kc + 1 ≤ 77 ∧ nc + 4 ≤ 171928 ∧ (∀ q3 : Nat, ¬ sK σ q3 < 23 → ∀ σ5 : Sto, σ5 = stN σ q3 14 4 → (sK σ5 a0 = 12 ∧ ((kc + 1) + 1 ≤ 77 ∧ (nc + 4) + 4 ≤ 171928 ∧ (∀ q10 : Nat, ¬ sK σ5 q10 < 23 → ∀ σ12 : Sto, σ12 = stN (stP σ5 a0 68 (some q3)) q10 14 4 → (sK σ12 a0 = 12 ∧ (((kc + 1) + 1) + 1 ≤ 77 ∧ ((nc + 4) + 4) + 4 ≤ 171928 ∧ (∀ q17 : Nat, ¬ sK σ12 q17 < 23 → ∀ σ19 : Sto, σ19 = stN (stP σ12 a0 69 (some q10)) q17 14 4 → (sK σ19 a0 = 12 ∧ ((((kc + 1) + 1) + 1) + 1 ≤ 77 ∧ (((nc + 4) + 4) + 4) + 4 ≤ 171928 ∧ (∀ q24 : Nat, ¬ sK σ19 q24 < 23 → ∀ σ26 : Sto, σ26 = stN (stP σ19 a0 70 (some q17)) q24 14 4 → (sK σ26 a0 = 12 ∧ (((((kc + 1) + 1) + 1) + 1) + 1 ≤ 77 ∧ ((((nc + 4) + 4) + 4) + 4) + 4 ≤ 171928 ∧ (∀ q31 : Nat, ¬ sK σ26 q31 < 23 → ∀ σ33 : Sto, σ33 = stN (stP σ26 a0 71 (some q24)) q31 14 4 → (sK σ33 a0 = 12 ∧ ((((((kc + 1) + 1) + 1) + 1) + 1) + 1 ≤ 77 ∧ (((((nc + 4) + 4) + 4) + 4) + 4) + 4 ≤ 171928 ∧ (∀ q38 : Nat, ¬ sK σ33 q38 < 23 → ∀ σ40 : Sto, σ40 = stN (stP σ33 a0 72 (some q31)) q38 14 4 → (sK σ40 a0 = 12 ∧ (((((((kc + 1) + 1) + 1) + 1) + 1) + 1) + 1 ≤ 77 ∧ ((((((nc + 4) + 4) + 4) + 4) + 4) + 4) + 4 ≤ 171928 ∧ (∀ q45 : Nat, ¬ sK σ40 q45 < 23 → ∀ σ47 : Sto, σ47 = stN (stP σ40 a0 73 (some q38)) q45 14 4 → (sK σ47 a0 = 12 ∧ b_X12_init_516 a0  Q p1 p2 ((((((((kc + 1) + 1) + 1) + 1) + 1) + 1) + 1)) ((((((((nc + 4) + 4) + 4) + 4) + 4) + 4) + 4)) (stP σ47 a0 74 (some q45)))))))))))))))))))))))
set_option maxHeartbeats 4000000 in
set_option maxRecDepth 100000 in
theorem t_X12_init_467 {p : Program} {l : Launch} {e : Env} {s : State} {m : MethodId} {args : Array Value} {below : List Frame} {meth : Method} {c : Code} {D : va_G} {cy : Nat → ClassId} {A : Nat → Prop} {a0 : Nat} {Q : Sto → Prop} (C : Cx p s m args meth c D cy A cX12_init 4 RX12) (hr : meth.sig.returnType = none) (hnm : meth.name = yX12_init.name) (p1 : Int32) (p2 : Int32) (kc : Nat) (nc : Nat) (σ : Sto) (h : b_X12_init_467 a0  Q p1 p2 kc nc σ) (ls : Array Slot) (hl : lv_has ls 4 [(0, .ref a0), (1, .int p1), (2, .int p2)]) : Xw p l e rm_X12_init s m args below meth c D cy A σ kc nc (MQ below (Qst D cy A (PsV Q)) args s rm_X12_init.cells rm_X12_init.slots A) (F0 m 467 ls []) := by
  unfold b_X12_init_467 at h
  refine x_aload_n C dX12_init_467 rfl (lv_at hl 0 rfl) ?_
  refine x_iconst (v := 4) C dX12_init_468 (by decide) ?_
  obtain ⟨g1, g2, h⟩ := h
  refine x_newa C nak_14 (by decide) (by decide) (by decide) g1 g2 dX12_init_469 (fun q3 g4 => ?_)
  refine x_nameS (fun σ5 e6 => ?_)
  have h := h q3 g4 σ5 e6
  obtain ⟨g7, h⟩ := h
  refine x_putR C fl_RX12_185 (rty_a _) (Or.inr ⟨hnm, _, _, _, rfl, rfl⟩) g7 dX12_init_471 ?_
  refine x_aload_n C dX12_init_474 rfl (lv_at hl 0 rfl) ?_
  refine x_iconst (v := 4) C dX12_init_475 (by decide) ?_
  obtain ⟨g8, g9, h⟩ := h
  refine x_newa C nak_14 (by decide) (by decide) (by decide) g8 g9 dX12_init_476 (fun q10 g11 => ?_)
  refine x_nameS (fun σ12 e13 => ?_)
  have h := h q10 g11 σ12 e13
  obtain ⟨g14, h⟩ := h
  refine x_putR C fl_RX12_188 (rty_a _) (Or.inr ⟨hnm, _, _, _, rfl, rfl⟩) g14 dX12_init_478 ?_
  refine x_aload_n C dX12_init_481 rfl (lv_at hl 0 rfl) ?_
  refine x_iconst (v := 4) C dX12_init_482 (by decide) ?_
  obtain ⟨g15, g16, h⟩ := h
  refine x_newa C nak_14 (by decide) (by decide) (by decide) g15 g16 dX12_init_483 (fun q17 g18 => ?_)
  refine x_nameS (fun σ19 e20 => ?_)
  have h := h q17 g18 σ19 e20
  obtain ⟨g21, h⟩ := h
  refine x_putR C fl_RX12_191 (rty_a _) (Or.inr ⟨hnm, _, _, _, rfl, rfl⟩) g21 dX12_init_485 ?_
  refine x_aload_n C dX12_init_488 rfl (lv_at hl 0 rfl) ?_
  refine x_iconst (v := 4) C dX12_init_489 (by decide) ?_
  obtain ⟨g22, g23, h⟩ := h
  refine x_newa C nak_14 (by decide) (by decide) (by decide) g22 g23 dX12_init_490 (fun q24 g25 => ?_)
  refine x_nameS (fun σ26 e27 => ?_)
  have h := h q24 g25 σ26 e27
  obtain ⟨g28, h⟩ := h
  refine x_putR C fl_RX12_194 (rty_a _) (Or.inr ⟨hnm, _, _, _, rfl, rfl⟩) g28 dX12_init_492 ?_
  refine x_aload_n C dX12_init_495 rfl (lv_at hl 0 rfl) ?_
  refine x_iconst (v := 4) C dX12_init_496 (by decide) ?_
  obtain ⟨g29, g30, h⟩ := h
  refine x_newa C nak_14 (by decide) (by decide) (by decide) g29 g30 dX12_init_497 (fun q31 g32 => ?_)
  refine x_nameS (fun σ33 e34 => ?_)
  have h := h q31 g32 σ33 e34
  obtain ⟨g35, h⟩ := h
  refine x_putR C fl_RX12_197 (rty_a _) (Or.inr ⟨hnm, _, _, _, rfl, rfl⟩) g35 dX12_init_499 ?_
  refine x_aload_n C dX12_init_502 rfl (lv_at hl 0 rfl) ?_
  refine x_iconst (v := 4) C dX12_init_503 (by decide) ?_
  obtain ⟨g36, g37, h⟩ := h
  refine x_newa C nak_14 (by decide) (by decide) (by decide) g36 g37 dX12_init_504 (fun q38 g39 => ?_)
  refine x_nameS (fun σ40 e41 => ?_)
  have h := h q38 g39 σ40 e41
  obtain ⟨g42, h⟩ := h
  refine x_putR C fl_RX12_200 (rty_a _) (Or.inr ⟨hnm, _, _, _, rfl, rfl⟩) g42 dX12_init_506 ?_
  refine x_aload_n C dX12_init_509 rfl (lv_at hl 0 rfl) ?_
  refine x_iconst (v := 4) C dX12_init_510 (by decide) ?_
  obtain ⟨g43, g44, h⟩ := h
  refine x_newa C nak_14 (by decide) (by decide) (by decide) g43 g44 dX12_init_511 (fun q45 g46 => ?_)
  refine x_nameS (fun σ47 e48 => ?_)
  have h := h q45 g46 σ47 e48
  obtain ⟨g49, h⟩ := h
  refine x_putR C fl_RX12_203 (rty_a _) (Or.inr ⟨hnm, _, _, _, rfl, rfl⟩) g49 dX12_init_513 ?_
  exact t_X12_init_516 C hr hnm  p1 p2 ((((((((kc + 1) + 1) + 1) + 1) + 1) + 1) + 1)) ((((((((nc + 4) + 4) + 4) + 4) + 4) + 4) + 4)) _ h ls (lv_sub hl [0, 1, 2] rfl)
def b_X12_init_416 (a0 : Nat)  (Q : Sto → Prop) (p1 : Int32) (p2 : Int32) (kc : Nat) (nc : Nat) (σ : Sto) : Prop := (kc + 1 ≤ 77 ∧ nc + 7 ≤ 171928 ∧ (∀ q3 : Nat, ¬ sK σ q3 < 23 → ∀ σ5 : Sto, σ5 = stN σ q3 14 7 → (sK σ5 a0 = 12 ∧ ((kc + 1) + 1 ≤ 77 ∧ (nc + 7) + 8 ≤ 171928 ∧ (∀ q10 : Nat, ¬ sK σ5 q10 < 23 → ∀ σ12 : Sto, σ12 = stN (stP σ5 a0 61 (some q3)) q10 14 8 → (sK σ12 a0 = 12 ∧ (((kc + 1) + 1) + 1 ≤ 77 ∧ ((nc + 7) + 8) + 4 ≤ 171928 ∧ (∀ q17 : Nat, ¬ sK σ12 q17 < 23 → ∀ σ19 : Sto, σ19 = stN (stP σ12 a0 62 (some q10)) q17 14 4 → (sK σ19 a0 = 12 ∧ ((((kc + 1) + 1) + 1) + 1 ≤ 77 ∧ (((nc + 7) + 8) + 4) + 4 ≤ 171928 ∧ (∀ q24 : Nat, ¬ sK σ19 q24 < 23 → ∀ σ26 : Sto, σ26 = stN (stP σ19 a0 63 (some q17)) q24 14 4 → (sK σ26 a0 = 12 ∧ (((((kc + 1) + 1) + 1) + 1) + 1 ≤ 77 ∧ ((((nc + 7) + 8) + 4) + 4) + 4 ≤ 171928 ∧ (∀ q31 : Nat, ¬ sK σ26 q31 < 23 → ∀ σ33 : Sto, σ33 = stN (stP σ26 a0 64 (some q24)) q31 14 4 → (sK σ33 a0 = 12 ∧ ((((((kc + 1) + 1) + 1) + 1) + 1) + 1 ≤ 77 ∧ (((((nc + 7) + 8) + 4) + 4) + 4) + 4 ≤ 171928 ∧ (∀ q38 : Nat, ¬ sK σ33 q38 < 23 → ∀ σ40 : Sto, σ40 = stN (stP σ33 a0 65 (some q31)) q38 16 4 → (sK σ40 a0 = 12 ∧ (((((((kc + 1) + 1) + 1) + 1) + 1) + 1) + 1 ≤ 77 ∧ ((((((nc + 7) + 8) + 4) + 4) + 4) + 4) + 4 ≤ 171928 ∧ (∀ q45 : Nat, ¬ sK σ40 q45 < 23 → ∀ σ47 : Sto, σ47 = stN (stP σ40 a0 66 (some q38)) q45 14 4 → (sK σ47 a0 = 12 ∧ b_X12_init_467 a0  Q p1 p2 ((((((((kc + 1) + 1) + 1) + 1) + 1) + 1) + 1)) ((((((((nc + 7) + 8) + 4) + 4) + 4) + 4) + 4)) (stP σ47 a0 67 (some q45)))))))))))))))))))))))
set_option maxHeartbeats 4000000 in
set_option maxRecDepth 100000 in
theorem t_X12_init_416 {p : Program} {l : Launch} {e : Env} {s : State} {m : MethodId} {args : Array Value} {below : List Frame} {meth : Method} {c : Code} {D : va_G} {cy : Nat → ClassId} {A : Nat → Prop} {a0 : Nat} {Q : Sto → Prop} (C : Cx p s m args meth c D cy A cX12_init 4 RX12) (hr : meth.sig.returnType = none) (hnm : meth.name = yX12_init.name) (p1 : Int32) (p2 : Int32) (kc : Nat) (nc : Nat) (σ : Sto) (h : b_X12_init_416 a0  Q p1 p2 kc nc σ) (ls : Array Slot) (hl : lv_has ls 4 [(0, .ref a0), (1, .int p1), (2, .int p2)]) : Xw p l e rm_X12_init s m args below meth c D cy A σ kc nc (MQ below (Qst D cy A (PsV Q)) args s rm_X12_init.cells rm_X12_init.slots A) (F0 m 416 ls []) := by
  unfold b_X12_init_416 at h
  refine x_aload_n C dX12_init_416 rfl (lv_at hl 0 rfl) ?_
  refine x_bipush (v := 7) C dX12_init_417 (by decide) ?_
  obtain ⟨g1, g2, h⟩ := h
  refine x_newa C nak_14 (by decide) (by decide) (by decide) g1 g2 dX12_init_419 (fun q3 g4 => ?_)
  refine x_nameS (fun σ5 e6 => ?_)
  have h := h q3 g4 σ5 e6
  obtain ⟨g7, h⟩ := h
  refine x_putR C fl_RX12_164 (rty_a _) (Or.inr ⟨hnm, _, _, _, rfl, rfl⟩) g7 dX12_init_421 ?_
  refine x_aload_n C dX12_init_424 rfl (lv_at hl 0 rfl) ?_
  refine x_bipush (v := 8) C dX12_init_425 (by decide) ?_
  obtain ⟨g8, g9, h⟩ := h
  refine x_newa C nak_14 (by decide) (by decide) (by decide) g8 g9 dX12_init_427 (fun q10 g11 => ?_)
  refine x_nameS (fun σ12 e13 => ?_)
  have h := h q10 g11 σ12 e13
  obtain ⟨g14, h⟩ := h
  refine x_putR C fl_RX12_167 (rty_a _) (Or.inr ⟨hnm, _, _, _, rfl, rfl⟩) g14 dX12_init_429 ?_
  refine x_aload_n C dX12_init_432 rfl (lv_at hl 0 rfl) ?_
  refine x_iconst (v := 4) C dX12_init_433 (by decide) ?_
  obtain ⟨g15, g16, h⟩ := h
  refine x_newa C nak_14 (by decide) (by decide) (by decide) g15 g16 dX12_init_434 (fun q17 g18 => ?_)
  refine x_nameS (fun σ19 e20 => ?_)
  have h := h q17 g18 σ19 e20
  obtain ⟨g21, h⟩ := h
  refine x_putR C fl_RX12_170 (rty_a _) (Or.inr ⟨hnm, _, _, _, rfl, rfl⟩) g21 dX12_init_436 ?_
  refine x_aload_n C dX12_init_439 rfl (lv_at hl 0 rfl) ?_
  refine x_iconst (v := 4) C dX12_init_440 (by decide) ?_
  obtain ⟨g22, g23, h⟩ := h
  refine x_newa C nak_14 (by decide) (by decide) (by decide) g22 g23 dX12_init_441 (fun q24 g25 => ?_)
  refine x_nameS (fun σ26 e27 => ?_)
  have h := h q24 g25 σ26 e27
  obtain ⟨g28, h⟩ := h
  refine x_putR C fl_RX12_173 (rty_a _) (Or.inr ⟨hnm, _, _, _, rfl, rfl⟩) g28 dX12_init_443 ?_
  refine x_aload_n C dX12_init_446 rfl (lv_at hl 0 rfl) ?_
  refine x_iconst (v := 4) C dX12_init_447 (by decide) ?_
  obtain ⟨g29, g30, h⟩ := h
  refine x_newa C nak_14 (by decide) (by decide) (by decide) g29 g30 dX12_init_448 (fun q31 g32 => ?_)
  refine x_nameS (fun σ33 e34 => ?_)
  have h := h q31 g32 σ33 e34
  obtain ⟨g35, h⟩ := h
  refine x_putR C fl_RX12_176 (rty_a _) (Or.inr ⟨hnm, _, _, _, rfl, rfl⟩) g35 dX12_init_450 ?_
  refine x_aload_n C dX12_init_453 rfl (lv_at hl 0 rfl) ?_
  refine x_iconst (v := 4) C dX12_init_454 (by decide) ?_
  obtain ⟨g36, g37, h⟩ := h
  refine x_newa C nak_16 (by decide) (by decide) (by decide) g36 g37 dX12_init_455 (fun q38 g39 => ?_)
  refine x_nameS (fun σ40 e41 => ?_)
  have h := h q38 g39 σ40 e41
  obtain ⟨g42, h⟩ := h
  refine x_putR C fl_RX12_179 (rty_a _) (Or.inr ⟨hnm, _, _, _, rfl, rfl⟩) g42 dX12_init_457 ?_
  refine x_aload_n C dX12_init_460 rfl (lv_at hl 0 rfl) ?_
  refine x_iconst (v := 4) C dX12_init_461 (by decide) ?_
  obtain ⟨g43, g44, h⟩ := h
  refine x_newa C nak_14 (by decide) (by decide) (by decide) g43 g44 dX12_init_462 (fun q45 g46 => ?_)
  refine x_nameS (fun σ47 e48 => ?_)
  have h := h q45 g46 σ47 e48
  obtain ⟨g49, h⟩ := h
  refine x_putR C fl_RX12_182 (rty_a _) (Or.inr ⟨hnm, _, _, _, rfl, rfl⟩) g49 dX12_init_464 ?_
  exact t_X12_init_467 C hr hnm  p1 p2 ((((((((kc + 1) + 1) + 1) + 1) + 1) + 1) + 1)) ((((((((nc + 7) + 8) + 4) + 4) + 4) + 4) + 4)) _ h ls (lv_sub hl [0, 1, 2] rfl)
def b_X12_init_357 (a0 : Nat)  (Q : Sto → Prop) (p1 : Int32) (p2 : Int32) (kc : Nat) (nc : Nat) (σ : Sto) : Prop := (kc + 1 ≤ 77 ∧ nc + 4900 ≤ 171928 ∧ (∀ q3 : Nat, ¬ sK σ q3 < 23 → ∀ σ5 : Sto, σ5 = stN σ q3 14 4900 → (sK σ5 a0 = 12 ∧ ((kc + 1) + 1 ≤ 77 ∧ (nc + 4900) + 4900 ≤ 171928 ∧ (∀ q10 : Nat, ¬ sK σ5 q10 < 23 → ∀ σ12 : Sto, σ12 = stN (stP σ5 a0 54 (some q3)) q10 14 4900 → (sK σ12 a0 = 12 ∧ (((kc + 1) + 1) + 1 ≤ 77 ∧ ((nc + 4900) + 4900) + 4900 ≤ 171928 ∧ (∀ q17 : Nat, ¬ sK σ12 q17 < 23 → ∀ σ19 : Sto, σ19 = stN (stP σ12 a0 55 (some q10)) q17 14 4900 → (sK σ19 a0 = 12 ∧ ((((kc + 1) + 1) + 1) + 1 ≤ 77 ∧ (((nc + 4900) + 4900) + 4900) + 7 ≤ 171928 ∧ (∀ q24 : Nat, ¬ sK σ19 q24 < 23 → ∀ σ26 : Sto, σ26 = stN (stP σ19 a0 56 (some q17)) q24 14 7 → (sK σ26 a0 = 12 ∧ (((((kc + 1) + 1) + 1) + 1) + 1 ≤ 77 ∧ ((((nc + 4900) + 4900) + 4900) + 7) + 7 ≤ 171928 ∧ (∀ q31 : Nat, ¬ sK σ26 q31 < 23 → ∀ σ33 : Sto, σ33 = stN (stP σ26 a0 57 (some q24)) q31 14 7 → (sK σ33 a0 = 12 ∧ ((((((kc + 1) + 1) + 1) + 1) + 1) + 1 ≤ 77 ∧ (((((nc + 4900) + 4900) + 4900) + 7) + 7) + 7 ≤ 171928 ∧ (∀ q38 : Nat, ¬ sK σ33 q38 < 23 → ∀ σ40 : Sto, σ40 = stN (stP σ33 a0 58 (some q31)) q38 14 7 → (sK σ40 a0 = 12 ∧ (((((((kc + 1) + 1) + 1) + 1) + 1) + 1) + 1 ≤ 77 ∧ ((((((nc + 4900) + 4900) + 4900) + 7) + 7) + 7) + 7 ≤ 171928 ∧ (∀ q45 : Nat, ¬ sK σ40 q45 < 23 → ∀ σ47 : Sto, σ47 = stN (stP σ40 a0 59 (some q38)) q45 14 7 → (sK σ47 a0 = 12 ∧ b_X12_init_416 a0  Q p1 p2 ((((((((kc + 1) + 1) + 1) + 1) + 1) + 1) + 1)) ((((((((nc + 4900) + 4900) + 4900) + 7) + 7) + 7) + 7)) (stP σ47 a0 60 (some q45)))))))))))))))))))))))
set_option maxHeartbeats 4000000 in
set_option maxRecDepth 100000 in
theorem t_X12_init_357 {p : Program} {l : Launch} {e : Env} {s : State} {m : MethodId} {args : Array Value} {below : List Frame} {meth : Method} {c : Code} {D : va_G} {cy : Nat → ClassId} {A : Nat → Prop} {a0 : Nat} {Q : Sto → Prop} (C : Cx p s m args meth c D cy A cX12_init 4 RX12) (hr : meth.sig.returnType = none) (hnm : meth.name = yX12_init.name) (p1 : Int32) (p2 : Int32) (kc : Nat) (nc : Nat) (σ : Sto) (h : b_X12_init_357 a0  Q p1 p2 kc nc σ) (ls : Array Slot) (hl : lv_has ls 4 [(0, .ref a0), (1, .int p1), (2, .int p2)]) : Xw p l e rm_X12_init s m args below meth c D cy A σ kc nc (MQ below (Qst D cy A (PsV Q)) args s rm_X12_init.cells rm_X12_init.slots A) (F0 m 357 ls []) := by
  unfold b_X12_init_357 at h
  refine x_aload_n C dX12_init_357 rfl (lv_at hl 0 rfl) ?_
  refine x_sipush (v := 4900) C dX12_init_358 (by decide) ?_
  obtain ⟨g1, g2, h⟩ := h
  refine x_newa C nak_14 (by decide) (by decide) (by decide) g1 g2 dX12_init_361 (fun q3 g4 => ?_)
  refine x_nameS (fun σ5 e6 => ?_)
  have h := h q3 g4 σ5 e6
  obtain ⟨g7, h⟩ := h
  refine x_putR C fl_RX12_143 (rty_a _) (Or.inr ⟨hnm, _, _, _, rfl, rfl⟩) g7 dX12_init_363 ?_
  refine x_aload_n C dX12_init_366 rfl (lv_at hl 0 rfl) ?_
  refine x_sipush (v := 4900) C dX12_init_367 (by decide) ?_
  obtain ⟨g8, g9, h⟩ := h
  refine x_newa C nak_14 (by decide) (by decide) (by decide) g8 g9 dX12_init_370 (fun q10 g11 => ?_)
  refine x_nameS (fun σ12 e13 => ?_)
  have h := h q10 g11 σ12 e13
  obtain ⟨g14, h⟩ := h
  refine x_putR C fl_RX12_146 (rty_a _) (Or.inr ⟨hnm, _, _, _, rfl, rfl⟩) g14 dX12_init_372 ?_
  refine x_aload_n C dX12_init_375 rfl (lv_at hl 0 rfl) ?_
  refine x_sipush (v := 4900) C dX12_init_376 (by decide) ?_
  obtain ⟨g15, g16, h⟩ := h
  refine x_newa C nak_14 (by decide) (by decide) (by decide) g15 g16 dX12_init_379 (fun q17 g18 => ?_)
  refine x_nameS (fun σ19 e20 => ?_)
  have h := h q17 g18 σ19 e20
  obtain ⟨g21, h⟩ := h
  refine x_putR C fl_RX12_149 (rty_a _) (Or.inr ⟨hnm, _, _, _, rfl, rfl⟩) g21 dX12_init_381 ?_
  refine x_aload_n C dX12_init_384 rfl (lv_at hl 0 rfl) ?_
  refine x_bipush (v := 7) C dX12_init_385 (by decide) ?_
  obtain ⟨g22, g23, h⟩ := h
  refine x_newa C nak_14 (by decide) (by decide) (by decide) g22 g23 dX12_init_387 (fun q24 g25 => ?_)
  refine x_nameS (fun σ26 e27 => ?_)
  have h := h q24 g25 σ26 e27
  obtain ⟨g28, h⟩ := h
  refine x_putR C fl_RX12_152 (rty_a _) (Or.inr ⟨hnm, _, _, _, rfl, rfl⟩) g28 dX12_init_389 ?_
  refine x_aload_n C dX12_init_392 rfl (lv_at hl 0 rfl) ?_
  refine x_bipush (v := 7) C dX12_init_393 (by decide) ?_
  obtain ⟨g29, g30, h⟩ := h
  refine x_newa C nak_14 (by decide) (by decide) (by decide) g29 g30 dX12_init_395 (fun q31 g32 => ?_)
  refine x_nameS (fun σ33 e34 => ?_)
  have h := h q31 g32 σ33 e34
  obtain ⟨g35, h⟩ := h
  refine x_putR C fl_RX12_155 (rty_a _) (Or.inr ⟨hnm, _, _, _, rfl, rfl⟩) g35 dX12_init_397 ?_
  refine x_aload_n C dX12_init_400 rfl (lv_at hl 0 rfl) ?_
  refine x_bipush (v := 7) C dX12_init_401 (by decide) ?_
  obtain ⟨g36, g37, h⟩ := h
  refine x_newa C nak_14 (by decide) (by decide) (by decide) g36 g37 dX12_init_403 (fun q38 g39 => ?_)
  refine x_nameS (fun σ40 e41 => ?_)
  have h := h q38 g39 σ40 e41
  obtain ⟨g42, h⟩ := h
  refine x_putR C fl_RX12_158 (rty_a _) (Or.inr ⟨hnm, _, _, _, rfl, rfl⟩) g42 dX12_init_405 ?_
  refine x_aload_n C dX12_init_408 rfl (lv_at hl 0 rfl) ?_
  refine x_bipush (v := 7) C dX12_init_409 (by decide) ?_
  obtain ⟨g43, g44, h⟩ := h
  refine x_newa C nak_14 (by decide) (by decide) (by decide) g43 g44 dX12_init_411 (fun q45 g46 => ?_)
  refine x_nameS (fun σ47 e48 => ?_)
  have h := h q45 g46 σ47 e48
  obtain ⟨g49, h⟩ := h
  refine x_putR C fl_RX12_161 (rty_a _) (Or.inr ⟨hnm, _, _, _, rfl, rfl⟩) g49 dX12_init_413 ?_
  exact t_X12_init_416 C hr hnm  p1 p2 ((((((((kc + 1) + 1) + 1) + 1) + 1) + 1) + 1)) ((((((((nc + 4900) + 4900) + 4900) + 7) + 7) + 7) + 7)) _ h ls (lv_sub hl [0, 1, 2] rfl)
def b_X12_init_298 (a0 : Nat)  (Q : Sto → Prop) (p1 : Int32) (p2 : Int32) (kc : Nat) (nc : Nat) (σ : Sto) : Prop := (kc + 1 ≤ 77 ∧ nc + 49 ≤ 171928 ∧ (∀ q3 : Nat, ¬ sK σ q3 < 23 → ∀ σ5 : Sto, σ5 = stN σ q3 14 49 → (sK σ5 a0 = 12 ∧ ((kc + 1) + 1 ≤ 77 ∧ (nc + 49) + 49 ≤ 171928 ∧ (∀ q10 : Nat, ¬ sK σ5 q10 < 23 → ∀ σ12 : Sto, σ12 = stN (stP σ5 a0 47 (some q3)) q10 14 49 → (sK σ12 a0 = 12 ∧ (((kc + 1) + 1) + 1 ≤ 77 ∧ ((nc + 49) + 49) + 49 ≤ 171928 ∧ (∀ q17 : Nat, ¬ sK σ12 q17 < 23 → ∀ σ19 : Sto, σ19 = stN (stP σ12 a0 48 (some q10)) q17 14 49 → (sK σ19 a0 = 12 ∧ ((((kc + 1) + 1) + 1) + 1 ≤ 77 ∧ (((nc + 49) + 49) + 49) + 49 ≤ 171928 ∧ (∀ q24 : Nat, ¬ sK σ19 q24 < 23 → ∀ σ26 : Sto, σ26 = stN (stP σ19 a0 49 (some q17)) q24 14 49 → (sK σ26 a0 = 12 ∧ (((((kc + 1) + 1) + 1) + 1) + 1 ≤ 77 ∧ ((((nc + 49) + 49) + 49) + 49) + 4900 ≤ 171928 ∧ (∀ q31 : Nat, ¬ sK σ26 q31 < 23 → ∀ σ33 : Sto, σ33 = stN (stP σ26 a0 50 (some q24)) q31 16 4900 → (sK σ33 a0 = 12 ∧ ((((((kc + 1) + 1) + 1) + 1) + 1) + 1 ≤ 77 ∧ (((((nc + 49) + 49) + 49) + 49) + 4900) + 4900 ≤ 171928 ∧ (∀ q38 : Nat, ¬ sK σ33 q38 < 23 → ∀ σ40 : Sto, σ40 = stN (stP σ33 a0 51 (some q31)) q38 14 4900 → (sK σ40 a0 = 12 ∧ (((((((kc + 1) + 1) + 1) + 1) + 1) + 1) + 1 ≤ 77 ∧ ((((((nc + 49) + 49) + 49) + 49) + 4900) + 4900) + 4900 ≤ 171928 ∧ (∀ q45 : Nat, ¬ sK σ40 q45 < 23 → ∀ σ47 : Sto, σ47 = stN (stP σ40 a0 52 (some q38)) q45 14 4900 → (sK σ47 a0 = 12 ∧ b_X12_init_357 a0  Q p1 p2 ((((((((kc + 1) + 1) + 1) + 1) + 1) + 1) + 1)) ((((((((nc + 49) + 49) + 49) + 49) + 4900) + 4900) + 4900)) (stP σ47 a0 53 (some q45)))))))))))))))))))))))
set_option maxHeartbeats 4000000 in
set_option maxRecDepth 100000 in
theorem t_X12_init_298 {p : Program} {l : Launch} {e : Env} {s : State} {m : MethodId} {args : Array Value} {below : List Frame} {meth : Method} {c : Code} {D : va_G} {cy : Nat → ClassId} {A : Nat → Prop} {a0 : Nat} {Q : Sto → Prop} (C : Cx p s m args meth c D cy A cX12_init 4 RX12) (hr : meth.sig.returnType = none) (hnm : meth.name = yX12_init.name) (p1 : Int32) (p2 : Int32) (kc : Nat) (nc : Nat) (σ : Sto) (h : b_X12_init_298 a0  Q p1 p2 kc nc σ) (ls : Array Slot) (hl : lv_has ls 4 [(0, .ref a0), (1, .int p1), (2, .int p2)]) : Xw p l e rm_X12_init s m args below meth c D cy A σ kc nc (MQ below (Qst D cy A (PsV Q)) args s rm_X12_init.cells rm_X12_init.slots A) (F0 m 298 ls []) := by
  unfold b_X12_init_298 at h
  refine x_aload_n C dX12_init_298 rfl (lv_at hl 0 rfl) ?_
  refine x_bipush (v := 49) C dX12_init_299 (by decide) ?_
  obtain ⟨g1, g2, h⟩ := h
  refine x_newa C nak_14 (by decide) (by decide) (by decide) g1 g2 dX12_init_301 (fun q3 g4 => ?_)
  refine x_nameS (fun σ5 e6 => ?_)
  have h := h q3 g4 σ5 e6
  obtain ⟨g7, h⟩ := h
  refine x_putR C fl_RX12_122 (rty_a _) (Or.inr ⟨hnm, _, _, _, rfl, rfl⟩) g7 dX12_init_303 ?_
  refine x_aload_n C dX12_init_306 rfl (lv_at hl 0 rfl) ?_
  refine x_bipush (v := 49) C dX12_init_307 (by decide) ?_
  obtain ⟨g8, g9, h⟩ := h
  refine x_newa C nak_14 (by decide) (by decide) (by decide) g8 g9 dX12_init_309 (fun q10 g11 => ?_)
  refine x_nameS (fun σ12 e13 => ?_)
  have h := h q10 g11 σ12 e13
  obtain ⟨g14, h⟩ := h
  refine x_putR C fl_RX12_125 (rty_a _) (Or.inr ⟨hnm, _, _, _, rfl, rfl⟩) g14 dX12_init_311 ?_
  refine x_aload_n C dX12_init_314 rfl (lv_at hl 0 rfl) ?_
  refine x_bipush (v := 49) C dX12_init_315 (by decide) ?_
  obtain ⟨g15, g16, h⟩ := h
  refine x_newa C nak_14 (by decide) (by decide) (by decide) g15 g16 dX12_init_317 (fun q17 g18 => ?_)
  refine x_nameS (fun σ19 e20 => ?_)
  have h := h q17 g18 σ19 e20
  obtain ⟨g21, h⟩ := h
  refine x_putR C fl_RX12_128 (rty_a _) (Or.inr ⟨hnm, _, _, _, rfl, rfl⟩) g21 dX12_init_319 ?_
  refine x_aload_n C dX12_init_322 rfl (lv_at hl 0 rfl) ?_
  refine x_bipush (v := 49) C dX12_init_323 (by decide) ?_
  obtain ⟨g22, g23, h⟩ := h
  refine x_newa C nak_14 (by decide) (by decide) (by decide) g22 g23 dX12_init_325 (fun q24 g25 => ?_)
  refine x_nameS (fun σ26 e27 => ?_)
  have h := h q24 g25 σ26 e27
  obtain ⟨g28, h⟩ := h
  refine x_putR C fl_RX12_131 (rty_a _) (Or.inr ⟨hnm, _, _, _, rfl, rfl⟩) g28 dX12_init_327 ?_
  refine x_aload_n C dX12_init_330 rfl (lv_at hl 0 rfl) ?_
  refine x_sipush (v := 4900) C dX12_init_331 (by decide) ?_
  obtain ⟨g29, g30, h⟩ := h
  refine x_newa C nak_16 (by decide) (by decide) (by decide) g29 g30 dX12_init_334 (fun q31 g32 => ?_)
  refine x_nameS (fun σ33 e34 => ?_)
  have h := h q31 g32 σ33 e34
  obtain ⟨g35, h⟩ := h
  refine x_putR C fl_RX12_134 (rty_a _) (Or.inr ⟨hnm, _, _, _, rfl, rfl⟩) g35 dX12_init_336 ?_
  refine x_aload_n C dX12_init_339 rfl (lv_at hl 0 rfl) ?_
  refine x_sipush (v := 4900) C dX12_init_340 (by decide) ?_
  obtain ⟨g36, g37, h⟩ := h
  refine x_newa C nak_14 (by decide) (by decide) (by decide) g36 g37 dX12_init_343 (fun q38 g39 => ?_)
  refine x_nameS (fun σ40 e41 => ?_)
  have h := h q38 g39 σ40 e41
  obtain ⟨g42, h⟩ := h
  refine x_putR C fl_RX12_137 (rty_a _) (Or.inr ⟨hnm, _, _, _, rfl, rfl⟩) g42 dX12_init_345 ?_
  refine x_aload_n C dX12_init_348 rfl (lv_at hl 0 rfl) ?_
  refine x_sipush (v := 4900) C dX12_init_349 (by decide) ?_
  obtain ⟨g43, g44, h⟩ := h
  refine x_newa C nak_14 (by decide) (by decide) (by decide) g43 g44 dX12_init_352 (fun q45 g46 => ?_)
  refine x_nameS (fun σ47 e48 => ?_)
  have h := h q45 g46 σ47 e48
  obtain ⟨g49, h⟩ := h
  refine x_putR C fl_RX12_140 (rty_a _) (Or.inr ⟨hnm, _, _, _, rfl, rfl⟩) g49 dX12_init_354 ?_
  exact t_X12_init_357 C hr hnm  p1 p2 ((((((((kc + 1) + 1) + 1) + 1) + 1) + 1) + 1)) ((((((((nc + 49) + 49) + 49) + 49) + 4900) + 4900) + 4900)) _ h ls (lv_sub hl [0, 1, 2] rfl)
def b_X12_init_242 (a0 : Nat)  (Q : Sto → Prop) (p1 : Int32) (p2 : Int32) (kc : Nat) (nc : Nat) (σ : Sto) : Prop := (kc + 1 ≤ 77 ∧ nc + 112 ≤ 171928 ∧ (∀ q3 : Nat, ¬ sK σ q3 < 23 → ∀ σ5 : Sto, σ5 = stN σ q3 14 112 → (sK σ5 a0 = 12 ∧ ((kc + 1) + 1 ≤ 77 ∧ (nc + 112) + 112 ≤ 171928 ∧ (∀ q10 : Nat, ¬ sK σ5 q10 < 23 → ∀ σ12 : Sto, σ12 = stN (stP σ5 a0 40 (some q3)) q10 14 112 → (sK σ12 a0 = 12 ∧ (((kc + 1) + 1) + 1 ≤ 77 ∧ ((nc + 112) + 112) + 112 ≤ 171928 ∧ (∀ q17 : Nat, ¬ sK σ12 q17 < 23 → ∀ σ19 : Sto, σ19 = stN (stP σ12 a0 41 (some q10)) q17 14 112 → (sK σ19 a0 = 12 ∧ ((((kc + 1) + 1) + 1) + 1 ≤ 77 ∧ (((nc + 112) + 112) + 112) + 7 ≤ 171928 ∧ (∀ q24 : Nat, ¬ sK σ19 q24 < 23 → ∀ σ26 : Sto, σ26 = stN (stP σ19 a0 42 (some q17)) q24 14 7 → (sK σ26 a0 = 12 ∧ (((((kc + 1) + 1) + 1) + 1) + 1 ≤ 77 ∧ ((((nc + 112) + 112) + 112) + 7) + 7 ≤ 171928 ∧ (∀ q31 : Nat, ¬ sK σ26 q31 < 23 → ∀ σ33 : Sto, σ33 = stN (stP σ26 a0 43 (some q24)) q31 14 7 → (sK σ33 a0 = 12 ∧ ((((((kc + 1) + 1) + 1) + 1) + 1) + 1 ≤ 77 ∧ (((((nc + 112) + 112) + 112) + 7) + 7) + 7 ≤ 171928 ∧ (∀ q38 : Nat, ¬ sK σ33 q38 < 23 → ∀ σ40 : Sto, σ40 = stN (stP σ33 a0 44 (some q31)) q38 14 7 → (sK σ40 a0 = 12 ∧ (((((((kc + 1) + 1) + 1) + 1) + 1) + 1) + 1 ≤ 77 ∧ ((((((nc + 112) + 112) + 112) + 7) + 7) + 7) + 7 ≤ 171928 ∧ (∀ q45 : Nat, ¬ sK σ40 q45 < 23 → ∀ σ47 : Sto, σ47 = stN (stP σ40 a0 45 (some q38)) q45 14 7 → (sK σ47 a0 = 12 ∧ b_X12_init_298 a0  Q p1 p2 ((((((((kc + 1) + 1) + 1) + 1) + 1) + 1) + 1)) ((((((((nc + 112) + 112) + 112) + 7) + 7) + 7) + 7)) (stP σ47 a0 46 (some q45)))))))))))))))))))))))
set_option maxHeartbeats 4000000 in
set_option maxRecDepth 100000 in
theorem t_X12_init_242 {p : Program} {l : Launch} {e : Env} {s : State} {m : MethodId} {args : Array Value} {below : List Frame} {meth : Method} {c : Code} {D : va_G} {cy : Nat → ClassId} {A : Nat → Prop} {a0 : Nat} {Q : Sto → Prop} (C : Cx p s m args meth c D cy A cX12_init 4 RX12) (hr : meth.sig.returnType = none) (hnm : meth.name = yX12_init.name) (p1 : Int32) (p2 : Int32) (kc : Nat) (nc : Nat) (σ : Sto) (h : b_X12_init_242 a0  Q p1 p2 kc nc σ) (ls : Array Slot) (hl : lv_has ls 4 [(0, .ref a0), (1, .int p1), (2, .int p2)]) : Xw p l e rm_X12_init s m args below meth c D cy A σ kc nc (MQ below (Qst D cy A (PsV Q)) args s rm_X12_init.cells rm_X12_init.slots A) (F0 m 242 ls []) := by
  unfold b_X12_init_242 at h
  refine x_aload_n C dX12_init_242 rfl (lv_at hl 0 rfl) ?_
  refine x_bipush (v := 112) C dX12_init_243 (by decide) ?_
  obtain ⟨g1, g2, h⟩ := h
  refine x_newa C nak_14 (by decide) (by decide) (by decide) g1 g2 dX12_init_245 (fun q3 g4 => ?_)
  refine x_nameS (fun σ5 e6 => ?_)
  have h := h q3 g4 σ5 e6
  obtain ⟨g7, h⟩ := h
  refine x_putR C fl_RX12_101 (rty_a _) (Or.inr ⟨hnm, _, _, _, rfl, rfl⟩) g7 dX12_init_247 ?_
  refine x_aload_n C dX12_init_250 rfl (lv_at hl 0 rfl) ?_
  refine x_bipush (v := 112) C dX12_init_251 (by decide) ?_
  obtain ⟨g8, g9, h⟩ := h
  refine x_newa C nak_14 (by decide) (by decide) (by decide) g8 g9 dX12_init_253 (fun q10 g11 => ?_)
  refine x_nameS (fun σ12 e13 => ?_)
  have h := h q10 g11 σ12 e13
  obtain ⟨g14, h⟩ := h
  refine x_putR C fl_RX12_104 (rty_a _) (Or.inr ⟨hnm, _, _, _, rfl, rfl⟩) g14 dX12_init_255 ?_
  refine x_aload_n C dX12_init_258 rfl (lv_at hl 0 rfl) ?_
  refine x_bipush (v := 112) C dX12_init_259 (by decide) ?_
  obtain ⟨g15, g16, h⟩ := h
  refine x_newa C nak_14 (by decide) (by decide) (by decide) g15 g16 dX12_init_261 (fun q17 g18 => ?_)
  refine x_nameS (fun σ19 e20 => ?_)
  have h := h q17 g18 σ19 e20
  obtain ⟨g21, h⟩ := h
  refine x_putR C fl_RX12_107 (rty_a _) (Or.inr ⟨hnm, _, _, _, rfl, rfl⟩) g21 dX12_init_263 ?_
  refine x_aload_n C dX12_init_266 rfl (lv_at hl 0 rfl) ?_
  refine x_bipush (v := 7) C dX12_init_267 (by decide) ?_
  obtain ⟨g22, g23, h⟩ := h
  refine x_newa C nak_14 (by decide) (by decide) (by decide) g22 g23 dX12_init_269 (fun q24 g25 => ?_)
  refine x_nameS (fun σ26 e27 => ?_)
  have h := h q24 g25 σ26 e27
  obtain ⟨g28, h⟩ := h
  refine x_putR C fl_RX12_110 (rty_a _) (Or.inr ⟨hnm, _, _, _, rfl, rfl⟩) g28 dX12_init_271 ?_
  refine x_aload_n C dX12_init_274 rfl (lv_at hl 0 rfl) ?_
  refine x_bipush (v := 7) C dX12_init_275 (by decide) ?_
  obtain ⟨g29, g30, h⟩ := h
  refine x_newa C nak_14 (by decide) (by decide) (by decide) g29 g30 dX12_init_277 (fun q31 g32 => ?_)
  refine x_nameS (fun σ33 e34 => ?_)
  have h := h q31 g32 σ33 e34
  obtain ⟨g35, h⟩ := h
  refine x_putR C fl_RX12_113 (rty_a _) (Or.inr ⟨hnm, _, _, _, rfl, rfl⟩) g35 dX12_init_279 ?_
  refine x_aload_n C dX12_init_282 rfl (lv_at hl 0 rfl) ?_
  refine x_bipush (v := 7) C dX12_init_283 (by decide) ?_
  obtain ⟨g36, g37, h⟩ := h
  refine x_newa C nak_14 (by decide) (by decide) (by decide) g36 g37 dX12_init_285 (fun q38 g39 => ?_)
  refine x_nameS (fun σ40 e41 => ?_)
  have h := h q38 g39 σ40 e41
  obtain ⟨g42, h⟩ := h
  refine x_putR C fl_RX12_116 (rty_a _) (Or.inr ⟨hnm, _, _, _, rfl, rfl⟩) g42 dX12_init_287 ?_
  refine x_aload_n C dX12_init_290 rfl (lv_at hl 0 rfl) ?_
  refine x_bipush (v := 7) C dX12_init_291 (by decide) ?_
  obtain ⟨g43, g44, h⟩ := h
  refine x_newa C nak_14 (by decide) (by decide) (by decide) g43 g44 dX12_init_293 (fun q45 g46 => ?_)
  refine x_nameS (fun σ47 e48 => ?_)
  have h := h q45 g46 σ47 e48
  obtain ⟨g49, h⟩ := h
  refine x_putR C fl_RX12_119 (rty_a _) (Or.inr ⟨hnm, _, _, _, rfl, rfl⟩) g49 dX12_init_295 ?_
  exact t_X12_init_298 C hr hnm  p1 p2 ((((((((kc + 1) + 1) + 1) + 1) + 1) + 1) + 1)) ((((((((nc + 112) + 112) + 112) + 7) + 7) + 7) + 7)) _ h ls (lv_sub hl [0, 1, 2] rfl)
def b_X12_init_183 (a0 : Nat)  (Q : Sto → Prop) (p1 : Int32) (p2 : Int32) (kc : Nat) (nc : Nat) (σ : Sto) : Prop := (kc + 1 ≤ 77 ∧ nc + 700 ≤ 171928 ∧ (∀ q3 : Nat, ¬ sK σ q3 < 23 → ∀ σ5 : Sto, σ5 = stN σ q3 14 700 → (sK σ5 a0 = 12 ∧ ((kc + 1) + 1 ≤ 77 ∧ (nc + 700) + 700 ≤ 171928 ∧ (∀ q10 : Nat, ¬ sK σ5 q10 < 23 → ∀ σ12 : Sto, σ12 = stN (stP σ5 a0 33 (some q3)) q10 14 700 → (sK σ12 a0 = 12 ∧ (((kc + 1) + 1) + 1 ≤ 77 ∧ ((nc + 700) + 700) + 700 ≤ 171928 ∧ (∀ q17 : Nat, ¬ sK σ12 q17 < 23 → ∀ σ19 : Sto, σ19 = stN (stP σ12 a0 34 (some q10)) q17 14 700 → (sK σ19 a0 = 12 ∧ ((((kc + 1) + 1) + 1) + 1 ≤ 77 ∧ (((nc + 700) + 700) + 700) + 7 ≤ 171928 ∧ (∀ q24 : Nat, ¬ sK σ19 q24 < 23 → ∀ σ26 : Sto, σ26 = stN (stP σ19 a0 35 (some q17)) q24 14 7 → (sK σ26 a0 = 12 ∧ (((((kc + 1) + 1) + 1) + 1) + 1 ≤ 77 ∧ ((((nc + 700) + 700) + 700) + 7) + 112 ≤ 171928 ∧ (∀ q31 : Nat, ¬ sK σ26 q31 < 23 → ∀ σ33 : Sto, σ33 = stN (stP σ26 a0 36 (some q24)) q31 14 112 → (sK σ33 a0 = 12 ∧ ((((((kc + 1) + 1) + 1) + 1) + 1) + 1 ≤ 77 ∧ (((((nc + 700) + 700) + 700) + 7) + 112) + 112 ≤ 171928 ∧ (∀ q38 : Nat, ¬ sK σ33 q38 < 23 → ∀ σ40 : Sto, σ40 = stN (stP σ33 a0 37 (some q31)) q38 14 112 → (sK σ40 a0 = 12 ∧ (((((((kc + 1) + 1) + 1) + 1) + 1) + 1) + 1 ≤ 77 ∧ ((((((nc + 700) + 700) + 700) + 7) + 112) + 112) + 112 ≤ 171928 ∧ (∀ q45 : Nat, ¬ sK σ40 q45 < 23 → ∀ σ47 : Sto, σ47 = stN (stP σ40 a0 38 (some q38)) q45 14 112 → (sK σ47 a0 = 12 ∧ b_X12_init_242 a0  Q p1 p2 ((((((((kc + 1) + 1) + 1) + 1) + 1) + 1) + 1)) ((((((((nc + 700) + 700) + 700) + 7) + 112) + 112) + 112)) (stP σ47 a0 39 (some q45)))))))))))))))))))))))
set_option maxHeartbeats 4000000 in
set_option maxRecDepth 100000 in
theorem t_X12_init_183 {p : Program} {l : Launch} {e : Env} {s : State} {m : MethodId} {args : Array Value} {below : List Frame} {meth : Method} {c : Code} {D : va_G} {cy : Nat → ClassId} {A : Nat → Prop} {a0 : Nat} {Q : Sto → Prop} (C : Cx p s m args meth c D cy A cX12_init 4 RX12) (hr : meth.sig.returnType = none) (hnm : meth.name = yX12_init.name) (p1 : Int32) (p2 : Int32) (kc : Nat) (nc : Nat) (σ : Sto) (h : b_X12_init_183 a0  Q p1 p2 kc nc σ) (ls : Array Slot) (hl : lv_has ls 4 [(0, .ref a0), (1, .int p1), (2, .int p2)]) : Xw p l e rm_X12_init s m args below meth c D cy A σ kc nc (MQ below (Qst D cy A (PsV Q)) args s rm_X12_init.cells rm_X12_init.slots A) (F0 m 183 ls []) := by
  unfold b_X12_init_183 at h
  refine x_aload_n C dX12_init_183 rfl (lv_at hl 0 rfl) ?_
  refine x_sipush (v := 700) C dX12_init_184 (by decide) ?_
  obtain ⟨g1, g2, h⟩ := h
  refine x_newa C nak_14 (by decide) (by decide) (by decide) g1 g2 dX12_init_187 (fun q3 g4 => ?_)
  refine x_nameS (fun σ5 e6 => ?_)
  have h := h q3 g4 σ5 e6
  obtain ⟨g7, h⟩ := h
  refine x_putR C fl_RX12_80 (rty_a _) (Or.inr ⟨hnm, _, _, _, rfl, rfl⟩) g7 dX12_init_189 ?_
  refine x_aload_n C dX12_init_192 rfl (lv_at hl 0 rfl) ?_
  refine x_sipush (v := 700) C dX12_init_193 (by decide) ?_
  obtain ⟨g8, g9, h⟩ := h
  refine x_newa C nak_14 (by decide) (by decide) (by decide) g8 g9 dX12_init_196 (fun q10 g11 => ?_)
  refine x_nameS (fun σ12 e13 => ?_)
  have h := h q10 g11 σ12 e13
  obtain ⟨g14, h⟩ := h
  refine x_putR C fl_RX12_83 (rty_a _) (Or.inr ⟨hnm, _, _, _, rfl, rfl⟩) g14 dX12_init_198 ?_
  refine x_aload_n C dX12_init_201 rfl (lv_at hl 0 rfl) ?_
  refine x_sipush (v := 700) C dX12_init_202 (by decide) ?_
  obtain ⟨g15, g16, h⟩ := h
  refine x_newa C nak_14 (by decide) (by decide) (by decide) g15 g16 dX12_init_205 (fun q17 g18 => ?_)
  refine x_nameS (fun σ19 e20 => ?_)
  have h := h q17 g18 σ19 e20
  obtain ⟨g21, h⟩ := h
  refine x_putR C fl_RX12_86 (rty_a _) (Or.inr ⟨hnm, _, _, _, rfl, rfl⟩) g21 dX12_init_207 ?_
  refine x_aload_n C dX12_init_210 rfl (lv_at hl 0 rfl) ?_
  refine x_bipush (v := 7) C dX12_init_211 (by decide) ?_
  obtain ⟨g22, g23, h⟩ := h
  refine x_newa C nak_14 (by decide) (by decide) (by decide) g22 g23 dX12_init_213 (fun q24 g25 => ?_)
  refine x_nameS (fun σ26 e27 => ?_)
  have h := h q24 g25 σ26 e27
  obtain ⟨g28, h⟩ := h
  refine x_putR C fl_RX12_89 (rty_a _) (Or.inr ⟨hnm, _, _, _, rfl, rfl⟩) g28 dX12_init_215 ?_
  refine x_aload_n C dX12_init_218 rfl (lv_at hl 0 rfl) ?_
  refine x_bipush (v := 112) C dX12_init_219 (by decide) ?_
  obtain ⟨g29, g30, h⟩ := h
  refine x_newa C nak_14 (by decide) (by decide) (by decide) g29 g30 dX12_init_221 (fun q31 g32 => ?_)
  refine x_nameS (fun σ33 e34 => ?_)
  have h := h q31 g32 σ33 e34
  obtain ⟨g35, h⟩ := h
  refine x_putR C fl_RX12_92 (rty_a _) (Or.inr ⟨hnm, _, _, _, rfl, rfl⟩) g35 dX12_init_223 ?_
  refine x_aload_n C dX12_init_226 rfl (lv_at hl 0 rfl) ?_
  refine x_bipush (v := 112) C dX12_init_227 (by decide) ?_
  obtain ⟨g36, g37, h⟩ := h
  refine x_newa C nak_14 (by decide) (by decide) (by decide) g36 g37 dX12_init_229 (fun q38 g39 => ?_)
  refine x_nameS (fun σ40 e41 => ?_)
  have h := h q38 g39 σ40 e41
  obtain ⟨g42, h⟩ := h
  refine x_putR C fl_RX12_95 (rty_a _) (Or.inr ⟨hnm, _, _, _, rfl, rfl⟩) g42 dX12_init_231 ?_
  refine x_aload_n C dX12_init_234 rfl (lv_at hl 0 rfl) ?_
  refine x_bipush (v := 112) C dX12_init_235 (by decide) ?_
  obtain ⟨g43, g44, h⟩ := h
  refine x_newa C nak_14 (by decide) (by decide) (by decide) g43 g44 dX12_init_237 (fun q45 g46 => ?_)
  refine x_nameS (fun σ47 e48 => ?_)
  have h := h q45 g46 σ47 e48
  obtain ⟨g49, h⟩ := h
  refine x_putR C fl_RX12_98 (rty_a _) (Or.inr ⟨hnm, _, _, _, rfl, rfl⟩) g49 dX12_init_239 ?_
  exact t_X12_init_242 C hr hnm  p1 p2 ((((((((kc + 1) + 1) + 1) + 1) + 1) + 1) + 1)) ((((((((nc + 700) + 700) + 700) + 7) + 112) + 112) + 112)) _ h ls (lv_sub hl [0, 1, 2] rfl)
def b_X12_init_124 (a0 : Nat)  (Q : Sto → Prop) (p1 : Int32) (p2 : Int32) (kc : Nat) (nc : Nat) (σ : Sto) : Prop := (kc + 1 ≤ 77 ∧ nc + 7 ≤ 171928 ∧ (∀ q3 : Nat, ¬ sK σ q3 < 23 → ∀ σ5 : Sto, σ5 = stN σ q3 14 7 → (sK σ5 a0 = 12 ∧ ((kc + 1) + 1 ≤ 77 ∧ (nc + 7) + 7 ≤ 171928 ∧ (∀ q10 : Nat, ¬ sK σ5 q10 < 23 → ∀ σ12 : Sto, σ12 = stN (stP σ5 a0 26 (some q3)) q10 14 7 → (sK σ12 a0 = 12 ∧ (((kc + 1) + 1) + 1 ≤ 77 ∧ ((nc + 7) + 7) + 7 ≤ 171928 ∧ (∀ q17 : Nat, ¬ sK σ12 q17 < 23 → ∀ σ19 : Sto, σ19 = stN (stP σ12 a0 27 (some q10)) q17 14 7 → (sK σ19 a0 = 12 ∧ ((((kc + 1) + 1) + 1) + 1 ≤ 77 ∧ (((nc + 7) + 7) + 7) + 7 ≤ 171928 ∧ (∀ q24 : Nat, ¬ sK σ19 q24 < 23 → ∀ σ26 : Sto, σ26 = stN (stP σ19 a0 28 (some q17)) q24 14 7 → (sK σ26 a0 = 12 ∧ (((((kc + 1) + 1) + 1) + 1) + 1 ≤ 77 ∧ ((((nc + 7) + 7) + 7) + 7) + 700 ≤ 171928 ∧ (∀ q31 : Nat, ¬ sK σ26 q31 < 23 → ∀ σ33 : Sto, σ33 = stN (stP σ26 a0 29 (some q24)) q31 16 700 → (sK σ33 a0 = 12 ∧ ((((((kc + 1) + 1) + 1) + 1) + 1) + 1 ≤ 77 ∧ (((((nc + 7) + 7) + 7) + 7) + 700) + 700 ≤ 171928 ∧ (∀ q38 : Nat, ¬ sK σ33 q38 < 23 → ∀ σ40 : Sto, σ40 = stN (stP σ33 a0 30 (some q31)) q38 14 700 → (sK σ40 a0 = 12 ∧ (((((((kc + 1) + 1) + 1) + 1) + 1) + 1) + 1 ≤ 77 ∧ ((((((nc + 7) + 7) + 7) + 7) + 700) + 700) + 700 ≤ 171928 ∧ (∀ q45 : Nat, ¬ sK σ40 q45 < 23 → ∀ σ47 : Sto, σ47 = stN (stP σ40 a0 31 (some q38)) q45 14 700 → (sK σ47 a0 = 12 ∧ b_X12_init_183 a0  Q p1 p2 ((((((((kc + 1) + 1) + 1) + 1) + 1) + 1) + 1)) ((((((((nc + 7) + 7) + 7) + 7) + 700) + 700) + 700)) (stP σ47 a0 32 (some q45)))))))))))))))))))))))
set_option maxHeartbeats 4000000 in
set_option maxRecDepth 100000 in
theorem t_X12_init_124 {p : Program} {l : Launch} {e : Env} {s : State} {m : MethodId} {args : Array Value} {below : List Frame} {meth : Method} {c : Code} {D : va_G} {cy : Nat → ClassId} {A : Nat → Prop} {a0 : Nat} {Q : Sto → Prop} (C : Cx p s m args meth c D cy A cX12_init 4 RX12) (hr : meth.sig.returnType = none) (hnm : meth.name = yX12_init.name) (p1 : Int32) (p2 : Int32) (kc : Nat) (nc : Nat) (σ : Sto) (h : b_X12_init_124 a0  Q p1 p2 kc nc σ) (ls : Array Slot) (hl : lv_has ls 4 [(0, .ref a0), (1, .int p1), (2, .int p2)]) : Xw p l e rm_X12_init s m args below meth c D cy A σ kc nc (MQ below (Qst D cy A (PsV Q)) args s rm_X12_init.cells rm_X12_init.slots A) (F0 m 124 ls []) := by
  unfold b_X12_init_124 at h
  refine x_aload_n C dX12_init_124 rfl (lv_at hl 0 rfl) ?_
  refine x_bipush (v := 7) C dX12_init_125 (by decide) ?_
  obtain ⟨g1, g2, h⟩ := h
  refine x_newa C nak_14 (by decide) (by decide) (by decide) g1 g2 dX12_init_127 (fun q3 g4 => ?_)
  refine x_nameS (fun σ5 e6 => ?_)
  have h := h q3 g4 σ5 e6
  obtain ⟨g7, h⟩ := h
  refine x_putR C fl_RX12_59 (rty_a _) (Or.inr ⟨hnm, _, _, _, rfl, rfl⟩) g7 dX12_init_129 ?_
  refine x_aload_n C dX12_init_132 rfl (lv_at hl 0 rfl) ?_
  refine x_bipush (v := 7) C dX12_init_133 (by decide) ?_
  obtain ⟨g8, g9, h⟩ := h
  refine x_newa C nak_14 (by decide) (by decide) (by decide) g8 g9 dX12_init_135 (fun q10 g11 => ?_)
  refine x_nameS (fun σ12 e13 => ?_)
  have h := h q10 g11 σ12 e13
  obtain ⟨g14, h⟩ := h
  refine x_putR C fl_RX12_62 (rty_a _) (Or.inr ⟨hnm, _, _, _, rfl, rfl⟩) g14 dX12_init_137 ?_
  refine x_aload_n C dX12_init_140 rfl (lv_at hl 0 rfl) ?_
  refine x_bipush (v := 7) C dX12_init_141 (by decide) ?_
  obtain ⟨g15, g16, h⟩ := h
  refine x_newa C nak_14 (by decide) (by decide) (by decide) g15 g16 dX12_init_143 (fun q17 g18 => ?_)
  refine x_nameS (fun σ19 e20 => ?_)
  have h := h q17 g18 σ19 e20
  obtain ⟨g21, h⟩ := h
  refine x_putR C fl_RX12_65 (rty_a _) (Or.inr ⟨hnm, _, _, _, rfl, rfl⟩) g21 dX12_init_145 ?_
  refine x_aload_n C dX12_init_148 rfl (lv_at hl 0 rfl) ?_
  refine x_bipush (v := 7) C dX12_init_149 (by decide) ?_
  obtain ⟨g22, g23, h⟩ := h
  refine x_newa C nak_14 (by decide) (by decide) (by decide) g22 g23 dX12_init_151 (fun q24 g25 => ?_)
  refine x_nameS (fun σ26 e27 => ?_)
  have h := h q24 g25 σ26 e27
  obtain ⟨g28, h⟩ := h
  refine x_putR C fl_RX12_68 (rty_a _) (Or.inr ⟨hnm, _, _, _, rfl, rfl⟩) g28 dX12_init_153 ?_
  refine x_aload_n C dX12_init_156 rfl (lv_at hl 0 rfl) ?_
  refine x_sipush (v := 700) C dX12_init_157 (by decide) ?_
  obtain ⟨g29, g30, h⟩ := h
  refine x_newa C nak_16 (by decide) (by decide) (by decide) g29 g30 dX12_init_160 (fun q31 g32 => ?_)
  refine x_nameS (fun σ33 e34 => ?_)
  have h := h q31 g32 σ33 e34
  obtain ⟨g35, h⟩ := h
  refine x_putR C fl_RX12_71 (rty_a _) (Or.inr ⟨hnm, _, _, _, rfl, rfl⟩) g35 dX12_init_162 ?_
  refine x_aload_n C dX12_init_165 rfl (lv_at hl 0 rfl) ?_
  refine x_sipush (v := 700) C dX12_init_166 (by decide) ?_
  obtain ⟨g36, g37, h⟩ := h
  refine x_newa C nak_14 (by decide) (by decide) (by decide) g36 g37 dX12_init_169 (fun q38 g39 => ?_)
  refine x_nameS (fun σ40 e41 => ?_)
  have h := h q38 g39 σ40 e41
  obtain ⟨g42, h⟩ := h
  refine x_putR C fl_RX12_74 (rty_a _) (Or.inr ⟨hnm, _, _, _, rfl, rfl⟩) g42 dX12_init_171 ?_
  refine x_aload_n C dX12_init_174 rfl (lv_at hl 0 rfl) ?_
  refine x_sipush (v := 700) C dX12_init_175 (by decide) ?_
  obtain ⟨g43, g44, h⟩ := h
  refine x_newa C nak_14 (by decide) (by decide) (by decide) g43 g44 dX12_init_178 (fun q45 g46 => ?_)
  refine x_nameS (fun σ47 e48 => ?_)
  have h := h q45 g46 σ47 e48
  obtain ⟨g49, h⟩ := h
  refine x_putR C fl_RX12_77 (rty_a _) (Or.inr ⟨hnm, _, _, _, rfl, rfl⟩) g49 dX12_init_180 ?_
  exact t_X12_init_183 C hr hnm  p1 p2 ((((((((kc + 1) + 1) + 1) + 1) + 1) + 1) + 1)) ((((((((nc + 7) + 7) + 7) + 7) + 700) + 700) + 700)) _ h ls (lv_sub hl [0, 1, 2] rfl)
def b_X12_init_66 (a0 : Nat)  (Q : Sto → Prop) (p1 : Int32) (p2 : Int32) (kc : Nat) (nc : Nat) (σ : Sto) : Prop := (sK σ a0 = 12 ∧ (kc + 1 ≤ 77 ∧ nc + 7 ≤ 171928 ∧ (∀ q4 : Nat, ¬ sK σ q4 < 23 → ∀ σ6 : Sto, σ6 = stN (stI (stI σ a0 16 (1 : Int32)) a0 17 (1 : Int32)) q4 16 7 → (sK σ6 a0 = 12 ∧ ((kc + 1) + 1 ≤ 77 ∧ (nc + 7) + 7 ≤ 171928 ∧ (∀ q11 : Nat, ¬ sK σ6 q11 < 23 → ∀ σ13 : Sto, σ13 = stN (stP σ6 a0 20 (some q4)) q11 14 7 → (sK σ13 a0 = 12 ∧ (((kc + 1) + 1) + 1 ≤ 77 ∧ ((nc + 7) + 7) + 7 ≤ 171928 ∧ (∀ q18 : Nat, ¬ sK σ13 q18 < 23 → ∀ σ20 : Sto, σ20 = stN (stP σ13 a0 21 (some q11)) q18 14 7 → (sK σ20 a0 = 12 ∧ ((((kc + 1) + 1) + 1) + 1 ≤ 77 ∧ (((nc + 7) + 7) + 7) + 7 ≤ 171928 ∧ (∀ q25 : Nat, ¬ sK σ20 q25 < 23 → ∀ σ27 : Sto, σ27 = stN (stP σ20 a0 22 (some q18)) q25 14 7 → (sK σ27 a0 = 12 ∧ (((((kc + 1) + 1) + 1) + 1) + 1 ≤ 77 ∧ ((((nc + 7) + 7) + 7) + 7) + 7 ≤ 171928 ∧ (∀ q32 : Nat, ¬ sK σ27 q32 < 23 → ∀ σ34 : Sto, σ34 = stN (stP σ27 a0 23 (some q25)) q32 14 7 → (sK σ34 a0 = 12 ∧ ((((((kc + 1) + 1) + 1) + 1) + 1) + 1 ≤ 77 ∧ (((((nc + 7) + 7) + 7) + 7) + 7) + 7 ≤ 171928 ∧ (∀ q39 : Nat, ¬ sK σ34 q39 < 23 → ∀ σ41 : Sto, σ41 = stN (stP σ34 a0 24 (some q32)) q39 14 7 → (sK σ41 a0 = 12 ∧ b_X12_init_124 a0  Q p1 p2 (((((((kc + 1) + 1) + 1) + 1) + 1) + 1)) (((((((nc + 7) + 7) + 7) + 7) + 7) + 7)) (stP σ41 a0 25 (some q39)))))))))))))))))))))
set_option maxHeartbeats 4000000 in
set_option maxRecDepth 100000 in
theorem t_X12_init_66 {p : Program} {l : Launch} {e : Env} {s : State} {m : MethodId} {args : Array Value} {below : List Frame} {meth : Method} {c : Code} {D : va_G} {cy : Nat → ClassId} {A : Nat → Prop} {a0 : Nat} {Q : Sto → Prop} (C : Cx p s m args meth c D cy A cX12_init 4 RX12) (hr : meth.sig.returnType = none) (hnm : meth.name = yX12_init.name) (p1 : Int32) (p2 : Int32) (kc : Nat) (nc : Nat) (σ : Sto) (h : b_X12_init_66 a0  Q p1 p2 kc nc σ) (ls : Array Slot) (hl : lv_has ls 4 [(0, .ref a0), (1, .int p1), (2, .int p2)]) : Xw p l e rm_X12_init s m args below meth c D cy A σ kc nc (MQ below (Qst D cy A (PsV Q)) args s rm_X12_init.cells rm_X12_init.slots A) (F0 m 66 ls []) := by
  unfold b_X12_init_66 at h
  refine x_aload_n C dX12_init_66 rfl (lv_at hl 0 rfl) ?_
  refine x_iconst (v := 1) C dX12_init_67 (by decide) ?_
  obtain ⟨g1, h⟩ := h
  refine x_putZ C fl_RX12_33 (Or.inl rfl) (by decide) g1 dX12_init_68 ?_
  refine x_aload_n C dX12_init_71 rfl (lv_at hl 0 rfl) ?_
  refine x_iconst (v := 1) C dX12_init_72 (by decide) ?_
  refine x_putI C fl_RX12_37 (Or.inl rfl) g1 dX12_init_73 ?_
  refine x_aload_n C dX12_init_76 rfl (lv_at hl 0 rfl) ?_
  refine x_bipush (v := 7) C dX12_init_77 (by decide) ?_
  obtain ⟨g2, g3, h⟩ := h
  refine x_newa C nak_16 (by decide) (by decide) (by decide) g2 g3 dX12_init_79 (fun q4 g5 => ?_)
  refine x_nameS (fun σ6 e7 => ?_)
  have h := h q4 g5 σ6 e7
  obtain ⟨g8, h⟩ := h
  refine x_putR C fl_RX12_41 (rty_a _) (Or.inr ⟨hnm, _, _, _, rfl, rfl⟩) g8 dX12_init_81 ?_
  refine x_aload_n C dX12_init_84 rfl (lv_at hl 0 rfl) ?_
  refine x_bipush (v := 7) C dX12_init_85 (by decide) ?_
  obtain ⟨g9, g10, h⟩ := h
  refine x_newa C nak_14 (by decide) (by decide) (by decide) g9 g10 dX12_init_87 (fun q11 g12 => ?_)
  refine x_nameS (fun σ13 e14 => ?_)
  have h := h q11 g12 σ13 e14
  obtain ⟨g15, h⟩ := h
  refine x_putR C fl_RX12_44 (rty_a _) (Or.inr ⟨hnm, _, _, _, rfl, rfl⟩) g15 dX12_init_89 ?_
  refine x_aload_n C dX12_init_92 rfl (lv_at hl 0 rfl) ?_
  refine x_bipush (v := 7) C dX12_init_93 (by decide) ?_
  obtain ⟨g16, g17, h⟩ := h
  refine x_newa C nak_14 (by decide) (by decide) (by decide) g16 g17 dX12_init_95 (fun q18 g19 => ?_)
  refine x_nameS (fun σ20 e21 => ?_)
  have h := h q18 g19 σ20 e21
  obtain ⟨g22, h⟩ := h
  refine x_putR C fl_RX12_47 (rty_a _) (Or.inr ⟨hnm, _, _, _, rfl, rfl⟩) g22 dX12_init_97 ?_
  refine x_aload_n C dX12_init_100 rfl (lv_at hl 0 rfl) ?_
  refine x_bipush (v := 7) C dX12_init_101 (by decide) ?_
  obtain ⟨g23, g24, h⟩ := h
  refine x_newa C nak_14 (by decide) (by decide) (by decide) g23 g24 dX12_init_103 (fun q25 g26 => ?_)
  refine x_nameS (fun σ27 e28 => ?_)
  have h := h q25 g26 σ27 e28
  obtain ⟨g29, h⟩ := h
  refine x_putR C fl_RX12_50 (rty_a _) (Or.inr ⟨hnm, _, _, _, rfl, rfl⟩) g29 dX12_init_105 ?_
  refine x_aload_n C dX12_init_108 rfl (lv_at hl 0 rfl) ?_
  refine x_bipush (v := 7) C dX12_init_109 (by decide) ?_
  obtain ⟨g30, g31, h⟩ := h
  refine x_newa C nak_14 (by decide) (by decide) (by decide) g30 g31 dX12_init_111 (fun q32 g33 => ?_)
  refine x_nameS (fun σ34 e35 => ?_)
  have h := h q32 g33 σ34 e35
  obtain ⟨g36, h⟩ := h
  refine x_putR C fl_RX12_53 (rty_a _) (Or.inr ⟨hnm, _, _, _, rfl, rfl⟩) g36 dX12_init_113 ?_
  refine x_aload_n C dX12_init_116 rfl (lv_at hl 0 rfl) ?_
  refine x_bipush (v := 7) C dX12_init_117 (by decide) ?_
  obtain ⟨g37, g38, h⟩ := h
  refine x_newa C nak_14 (by decide) (by decide) (by decide) g37 g38 dX12_init_119 (fun q39 g40 => ?_)
  refine x_nameS (fun σ41 e42 => ?_)
  have h := h q39 g40 σ41 e42
  obtain ⟨g43, h⟩ := h
  refine x_putR C fl_RX12_56 (rty_a _) (Or.inr ⟨hnm, _, _, _, rfl, rfl⟩) g43 dX12_init_121 ?_
  exact t_X12_init_124 C hr hnm  p1 p2 (((((((kc + 1) + 1) + 1) + 1) + 1) + 1)) (((((((nc + 7) + 7) + 7) + 7) + 7) + 7)) _ h ls (lv_sub hl [0, 1, 2] rfl)
def wp_X12_init (a0 : Nat) (p1 : Int32) (p2 : Int32) (σ : Sto) (Q : Sto → Prop) : Prop := (0 + 1 ≤ 77 ∧ 0 + 200 ≤ 171928 ∧ (∀ q3 : Nat, ¬ sK σ q3 < 23 → ∀ σ5 : Sto, σ5 = stN σ q3 14 200 → (sK σ5 a0 = 12 ∧ ((0 + 1) + 1 ≤ 77 ∧ (0 + 200) + 200 ≤ 171928 ∧ (∀ q10 : Nat, ¬ sK σ5 q10 < 23 → ∀ σ12 : Sto, σ12 = stN (stP σ5 a0 5 (some q3)) q10 16 200 → (sK σ12 a0 = 12 ∧ (((0 + 1) + 1) + 1 ≤ 77 ∧ ((0 + 200) + 200) + 128000 ≤ 171928 ∧ (∀ q17 : Nat, ¬ sK σ12 q17 < 23 → ∀ σ19 : Sto, σ19 = stN (stP σ12 a0 9 (some q10)) q17 14 128000 → (sK σ19 a0 = 12 ∧ ((((0 + 1) + 1) + 1) + 1 ≤ 77 ∧ (((0 + 200) + 200) + 128000) + 200 ≤ 171928 ∧ (∀ q24 : Nat, ¬ sK σ19 q24 < 23 → ∀ σ26 : Sto, σ26 = stN (stP σ19 a0 10 (some q17)) q24 14 200 → (sK σ26 a0 = 12 ∧ (((((0 + 1) + 1) + 1) + 1) + 1 ≤ 77 ∧ ((((0 + 200) + 200) + 128000) + 200) + 200 ≤ 171928 ∧ (∀ q31 : Nat, ¬ sK σ26 q31 < 23 → ∀ σ33 : Sto, σ33 = stN (stP σ26 a0 11 (some q24)) q31 14 200 → (sK σ33 a0 = 12 ∧ ((((((0 + 1) + 1) + 1) + 1) + 1) + 1 ≤ 77 ∧ (((((0 + 200) + 200) + 128000) + 200) + 200) + 640 ≤ 171928 ∧ (∀ q38 : Nat, ¬ sK σ33 q38 < 23 → ∀ σ40 : Sto, σ40 = stN (stP σ33 a0 12 (some q31)) q38 14 640 → (sK σ40 a0 = 12 ∧ (((((((0 + 1) + 1) + 1) + 1) + 1) + 1) + 1 ≤ 77 ∧ ((((((0 + 200) + 200) + 128000) + 200) + 200) + 640) + 640 ≤ 171928 ∧ (∀ q45 : Nat, ¬ sK σ40 q45 < 23 → ∀ σ47 : Sto, σ47 = stN (stP σ40 a0 13 (some q38)) q45 14 640 → (sK σ47 a0 = 12 ∧ b_X12_init_66 a0  Q p1 p2 ((((((((0 + 1) + 1) + 1) + 1) + 1) + 1) + 1)) ((((((((0 + 200) + 200) + 128000) + 200) + 200) + 640) + 640)) (stP σ47 a0 15 (some q45)))))))))))))))))))))))
set_option maxHeartbeats 4000000 in
set_option maxRecDepth 100000 in
theorem c_X12_init (l : Launch) (D : va_G) (cy : Nat → ClassId) (a0 : Nat) (p1 : Int32) (p2 : Int32) (σ : Sto) (Q : Sto → Prop) (h : wp_X12_init a0 p1 p2 σ Q) : Mt l D cy yX12_init cX12_init 4 none rm_X12_init [.ref a0, .int p1, .int p2] σ (PsV Q) := by
  unfold wp_X12_init at h
  refine mt_of (by decide +kernel) (Nat.le_of_ble_eq_true rfl) ?_
  intro p e s m args below meth c A ls C hr hnm hl
  have C : Cx p s m args meth c D cy A cX12_init 4 RX12 := C
  have hl : lv_has ls 4 [(0, .ref a0), (1, .int p1), (2, .int p2)] := hl
  refine x_aload_n C dX12_init_0 rfl (lv_at hl 0 rfl) ?_
  refine x_objInit C oi_RX12_1 oi_w2 oi_w3 hl.1 (by decide) (Nat.le_of_ble_eq_true rfl) dX12_init_1 ?_
  refine x_aload_n C dX12_init_4 rfl (lv_at hl 0 rfl) ?_
  refine x_sipush (v := 200) C dX12_init_5 (by decide) ?_
  obtain ⟨g1, g2, h⟩ := h
  refine x_newa C nak_14 (by decide) (by decide) (by decide) g1 g2 dX12_init_8 (fun q3 g4 => ?_)
  refine x_nameS (fun σ5 e6 => ?_)
  have h := h q3 g4 σ5 e6
  obtain ⟨g7, h⟩ := h
  refine x_putR C fl_RX12_9 (rty_a _) (Or.inr ⟨hnm, _, _, _, rfl, rfl⟩) g7 dX12_init_10 ?_
  refine x_aload_n C dX12_init_13 rfl (lv_at hl 0 rfl) ?_
  refine x_sipush (v := 200) C dX12_init_14 (by decide) ?_
  obtain ⟨g8, g9, h⟩ := h
  refine x_newa C nak_16 (by decide) (by decide) (by decide) g8 g9 dX12_init_17 (fun q10 g11 => ?_)
  refine x_nameS (fun σ12 e13 => ?_)
  have h := h q10 g11 σ12 e13
  obtain ⟨g14, h⟩ := h
  refine x_putR C fl_RX12_13 (rty_a _) (Or.inr ⟨hnm, _, _, _, rfl, rfl⟩) g14 dX12_init_19 ?_
  refine x_aload_n C dX12_init_22 rfl (lv_at hl 0 rfl) ?_
  refine x_ldc C kk_RX12_17 dX12_init_23 ?_
  obtain ⟨g15, g16, h⟩ := h
  refine x_newa C nak_14 (by decide) (by decide) (by decide) g15 g16 dX12_init_25 (fun q17 g18 => ?_)
  refine x_nameS (fun σ19 e20 => ?_)
  have h := h q17 g18 σ19 e20
  obtain ⟨g21, h⟩ := h
  refine x_putR C fl_RX12_18 (rty_a _) (Or.inr ⟨hnm, _, _, _, rfl, rfl⟩) g21 dX12_init_27 ?_
  refine x_aload_n C dX12_init_30 rfl (lv_at hl 0 rfl) ?_
  refine x_sipush (v := 200) C dX12_init_31 (by decide) ?_
  obtain ⟨g22, g23, h⟩ := h
  refine x_newa C nak_14 (by decide) (by decide) (by decide) g22 g23 dX12_init_34 (fun q24 g25 => ?_)
  refine x_nameS (fun σ26 e27 => ?_)
  have h := h q24 g25 σ26 e27
  obtain ⟨g28, h⟩ := h
  refine x_putR C fl_RX12_21 (rty_a _) (Or.inr ⟨hnm, _, _, _, rfl, rfl⟩) g28 dX12_init_36 ?_
  refine x_aload_n C dX12_init_39 rfl (lv_at hl 0 rfl) ?_
  refine x_sipush (v := 200) C dX12_init_40 (by decide) ?_
  obtain ⟨g29, g30, h⟩ := h
  refine x_newa C nak_14 (by decide) (by decide) (by decide) g29 g30 dX12_init_43 (fun q31 g32 => ?_)
  refine x_nameS (fun σ33 e34 => ?_)
  have h := h q31 g32 σ33 e34
  obtain ⟨g35, h⟩ := h
  refine x_putR C fl_RX12_24 (rty_a _) (Or.inr ⟨hnm, _, _, _, rfl, rfl⟩) g35 dX12_init_45 ?_
  refine x_aload_n C dX12_init_48 rfl (lv_at hl 0 rfl) ?_
  refine x_sipush (v := 640) C dX12_init_49 (by decide) ?_
  obtain ⟨g36, g37, h⟩ := h
  refine x_newa C nak_14 (by decide) (by decide) (by decide) g36 g37 dX12_init_52 (fun q38 g39 => ?_)
  refine x_nameS (fun σ40 e41 => ?_)
  have h := h q38 g39 σ40 e41
  obtain ⟨g42, h⟩ := h
  refine x_putR C fl_RX12_27 (rty_a _) (Or.inr ⟨hnm, _, _, _, rfl, rfl⟩) g42 dX12_init_54 ?_
  refine x_aload_n C dX12_init_57 rfl (lv_at hl 0 rfl) ?_
  refine x_sipush (v := 640) C dX12_init_58 (by decide) ?_
  obtain ⟨g43, g44, h⟩ := h
  refine x_newa C nak_14 (by decide) (by decide) (by decide) g43 g44 dX12_init_61 (fun q45 g46 => ?_)
  refine x_nameS (fun σ47 e48 => ?_)
  have h := h q45 g46 σ47 e48
  obtain ⟨g49, h⟩ := h
  refine x_putR C fl_RX12_30 (rty_a _) (Or.inr ⟨hnm, _, _, _, rfl, rfl⟩) g49 dX12_init_63 ?_
  exact t_X12_init_66 C hr hnm  p1 p2 ((((((((0 + 1) + 1) + 1) + 1) + 1) + 1) + 1)) ((((((((0 + 200) + 200) + 128000) + 200) + 200) + 640) + 640)) _ h ls (lv_sub hl [0, 1, 2] rfl)
theorem dX12_thrown_0 : decode cX12_thrown 0 = .ok (.aload_n 0, 1) := by decide +kernel
theorem dX12_thrown_1 : decode cX12_thrown 1 = .ok (.getfield 267, 3) := by decide +kernel
theorem dX12_thrown_4 : decode cX12_thrown 4 = .ok (.ireturn, 1) := by decide +kernel
abbrev rm_X12_thrown : Room := { frames := 0, cells := 0, slots := 0, locals := 0 }
def wp_X12_thrown (a0 : Nat)  (σ : Sto) (Q : Int32 → Sto → Prop) : Prop := (sK σ a0 = 12 ∧ (∀ x2 : Int32, x2 = sI σ a0 0 → Q x2 σ))
set_option maxHeartbeats 4000000 in
set_option maxRecDepth 100000 in
theorem c_X12_thrown (l : Launch) (D : va_G) (cy : Nat → ClassId) (a0 : Nat)  (σ : Sto) (Q : Int32 → Sto → Prop) (h : wp_X12_thrown a0  σ Q) : Mt l D cy yX12_thrown cX12_thrown 1 (some .int) rm_X12_thrown [.ref a0] σ (PsI Q) := by
  unfold wp_X12_thrown at h
  refine mt_of (by decide +kernel) (Nat.le_of_ble_eq_true rfl) ?_
  intro p e s m args below meth c A ls C hr hnm hl
  have C : Cx p s m args meth c D cy A cX12_thrown 1 RX12 := C
  have hl : lv_has ls 1 [(0, .ref a0)] := hl
  refine x_aload_n C dX12_thrown_0 rfl (lv_at hl 0 rfl) ?_
  obtain ⟨g1, h⟩ := h
  refine x_getI C fl_RX12_267 g1 dX12_thrown_1 ?_
  refine x_topi (fun x2 e3 => ?_)
  have h := h x2 e3
  exact x_iret C hr dX12_thrown_4 ⟨_, rfl, h⟩
theorem dX12_refuse_0 : decode cX12_refuse 0 = .ok (.aload_n 0, 1) := by decide +kernel
theorem dX12_refuse_1 : decode cX12_refuse 1 = .ok (.iload_n 1, 1) := by decide +kernel
theorem dX12_refuse_2 : decode cX12_refuse 2 = .ok (.putfield 267, 3) := by decide +kernel
theorem dX12_refuse_5 : decode cX12_refuse 5 = .ok (.iconst 0, 1) := by decide +kernel
theorem dX12_refuse_6 : decode cX12_refuse 6 = .ok (.ireturn, 1) := by decide +kernel
abbrev rm_X12_refuse : Room := { frames := 0, cells := 0, slots := 0, locals := 0 }
def wp_X12_refuse (a0 : Nat) (p1 : Int32) (σ : Sto) (Q : Int32 → Sto → Prop) : Prop := (sK σ a0 = 12 ∧ Q (0 : Int32) (stI σ a0 0 p1))
set_option maxHeartbeats 4000000 in
set_option maxRecDepth 100000 in
theorem c_X12_refuse (l : Launch) (D : va_G) (cy : Nat → ClassId) (a0 : Nat) (p1 : Int32) (σ : Sto) (Q : Int32 → Sto → Prop) (h : wp_X12_refuse a0 p1 σ Q) : Mt l D cy yX12_refuse cX12_refuse 2 (some .int) rm_X12_refuse [.ref a0, .int p1] σ (PsI Q) := by
  unfold wp_X12_refuse at h
  refine mt_of (by decide +kernel) (Nat.le_of_ble_eq_true rfl) ?_
  intro p e s m args below meth c A ls C hr hnm hl
  have C : Cx p s m args meth c D cy A cX12_refuse 2 RX12 := C
  have hl : lv_has ls 2 [(0, .ref a0), (1, .int p1)] := hl
  refine x_aload_n C dX12_refuse_0 rfl (lv_at hl 0 rfl) ?_
  refine x_iload_n C dX12_refuse_1 rfl (lv_at hl 1 rfl) ?_
  obtain ⟨g1, h⟩ := h
  refine x_putI C fl_RX12_267 (Or.inl rfl) g1 dX12_refuse_2 ?_
  refine x_iconst (v := 0) C dX12_refuse_5 (by decide) ?_
  exact x_iret C hr dX12_refuse_6 ⟨_, rfl, h⟩
theorem dX12_in_0 : decode cX12_in 0 = .ok (.iload_n 0, 1) := by decide +kernel
theorem dX12_in_1 : decode cX12_in 1 = .ok (.iload_n 1, 1) := by decide +kernel
theorem dX12_in_2 : decode cX12_in 2 = .ok (.if_icmp .lt 12, 3) := by decide +kernel
theorem dX12_in_5 : decode cX12_in 5 = .ok (.iload_n 0, 1) := by decide +kernel
theorem dX12_in_6 : decode cX12_in 6 = .ok (.iload_n 2, 1) := by decide +kernel
theorem dX12_in_7 : decode cX12_in 7 = .ok (.if_icmp .gt 7, 3) := by decide +kernel
theorem dX12_in_10 : decode cX12_in 10 = .ok (.iconst 1, 1) := by decide +kernel
theorem dX12_in_11 : decode cX12_in 11 = .ok (.goto 4, 3) := by decide +kernel
theorem dX12_in_14 : decode cX12_in 14 = .ok (.iconst 0, 1) := by decide +kernel
theorem dX12_in_15 : decode cX12_in 15 = .ok (.ireturn, 1) := by decide +kernel
abbrev rm_X12_in : Room := { frames := 0, cells := 0, slots := 0, locals := 0 }
def wp_X12_in (p0 : Int32) (p1 : Int32) (p2 : Int32) (σ : Sto) (Q : Int32 → Sto → Prop) : Prop := ((p0 < p1 → Q (0 : Int32) σ) ∧ (¬ p0 < p1 → ((p2 < p0 → Q (0 : Int32) σ) ∧ (¬ p2 < p0 → Q (1 : Int32) σ))))
set_option maxHeartbeats 4000000 in
set_option maxRecDepth 100000 in
theorem c_X12_in (l : Launch) (D : va_G) (cy : Nat → ClassId) (p0 : Int32) (p1 : Int32) (p2 : Int32) (σ : Sto) (Q : Int32 → Sto → Prop) (h : wp_X12_in p0 p1 p2 σ Q) : Mt l D cy yX12_in cX12_in 3 (some .boolean) rm_X12_in [.int p0, .int p1, .int p2] σ (PsI Q) := by
  unfold wp_X12_in at h
  refine mt_of (by decide +kernel) (Nat.le_of_ble_eq_true rfl) ?_
  intro p e s m args below meth c A ls C hr hnm hl
  have C : Cx p s m args meth c D cy A cX12_in 3 RX12 := C
  have hl : lv_has ls 3 [(0, .int p0), (1, .int p1), (2, .int p2)] := hl
  refine x_iload_n C dX12_in_0 rfl (lv_at hl 0 rfl) ?_
  refine x_iload_n C dX12_in_1 rfl (lv_at hl 1 rfl) ?_
  refine x_icmp_lt (tgt := 14) C dX12_in_2 (by decide) (fun c1 => ?_) (fun c1 => ?_)
  · have h := h.1 c1
    refine x_iconst (v := 0) C dX12_in_14 (by decide) ?_
    exact x_zret C hr dX12_in_15 (by decide) ⟨_, rfl, h⟩
  · have h := h.2 c1
    refine x_iload_n C dX12_in_5 rfl (lv_at hl 0 rfl) ?_
    refine x_iload_n C dX12_in_6 rfl (lv_at hl 2 rfl) ?_
    refine x_icmp_gt (tgt := 14) C dX12_in_7 (by decide) (fun c2 => ?_) (fun c2 => ?_)
    · have h := h.1 c2
      refine x_iconst (v := 0) C dX12_in_14 (by decide) ?_
      exact x_zret C hr dX12_in_15 (by decide) ⟨_, rfl, h⟩
    · have h := h.2 c2
      refine x_iconst (v := 1) C dX12_in_10 (by decide) ?_
      refine x_goto (tgt := 15) C dX12_in_11 (by decide) ?_
      exact x_zret C hr dX12_in_15 (by decide) ⟨_, rfl, h⟩
theorem dX12_isReplica_0 : decode cX12_isReplica 0 = .ok (.iload_n 1, 1) := by decide +kernel
theorem dX12_isReplica_1 : decode cX12_isReplica 1 = .ok (.iconst 0, 1) := by decide +kernel
theorem dX12_isReplica_2 : decode cX12_isReplica 2 = .ok (.aload_n 0, 1) := by decide +kernel
theorem dX12_isReplica_3 : decode cX12_isReplica 3 = .ok (.getfield 258, 3) := by decide +kernel
theorem dX12_isReplica_6 : decode cX12_isReplica 6 = .ok (.iconst 1, 1) := by decide +kernel
theorem dX12_isReplica_7 : decode cX12_isReplica 7 = .ok (.isub, 1) := by decide +kernel
theorem dX12_isReplica_8 : decode cX12_isReplica 8 = .ok (.invokestatic 270, 3) := by decide +kernel
theorem dX12_isReplica_11 : decode cX12_isReplica 11 = .ok (.ireturn, 1) := by decide +kernel
abbrev rm_X12_isReplica : Room := { frames := 1, cells := 0, slots := 0, locals := 22 }
def wp_X12_isReplica (a0 : Nat) (p1 : Int32) (σ : Sto) (Q : Int32 → Sto → Prop) : Prop := (sK σ a0 = 12 ∧ (∀ x2 : Int32, x2 = sI σ a0 1 → (wp_X12_in p1 (0 : Int32) (x2 - (1 : Int32)) σ (fun (x5 : Int32) (σ4 : Sto) => ((x5 = 0 ∨ x5 = 1) ∧ Q x5 σ4)))))
set_option maxHeartbeats 4000000 in
set_option maxRecDepth 100000 in
theorem c_X12_isReplica (l : Launch) (D : va_G) (cy : Nat → ClassId) (a0 : Nat) (p1 : Int32) (σ : Sto) (Q : Int32 → Sto → Prop) (h : wp_X12_isReplica a0 p1 σ Q) : Mt l D cy yX12_isReplica cX12_isReplica 2 (some .boolean) rm_X12_isReplica [.ref a0, .int p1] σ (PsI Q) := by
  unfold wp_X12_isReplica at h
  refine mt_of (by decide +kernel) (Nat.le_of_ble_eq_true rfl) ?_
  intro p e s m args below meth c A ls C hr hnm hl
  have C : Cx p s m args meth c D cy A cX12_isReplica 2 RX12 := C
  have hl : lv_has ls 2 [(0, .ref a0), (1, .int p1)] := hl
  refine x_iload_n C dX12_isReplica_0 rfl (lv_at hl 1 rfl) ?_
  refine x_iconst (v := 0) C dX12_isReplica_1 (by decide) ?_
  refine x_aload_n C dX12_isReplica_2 rfl (lv_at hl 0 rfl) ?_
  obtain ⟨g1, h⟩ := h
  refine x_getI C fl_RX12_258 g1 dX12_isReplica_3 ?_
  refine x_topi (fun x2 e3 => ?_)
  have h := h x2 e3
  refine x_iconst (v := 1) C dX12_isReplica_6 (by decide) ?_
  refine x_isub C dX12_isReplica_7 ?_
  refine x_callS (rm := rm_X12_in) (rest := []) (As := [.int p1, .int (0 : Int32), .int (x2 - (1 : Int32))]) C cs_RX12_270 (by decide) (by decide) rfl rfl (Nat.le_of_ble_eq_true rfl) hl.1 dX12_isReplica_8 (c_X12_in l D cy p1 (0 : Int32) (x2 - (1 : Int32)) σ _ h) (ks_i (fun x5 σ4 h => ?_))
  exact x_zret C hr dX12_isReplica_11 h.1 ⟨_, rfl, h.2⟩
theorem dX12_isClient_0 : decode cX12_isClient 0 = .ok (.iload_n 0, 1) := by decide +kernel
theorem dX12_isClient_1 : decode cX12_isClient 1 = .ok (.iconst 0, 1) := by decide +kernel
theorem dX12_isClient_2 : decode cX12_isClient 2 = .ok (.iconst 3, 1) := by decide +kernel
theorem dX12_isClient_3 : decode cX12_isClient 3 = .ok (.invokestatic 270, 3) := by decide +kernel
theorem dX12_isClient_6 : decode cX12_isClient 6 = .ok (.ireturn, 1) := by decide +kernel
abbrev rm_X12_isClient : Room := { frames := 1, cells := 0, slots := 0, locals := 22 }
def wp_X12_isClient (p0 : Int32) (σ : Sto) (Q : Int32 → Sto → Prop) : Prop := (wp_X12_in p0 (0 : Int32) (3 : Int32) σ (fun (x2 : Int32) (σ1 : Sto) => ((x2 = 0 ∨ x2 = 1) ∧ Q x2 σ1)))
set_option maxHeartbeats 4000000 in
set_option maxRecDepth 100000 in
theorem c_X12_isClient (l : Launch) (D : va_G) (cy : Nat → ClassId) (p0 : Int32) (σ : Sto) (Q : Int32 → Sto → Prop) (h : wp_X12_isClient p0 σ Q) : Mt l D cy yX12_isClient cX12_isClient 1 (some .boolean) rm_X12_isClient [.int p0] σ (PsI Q) := by
  unfold wp_X12_isClient at h
  refine mt_of (by decide +kernel) (Nat.le_of_ble_eq_true rfl) ?_
  intro p e s m args below meth c A ls C hr hnm hl
  have C : Cx p s m args meth c D cy A cX12_isClient 1 RX12 := C
  have hl : lv_has ls 1 [(0, .int p0)] := hl
  refine x_iload_n C dX12_isClient_0 rfl (lv_at hl 0 rfl) ?_
  refine x_iconst (v := 0) C dX12_isClient_1 (by decide) ?_
  refine x_iconst (v := 3) C dX12_isClient_2 (by decide) ?_
  refine x_callS (rm := rm_X12_in) (rest := []) (As := [.int p0, .int (0 : Int32), .int (3 : Int32)]) C cs_RX12_270 (by decide) (by decide) rfl rfl (Nat.le_of_ble_eq_true rfl) hl.1 dX12_isClient_3 (c_X12_in l D cy p0 (0 : Int32) (3 : Int32) σ _ h) (ks_i (fun x2 σ1 h => ?_))
  exact x_zret C hr dX12_isClient_6 h.1 ⟨_, rfl, h.2⟩
theorem dX12_bits_0 : decode cX12_bits 0 = .ok (.iconst 0, 1) := by decide +kernel
theorem dX12_bits_1 : decode cX12_bits 1 = .ok (.istore_n 1, 1) := by decide +kernel
theorem dX12_bits_2 : decode cX12_bits 2 = .ok (.iconst 0, 1) := by decide +kernel
theorem dX12_bits_3 : decode cX12_bits 3 = .ok (.istore_n 2, 1) := by decide +kernel
theorem dX12_bits_4 : decode cX12_bits 4 = .ok (.iload_n 2, 1) := by decide +kernel
theorem dX12_bits_5 : decode cX12_bits 5 = .ok (.bipush 7, 2) := by decide +kernel
theorem dX12_bits_7 : decode cX12_bits 7 = .ok (.if_icmp .ge 17, 3) := by decide +kernel
theorem dX12_bits_10 : decode cX12_bits 10 = .ok (.iload_n 1, 1) := by decide +kernel
theorem dX12_bits_11 : decode cX12_bits 11 = .ok (.iload_n 0, 1) := by decide +kernel
theorem dX12_bits_12 : decode cX12_bits 12 = .ok (.iload_n 2, 1) := by decide +kernel
theorem dX12_bits_13 : decode cX12_bits 13 = .ok (.ishr, 1) := by decide +kernel
theorem dX12_bits_14 : decode cX12_bits 14 = .ok (.iconst 1, 1) := by decide +kernel
theorem dX12_bits_15 : decode cX12_bits 15 = .ok (.iand, 1) := by decide +kernel
theorem dX12_bits_16 : decode cX12_bits 16 = .ok (.iadd, 1) := by decide +kernel
theorem dX12_bits_17 : decode cX12_bits 17 = .ok (.istore_n 1, 1) := by decide +kernel
theorem dX12_bits_18 : decode cX12_bits 18 = .ok (.iinc 2 1, 3) := by decide +kernel
theorem dX12_bits_21 : decode cX12_bits 21 = .ok (.goto (-17), 3) := by decide +kernel
theorem dX12_bits_24 : decode cX12_bits 24 = .ok (.iload_n 1, 1) := by decide +kernel
theorem dX12_bits_25 : decode cX12_bits 25 = .ok (.ireturn, 1) := by decide +kernel
abbrev rm_X12_bits : Room := { frames := 0, cells := 0, slots := 0, locals := 0 }
def f_X12_bits_4  (Q : Int32 → Sto → Prop) (L4 : Int32 × Int32 × Int32 → Sto → Prop) (t : Int32 × Int32 × Int32) (σ : Sto) : Prop := (((7 : Int32) ≤ t.2.2 → Q t.2.1 σ) ∧ (¬ (7 : Int32) ≤ t.2.2 → (∀ x2 : Int32, x2 = t.2.1 + ((t.1 >>> (t.2.2 &&& 31)) &&& (1 : Int32)) → (∀ x4 : Int32, x4 = t.2.2 + (1 : Int32) → L4 (t.1, x2, x4) σ))))
set_option maxHeartbeats 4000000 in
set_option maxRecDepth 100000 in
theorem t_X12_bits_4 {p : Program} {l : Launch} {e : Env} {s : State} {m : MethodId} {args : Array Value} {below : List Frame} {meth : Method} {c : Code} {D : va_G} {cy : Nat → ClassId} {A : Nat → Prop}  {Q : Int32 → Sto → Prop} {L4 : Int32 × Int32 × Int32 → Sto → Prop} (C : Cx p s m args meth c D cy A cX12_bits 3 RX12) (hr : meth.sig.returnType = (some .int)) (hnm : meth.name = yX12_bits.name) (hL4 : ∀ (t : Int32 × Int32 × Int32) (σ : Sto), L4 t σ → ∀ ls : Array Slot, lv_has ls 3 [(0, .int t.1), (1, .int t.2.1), (2, .int t.2.2)] → Xw p l e rm_X12_bits s m args below meth c D cy A σ 0 0 (MQ below (Qst D cy A (PsI Q)) args s rm_X12_bits.cells rm_X12_bits.slots A) (F0 m 4 ls [])) : ∀ (t : Int32 × Int32 × Int32) (σ : Sto), f_X12_bits_4  Q L4 t σ → ∀ ls : Array Slot, lv_has ls 3 [(0, .int t.1), (1, .int t.2.1), (2, .int t.2.2)] → Xw p l e rm_X12_bits s m args below meth c D cy A σ 0 0 (MQ below (Qst D cy A (PsI Q)) args s rm_X12_bits.cells rm_X12_bits.slots A) (F0 m 4 ls []) := by
  intro t σ h ls hl
  unfold f_X12_bits_4 at h
  refine x_iload_n C dX12_bits_4 rfl (lv_at hl 2 rfl) ?_
  refine x_bipush (v := 7) C dX12_bits_5 (by decide) ?_
  refine x_icmp_ge (tgt := 24) C dX12_bits_7 (by decide) (fun c1 => ?_) (fun c1 => ?_)
  · have h := h.1 c1
    refine x_iload_n C dX12_bits_24 rfl (lv_at hl 1 rfl) ?_
    exact x_iret C hr dX12_bits_25 ⟨_, rfl, h⟩
  · have h := h.2 c1
    refine x_iload_n C dX12_bits_10 rfl (lv_at hl 1 rfl) ?_
    refine x_iload_n C dX12_bits_11 rfl (lv_at hl 0 rfl) ?_
    refine x_iload_n C dX12_bits_12 rfl (lv_at hl 2 rfl) ?_
    refine x_ishr C dX12_bits_13 ?_
    refine x_iconst (v := 1) C dX12_bits_14 (by decide) ?_
    refine x_iand C dX12_bits_15 ?_
    refine x_iadd C dX12_bits_16 ?_
    refine x_topi (fun x2 e3 => ?_)
    have h := h x2 e3
    refine x_istore_n (i := 1) (lv' := [(1, .int x2), (0, .int t.1), (2, .int t.2.2)]) C dX12_bits_17 rfl hl (by decide) (by first | rfl | simp [vrc, cat_i, cat_r, cat_l]) (fun ls hl => ?_)
    obtain ⟨x4, e5⟩ : ∃ z : Int32, z = t.2.2 + (1 : Int32) := ⟨_, rfl⟩
    have h := h x4 e5
    refine x_iinc (v := x4) (lv' := [(2, .int x4), (1, .int x2), (0, .int t.1)]) C dX12_bits_18 hl (q0 := 2) rfl (by rw [e5]; rfl) (by decide) (by first | rfl | simp [vrc, cat_i, cat_r, cat_l]) (fun ls hl => ?_)
    refine x_goto (tgt := 4) C dX12_bits_21 (by decide) ?_
    exact hL4 (t.1, x2, x4) _ h ls (lv_sub hl [2, 1, 0] rfl)
def wp_X12_bits (p0 : Int32) (σ : Sto) (Q : Int32 → Sto → Prop) : Prop := LF (f_X12_bits_4  Q) (p0, (0 : Int32), (0 : Int32)) σ
set_option maxHeartbeats 4000000 in
set_option maxRecDepth 100000 in
theorem c_X12_bits (l : Launch) (D : va_G) (cy : Nat → ClassId) (p0 : Int32) (σ : Sto) (Q : Int32 → Sto → Prop) (h : wp_X12_bits p0 σ Q) : Mt l D cy yX12_bits cX12_bits 3 (some .int) rm_X12_bits [.int p0] σ (PsI Q) := by
  unfold wp_X12_bits at h
  refine mt_of (by decide +kernel) (Nat.le_of_ble_eq_true rfl) ?_
  intro p e s m args below meth c A ls C hr hnm hl
  have C : Cx p s m args meth c D cy A cX12_bits 3 RX12 := C
  have hl : lv_has ls 3 [(0, .int p0)] := hl
  refine x_iconst (v := 0) C dX12_bits_0 (by decide) ?_
  refine x_istore_n (i := 1) (lv' := [(1, .int (0 : Int32)), (0, .int p0)]) C dX12_bits_1 rfl hl (by decide) (by first | rfl | simp [vrc, cat_i, cat_r, cat_l]) (fun ls hl => ?_)
  refine x_iconst (v := 0) C dX12_bits_2 (by decide) ?_
  refine x_istore_n (i := 2) (lv' := [(2, .int (0 : Int32)), (1, .int (0 : Int32)), (0, .int p0)]) C dX12_bits_3 rfl hl (by decide) (by first | rfl | simp [vrc, cat_i, cat_r, cat_l]) (fun ls hl => ?_)
  exact h (fun t σ => ∀ ls : Array Slot, lv_has ls 3 [(0, .int t.1), (1, .int t.2.1), (2, .int t.2.2)] → Xw p l e rm_X12_bits s m args below meth c D cy A σ 0 0 (MQ below (Qst D cy A (PsI Q)) args s rm_X12_bits.cells rm_X12_bits.slots A) (F0 m 4 ls [])) (t_X12_bits_4 C hr hnm  (fun t σ h => h)) ls (lv_sub hl [2, 1, 0] rfl)
theorem dX12_begin_0 : decode cX12_begin 0 = .ok (.aload_n 0, 1) := by decide +kernel
theorem dX12_begin_1 : decode cX12_begin 1 = .ok (.getfield 27, 3) := by decide +kernel
theorem dX12_begin_4 : decode cX12_begin 4 = .ok (.iconst 0, 1) := by decide +kernel
theorem dX12_begin_5 : decode cX12_begin 5 = .ok (.iload_n 1, 1) := by decide +kernel
theorem dX12_begin_6 : decode cX12_begin 6 = .ok (.iastore, 1) := by decide +kernel
theorem dX12_begin_7 : decode cX12_begin 7 = .ok (.aload_n 0, 1) := by decide +kernel
theorem dX12_begin_8 : decode cX12_begin 8 = .ok (.getfield 27, 3) := by decide +kernel
theorem dX12_begin_11 : decode cX12_begin 11 = .ok (.iconst 1, 1) := by decide +kernel
theorem dX12_begin_12 : decode cX12_begin 12 = .ok (.iload_n 2, 1) := by decide +kernel
theorem dX12_begin_13 : decode cX12_begin 13 = .ok (.iastore, 1) := by decide +kernel
theorem dX12_begin_14 : decode cX12_begin 14 = .ok (.aload_n 0, 1) := by decide +kernel
theorem dX12_begin_15 : decode cX12_begin 15 = .ok (.getfield 27, 3) := by decide +kernel
theorem dX12_begin_18 : decode cX12_begin 18 = .ok (.iconst 2, 1) := by decide +kernel
theorem dX12_begin_19 : decode cX12_begin 19 = .ok (.iload_n 3, 1) := by decide +kernel
theorem dX12_begin_20 : decode cX12_begin 20 = .ok (.iastore, 1) := by decide +kernel
theorem dX12_begin_21 : decode cX12_begin 21 = .ok (.aload_n 0, 1) := by decide +kernel
theorem dX12_begin_22 : decode cX12_begin 22 = .ok (.iconst 3, 1) := by decide +kernel
theorem dX12_begin_23 : decode cX12_begin 23 = .ok (.putfield 274, 3) := by decide +kernel
theorem dX12_begin_26 : decode cX12_begin 26 = .ok (.return_, 1) := by decide +kernel
abbrev rm_X12_begin : Room := { frames := 0, cells := 0, slots := 0, locals := 0 }
def wp_X12_begin (a0 : Nat) (p1 : Int32) (p2 : Int32) (p3 : Int32) (σ : Sto) (Q : Sto → Prop) : Prop := (sK σ a0 = 12 ∧ (∃ b2 : Nat, sP σ a0 13 = some b2 ∧ (sK σ b2 = 14 ∧ (vp_in (0 : Int32) (sN σ b2) ∧ (vp_in (1 : Int32) (sN σ b2) ∧ (vp_in (2 : Int32) (sN σ b2) ∧ Q (stI (stI (stI (stI σ b2 (0 : Int32).toNatClampNeg p1) b2 (1 : Int32).toNatClampNeg p2) b2 (2 : Int32).toNatClampNeg p3) a0 14 (3 : Int32))))))))
set_option maxHeartbeats 4000000 in
set_option maxRecDepth 100000 in
theorem c_X12_begin (l : Launch) (D : va_G) (cy : Nat → ClassId) (a0 : Nat) (p1 : Int32) (p2 : Int32) (p3 : Int32) (σ : Sto) (Q : Sto → Prop) (h : wp_X12_begin a0 p1 p2 p3 σ Q) : Mt l D cy yX12_begin cX12_begin 4 none rm_X12_begin [.ref a0, .int p1, .int p2, .int p3] σ (PsV Q) := by
  unfold wp_X12_begin at h
  refine mt_of (by decide +kernel) (Nat.le_of_ble_eq_true rfl) ?_
  intro p e s m args below meth c A ls C hr hnm hl
  have C : Cx p s m args meth c D cy A cX12_begin 4 RX12 := C
  have hl : lv_has ls 4 [(0, .ref a0), (1, .int p1), (2, .int p2), (3, .int p3)] := hl
  refine x_aload_n C dX12_begin_0 rfl (lv_at hl 0 rfl) ?_
  obtain ⟨g1, h⟩ := h
  refine x_getP C fl_RX12_27 g1 dX12_begin_1 ?_
  refine x_iconst (v := 0) C dX12_begin_4 (by decide) ?_
  refine x_iload_n C dX12_begin_5 rfl (lv_at hl 1 rfl) ?_
  obtain ⟨b2, g3, h⟩ := h
  refine x_nn2 g3 ?_
  obtain ⟨g4, h⟩ := h
  obtain ⟨g5, h⟩ := h
  refine x_iast C g4 g5 dX12_begin_6 ?_
  refine x_aload_n C dX12_begin_7 rfl (lv_at hl 0 rfl) ?_
  refine x_getP C fl_RX12_27 g1 dX12_begin_8 ?_
  refine x_iconst (v := 1) C dX12_begin_11 (by decide) ?_
  refine x_iload_n C dX12_begin_12 rfl (lv_at hl 2 rfl) ?_
  refine x_nn2 g3 ?_
  obtain ⟨g6, h⟩ := h
  refine x_iast C g4 g6 dX12_begin_13 ?_
  refine x_aload_n C dX12_begin_14 rfl (lv_at hl 0 rfl) ?_
  refine x_getP C fl_RX12_27 g1 dX12_begin_15 ?_
  refine x_iconst (v := 2) C dX12_begin_18 (by decide) ?_
  refine x_iload_n C dX12_begin_19 rfl (lv_at hl 3 rfl) ?_
  refine x_nn2 g3 ?_
  obtain ⟨g7, h⟩ := h
  refine x_iast C g4 g7 dX12_begin_20 ?_
  refine x_aload_n C dX12_begin_21 rfl (lv_at hl 0 rfl) ?_
  refine x_iconst (v := 3) C dX12_begin_22 (by decide) ?_
  refine x_putI C fl_RX12_274 (Or.inl rfl) g1 dX12_begin_23 ?_
  exact x_vret C hr dX12_begin_26 ⟨rfl, h⟩
