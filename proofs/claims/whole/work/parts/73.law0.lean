/-! laid by program: cases of the law -/
theorem dL_law_180 : decode cL_law 180 = .ok (.aload_n 1, 1) := by decide +kernel
theorem dL_law_181 : decode cL_law 181 = .ok (.aload_n 0, 1) := by decide +kernel
theorem dL_law_182 : decode cL_law 182 = .ok (.iload_n 3, 1) := by decide +kernel
theorem dL_law_183 : decode cL_law 183 = .ok (.iconst 1, 1) := by decide +kernel
theorem dL_law_184 : decode cL_law 184 = .ok (.iadd, 1) := by decide +kernel
theorem dL_law_185 : decode cL_law 185 = .ok (.iaload, 1) := by decide +kernel
theorem dL_law_186 : decode cL_law 186 = .ok (.i2l, 1) := by decide +kernel
theorem dL_law_187 : decode cL_law 187 = .ok (.bipush 32, 2) := by decide +kernel
theorem dL_law_189 : decode cL_law 189 = .ok (.lshl, 1) := by decide +kernel
theorem dL_law_190 : decode cL_law 190 = .ok (.aload_n 0, 1) := by decide +kernel
theorem dL_law_191 : decode cL_law 191 = .ok (.iload_n 3, 1) := by decide +kernel
theorem dL_law_192 : decode cL_law 192 = .ok (.iconst 2, 1) := by decide +kernel
theorem dL_law_193 : decode cL_law 193 = .ok (.iadd, 1) := by decide +kernel
theorem dL_law_194 : decode cL_law 194 = .ok (.iaload, 1) := by decide +kernel
theorem dL_law_195 : decode cL_law 195 = .ok (.i2l, 1) := by decide +kernel
theorem dL_law_196 : decode cL_law 196 = .ok (.ldc2_w 13, 3) := by decide +kernel
theorem dL_law_199 : decode cL_law 199 = .ok (.land, 1) := by decide +kernel
theorem dL_law_200 : decode cL_law 200 = .ok (.lor, 1) := by decide +kernel
theorem dL_law_201 : decode cL_law 201 = .ok (.aload_n 0, 1) := by decide +kernel
theorem dL_law_202 : decode cL_law 202 = .ok (.iload_n 3, 1) := by decide +kernel
theorem dL_law_203 : decode cL_law 203 = .ok (.iconst 3, 1) := by decide +kernel
theorem dL_law_204 : decode cL_law 204 = .ok (.iadd, 1) := by decide +kernel
theorem dL_law_205 : decode cL_law 205 = .ok (.iaload, 1) := by decide +kernel
theorem dL_law_206 : decode cL_law 206 = .ok (.i2l, 1) := by decide +kernel
theorem dL_law_207 : decode cL_law 207 = .ok (.bipush 32, 2) := by decide +kernel
theorem dL_law_209 : decode cL_law 209 = .ok (.lshl, 1) := by decide +kernel
theorem dL_law_210 : decode cL_law 210 = .ok (.aload_n 0, 1) := by decide +kernel
theorem dL_law_211 : decode cL_law 211 = .ok (.iload_n 3, 1) := by decide +kernel
theorem dL_law_212 : decode cL_law 212 = .ok (.iconst 4, 1) := by decide +kernel
theorem dL_law_213 : decode cL_law 213 = .ok (.iadd, 1) := by decide +kernel
theorem dL_law_214 : decode cL_law 214 = .ok (.iaload, 1) := by decide +kernel
theorem dL_law_215 : decode cL_law 215 = .ok (.i2l, 1) := by decide +kernel
theorem dL_law_216 : decode cL_law 216 = .ok (.ldc2_w 13, 3) := by decide +kernel
theorem dL_law_219 : decode cL_law 219 = .ok (.land, 1) := by decide +kernel
theorem dL_law_220 : decode cL_law 220 = .ok (.lor, 1) := by decide +kernel
theorem dL_law_221 : decode cL_law 221 = .ok (.aload_n 0, 1) := by decide +kernel
theorem dL_law_222 : decode cL_law 222 = .ok (.iload_n 3, 1) := by decide +kernel
theorem dL_law_223 : decode cL_law 223 = .ok (.iconst 5, 1) := by decide +kernel
theorem dL_law_224 : decode cL_law 224 = .ok (.iadd, 1) := by decide +kernel
theorem dL_law_225 : decode cL_law 225 = .ok (.iaload, 1) := by decide +kernel
theorem dL_law_226 : decode cL_law 226 = .ok (.i2l, 1) := by decide +kernel
theorem dL_law_227 : decode cL_law 227 = .ok (.bipush 32, 2) := by decide +kernel
theorem dL_law_229 : decode cL_law 229 = .ok (.lshl, 1) := by decide +kernel
theorem dL_law_230 : decode cL_law 230 = .ok (.aload_n 0, 1) := by decide +kernel
theorem dL_law_231 : decode cL_law 231 = .ok (.iload_n 3, 1) := by decide +kernel
theorem dL_law_232 : decode cL_law 232 = .ok (.bipush 6, 2) := by decide +kernel
theorem dL_law_234 : decode cL_law 234 = .ok (.iadd, 1) := by decide +kernel
theorem dL_law_235 : decode cL_law 235 = .ok (.iaload, 1) := by decide +kernel
theorem dL_law_236 : decode cL_law 236 = .ok (.i2l, 1) := by decide +kernel
theorem dL_law_237 : decode cL_law 237 = .ok (.ldc2_w 13, 3) := by decide +kernel
theorem dL_law_240 : decode cL_law 240 = .ok (.land, 1) := by decide +kernel
theorem dL_law_241 : decode cL_law 241 = .ok (.lor, 1) := by decide +kernel
theorem dL_law_242 : decode cL_law 242 = .ok (.invokevirtual 15, 3) := by decide +kernel
theorem dL_law_245 : decode cL_law 245 = .ok (.aload_n 2, 1) := by decide +kernel
theorem dL_law_246 : decode cL_law 246 = .ok (.aload_n 0, 1) := by decide +kernel
theorem dL_law_247 : decode cL_law 247 = .ok (.iload_n 3, 1) := by decide +kernel
theorem dL_law_248 : decode cL_law 248 = .ok (.iconst 1, 1) := by decide +kernel
theorem dL_law_249 : decode cL_law 249 = .ok (.iadd, 1) := by decide +kernel
theorem dL_law_250 : decode cL_law 250 = .ok (.iaload, 1) := by decide +kernel
theorem dL_law_251 : decode cL_law 251 = .ok (.i2l, 1) := by decide +kernel
theorem dL_law_252 : decode cL_law 252 = .ok (.bipush 32, 2) := by decide +kernel
theorem dL_law_254 : decode cL_law 254 = .ok (.lshl, 1) := by decide +kernel
theorem dL_law_255 : decode cL_law 255 = .ok (.aload_n 0, 1) := by decide +kernel
theorem dL_law_256 : decode cL_law 256 = .ok (.iload_n 3, 1) := by decide +kernel
theorem dL_law_257 : decode cL_law 257 = .ok (.iconst 2, 1) := by decide +kernel
theorem dL_law_258 : decode cL_law 258 = .ok (.iadd, 1) := by decide +kernel
theorem dL_law_259 : decode cL_law 259 = .ok (.iaload, 1) := by decide +kernel
theorem dL_law_260 : decode cL_law 260 = .ok (.i2l, 1) := by decide +kernel
theorem dL_law_261 : decode cL_law 261 = .ok (.ldc2_w 13, 3) := by decide +kernel
theorem dL_law_264 : decode cL_law 264 = .ok (.land, 1) := by decide +kernel
theorem dL_law_265 : decode cL_law 265 = .ok (.lor, 1) := by decide +kernel
theorem dL_law_266 : decode cL_law 266 = .ok (.aload_n 0, 1) := by decide +kernel
theorem dL_law_267 : decode cL_law 267 = .ok (.iload_n 3, 1) := by decide +kernel
theorem dL_law_268 : decode cL_law 268 = .ok (.iconst 3, 1) := by decide +kernel
theorem dL_law_269 : decode cL_law 269 = .ok (.iadd, 1) := by decide +kernel
theorem dL_law_270 : decode cL_law 270 = .ok (.iaload, 1) := by decide +kernel
theorem dL_law_271 : decode cL_law 271 = .ok (.i2l, 1) := by decide +kernel
theorem dL_law_272 : decode cL_law 272 = .ok (.bipush 32, 2) := by decide +kernel
theorem dL_law_274 : decode cL_law 274 = .ok (.lshl, 1) := by decide +kernel
theorem dL_law_275 : decode cL_law 275 = .ok (.aload_n 0, 1) := by decide +kernel
theorem dL_law_276 : decode cL_law 276 = .ok (.iload_n 3, 1) := by decide +kernel
theorem dL_law_277 : decode cL_law 277 = .ok (.iconst 4, 1) := by decide +kernel
theorem dL_law_278 : decode cL_law 278 = .ok (.iadd, 1) := by decide +kernel
theorem dL_law_279 : decode cL_law 279 = .ok (.iaload, 1) := by decide +kernel
theorem dL_law_280 : decode cL_law 280 = .ok (.i2l, 1) := by decide +kernel
theorem dL_law_281 : decode cL_law 281 = .ok (.ldc2_w 13, 3) := by decide +kernel
theorem dL_law_284 : decode cL_law 284 = .ok (.land, 1) := by decide +kernel
theorem dL_law_285 : decode cL_law 285 = .ok (.lor, 1) := by decide +kernel
theorem dL_law_286 : decode cL_law 286 = .ok (.aload_n 0, 1) := by decide +kernel
theorem dL_law_287 : decode cL_law 287 = .ok (.iload_n 3, 1) := by decide +kernel
theorem dL_law_288 : decode cL_law 288 = .ok (.iconst 5, 1) := by decide +kernel
theorem dL_law_289 : decode cL_law 289 = .ok (.iadd, 1) := by decide +kernel
theorem dL_law_290 : decode cL_law 290 = .ok (.iaload, 1) := by decide +kernel
theorem dL_law_291 : decode cL_law 291 = .ok (.i2l, 1) := by decide +kernel
theorem dL_law_292 : decode cL_law 292 = .ok (.bipush 32, 2) := by decide +kernel
theorem dL_law_294 : decode cL_law 294 = .ok (.lshl, 1) := by decide +kernel
theorem dL_law_295 : decode cL_law 295 = .ok (.aload_n 0, 1) := by decide +kernel
theorem dL_law_296 : decode cL_law 296 = .ok (.iload_n 3, 1) := by decide +kernel
theorem dL_law_297 : decode cL_law 297 = .ok (.bipush 6, 2) := by decide +kernel
theorem dL_law_299 : decode cL_law 299 = .ok (.iadd, 1) := by decide +kernel
theorem dL_law_300 : decode cL_law 300 = .ok (.iaload, 1) := by decide +kernel
theorem dL_law_301 : decode cL_law 301 = .ok (.i2l, 1) := by decide +kernel
theorem dL_law_302 : decode cL_law 302 = .ok (.ldc2_w 13, 3) := by decide +kernel
theorem dL_law_305 : decode cL_law 305 = .ok (.land, 1) := by decide +kernel
theorem dL_law_306 : decode cL_law 306 = .ok (.lor, 1) := by decide +kernel
theorem dL_law_307 : decode cL_law 307 = .ok (.invokevirtual 19, 3) := by decide +kernel
theorem dL_law_310 : decode cL_law 310 = .ok (.if_icmp .eq 855, 3) := by decide +kernel
theorem dL_law_313 : decode cL_law 313 = .ok (.iconst 0, 1) := by decide +kernel
theorem dL_law_314 : decode cL_law 314 = .ok (.ireturn, 1) := by decide +kernel
set_option maxRecDepth 20000 in
theorem gL_law_X11_feed : GoodIn wsL_law (wsV RL 15 RX11 yX11_feed wsX11_feed) := goodIn_c lawCh lawCh_in _ [(11, 23), (12, 0), (12, 1), (0, 2), (12, 2), (0, 18), (12, 3), (12, 4), (12, 5), (12, 6), (2, 17), (12, 7), (12, 8), (12, 9), (3, 4), (60, 0), (60, 1), (60, 2), (60, 3), (60, 4), (60, 5), (60, 6), (60, 7), (60, 8), (60, 9), (60, 10), (60, 11), (70, 0), (70, 1), (70, 2), (70, 3), (70, 4), (70, 5), (70, 6), (70, 7)] rfl (by decide +kernel)
set_option maxRecDepth 20000 in
theorem gL_law_X12_feed : GoodIn wsL_law (wsV RL 19 RX12 yX12_feed wsX12_feed) := goodIn_c lawCh lawCh_in _ [(12, 10), (12, 11), (12, 12), (0, 5), (12, 13), (12, 14), (12, 15), (12, 16), (12, 17), (12, 18), (0, 5), (12, 19), (7, 13), (61, 0), (61, 1), (61, 2), (61, 3), (61, 4), (61, 5), (61, 6), (61, 7), (61, 8), (61, 9), (61, 10), (61, 11), (61, 12), (61, 13), (61, 14), (61, 15), (61, 16), (61, 17), (61, 18), (61, 19), (61, 20), (61, 21), (61, 22), (61, 23), (61, 24), (61, 25), (61, 26), (61, 27), (61, 28), (61, 29), (61, 30), (61, 31), (61, 32), (61, 33), (61, 34), (61, 35), (61, 36), (61, 37), (61, 38)] rfl (by decide +kernel)
section
variable {p : Program} {l : Launch} {e : Env} {s : State} {m : MethodId} {below : List Frame} {meth : Method} {c : Code} {D : va_G} {cy : Nat → ClassId} {ad aM : Nat → Nat} {A : Nat → Prop} {b L i : Nat} {xs : Nat → Int32} {Inv : (Nat → Ob) → Ob → Prop}
set_option maxRecDepth 100000 in
set_option maxHeartbeats 8000000 in
theorem law_feed (hC : Cx p s m #[Value.ref b] meth c code 4 wsL_law RL ret) (hX : va_X b L xs s s.heap) (hbl : b < s.heap.size) (hbA : ¬ A b) (hL : L ≤ 3584) (hi : i + 7 ≤ L) (hS : St_feed Inv) (next : ∀ (cs : Nat → Ob) (sm : Ob) (u : Nat → Nat → Nat) (gi : Value) (H : Heap) (locs : List Loc) (ls : Array Slot), Inv cs sm → GW D cy ad (AW cy u gi cs aM sm) A s H locs → lv_has ls 4 [(0, .ref b), (1, .ref (u 0 0)), (2, .ref (aM 0)), (3, .int (nI i))] → W p l e room_1 s m #[Value.ref b] below meth c H locs lwC lwS (lw_Z below #[Value.ref b] s) (F0 m 1165 ls [])) : ∀ (cs : Nat → Ob) (sm : Ob) (u : Nat → Nat → Nat) (gi : Value) (H : Heap) (locs : List Loc) (ls : Array Slot), Inv cs sm → GW D cy ad (AW cy u gi cs aM sm) A s H locs → lv_has ls 4 [(0, .ref b), (1, .ref (u 0 0)), (2, .ref (aM 0)), (3, .int (nI i))] → W p l e room_1 s m #[Value.ref b] below meth c H locs lwC lwS (lw_Z below #[Value.ref b] s) (F0 m 180 ls []) := by
  intro cs sm u gi H locs ls hI hW hl
  have hi1 : vp_in (nI i + 1) L := lw_in (j := 1) (by omega) (by omega)
  obtain ⟨a1, ea1⟩ : ∃ y : Int32, y = xs (Int32.toNatClampNeg (nI i + 1)) := ⟨_, rfl⟩
  have hi2 : vp_in (nI i + 2) L := lw_in (j := 2) (by omega) (by omega)
  obtain ⟨a2, ea2⟩ : ∃ y : Int32, y = xs (Int32.toNatClampNeg (nI i + 2)) := ⟨_, rfl⟩
  have hi3 : vp_in (nI i + 3) L := lw_in (j := 3) (by omega) (by omega)
  obtain ⟨a3, ea3⟩ : ∃ y : Int32, y = xs (Int32.toNatClampNeg (nI i + 3)) := ⟨_, rfl⟩
  have hi4 : vp_in (nI i + 4) L := lw_in (j := 4) (by omega) (by omega)
  obtain ⟨a4, ea4⟩ : ∃ y : Int32, y = xs (Int32.toNatClampNeg (nI i + 4)) := ⟨_, rfl⟩
  have hi5 : vp_in (nI i + 5) L := lw_in (j := 5) (by omega) (by omega)
  obtain ⟨a5, ea5⟩ : ∃ y : Int32, y = xs (Int32.toNatClampNeg (nI i + 5)) := ⟨_, rfl⟩
  have hi6 : vp_in (nI i + 6) L := lw_in (j := 6) (by omega) (by omega)
  obtain ⟨a6, ea6⟩ : ∃ y : Int32, y = xs (Int32.toNatClampNeg (nI i + 6)) := ⟨_, rfl⟩
  refine lv_aload_n hC.1 hC.2.1 dL_law_180 rfl (lv_at hl 1 rfl) ?_
  refine lv_aload_n hC.1 hC.2.1 dL_law_181 rfl (lv_at hl 0 rfl) ?_
  refine lv_iload_n hC.1 hC.2.1 dL_law_182 rfl (lv_at hl 3 rfl) ?_
  refine lv_iconst (v := 1) hC.1 hC.2.1 dL_law_183 (by decide) ?_
  refine lv_iadd hC.1 hC.2.1 dL_law_184 ?_
  refine va_sld hC.1 hC.2.1 hX hbl hbA hW.2.2.2.1 hi1 dL_law_185 ?_
  refine lv_nmi ea1 ?_
  refine lv_i2l (v := Int32.toInt64 a1) hC.1 hC.2.1 dL_law_186 rfl ?_
  refine lv_bipush (v := 32) hC.1 hC.2.1 dL_law_187 (by decide) ?_
  refine lv_lshl (v := (Int32.toInt64 a1) <<< (Int32.toInt64 32 &&& 63)) hC.1 hC.2.1 dL_law_189 rfl ?_
  refine lv_aload_n hC.1 hC.2.1 dL_law_190 rfl (lv_at hl 0 rfl) ?_
  refine lv_iload_n hC.1 hC.2.1 dL_law_191 rfl (lv_at hl 3 rfl) ?_
  refine lv_iconst (v := 2) hC.1 hC.2.1 dL_law_192 (by decide) ?_
  refine lv_iadd hC.1 hC.2.1 dL_law_193 ?_
  refine va_sld hC.1 hC.2.1 hX hbl hbA hW.2.2.2.1 hi2 dL_law_194 ?_
  refine lv_nmi ea2 ?_
  refine lv_i2l (v := Int32.toInt64 a2) hC.1 hC.2.1 dL_law_195 rfl ?_
  refine lv_ldc2 (v := 4294967295) hC.1 hC.2.1 hC.2.2.2.1 (hC.2.2.2.2.1 _ lwK) dL_law_196 ?_
  refine lv_land hC.1 hC.2.1 dL_law_199 ?_
  refine lv_lor hC.1 hC.2.1 dL_law_200 ?_
  refine lv_aload_n hC.1 hC.2.1 dL_law_201 rfl (lv_at hl 0 rfl) ?_
  refine lv_iload_n hC.1 hC.2.1 dL_law_202 rfl (lv_at hl 3 rfl) ?_
  refine lv_iconst (v := 3) hC.1 hC.2.1 dL_law_203 (by decide) ?_
  refine lv_iadd hC.1 hC.2.1 dL_law_204 ?_
  refine va_sld hC.1 hC.2.1 hX hbl hbA hW.2.2.2.1 hi3 dL_law_205 ?_
  refine lv_nmi ea3 ?_
  refine lv_i2l (v := Int32.toInt64 a3) hC.1 hC.2.1 dL_law_206 rfl ?_
  refine lv_bipush (v := 32) hC.1 hC.2.1 dL_law_207 (by decide) ?_
  refine lv_lshl (v := (Int32.toInt64 a3) <<< (Int32.toInt64 32 &&& 63)) hC.1 hC.2.1 dL_law_209 rfl ?_
  refine lv_aload_n hC.1 hC.2.1 dL_law_210 rfl (lv_at hl 0 rfl) ?_
  refine lv_iload_n hC.1 hC.2.1 dL_law_211 rfl (lv_at hl 3 rfl) ?_
  refine lv_iconst (v := 4) hC.1 hC.2.1 dL_law_212 (by decide) ?_
  refine lv_iadd hC.1 hC.2.1 dL_law_213 ?_
  refine va_sld hC.1 hC.2.1 hX hbl hbA hW.2.2.2.1 hi4 dL_law_214 ?_
  refine lv_nmi ea4 ?_
  refine lv_i2l (v := Int32.toInt64 a4) hC.1 hC.2.1 dL_law_215 rfl ?_
  refine lv_ldc2 (v := 4294967295) hC.1 hC.2.1 hC.2.2.2.1 (hC.2.2.2.2.1 _ lwK) dL_law_216 ?_
  refine lv_land hC.1 hC.2.1 dL_law_219 ?_
  refine lv_lor hC.1 hC.2.1 dL_law_220 ?_
  refine lv_aload_n hC.1 hC.2.1 dL_law_221 rfl (lv_at hl 0 rfl) ?_
  refine lv_iload_n hC.1 hC.2.1 dL_law_222 rfl (lv_at hl 3 rfl) ?_
  refine lv_iconst (v := 5) hC.1 hC.2.1 dL_law_223 (by decide) ?_
  refine lv_iadd hC.1 hC.2.1 dL_law_224 ?_
  refine va_sld hC.1 hC.2.1 hX hbl hbA hW.2.2.2.1 hi5 dL_law_225 ?_
  refine lv_nmi ea5 ?_
  refine lv_i2l (v := Int32.toInt64 a5) hC.1 hC.2.1 dL_law_226 rfl ?_
  refine lv_bipush (v := 32) hC.1 hC.2.1 dL_law_227 (by decide) ?_
  refine lv_lshl (v := (Int32.toInt64 a5) <<< (Int32.toInt64 32 &&& 63)) hC.1 hC.2.1 dL_law_229 rfl ?_
  refine lv_aload_n hC.1 hC.2.1 dL_law_230 rfl (lv_at hl 0 rfl) ?_
  refine lv_iload_n hC.1 hC.2.1 dL_law_231 rfl (lv_at hl 3 rfl) ?_
  refine lv_bipush (v := 6) hC.1 hC.2.1 dL_law_232 (by decide) ?_
  refine lv_iadd hC.1 hC.2.1 dL_law_234 ?_
  refine va_sld hC.1 hC.2.1 hX hbl hbA hW.2.2.2.1 hi6 dL_law_235 ?_
  refine lv_nmi ea6 ?_
  refine lv_i2l (v := Int32.toInt64 a6) hC.1 hC.2.1 dL_law_236 rfl ?_
  refine lv_ldc2 (v := 4294967295) hC.1 hC.2.1 hC.2.2.2.1 (hC.2.2.2.2.1 _ lwK) dL_law_237 ?_
  refine lv_land hC.1 hC.2.1 dL_law_240 ?_
  refine lv_lor hC.1 hC.2.1 dL_law_241 ?_
  obtain ⟨r, ST, sm1, hf11, hf12, hI1⟩ := hS cs sm (((Int32.toInt64 a1) <<< (Int32.toInt64 32 &&& 63)) ||| ((Int32.toInt64 a2) &&& 4294967295)) (((Int32.toInt64 a3) <<< (Int32.toInt64 32 &&& 63)) ||| ((Int32.toInt64 a4) &&& 4294967295)) (((Int32.toInt64 a5) <<< (Int32.toInt64 32 &&& 63)) ||| ((Int32.toInt64 a6) &&& 4294967295)) hI 
  refine g_calliV (w' := AW cy u gi (va_up cs 3 ST) aM sm) hC hW (c11_feed l D cy ad (u 0) (u 3) (u 1) (u 8) (u 9) (u 15) (u 16) (u 10) (u 5) (u 6) (u 7) (u 11) (u 12) (u 13) (u 14) hf11) (cwV 3 hC.2.2.2.2.1 gL_law_X11_feed rfl rfl rfl hdV11_feed ⟨Nat.le_of_ble_eq_true rfl, Nat.le_of_ble_eq_true rfl⟩) (Sub.takeL _ _ (Sub.skipL _ (Sub.skipL _ (Sub.takeLast _ _ _)))) 0 10 rfl rfl rfl rfl hl.1 rfl (Nat.le_of_ble_eq_true rfl) dL_law_242 lwRm (fun H locs hW => ?_)
  refine lv_aload_n hC.1 hC.2.1 dL_law_245 rfl (lv_at hl 2 rfl) ?_
  refine lv_aload_n hC.1 hC.2.1 dL_law_246 rfl (lv_at hl 0 rfl) ?_
  refine lv_iload_n hC.1 hC.2.1 dL_law_247 rfl (lv_at hl 3 rfl) ?_
  refine lv_iconst (v := 1) hC.1 hC.2.1 dL_law_248 (by decide) ?_
  refine lv_iadd hC.1 hC.2.1 dL_law_249 ?_
  refine va_sld hC.1 hC.2.1 hX hbl hbA hW.2.2.2.1 hi1 dL_law_250 ?_
  refine lv_nmi ea1 ?_
  refine lv_i2l (v := Int32.toInt64 a1) hC.1 hC.2.1 dL_law_251 rfl ?_
  refine lv_bipush (v := 32) hC.1 hC.2.1 dL_law_252 (by decide) ?_
  refine lv_lshl (v := (Int32.toInt64 a1) <<< (Int32.toInt64 32 &&& 63)) hC.1 hC.2.1 dL_law_254 rfl ?_
  refine lv_aload_n hC.1 hC.2.1 dL_law_255 rfl (lv_at hl 0 rfl) ?_
  refine lv_iload_n hC.1 hC.2.1 dL_law_256 rfl (lv_at hl 3 rfl) ?_
  refine lv_iconst (v := 2) hC.1 hC.2.1 dL_law_257 (by decide) ?_
  refine lv_iadd hC.1 hC.2.1 dL_law_258 ?_
  refine va_sld hC.1 hC.2.1 hX hbl hbA hW.2.2.2.1 hi2 dL_law_259 ?_
  refine lv_nmi ea2 ?_
  refine lv_i2l (v := Int32.toInt64 a2) hC.1 hC.2.1 dL_law_260 rfl ?_
  refine lv_ldc2 (v := 4294967295) hC.1 hC.2.1 hC.2.2.2.1 (hC.2.2.2.2.1 _ lwK) dL_law_261 ?_
  refine lv_land hC.1 hC.2.1 dL_law_264 ?_
  refine lv_lor hC.1 hC.2.1 dL_law_265 ?_
  refine lv_aload_n hC.1 hC.2.1 dL_law_266 rfl (lv_at hl 0 rfl) ?_
  refine lv_iload_n hC.1 hC.2.1 dL_law_267 rfl (lv_at hl 3 rfl) ?_
  refine lv_iconst (v := 3) hC.1 hC.2.1 dL_law_268 (by decide) ?_
  refine lv_iadd hC.1 hC.2.1 dL_law_269 ?_
  refine va_sld hC.1 hC.2.1 hX hbl hbA hW.2.2.2.1 hi3 dL_law_270 ?_
  refine lv_nmi ea3 ?_
  refine lv_i2l (v := Int32.toInt64 a3) hC.1 hC.2.1 dL_law_271 rfl ?_
  refine lv_bipush (v := 32) hC.1 hC.2.1 dL_law_272 (by decide) ?_
  refine lv_lshl (v := (Int32.toInt64 a3) <<< (Int32.toInt64 32 &&& 63)) hC.1 hC.2.1 dL_law_274 rfl ?_
  refine lv_aload_n hC.1 hC.2.1 dL_law_275 rfl (lv_at hl 0 rfl) ?_
  refine lv_iload_n hC.1 hC.2.1 dL_law_276 rfl (lv_at hl 3 rfl) ?_
  refine lv_iconst (v := 4) hC.1 hC.2.1 dL_law_277 (by decide) ?_
  refine lv_iadd hC.1 hC.2.1 dL_law_278 ?_
  refine va_sld hC.1 hC.2.1 hX hbl hbA hW.2.2.2.1 hi4 dL_law_279 ?_
  refine lv_nmi ea4 ?_
  refine lv_i2l (v := Int32.toInt64 a4) hC.1 hC.2.1 dL_law_280 rfl ?_
  refine lv_ldc2 (v := 4294967295) hC.1 hC.2.1 hC.2.2.2.1 (hC.2.2.2.2.1 _ lwK) dL_law_281 ?_
  refine lv_land hC.1 hC.2.1 dL_law_284 ?_
  refine lv_lor hC.1 hC.2.1 dL_law_285 ?_
  refine lv_aload_n hC.1 hC.2.1 dL_law_286 rfl (lv_at hl 0 rfl) ?_
  refine lv_iload_n hC.1 hC.2.1 dL_law_287 rfl (lv_at hl 3 rfl) ?_
  refine lv_iconst (v := 5) hC.1 hC.2.1 dL_law_288 (by decide) ?_
  refine lv_iadd hC.1 hC.2.1 dL_law_289 ?_
  refine va_sld hC.1 hC.2.1 hX hbl hbA hW.2.2.2.1 hi5 dL_law_290 ?_
  refine lv_nmi ea5 ?_
  refine lv_i2l (v := Int32.toInt64 a5) hC.1 hC.2.1 dL_law_291 rfl ?_
  refine lv_bipush (v := 32) hC.1 hC.2.1 dL_law_292 (by decide) ?_
  refine lv_lshl (v := (Int32.toInt64 a5) <<< (Int32.toInt64 32 &&& 63)) hC.1 hC.2.1 dL_law_294 rfl ?_
  refine lv_aload_n hC.1 hC.2.1 dL_law_295 rfl (lv_at hl 0 rfl) ?_
  refine lv_iload_n hC.1 hC.2.1 dL_law_296 rfl (lv_at hl 3 rfl) ?_
  refine lv_bipush (v := 6) hC.1 hC.2.1 dL_law_297 (by decide) ?_
  refine lv_iadd hC.1 hC.2.1 dL_law_299 ?_
  refine va_sld hC.1 hC.2.1 hX hbl hbA hW.2.2.2.1 hi6 dL_law_300 ?_
  refine lv_nmi ea6 ?_
  refine lv_i2l (v := Int32.toInt64 a6) hC.1 hC.2.1 dL_law_301 rfl ?_
  refine lv_ldc2 (v := 4294967295) hC.1 hC.2.1 hC.2.2.2.1 (hC.2.2.2.2.1 _ lwK) dL_law_302 ?_
  refine lv_land hC.1 hC.2.1 dL_law_305 ?_
  refine lv_lor hC.1 hC.2.1 dL_law_306 ?_
  refine g_calliV (w' := AW cy u gi (va_up cs 3 ST) aM sm1) hC hW (c12_feed l D cy ad aM hf12) (cwV 3 hC.2.2.2.2.1 gL_law_X12_feed rfl rfl rfl hdV12_feed ⟨Nat.le_of_ble_eq_true rfl, Nat.le_of_ble_eq_true rfl⟩) (Sub.skipL _ (Sub.skipL _ (Sub.skipL _ (Sub.skipL _ (Sub.skipL _ (Sub.skipL _ (Sub.skipL _ (Sub.skipL _ (Sub.skipL _ (Sub.skipL _ (Sub.skipL _ (Sub.skipL _ (Sub.skipL _ (Sub.skipL _ (Sub.skipL _ (Sub.skipL _ (Sub.skipL _ (Sub.all _ _)))))))))))))))))) 0 11 rfl rfl rfl rfl hl.1 rfl (Nat.le_of_ble_eq_true rfl) dL_law_307 lwRm (fun H locs hW => ?_)
  refine lv_icmp_eq (tgt := 1165) hC.1 hC.2.1 dL_law_310 (by decide) (fun _ => ?_) (fun hc => absurd rfl hc)
  exact next _ _ u gi H locs ls hI1 hW hl
end
