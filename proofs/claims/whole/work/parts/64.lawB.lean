/-! THE LAW, case by case. By program. -/
section LB
variable {p : Program} {l : Launch} {e : Env} {R : Room} {s : State} {m : MethodId} {args : Array Value} {below : List Frame} {meth : Method} {c : Code} {G : Gm} {A : Nat → Prop} {cells slots : Nat} {Q : State → Prop} {M : Mm} {b L i : Nat} {xs : Nat → Int32}
theorem lcase_0 (hc : CX p s m args meth c G A L_law) (hX : va_X b L xs s s.heap) (hbl : b < s.heap.size) (hbA : ¬ A b) (hro : G.2.1 4000 = b) (hL : L ≤ 2048) (hi : i + 4 ≤ L) (hR : 20 + 1 ≤ R.frames ∧ 40 * 20 + 40 ≤ R.locals) (hcs : cells ≤ R.cells ∧ slots ≤ R.slots) (hI : Inv M) (kk : ∀ M' : Mm, Inv M' → BW p l e R s m args below meth c G A cells slots Q L_law M' 991 (LvL i) []) : BW p l e R s m args below meth c G A cells slots Q L_law M 164 (LvL i) [] := by
  refine hb_aload_n (q := 165) hc dd_L_law_164 rfl rfl ?_
  refine hb_aload_n (q := 166) hc dd_L_law_165 rfl rfl ?_
  refine hb_iload_n (q := 167) hc dd_L_law_166 rfl rfl ?_
  refine hb_iconst (q := 168) (v := 1) hc dd_L_law_167 rfl (by decide) ?_
  refine hb_iadd (q := 169) hc dd_L_law_168 rfl ?_
  refine hb_sld (q := 170) (k := i + 1) hc hX hbl hbA hro (nI_add i 1) (by omega) hL dd_L_law_169 rfl ?_
  refine hb_callVi (q := 173) (b := 0) (d := 20) (vs := [.int (xs (i + 1))]) (st := []) hc mv_L_13 (p_write hI 0) sh0 sl0 rfl rfl rfl (Nat.le_of_ble_eq_true rfl) hR hcs dd_L_law_170 rfl (fun r M1 h1 => ?_)
  refine hb_aload_n (q := 174) hc dd_L_law_173 rfl rfl ?_
  refine hb_aload_n (q := 175) hc dd_L_law_174 rfl rfl ?_
  refine hb_iload_n (q := 176) hc dd_L_law_175 rfl rfl ?_
  refine hb_iconst (q := 177) (v := 1) hc dd_L_law_176 rfl (by decide) ?_
  refine hb_iadd (q := 178) hc dd_L_law_177 rfl ?_
  refine hb_sld (q := 179) (k := i + 1) hc hX hbl hbA hro (nI_add i 1) (by omega) hL dd_L_law_178 rfl ?_
  refine hb_callVi (q := 182) (b := 42) (d := 20) (vs := [.int (xs (i + 1))]) (st := [.int r]) hc mv_L_17 h1 sh42 sl42 rfl rfl rfl (Nat.le_of_ble_eq_true rfl) hR hcs dd_L_law_179 rfl (fun r' M2 h2 => ?_)
  exact hb_icmp_eq (q := 185) (tg := 991) hc dd_L_law_182 rfl (by decide) (fun _ => kk M2 h2.2) (fun h => absurd h2.1 h)
theorem lcase_1 (hc : CX p s m args meth c G A L_law) (hX : va_X b L xs s s.heap) (hbl : b < s.heap.size) (hbA : ¬ A b) (hro : G.2.1 4000 = b) (hL : L ≤ 2048) (hi : i + 4 ≤ L) (hR : 20 + 1 ≤ R.frames ∧ 40 * 20 + 40 ≤ R.locals) (hcs : cells ≤ R.cells ∧ slots ≤ R.slots) (hI : Inv M) (kk : ∀ M' : Mm, Inv M' → BW p l e R s m args below meth c G A cells slots Q L_law M' 991 (LvL i) []) : BW p l e R s m args below meth c G A cells slots Q L_law M 187 (LvL i) [] := by
  refine hb_aload_n (q := 188) hc dd_L_law_187 rfl rfl ?_
  refine hb_callVi (q := 191) (b := 0) (d := 20) (vs := []) (st := []) hc mv_L_18 (p_erase hI 0) sh0 sl0 rfl rfl rfl (Nat.le_of_ble_eq_true rfl) hR hcs dd_L_law_188 rfl (fun r M1 h1 => ?_)
  refine hb_aload_n (q := 192) hc dd_L_law_191 rfl rfl ?_
  refine hb_callVi (q := 195) (b := 42) (d := 20) (vs := []) (st := [.int r]) hc mv_L_22 h1 sh42 sl42 rfl rfl rfl (Nat.le_of_ble_eq_true rfl) hR hcs dd_L_law_192 rfl (fun r' M2 h2 => ?_)
  exact hb_icmp_eq (q := 198) (tg := 991) hc dd_L_law_195 rfl (by decide) (fun _ => kk M2 h2.2) (fun h => absurd h2.1 h)
theorem lcase_2 (hc : CX p s m args meth c G A L_law) (hX : va_X b L xs s s.heap) (hbl : b < s.heap.size) (hbA : ¬ A b) (hro : G.2.1 4000 = b) (hL : L ≤ 2048) (hi : i + 4 ≤ L) (hR : 20 + 1 ≤ R.frames ∧ 40 * 20 + 40 ≤ R.locals) (hcs : cells ≤ R.cells ∧ slots ≤ R.slots) (hI : Inv M) (kk : ∀ M' : Mm, Inv M' → BW p l e R s m args below meth c G A cells slots Q L_law M' 991 (LvL i) []) : BW p l e R s m args below meth c G A cells slots Q L_law M 200 (LvL i) [] := by
  refine hb_aload_n (q := 201) hc dd_L_law_200 rfl rfl ?_
  refine hb_callVi (q := 204) (b := 0) (d := 20) (vs := []) (st := []) hc mv_L_23 (q_fault hI 0) sh0 sl0 rfl rfl rfl (Nat.le_of_ble_eq_true rfl) hR hcs dd_L_law_201 rfl (fun r M1 h1 => ?_)
  refine hb_aload_n (q := 205) hc dd_L_law_204 rfl rfl ?_
  refine hb_callVi (q := 208) (b := 42) (d := 20) (vs := []) (st := [.int r]) hc mv_L_26 h1 sh42 sl42 rfl rfl rfl (Nat.le_of_ble_eq_true rfl) hR hcs dd_L_law_205 rfl (fun r' M2 h2 => ?_)
  exact hb_icmp_eq (q := 211) (tg := 991) hc dd_L_law_208 rfl (by decide) (fun _ => kk M2 h2.2) (fun h => absurd h2.1 h)
theorem lcase_3 (hc : CX p s m args meth c G A L_law) (hX : va_X b L xs s s.heap) (hbl : b < s.heap.size) (hbA : ¬ A b) (hro : G.2.1 4000 = b) (hL : L ≤ 2048) (hi : i + 4 ≤ L) (hR : 20 + 1 ≤ R.frames ∧ 40 * 20 + 40 ≤ R.locals) (hcs : cells ≤ R.cells ∧ slots ≤ R.slots) (hI : Inv M) (kk : ∀ M' : Mm, Inv M' → BW p l e R s m args below meth c G A cells slots Q L_law M' 991 (LvL i) []) : BW p l e R s m args below meth c G A cells slots Q L_law M 213 (LvL i) [] := by
  refine hb_aload_n (q := 214) hc dd_L_law_213 rfl rfl ?_
  refine hb_callVi (q := 217) (b := 0) (d := 20) (vs := []) (st := []) hc mv_L_27 (q_office hI 0) sh0 sl0 rfl rfl rfl (Nat.le_of_ble_eq_true rfl) hR hcs dd_L_law_214 rfl (fun r M1 h1 => ?_)
  refine hb_aload_n (q := 218) hc dd_L_law_217 rfl rfl ?_
  refine hb_callVi (q := 221) (b := 42) (d := 20) (vs := []) (st := [.int r]) hc mv_L_30 h1 sh42 sl42 rfl rfl rfl (Nat.le_of_ble_eq_true rfl) hR hcs dd_L_law_218 rfl (fun r' M2 h2 => ?_)
  exact hb_icmp_eq (q := 224) (tg := 991) hc dd_L_law_221 rfl (by decide) (fun _ => kk M2 h2.2) (fun h => absurd h2.1 h)
theorem lcase_4 (hc : CX p s m args meth c G A L_law) (hX : va_X b L xs s s.heap) (hbl : b < s.heap.size) (hbA : ¬ A b) (hro : G.2.1 4000 = b) (hL : L ≤ 2048) (hi : i + 4 ≤ L) (hR : 20 + 1 ≤ R.frames ∧ 40 * 20 + 40 ≤ R.locals) (hcs : cells ≤ R.cells ∧ slots ≤ R.slots) (hI : Inv M) (kk : ∀ M' : Mm, Inv M' → BW p l e R s m args below meth c G A cells slots Q L_law M' 991 (LvL i) []) : BW p l e R s m args below meth c G A cells slots Q L_law M 226 (LvL i) [] := by
  refine hb_aload_n (q := 227) hc dd_L_law_226 rfl rfl ?_
  refine hb_aload_n (q := 228) hc dd_L_law_227 rfl rfl ?_
  refine hb_iload_n (q := 229) hc dd_L_law_228 rfl rfl ?_
  refine hb_iconst (q := 230) (v := 1) hc dd_L_law_229 rfl (by decide) ?_
  refine hb_iadd (q := 231) hc dd_L_law_230 rfl ?_
  refine hb_sld (q := 232) (k := i + 1) hc hX hbl hbA hro (nI_add i 1) (by omega) hL dd_L_law_231 rfl ?_
  refine hb_aload_n (q := 233) hc dd_L_law_232 rfl rfl ?_
  refine hb_iload_n (q := 234) hc dd_L_law_233 rfl rfl ?_
  refine hb_iconst (q := 235) (v := 2) hc dd_L_law_234 rfl (by decide) ?_
  refine hb_iadd (q := 236) hc dd_L_law_235 rfl ?_
  refine hb_sld (q := 237) (k := i + 2) hc hX hbl hbA hro (nI_add i 2) (by omega) hL dd_L_law_236 rfl ?_
  refine hb_callVi (q := 240) (b := 0) (d := 20) (vs := [.int (xs (i + 1)), .int (xs (i + 2))]) (st := []) hc mv_L_31 (q_rhythm hI 0) sh0 sl0 rfl rfl rfl (Nat.le_of_ble_eq_true rfl) hR hcs dd_L_law_237 rfl (fun r M1 h1 => ?_)
  refine hb_aload_n (q := 241) hc dd_L_law_240 rfl rfl ?_
  refine hb_aload_n (q := 242) hc dd_L_law_241 rfl rfl ?_
  refine hb_iload_n (q := 243) hc dd_L_law_242 rfl rfl ?_
  refine hb_iconst (q := 244) (v := 1) hc dd_L_law_243 rfl (by decide) ?_
  refine hb_iadd (q := 245) hc dd_L_law_244 rfl ?_
  refine hb_sld (q := 246) (k := i + 1) hc hX hbl hbA hro (nI_add i 1) (by omega) hL dd_L_law_245 rfl ?_
  refine hb_aload_n (q := 247) hc dd_L_law_246 rfl rfl ?_
  refine hb_iload_n (q := 248) hc dd_L_law_247 rfl rfl ?_
  refine hb_iconst (q := 249) (v := 2) hc dd_L_law_248 rfl (by decide) ?_
  refine hb_iadd (q := 250) hc dd_L_law_249 rfl ?_
  refine hb_sld (q := 251) (k := i + 2) hc hX hbl hbA hro (nI_add i 2) (by omega) hL dd_L_law_250 rfl ?_
  refine hb_callVi (q := 254) (b := 42) (d := 20) (vs := [.int (xs (i + 1)), .int (xs (i + 2))]) (st := [.int r]) hc mv_L_35 h1 sh42 sl42 rfl rfl rfl (Nat.le_of_ble_eq_true rfl) hR hcs dd_L_law_251 rfl (fun r' M2 h2 => ?_)
  exact hb_icmp_eq (q := 257) (tg := 991) hc dd_L_law_254 rfl (by decide) (fun _ => kk M2 h2.2) (fun h => absurd h2.1 h)
theorem lcase_5 (hc : CX p s m args meth c G A L_law) (hX : va_X b L xs s s.heap) (hbl : b < s.heap.size) (hbA : ¬ A b) (hro : G.2.1 4000 = b) (hL : L ≤ 2048) (hi : i + 4 ≤ L) (hR : 20 + 1 ≤ R.frames ∧ 40 * 20 + 40 ≤ R.locals) (hcs : cells ≤ R.cells ∧ slots ≤ R.slots) (hI : Inv M) (kk : ∀ M' : Mm, Inv M' → BW p l e R s m args below meth c G A cells slots Q L_law M' 991 (LvL i) []) : BW p l e R s m args below meth c G A cells slots Q L_law M 259 (LvL i) [] := by
  refine hb_aload_n (q := 260) hc dd_L_law_259 rfl rfl ?_
  refine hb_aload_n (q := 261) hc dd_L_law_260 rfl rfl ?_
  refine hb_iload_n (q := 262) hc dd_L_law_261 rfl rfl ?_
  refine hb_iconst (q := 263) (v := 1) hc dd_L_law_262 rfl (by decide) ?_
  refine hb_iadd (q := 264) hc dd_L_law_263 rfl ?_
  refine hb_sld (q := 265) (k := i + 1) hc hX hbl hbA hro (nI_add i 1) (by omega) hL dd_L_law_264 rfl ?_
  refine hb_aload_n (q := 266) hc dd_L_law_265 rfl rfl ?_
  refine hb_iload_n (q := 267) hc dd_L_law_266 rfl rfl ?_
  refine hb_iconst (q := 268) (v := 2) hc dd_L_law_267 rfl (by decide) ?_
  refine hb_iadd (q := 269) hc dd_L_law_268 rfl ?_
  refine hb_sld (q := 270) (k := i + 2) hc hX hbl hbA hro (nI_add i 2) (by omega) hL dd_L_law_269 rfl ?_
  refine hb_callVi (q := 273) (b := 0) (d := 20) (vs := [.int (xs (i + 1)), .int (xs (i + 2))]) (st := []) hc mv_L_36 (q_light hI 0) sh0 sl0 rfl rfl rfl (Nat.le_of_ble_eq_true rfl) hR hcs dd_L_law_270 rfl (fun r M1 h1 => ?_)
  refine hb_aload_n (q := 274) hc dd_L_law_273 rfl rfl ?_
  refine hb_aload_n (q := 275) hc dd_L_law_274 rfl rfl ?_
  refine hb_iload_n (q := 276) hc dd_L_law_275 rfl rfl ?_
  refine hb_iconst (q := 277) (v := 1) hc dd_L_law_276 rfl (by decide) ?_
  refine hb_iadd (q := 278) hc dd_L_law_277 rfl ?_
  refine hb_sld (q := 279) (k := i + 1) hc hX hbl hbA hro (nI_add i 1) (by omega) hL dd_L_law_278 rfl ?_
  refine hb_aload_n (q := 280) hc dd_L_law_279 rfl rfl ?_
  refine hb_iload_n (q := 281) hc dd_L_law_280 rfl rfl ?_
  refine hb_iconst (q := 282) (v := 2) hc dd_L_law_281 rfl (by decide) ?_
  refine hb_iadd (q := 283) hc dd_L_law_282 rfl ?_
  refine hb_sld (q := 284) (k := i + 2) hc hX hbl hbA hro (nI_add i 2) (by omega) hL dd_L_law_283 rfl ?_
  refine hb_callVi (q := 287) (b := 42) (d := 20) (vs := [.int (xs (i + 1)), .int (xs (i + 2))]) (st := [.int r]) hc mv_L_39 h1 sh42 sl42 rfl rfl rfl (Nat.le_of_ble_eq_true rfl) hR hcs dd_L_law_284 rfl (fun r' M2 h2 => ?_)
  exact hb_icmp_eq (q := 290) (tg := 991) hc dd_L_law_287 rfl (by decide) (fun _ => kk M2 h2.2) (fun h => absurd h2.1 h)
theorem lcase_6 (hc : CX p s m args meth c G A L_law) (hX : va_X b L xs s s.heap) (hbl : b < s.heap.size) (hbA : ¬ A b) (hro : G.2.1 4000 = b) (hL : L ≤ 2048) (hi : i + 4 ≤ L) (hR : 20 + 1 ≤ R.frames ∧ 40 * 20 + 40 ≤ R.locals) (hcs : cells ≤ R.cells ∧ slots ≤ R.slots) (hI : Inv M) (kk : ∀ M' : Mm, Inv M' → BW p l e R s m args below meth c G A cells slots Q L_law M' 991 (LvL i) []) : BW p l e R s m args below meth c G A cells slots Q L_law M 292 (LvL i) [] := by
  refine hb_aload_n (q := 293) hc dd_L_law_292 rfl rfl ?_
  refine hb_aload_n (q := 294) hc dd_L_law_293 rfl rfl ?_
  refine hb_iload_n (q := 295) hc dd_L_law_294 rfl rfl ?_
  refine hb_iconst (q := 296) (v := 1) hc dd_L_law_295 rfl (by decide) ?_
  refine hb_iadd (q := 297) hc dd_L_law_296 rfl ?_
  refine hb_sld (q := 298) (k := i + 1) hc hX hbl hbA hro (nI_add i 1) (by omega) hL dd_L_law_297 rfl ?_
  refine hb_aload_n (q := 299) hc dd_L_law_298 rfl rfl ?_
  refine hb_iload_n (q := 300) hc dd_L_law_299 rfl rfl ?_
  refine hb_iconst (q := 301) (v := 2) hc dd_L_law_300 rfl (by decide) ?_
  refine hb_iadd (q := 302) hc dd_L_law_301 rfl ?_
  refine hb_sld (q := 303) (k := i + 2) hc hX hbl hbA hro (nI_add i 2) (by omega) hL dd_L_law_302 rfl ?_
  refine hb_aload_n (q := 304) hc dd_L_law_303 rfl rfl ?_
  refine hb_iload_n (q := 305) hc dd_L_law_304 rfl rfl ?_
  refine hb_iconst (q := 306) (v := 3) hc dd_L_law_305 rfl (by decide) ?_
  refine hb_iadd (q := 307) hc dd_L_law_306 rfl ?_
  refine hb_sld (q := 308) (k := i + 3) hc hX hbl hbA hro (nI_add i 3) (by omega) hL dd_L_law_307 rfl ?_
  refine hb_callVi (q := 311) (b := 0) (d := 20) (vs := [.int (xs (i + 1)), .int (xs (i + 2)), .int (xs (i + 3))]) (st := []) hc mv_L_40 (q_like hI 0) sh0 sl0 rfl rfl rfl (Nat.le_of_ble_eq_true rfl) hR hcs dd_L_law_308 rfl (fun r M1 h1 => ?_)
  refine hb_aload_n (q := 312) hc dd_L_law_311 rfl rfl ?_
  refine hb_aload_n (q := 313) hc dd_L_law_312 rfl rfl ?_
  refine hb_iload_n (q := 314) hc dd_L_law_313 rfl rfl ?_
  refine hb_iconst (q := 315) (v := 1) hc dd_L_law_314 rfl (by decide) ?_
  refine hb_iadd (q := 316) hc dd_L_law_315 rfl ?_
  refine hb_sld (q := 317) (k := i + 1) hc hX hbl hbA hro (nI_add i 1) (by omega) hL dd_L_law_316 rfl ?_
  refine hb_aload_n (q := 318) hc dd_L_law_317 rfl rfl ?_
  refine hb_iload_n (q := 319) hc dd_L_law_318 rfl rfl ?_
  refine hb_iconst (q := 320) (v := 2) hc dd_L_law_319 rfl (by decide) ?_
  refine hb_iadd (q := 321) hc dd_L_law_320 rfl ?_
  refine hb_sld (q := 322) (k := i + 2) hc hX hbl hbA hro (nI_add i 2) (by omega) hL dd_L_law_321 rfl ?_
  refine hb_aload_n (q := 323) hc dd_L_law_322 rfl rfl ?_
  refine hb_iload_n (q := 324) hc dd_L_law_323 rfl rfl ?_
  refine hb_iconst (q := 325) (v := 3) hc dd_L_law_324 rfl (by decide) ?_
  refine hb_iadd (q := 326) hc dd_L_law_325 rfl ?_
  refine hb_sld (q := 327) (k := i + 3) hc hX hbl hbA hro (nI_add i 3) (by omega) hL dd_L_law_326 rfl ?_
  refine hb_callVi (q := 330) (b := 42) (d := 20) (vs := [.int (xs (i + 1)), .int (xs (i + 2)), .int (xs (i + 3))]) (st := [.int r]) hc mv_L_44 h1 sh42 sl42 rfl rfl rfl (Nat.le_of_ble_eq_true rfl) hR hcs dd_L_law_327 rfl (fun r' M2 h2 => ?_)
  exact hb_icmp_eq (q := 333) (tg := 991) hc dd_L_law_330 rfl (by decide) (fun _ => kk M2 h2.2) (fun h => absurd h2.1 h)
theorem lcase_7 (hc : CX p s m args meth c G A L_law) (hX : va_X b L xs s s.heap) (hbl : b < s.heap.size) (hbA : ¬ A b) (hro : G.2.1 4000 = b) (hL : L ≤ 2048) (hi : i + 4 ≤ L) (hR : 20 + 1 ≤ R.frames ∧ 40 * 20 + 40 ≤ R.locals) (hcs : cells ≤ R.cells ∧ slots ≤ R.slots) (hI : Inv M) (kk : ∀ M' : Mm, Inv M' → BW p l e R s m args below meth c G A cells slots Q L_law M' 991 (LvL i) []) : BW p l e R s m args below meth c G A cells slots Q L_law M 335 (LvL i) [] := by
  refine hb_aload_n (q := 336) hc dd_L_law_335 rfl rfl ?_
  refine hb_aload_n (q := 337) hc dd_L_law_336 rfl rfl ?_
  refine hb_iload_n (q := 338) hc dd_L_law_337 rfl rfl ?_
  refine hb_iconst (q := 339) (v := 1) hc dd_L_law_338 rfl (by decide) ?_
  refine hb_iadd (q := 340) hc dd_L_law_339 rfl ?_
  refine hb_sld (q := 341) (k := i + 1) hc hX hbl hbA hro (nI_add i 1) (by omega) hL dd_L_law_340 rfl ?_
  refine hb_aload_n (q := 342) hc dd_L_law_341 rfl rfl ?_
  refine hb_iload_n (q := 343) hc dd_L_law_342 rfl rfl ?_
  refine hb_iconst (q := 344) (v := 2) hc dd_L_law_343 rfl (by decide) ?_
  refine hb_iadd (q := 345) hc dd_L_law_344 rfl ?_
  refine hb_sld (q := 346) (k := i + 2) hc hX hbl hbA hro (nI_add i 2) (by omega) hL dd_L_law_345 rfl ?_
  refine hb_callVi (q := 349) (b := 0) (d := 20) (vs := [.int (xs (i + 1)), .int (xs (i + 2))]) (st := []) hc mv_L_45 (p_lit hI 0) sh0 sl0 rfl rfl rfl (Nat.le_of_ble_eq_true rfl) hR hcs dd_L_law_346 rfl (fun r M1 h1 => ?_)
  refine hb_aload_n (q := 350) hc dd_L_law_349 rfl rfl ?_
  refine hb_aload_n (q := 351) hc dd_L_law_350 rfl rfl ?_
  refine hb_iload_n (q := 352) hc dd_L_law_351 rfl rfl ?_
  refine hb_iconst (q := 353) (v := 1) hc dd_L_law_352 rfl (by decide) ?_
  refine hb_iadd (q := 354) hc dd_L_law_353 rfl ?_
  refine hb_sld (q := 355) (k := i + 1) hc hX hbl hbA hro (nI_add i 1) (by omega) hL dd_L_law_354 rfl ?_
  refine hb_aload_n (q := 356) hc dd_L_law_355 rfl rfl ?_
  refine hb_iload_n (q := 357) hc dd_L_law_356 rfl rfl ?_
  refine hb_iconst (q := 358) (v := 2) hc dd_L_law_357 rfl (by decide) ?_
  refine hb_iadd (q := 359) hc dd_L_law_358 rfl ?_
  refine hb_sld (q := 360) (k := i + 2) hc hX hbl hbA hro (nI_add i 2) (by omega) hL dd_L_law_359 rfl ?_
  refine hb_callVi (q := 363) (b := 42) (d := 20) (vs := [.int (xs (i + 1)), .int (xs (i + 2))]) (st := [.int r]) hc mv_L_48 h1 sh42 sl42 rfl rfl rfl (Nat.le_of_ble_eq_true rfl) hR hcs dd_L_law_360 rfl (fun r' M2 h2 => ?_)
  exact hb_icmp_eq (q := 366) (tg := 991) hc dd_L_law_363 rfl (by decide) (fun _ => kk M2 h2.2) (fun h => absurd h2.1 h)
theorem lcase_8 (hc : CX p s m args meth c G A L_law) (hX : va_X b L xs s s.heap) (hbl : b < s.heap.size) (hbA : ¬ A b) (hro : G.2.1 4000 = b) (hL : L ≤ 2048) (hi : i + 4 ≤ L) (hR : 20 + 1 ≤ R.frames ∧ 40 * 20 + 40 ≤ R.locals) (hcs : cells ≤ R.cells ∧ slots ≤ R.slots) (hI : Inv M) (kk : ∀ M' : Mm, Inv M' → BW p l e R s m args below meth c G A cells slots Q L_law M' 991 (LvL i) []) : BW p l e R s m args below meth c G A cells slots Q L_law M 368 (LvL i) [] := by
  refine hb_aload_n (q := 369) hc dd_L_law_368 rfl rfl ?_
  refine hb_aload_n (q := 370) hc dd_L_law_369 rfl rfl ?_
  refine hb_iload_n (q := 371) hc dd_L_law_370 rfl rfl ?_
  refine hb_iconst (q := 372) (v := 1) hc dd_L_law_371 rfl (by decide) ?_
  refine hb_iadd (q := 373) hc dd_L_law_372 rfl ?_
  refine hb_sld (q := 374) (k := i + 1) hc hX hbl hbA hro (nI_add i 1) (by omega) hL dd_L_law_373 rfl ?_
  refine hb_callVi (q := 377) (b := 0) (d := 20) (vs := [.int (xs (i + 1))]) (st := []) hc mv_L_49 (p_dark hI 0) sh0 sl0 rfl rfl rfl (Nat.le_of_ble_eq_true rfl) hR hcs dd_L_law_374 rfl (fun r M1 h1 => ?_)
  refine hb_aload_n (q := 378) hc dd_L_law_377 rfl rfl ?_
  refine hb_aload_n (q := 379) hc dd_L_law_378 rfl rfl ?_
  refine hb_iload_n (q := 380) hc dd_L_law_379 rfl rfl ?_
  refine hb_iconst (q := 381) (v := 1) hc dd_L_law_380 rfl (by decide) ?_
  refine hb_iadd (q := 382) hc dd_L_law_381 rfl ?_
  refine hb_sld (q := 383) (k := i + 1) hc hX hbl hbA hro (nI_add i 1) (by omega) hL dd_L_law_382 rfl ?_
  refine hb_callVi (q := 386) (b := 42) (d := 20) (vs := [.int (xs (i + 1))]) (st := [.int r]) hc mv_L_52 h1 sh42 sl42 rfl rfl rfl (Nat.le_of_ble_eq_true rfl) hR hcs dd_L_law_383 rfl (fun r' M2 h2 => ?_)
  exact hb_icmp_eq (q := 389) (tg := 991) hc dd_L_law_386 rfl (by decide) (fun _ => kk M2 h2.2) (fun h => absurd h2.1 h)
theorem lcase_9 (hc : CX p s m args meth c G A L_law) (hX : va_X b L xs s s.heap) (hbl : b < s.heap.size) (hbA : ¬ A b) (hro : G.2.1 4000 = b) (hL : L ≤ 2048) (hi : i + 4 ≤ L) (hR : 20 + 1 ≤ R.frames ∧ 40 * 20 + 40 ≤ R.locals) (hcs : cells ≤ R.cells ∧ slots ≤ R.slots) (hI : Inv M) (kk : ∀ M' : Mm, Inv M' → BW p l e R s m args below meth c G A cells slots Q L_law M' 991 (LvL i) []) : BW p l e R s m args below meth c G A cells slots Q L_law M 391 (LvL i) [] := by
  refine hb_aload_n (q := 392) hc dd_L_law_391 rfl rfl ?_
  refine hb_aload_n (q := 393) hc dd_L_law_392 rfl rfl ?_
  refine hb_iload_n (q := 394) hc dd_L_law_393 rfl rfl ?_
  refine hb_iconst (q := 395) (v := 1) hc dd_L_law_394 rfl (by decide) ?_
  refine hb_iadd (q := 396) hc dd_L_law_395 rfl ?_
  refine hb_sld (q := 397) (k := i + 1) hc hX hbl hbA hro (nI_add i 1) (by omega) hL dd_L_law_396 rfl ?_
  refine hb_aload_n (q := 398) hc dd_L_law_397 rfl rfl ?_
  refine hb_iload_n (q := 399) hc dd_L_law_398 rfl rfl ?_
  refine hb_iconst (q := 400) (v := 2) hc dd_L_law_399 rfl (by decide) ?_
  refine hb_iadd (q := 401) hc dd_L_law_400 rfl ?_
  refine hb_sld (q := 402) (k := i + 2) hc hX hbl hbA hro (nI_add i 2) (by omega) hL dd_L_law_401 rfl ?_
  refine hb_callVi (q := 405) (b := 0) (d := 20) (vs := [.int (xs (i + 1)), .int (xs (i + 2))]) (st := []) hc mv_L_53 (p_move hI 0) sh0 sl0 rfl rfl rfl (Nat.le_of_ble_eq_true rfl) hR hcs dd_L_law_402 rfl (fun r M1 h1 => ?_)
  refine hb_aload_n (q := 406) hc dd_L_law_405 rfl rfl ?_
  refine hb_aload_n (q := 407) hc dd_L_law_406 rfl rfl ?_
  refine hb_iload_n (q := 408) hc dd_L_law_407 rfl rfl ?_
  refine hb_iconst (q := 409) (v := 1) hc dd_L_law_408 rfl (by decide) ?_
  refine hb_iadd (q := 410) hc dd_L_law_409 rfl ?_
  refine hb_sld (q := 411) (k := i + 1) hc hX hbl hbA hro (nI_add i 1) (by omega) hL dd_L_law_410 rfl ?_
  refine hb_aload_n (q := 412) hc dd_L_law_411 rfl rfl ?_
  refine hb_iload_n (q := 413) hc dd_L_law_412 rfl rfl ?_
  refine hb_iconst (q := 414) (v := 2) hc dd_L_law_413 rfl (by decide) ?_
  refine hb_iadd (q := 415) hc dd_L_law_414 rfl ?_
  refine hb_sld (q := 416) (k := i + 2) hc hX hbl hbA hro (nI_add i 2) (by omega) hL dd_L_law_415 rfl ?_
  refine hb_callVi (q := 419) (b := 42) (d := 20) (vs := [.int (xs (i + 1)), .int (xs (i + 2))]) (st := [.int r]) hc mv_L_56 h1 sh42 sl42 rfl rfl rfl (Nat.le_of_ble_eq_true rfl) hR hcs dd_L_law_416 rfl (fun r' M2 h2 => ?_)
  exact hb_icmp_eq (q := 422) (tg := 991) hc dd_L_law_419 rfl (by decide) (fun _ => kk M2 h2.2) (fun h => absurd h2.1 h)
theorem lcase_10 (hc : CX p s m args meth c G A L_law) (hX : va_X b L xs s s.heap) (hbl : b < s.heap.size) (hbA : ¬ A b) (hro : G.2.1 4000 = b) (hL : L ≤ 2048) (hi : i + 4 ≤ L) (hR : 20 + 1 ≤ R.frames ∧ 40 * 20 + 40 ≤ R.locals) (hcs : cells ≤ R.cells ∧ slots ≤ R.slots) (hI : Inv M) (kk : ∀ M' : Mm, Inv M' → BW p l e R s m args below meth c G A cells slots Q L_law M' 991 (LvL i) []) : BW p l e R s m args below meth c G A cells slots Q L_law M 424 (LvL i) [] := by
  refine hb_aload_n (q := 425) hc dd_L_law_424 rfl rfl ?_
  refine hb_callVi (q := 428) (b := 0) (d := 20) (vs := []) (st := []) hc mv_L_57 (p_undo hI 0) sh0 sl0 rfl rfl rfl (Nat.le_of_ble_eq_true rfl) hR hcs dd_L_law_425 rfl (fun r M1 h1 => ?_)
  refine hb_aload_n (q := 429) hc dd_L_law_428 rfl rfl ?_
  refine hb_callVi (q := 432) (b := 42) (d := 20) (vs := []) (st := [.int r]) hc mv_L_60 h1 sh42 sl42 rfl rfl rfl (Nat.le_of_ble_eq_true rfl) hR hcs dd_L_law_429 rfl (fun r' M2 h2 => ?_)
  exact hb_icmp_eq (q := 435) (tg := 991) hc dd_L_law_432 rfl (by decide) (fun _ => kk M2 h2.2) (fun h => absurd h2.1 h)
theorem lcase_11 (hc : CX p s m args meth c G A L_law) (hX : va_X b L xs s s.heap) (hbl : b < s.heap.size) (hbA : ¬ A b) (hro : G.2.1 4000 = b) (hL : L ≤ 2048) (hi : i + 4 ≤ L) (hR : 20 + 1 ≤ R.frames ∧ 40 * 20 + 40 ≤ R.locals) (hcs : cells ≤ R.cells ∧ slots ≤ R.slots) (hI : Inv M) (kk : ∀ M' : Mm, Inv M' → BW p l e R s m args below meth c G A cells slots Q L_law M' 991 (LvL i) []) : BW p l e R s m args below meth c G A cells slots Q L_law M 437 (LvL i) [] := by
  refine hb_aload_n (q := 438) hc dd_L_law_437 rfl rfl ?_
  refine hb_aload_n (q := 439) hc dd_L_law_438 rfl rfl ?_
  refine hb_iload_n (q := 440) hc dd_L_law_439 rfl rfl ?_
  refine hb_iconst (q := 441) (v := 1) hc dd_L_law_440 rfl (by decide) ?_
  refine hb_iadd (q := 442) hc dd_L_law_441 rfl ?_
  refine hb_sld (q := 443) (k := i + 1) hc hX hbl hbA hro (nI_add i 1) (by omega) hL dd_L_law_442 rfl ?_
  refine hb_callVi (q := 446) (b := 0) (d := 20) (vs := [.int (xs (i + 1))]) (st := []) hc mv_L_61 (p_keep hI 0) sh0 sl0 rfl rfl rfl (Nat.le_of_ble_eq_true rfl) hR hcs dd_L_law_443 rfl (fun r M1 h1 => ?_)
  refine hb_aload_n (q := 447) hc dd_L_law_446 rfl rfl ?_
  refine hb_aload_n (q := 448) hc dd_L_law_447 rfl rfl ?_
  refine hb_iload_n (q := 449) hc dd_L_law_448 rfl rfl ?_
  refine hb_iconst (q := 450) (v := 1) hc dd_L_law_449 rfl (by decide) ?_
  refine hb_iadd (q := 451) hc dd_L_law_450 rfl ?_
  refine hb_sld (q := 452) (k := i + 1) hc hX hbl hbA hro (nI_add i 1) (by omega) hL dd_L_law_451 rfl ?_
  refine hb_callVi (q := 455) (b := 42) (d := 20) (vs := [.int (xs (i + 1))]) (st := [.int r]) hc mv_L_64 h1 sh42 sl42 rfl rfl rfl (Nat.le_of_ble_eq_true rfl) hR hcs dd_L_law_452 rfl (fun r' M2 h2 => ?_)
  exact hb_icmp_eq (q := 458) (tg := 991) hc dd_L_law_455 rfl (by decide) (fun _ => kk M2 h2.2) (fun h => absurd h2.1 h)
theorem lcase_12 (hc : CX p s m args meth c G A L_law) (hX : va_X b L xs s s.heap) (hbl : b < s.heap.size) (hbA : ¬ A b) (hro : G.2.1 4000 = b) (hL : L ≤ 2048) (hi : i + 4 ≤ L) (hR : 20 + 1 ≤ R.frames ∧ 40 * 20 + 40 ≤ R.locals) (hcs : cells ≤ R.cells ∧ slots ≤ R.slots) (hI : Inv M) (kk : ∀ M' : Mm, Inv M' → BW p l e R s m args below meth c G A cells slots Q L_law M' 991 (LvL i) []) : BW p l e R s m args below meth c G A cells slots Q L_law M 460 (LvL i) [] := by
  refine hb_aload_n (q := 461) hc dd_L_law_460 rfl rfl ?_
  refine hb_aload_n (q := 462) hc dd_L_law_461 rfl rfl ?_
  refine hb_iload_n (q := 463) hc dd_L_law_462 rfl rfl ?_
  refine hb_iconst (q := 464) (v := 1) hc dd_L_law_463 rfl (by decide) ?_
  refine hb_iadd (q := 465) hc dd_L_law_464 rfl ?_
  refine hb_sld (q := 466) (k := i + 1) hc hX hbl hbA hro (nI_add i 1) (by omega) hL dd_L_law_465 rfl ?_
  refine hb_callVi (q := 469) (b := 0) (d := 20) (vs := [.int (xs (i + 1))]) (st := []) hc mv_L_65 (p_back hI 0) sh0 sl0 rfl rfl rfl (Nat.le_of_ble_eq_true rfl) hR hcs dd_L_law_466 rfl (fun r M1 h1 => ?_)
  refine hb_aload_n (q := 470) hc dd_L_law_469 rfl rfl ?_
  refine hb_aload_n (q := 471) hc dd_L_law_470 rfl rfl ?_
  refine hb_iload_n (q := 472) hc dd_L_law_471 rfl rfl ?_
  refine hb_iconst (q := 473) (v := 1) hc dd_L_law_472 rfl (by decide) ?_
  refine hb_iadd (q := 474) hc dd_L_law_473 rfl ?_
  refine hb_sld (q := 475) (k := i + 1) hc hX hbl hbA hro (nI_add i 1) (by omega) hL dd_L_law_474 rfl ?_
  refine hb_callVi (q := 478) (b := 42) (d := 20) (vs := [.int (xs (i + 1))]) (st := [.int r]) hc mv_L_68 h1 sh42 sl42 rfl rfl rfl (Nat.le_of_ble_eq_true rfl) hR hcs dd_L_law_475 rfl (fun r' M2 h2 => ?_)
  exact hb_icmp_eq (q := 481) (tg := 991) hc dd_L_law_478 rfl (by decide) (fun _ => kk M2 h2.2) (fun h => absurd h2.1 h)
theorem lcase_13 (hc : CX p s m args meth c G A L_law) (hX : va_X b L xs s s.heap) (hbl : b < s.heap.size) (hbA : ¬ A b) (hro : G.2.1 4000 = b) (hL : L ≤ 2048) (hi : i + 4 ≤ L) (hR : 20 + 1 ≤ R.frames ∧ 40 * 20 + 40 ≤ R.locals) (hcs : cells ≤ R.cells ∧ slots ≤ R.slots) (hI : Inv M) (kk : ∀ M' : Mm, Inv M' → BW p l e R s m args below meth c G A cells slots Q L_law M' 991 (LvL i) []) : BW p l e R s m args below meth c G A cells slots Q L_law M 483 (LvL i) [] := by
  refine hb_aload_n (q := 484) hc dd_L_law_483 rfl rfl ?_
  refine hb_aload_n (q := 485) hc dd_L_law_484 rfl rfl ?_
  refine hb_iload_n (q := 486) hc dd_L_law_485 rfl rfl ?_
  refine hb_iconst (q := 487) (v := 1) hc dd_L_law_486 rfl (by decide) ?_
  refine hb_iadd (q := 488) hc dd_L_law_487 rfl ?_
  refine hb_sld (q := 489) (k := i + 1) hc hX hbl hbA hro (nI_add i 1) (by omega) hL dd_L_law_488 rfl ?_
  refine hb_aload_n (q := 490) hc dd_L_law_489 rfl rfl ?_
  refine hb_iload_n (q := 491) hc dd_L_law_490 rfl rfl ?_
  refine hb_iconst (q := 492) (v := 2) hc dd_L_law_491 rfl (by decide) ?_
  refine hb_iadd (q := 493) hc dd_L_law_492 rfl ?_
  refine hb_sld (q := 494) (k := i + 2) hc hX hbl hbA hro (nI_add i 2) (by omega) hL dd_L_law_493 rfl ?_
  refine hb_callVi (q := 497) (b := 0) (d := 20) (vs := [.int (xs (i + 1)), .int (xs (i + 2))]) (st := []) hc mv_L_69 (q_plan hI 0) sh0 sl0 rfl rfl rfl (Nat.le_of_ble_eq_true rfl) hR hcs dd_L_law_494 rfl (fun r M1 h1 => ?_)
  refine hb_aload_n (q := 498) hc dd_L_law_497 rfl rfl ?_
  refine hb_aload_n (q := 499) hc dd_L_law_498 rfl rfl ?_
  refine hb_iload_n (q := 500) hc dd_L_law_499 rfl rfl ?_
  refine hb_iconst (q := 501) (v := 1) hc dd_L_law_500 rfl (by decide) ?_
  refine hb_iadd (q := 502) hc dd_L_law_501 rfl ?_
  refine hb_sld (q := 503) (k := i + 1) hc hX hbl hbA hro (nI_add i 1) (by omega) hL dd_L_law_502 rfl ?_
  refine hb_aload_n (q := 504) hc dd_L_law_503 rfl rfl ?_
  refine hb_iload_n (q := 505) hc dd_L_law_504 rfl rfl ?_
  refine hb_iconst (q := 506) (v := 2) hc dd_L_law_505 rfl (by decide) ?_
  refine hb_iadd (q := 507) hc dd_L_law_506 rfl ?_
  refine hb_sld (q := 508) (k := i + 2) hc hX hbl hbA hro (nI_add i 2) (by omega) hL dd_L_law_507 rfl ?_
  refine hb_callVi (q := 511) (b := 42) (d := 20) (vs := [.int (xs (i + 1)), .int (xs (i + 2))]) (st := [.int r]) hc mv_L_72 h1 sh42 sl42 rfl rfl rfl (Nat.le_of_ble_eq_true rfl) hR hcs dd_L_law_508 rfl (fun r' M2 h2 => ?_)
  exact hb_icmp_eq (q := 514) (tg := 991) hc dd_L_law_511 rfl (by decide) (fun _ => kk M2 h2.2) (fun h => absurd h2.1 h)
theorem lcase_14 (hc : CX p s m args meth c G A L_law) (hX : va_X b L xs s s.heap) (hbl : b < s.heap.size) (hbA : ¬ A b) (hro : G.2.1 4000 = b) (hL : L ≤ 2048) (hi : i + 4 ≤ L) (hR : 20 + 1 ≤ R.frames ∧ 40 * 20 + 40 ≤ R.locals) (hcs : cells ≤ R.cells ∧ slots ≤ R.slots) (hI : Inv M) (kk : ∀ M' : Mm, Inv M' → BW p l e R s m args below meth c G A cells slots Q L_law M' 991 (LvL i) []) : BW p l e R s m args below meth c G A cells slots Q L_law M 516 (LvL i) [] := by
  refine hb_aload_n (q := 517) hc dd_L_law_516 rfl rfl ?_
  refine hb_aload_n (q := 518) hc dd_L_law_517 rfl rfl ?_
  refine hb_iload_n (q := 519) hc dd_L_law_518 rfl rfl ?_
  refine hb_iconst (q := 520) (v := 1) hc dd_L_law_519 rfl (by decide) ?_
  refine hb_iadd (q := 521) hc dd_L_law_520 rfl ?_
  refine hb_sld (q := 522) (k := i + 1) hc hX hbl hbA hro (nI_add i 1) (by omega) hL dd_L_law_521 rfl ?_
  refine hb_callVi (q := 525) (b := 0) (d := 20) (vs := [.int (xs (i + 1))]) (st := []) hc mv_L_73 (q_most hI 0) sh0 sl0 rfl rfl rfl (Nat.le_of_ble_eq_true rfl) hR hcs dd_L_law_522 rfl (fun r M1 h1 => ?_)
  refine hb_aload_n (q := 526) hc dd_L_law_525 rfl rfl ?_
  refine hb_aload_n (q := 527) hc dd_L_law_526 rfl rfl ?_
  refine hb_iload_n (q := 528) hc dd_L_law_527 rfl rfl ?_
  refine hb_iconst (q := 529) (v := 1) hc dd_L_law_528 rfl (by decide) ?_
  refine hb_iadd (q := 530) hc dd_L_law_529 rfl ?_
  refine hb_sld (q := 531) (k := i + 1) hc hX hbl hbA hro (nI_add i 1) (by omega) hL dd_L_law_530 rfl ?_
  refine hb_callVi (q := 534) (b := 42) (d := 20) (vs := [.int (xs (i + 1))]) (st := [.int r]) hc mv_L_76 h1 sh42 sl42 rfl rfl rfl (Nat.le_of_ble_eq_true rfl) hR hcs dd_L_law_531 rfl (fun r' M2 h2 => ?_)
  exact hb_icmp_eq (q := 537) (tg := 991) hc dd_L_law_534 rfl (by decide) (fun _ => kk M2 h2.2) (fun h => absurd h2.1 h)
theorem lcase_15 (hc : CX p s m args meth c G A L_law) (hX : va_X b L xs s s.heap) (hbl : b < s.heap.size) (hbA : ¬ A b) (hro : G.2.1 4000 = b) (hL : L ≤ 2048) (hi : i + 4 ≤ L) (hR : 20 + 1 ≤ R.frames ∧ 40 * 20 + 40 ≤ R.locals) (hcs : cells ≤ R.cells ∧ slots ≤ R.slots) (hI : Inv M) (kk : ∀ M' : Mm, Inv M' → BW p l e R s m args below meth c G A cells slots Q L_law M' 991 (LvL i) []) : BW p l e R s m args below meth c G A cells slots Q L_law M 539 (LvL i) [] := by
  refine hb_aload_n (q := 540) hc dd_L_law_539 rfl rfl ?_
  refine hb_aload_n (q := 541) hc dd_L_law_540 rfl rfl ?_
  refine hb_iload_n (q := 542) hc dd_L_law_541 rfl rfl ?_
  refine hb_iconst (q := 543) (v := 1) hc dd_L_law_542 rfl (by decide) ?_
  refine hb_iadd (q := 544) hc dd_L_law_543 rfl ?_
  refine hb_sld (q := 545) (k := i + 1) hc hX hbl hbA hro (nI_add i 1) (by omega) hL dd_L_law_544 rfl ?_
  refine hb_aload_n (q := 546) hc dd_L_law_545 rfl rfl ?_
  refine hb_iload_n (q := 547) hc dd_L_law_546 rfl rfl ?_
  refine hb_iconst (q := 548) (v := 2) hc dd_L_law_547 rfl (by decide) ?_
  refine hb_iadd (q := 549) hc dd_L_law_548 rfl ?_
  refine hb_sld (q := 550) (k := i + 2) hc hX hbl hbA hro (nI_add i 2) (by omega) hL dd_L_law_549 rfl ?_
  refine hb_callVi (q := 553) (b := 0) (d := 20) (vs := [.int (xs (i + 1)), .int (xs (i + 2))]) (st := []) hc mv_L_77 (q_apart hI 0) sh0 sl0 rfl rfl rfl (Nat.le_of_ble_eq_true rfl) hR hcs dd_L_law_550 rfl (fun r M1 h1 => ?_)
  refine hb_aload_n (q := 554) hc dd_L_law_553 rfl rfl ?_
  refine hb_aload_n (q := 555) hc dd_L_law_554 rfl rfl ?_
  refine hb_iload_n (q := 556) hc dd_L_law_555 rfl rfl ?_
  refine hb_iconst (q := 557) (v := 1) hc dd_L_law_556 rfl (by decide) ?_
  refine hb_iadd (q := 558) hc dd_L_law_557 rfl ?_
  refine hb_sld (q := 559) (k := i + 1) hc hX hbl hbA hro (nI_add i 1) (by omega) hL dd_L_law_558 rfl ?_
  refine hb_aload_n (q := 560) hc dd_L_law_559 rfl rfl ?_
  refine hb_iload_n (q := 561) hc dd_L_law_560 rfl rfl ?_
  refine hb_iconst (q := 562) (v := 2) hc dd_L_law_561 rfl (by decide) ?_
  refine hb_iadd (q := 563) hc dd_L_law_562 rfl ?_
  refine hb_sld (q := 564) (k := i + 2) hc hX hbl hbA hro (nI_add i 2) (by omega) hL dd_L_law_563 rfl ?_
  refine hb_callVi (q := 567) (b := 42) (d := 20) (vs := [.int (xs (i + 1)), .int (xs (i + 2))]) (st := [.int r]) hc mv_L_80 h1 sh42 sl42 rfl rfl rfl (Nat.le_of_ble_eq_true rfl) hR hcs dd_L_law_564 rfl (fun r' M2 h2 => ?_)
  exact hb_icmp_eq (q := 570) (tg := 991) hc dd_L_law_567 rfl (by decide) (fun _ => kk M2 h2.2) (fun h => absurd h2.1 h)
theorem lcase_16 (hc : CX p s m args meth c G A L_law) (hX : va_X b L xs s s.heap) (hbl : b < s.heap.size) (hbA : ¬ A b) (hro : G.2.1 4000 = b) (hL : L ≤ 2048) (hi : i + 4 ≤ L) (hR : 20 + 1 ≤ R.frames ∧ 40 * 20 + 40 ≤ R.locals) (hcs : cells ≤ R.cells ∧ slots ≤ R.slots) (hI : Inv M) (kk : ∀ M' : Mm, Inv M' → BW p l e R s m args below meth c G A cells slots Q L_law M' 991 (LvL i) []) : BW p l e R s m args below meth c G A cells slots Q L_law M 572 (LvL i) [] := by
  refine hb_aload_n (q := 573) hc dd_L_law_572 rfl rfl ?_
  refine hb_aload_n (q := 574) hc dd_L_law_573 rfl rfl ?_
  refine hb_iload_n (q := 575) hc dd_L_law_574 rfl rfl ?_
  refine hb_iconst (q := 576) (v := 1) hc dd_L_law_575 rfl (by decide) ?_
  refine hb_iadd (q := 577) hc dd_L_law_576 rfl ?_
  refine hb_sld (q := 578) (k := i + 1) hc hX hbl hbA hro (nI_add i 1) (by omega) hL dd_L_law_577 rfl ?_
  refine hb_aload_n (q := 579) hc dd_L_law_578 rfl rfl ?_
  refine hb_iload_n (q := 580) hc dd_L_law_579 rfl rfl ?_
  refine hb_iconst (q := 581) (v := 2) hc dd_L_law_580 rfl (by decide) ?_
  refine hb_iadd (q := 582) hc dd_L_law_581 rfl ?_
  refine hb_sld (q := 583) (k := i + 2) hc hX hbl hbA hro (nI_add i 2) (by omega) hL dd_L_law_582 rfl ?_
  refine hb_callVi (q := 586) (b := 0) (d := 20) (vs := [.int (xs (i + 1)), .int (xs (i + 2))]) (st := []) hc mv_L_81 (q_machine hI 0) sh0 sl0 rfl rfl rfl (Nat.le_of_ble_eq_true rfl) hR hcs dd_L_law_583 rfl (fun r M1 h1 => ?_)
  refine hb_aload_n (q := 587) hc dd_L_law_586 rfl rfl ?_
  refine hb_aload_n (q := 588) hc dd_L_law_587 rfl rfl ?_
  refine hb_iload_n (q := 589) hc dd_L_law_588 rfl rfl ?_
  refine hb_iconst (q := 590) (v := 1) hc dd_L_law_589 rfl (by decide) ?_
  refine hb_iadd (q := 591) hc dd_L_law_590 rfl ?_
  refine hb_sld (q := 592) (k := i + 1) hc hX hbl hbA hro (nI_add i 1) (by omega) hL dd_L_law_591 rfl ?_
  refine hb_aload_n (q := 593) hc dd_L_law_592 rfl rfl ?_
  refine hb_iload_n (q := 594) hc dd_L_law_593 rfl rfl ?_
  refine hb_iconst (q := 595) (v := 2) hc dd_L_law_594 rfl (by decide) ?_
  refine hb_iadd (q := 596) hc dd_L_law_595 rfl ?_
  refine hb_sld (q := 597) (k := i + 2) hc hX hbl hbA hro (nI_add i 2) (by omega) hL dd_L_law_596 rfl ?_
  refine hb_callVi (q := 600) (b := 42) (d := 20) (vs := [.int (xs (i + 1)), .int (xs (i + 2))]) (st := [.int r]) hc mv_L_84 h1 sh42 sl42 rfl rfl rfl (Nat.le_of_ble_eq_true rfl) hR hcs dd_L_law_597 rfl (fun r' M2 h2 => ?_)
  exact hb_icmp_eq (q := 603) (tg := 991) hc dd_L_law_600 rfl (by decide) (fun _ => kk M2 h2.2) (fun h => absurd h2.1 h)
theorem lcase_17 (hc : CX p s m args meth c G A L_law) (hX : va_X b L xs s s.heap) (hbl : b < s.heap.size) (hbA : ¬ A b) (hro : G.2.1 4000 = b) (hL : L ≤ 2048) (hi : i + 4 ≤ L) (hR : 20 + 1 ≤ R.frames ∧ 40 * 20 + 40 ≤ R.locals) (hcs : cells ≤ R.cells ∧ slots ≤ R.slots) (hI : Inv M) (kk : ∀ M' : Mm, Inv M' → BW p l e R s m args below meth c G A cells slots Q L_law M' 991 (LvL i) []) : BW p l e R s m args below meth c G A cells slots Q L_law M 605 (LvL i) [] := by
  refine hb_aload_n (q := 606) hc dd_L_law_605 rfl rfl ?_
  refine hb_aload_n (q := 607) hc dd_L_law_606 rfl rfl ?_
  refine hb_iload_n (q := 608) hc dd_L_law_607 rfl rfl ?_
  refine hb_iconst (q := 609) (v := 1) hc dd_L_law_608 rfl (by decide) ?_
  refine hb_iadd (q := 610) hc dd_L_law_609 rfl ?_
  refine hb_sld (q := 611) (k := i + 1) hc hX hbl hbA hro (nI_add i 1) (by omega) hL dd_L_law_610 rfl ?_
  refine hb_aload_n (q := 612) hc dd_L_law_611 rfl rfl ?_
  refine hb_iload_n (q := 613) hc dd_L_law_612 rfl rfl ?_
  refine hb_iconst (q := 614) (v := 2) hc dd_L_law_613 rfl (by decide) ?_
  refine hb_iadd (q := 615) hc dd_L_law_614 rfl ?_
  refine hb_sld (q := 616) (k := i + 2) hc hX hbl hbA hro (nI_add i 2) (by omega) hL dd_L_law_615 rfl ?_
  refine hb_callVi (q := 619) (b := 0) (d := 20) (vs := [.int (xs (i + 1)), .int (xs (i + 2))]) (st := []) hc mv_L_85 (q_watch hI 0) sh0 sl0 rfl rfl rfl (Nat.le_of_ble_eq_true rfl) hR hcs dd_L_law_616 rfl (fun r M1 h1 => ?_)
  refine hb_aload_n (q := 620) hc dd_L_law_619 rfl rfl ?_
  refine hb_aload_n (q := 621) hc dd_L_law_620 rfl rfl ?_
  refine hb_iload_n (q := 622) hc dd_L_law_621 rfl rfl ?_
  refine hb_iconst (q := 623) (v := 1) hc dd_L_law_622 rfl (by decide) ?_
  refine hb_iadd (q := 624) hc dd_L_law_623 rfl ?_
  refine hb_sld (q := 625) (k := i + 1) hc hX hbl hbA hro (nI_add i 1) (by omega) hL dd_L_law_624 rfl ?_
  refine hb_aload_n (q := 626) hc dd_L_law_625 rfl rfl ?_
  refine hb_iload_n (q := 627) hc dd_L_law_626 rfl rfl ?_
  refine hb_iconst (q := 628) (v := 2) hc dd_L_law_627 rfl (by decide) ?_
  refine hb_iadd (q := 629) hc dd_L_law_628 rfl ?_
  refine hb_sld (q := 630) (k := i + 2) hc hX hbl hbA hro (nI_add i 2) (by omega) hL dd_L_law_629 rfl ?_
  refine hb_callVi (q := 633) (b := 42) (d := 20) (vs := [.int (xs (i + 1)), .int (xs (i + 2))]) (st := [.int r]) hc mv_L_88 h1 sh42 sl42 rfl rfl rfl (Nat.le_of_ble_eq_true rfl) hR hcs dd_L_law_630 rfl (fun r' M2 h2 => ?_)
  exact hb_icmp_eq (q := 636) (tg := 991) hc dd_L_law_633 rfl (by decide) (fun _ => kk M2 h2.2) (fun h => absurd h2.1 h)
theorem lcase_18 (hc : CX p s m args meth c G A L_law) (hX : va_X b L xs s s.heap) (hbl : b < s.heap.size) (hbA : ¬ A b) (hro : G.2.1 4000 = b) (hL : L ≤ 2048) (hi : i + 4 ≤ L) (hR : 20 + 1 ≤ R.frames ∧ 40 * 20 + 40 ≤ R.locals) (hcs : cells ≤ R.cells ∧ slots ≤ R.slots) (hI : Inv M) (kk : ∀ M' : Mm, Inv M' → BW p l e R s m args below meth c G A cells slots Q L_law M' 991 (LvL i) []) : BW p l e R s m args below meth c G A cells slots Q L_law M 638 (LvL i) [] := by
  refine hb_aload_n (q := 639) hc dd_L_law_638 rfl rfl ?_
  refine hb_aload_n (q := 640) hc dd_L_law_639 rfl rfl ?_
  refine hb_iload_n (q := 641) hc dd_L_law_640 rfl rfl ?_
  refine hb_iconst (q := 642) (v := 1) hc dd_L_law_641 rfl (by decide) ?_
  refine hb_iadd (q := 643) hc dd_L_law_642 rfl ?_
  refine hb_sld (q := 644) (k := i + 1) hc hX hbl hbA hro (nI_add i 1) (by omega) hL dd_L_law_643 rfl ?_
  refine hb_callVi (q := 647) (b := 0) (d := 20) (vs := [.int (xs (i + 1))]) (st := []) hc mv_L_89 (q_see hI 0) sh0 sl0 rfl rfl rfl (Nat.le_of_ble_eq_true rfl) hR hcs dd_L_law_644 rfl (fun r M1 h1 => ?_)
  refine hb_aload_n (q := 648) hc dd_L_law_647 rfl rfl ?_
  refine hb_aload_n (q := 649) hc dd_L_law_648 rfl rfl ?_
  refine hb_iload_n (q := 650) hc dd_L_law_649 rfl rfl ?_
  refine hb_iconst (q := 651) (v := 1) hc dd_L_law_650 rfl (by decide) ?_
  refine hb_iadd (q := 652) hc dd_L_law_651 rfl ?_
  refine hb_sld (q := 653) (k := i + 1) hc hX hbl hbA hro (nI_add i 1) (by omega) hL dd_L_law_652 rfl ?_
  refine hb_callVi (q := 656) (b := 42) (d := 20) (vs := [.int (xs (i + 1))]) (st := [.int r]) hc mv_L_92 h1 sh42 sl42 rfl rfl rfl (Nat.le_of_ble_eq_true rfl) hR hcs dd_L_law_653 rfl (fun r' M2 h2 => ?_)
  exact hb_icmp_eq (q := 659) (tg := 991) hc dd_L_law_656 rfl (by decide) (fun _ => kk M2 h2.2) (fun h => absurd h2.1 h)
theorem lcase_19 (hc : CX p s m args meth c G A L_law) (hX : va_X b L xs s s.heap) (hbl : b < s.heap.size) (hbA : ¬ A b) (hro : G.2.1 4000 = b) (hL : L ≤ 2048) (hi : i + 4 ≤ L) (hR : 20 + 1 ≤ R.frames ∧ 40 * 20 + 40 ≤ R.locals) (hcs : cells ≤ R.cells ∧ slots ≤ R.slots) (hI : Inv M) (kk : ∀ M' : Mm, Inv M' → BW p l e R s m args below meth c G A cells slots Q L_law M' 991 (LvL i) []) : BW p l e R s m args below meth c G A cells slots Q L_law M 661 (LvL i) [] := by
  refine hb_aload_n (q := 662) hc dd_L_law_661 rfl rfl ?_
  refine hb_aload_n (q := 663) hc dd_L_law_662 rfl rfl ?_
  refine hb_iload_n (q := 664) hc dd_L_law_663 rfl rfl ?_
  refine hb_iconst (q := 665) (v := 1) hc dd_L_law_664 rfl (by decide) ?_
  refine hb_iadd (q := 666) hc dd_L_law_665 rfl ?_
  refine hb_sld (q := 667) (k := i + 1) hc hX hbl hbA hro (nI_add i 1) (by omega) hL dd_L_law_666 rfl ?_
  refine hb_aload_n (q := 668) hc dd_L_law_667 rfl rfl ?_
  refine hb_iload_n (q := 669) hc dd_L_law_668 rfl rfl ?_
  refine hb_iconst (q := 670) (v := 2) hc dd_L_law_669 rfl (by decide) ?_
  refine hb_iadd (q := 671) hc dd_L_law_670 rfl ?_
  refine hb_sld (q := 672) (k := i + 2) hc hX hbl hbA hro (nI_add i 2) (by omega) hL dd_L_law_671 rfl ?_
  refine hb_callVi (q := 675) (b := 0) (d := 20) (vs := [.int (xs (i + 1)), .int (xs (i + 2))]) (st := []) hc mv_L_93 (q_left hI 0) sh0 sl0 rfl rfl rfl (Nat.le_of_ble_eq_true rfl) hR hcs dd_L_law_672 rfl (fun r M1 h1 => ?_)
  refine hb_aload_n (q := 676) hc dd_L_law_675 rfl rfl ?_
  refine hb_aload_n (q := 677) hc dd_L_law_676 rfl rfl ?_
  refine hb_iload_n (q := 678) hc dd_L_law_677 rfl rfl ?_
  refine hb_iconst (q := 679) (v := 1) hc dd_L_law_678 rfl (by decide) ?_
  refine hb_iadd (q := 680) hc dd_L_law_679 rfl ?_
  refine hb_sld (q := 681) (k := i + 1) hc hX hbl hbA hro (nI_add i 1) (by omega) hL dd_L_law_680 rfl ?_
  refine hb_aload_n (q := 682) hc dd_L_law_681 rfl rfl ?_
  refine hb_iload_n (q := 683) hc dd_L_law_682 rfl rfl ?_
  refine hb_iconst (q := 684) (v := 2) hc dd_L_law_683 rfl (by decide) ?_
  refine hb_iadd (q := 685) hc dd_L_law_684 rfl ?_
  refine hb_sld (q := 686) (k := i + 2) hc hX hbl hbA hro (nI_add i 2) (by omega) hL dd_L_law_685 rfl ?_
  refine hb_callVi (q := 689) (b := 42) (d := 20) (vs := [.int (xs (i + 1)), .int (xs (i + 2))]) (st := [.int r]) hc mv_L_96 h1 sh42 sl42 rfl rfl rfl (Nat.le_of_ble_eq_true rfl) hR hcs dd_L_law_686 rfl (fun r' M2 h2 => ?_)
  exact hb_icmp_eq (q := 692) (tg := 991) hc dd_L_law_689 rfl (by decide) (fun _ => kk M2 h2.2) (fun h => absurd h2.1 h)
theorem lcase_20 (hc : CX p s m args meth c G A L_law) (hX : va_X b L xs s s.heap) (hbl : b < s.heap.size) (hbA : ¬ A b) (hro : G.2.1 4000 = b) (hL : L ≤ 2048) (hi : i + 4 ≤ L) (hR : 20 + 1 ≤ R.frames ∧ 40 * 20 + 40 ≤ R.locals) (hcs : cells ≤ R.cells ∧ slots ≤ R.slots) (hI : Inv M) (kk : ∀ M' : Mm, Inv M' → BW p l e R s m args below meth c G A cells slots Q L_law M' 991 (LvL i) []) : BW p l e R s m args below meth c G A cells slots Q L_law M 694 (LvL i) [] := by
  refine hb_aload_n (q := 695) hc dd_L_law_694 rfl rfl ?_
  refine hb_aload_n (q := 696) hc dd_L_law_695 rfl rfl ?_
  refine hb_iload_n (q := 697) hc dd_L_law_696 rfl rfl ?_
  refine hb_iconst (q := 698) (v := 1) hc dd_L_law_697 rfl (by decide) ?_
  refine hb_iadd (q := 699) hc dd_L_law_698 rfl ?_
  refine hb_sld (q := 700) (k := i + 1) hc hX hbl hbA hro (nI_add i 1) (by omega) hL dd_L_law_699 rfl ?_
  refine hb_callVi (q := 703) (b := 0) (d := 20) (vs := [.int (xs (i + 1))]) (st := []) hc mv_L_97 (q_tape hI 0) sh0 sl0 rfl rfl rfl (Nat.le_of_ble_eq_true rfl) hR hcs dd_L_law_700 rfl (fun r M1 h1 => ?_)
  refine hb_aload_n (q := 704) hc dd_L_law_703 rfl rfl ?_
  refine hb_aload_n (q := 705) hc dd_L_law_704 rfl rfl ?_
  refine hb_iload_n (q := 706) hc dd_L_law_705 rfl rfl ?_
  refine hb_iconst (q := 707) (v := 1) hc dd_L_law_706 rfl (by decide) ?_
  refine hb_iadd (q := 708) hc dd_L_law_707 rfl ?_
  refine hb_sld (q := 709) (k := i + 1) hc hX hbl hbA hro (nI_add i 1) (by omega) hL dd_L_law_708 rfl ?_
  refine hb_callVi (q := 712) (b := 42) (d := 20) (vs := [.int (xs (i + 1))]) (st := [.int r]) hc mv_L_100 h1 sh42 sl42 rfl rfl rfl (Nat.le_of_ble_eq_true rfl) hR hcs dd_L_law_709 rfl (fun r' M2 h2 => ?_)
  exact hb_icmp_eq (q := 715) (tg := 991) hc dd_L_law_712 rfl (by decide) (fun _ => kk M2 h2.2) (fun h => absurd h2.1 h)
theorem lcase_21 (hc : CX p s m args meth c G A L_law) (hX : va_X b L xs s s.heap) (hbl : b < s.heap.size) (hbA : ¬ A b) (hro : G.2.1 4000 = b) (hL : L ≤ 2048) (hi : i + 4 ≤ L) (hR : 20 + 1 ≤ R.frames ∧ 40 * 20 + 40 ≤ R.locals) (hcs : cells ≤ R.cells ∧ slots ≤ R.slots) (hI : Inv M) (kk : ∀ M' : Mm, Inv M' → BW p l e R s m args below meth c G A cells slots Q L_law M' 991 (LvL i) []) : BW p l e R s m args below meth c G A cells slots Q L_law M 717 (LvL i) [] := by
  refine hb_aload_n (q := 718) hc dd_L_law_717 rfl rfl ?_
  refine hb_aload_n (q := 719) hc dd_L_law_718 rfl rfl ?_
  refine hb_iload_n (q := 720) hc dd_L_law_719 rfl rfl ?_
  refine hb_iconst (q := 721) (v := 1) hc dd_L_law_720 rfl (by decide) ?_
  refine hb_iadd (q := 722) hc dd_L_law_721 rfl ?_
  refine hb_sld (q := 723) (k := i + 1) hc hX hbl hbA hro (nI_add i 1) (by omega) hL dd_L_law_722 rfl ?_
  refine hb_aload_n (q := 724) hc dd_L_law_723 rfl rfl ?_
  refine hb_iload_n (q := 725) hc dd_L_law_724 rfl rfl ?_
  refine hb_iconst (q := 726) (v := 2) hc dd_L_law_725 rfl (by decide) ?_
  refine hb_iadd (q := 727) hc dd_L_law_726 rfl ?_
  refine hb_sld (q := 728) (k := i + 2) hc hX hbl hbA hro (nI_add i 2) (by omega) hL dd_L_law_727 rfl ?_
  refine hb_aload_n (q := 729) hc dd_L_law_728 rfl rfl ?_
  refine hb_iload_n (q := 730) hc dd_L_law_729 rfl rfl ?_
  refine hb_iconst (q := 731) (v := 3) hc dd_L_law_730 rfl (by decide) ?_
  refine hb_iadd (q := 732) hc dd_L_law_731 rfl ?_
  refine hb_sld (q := 733) (k := i + 3) hc hX hbl hbA hro (nI_add i 3) (by omega) hL dd_L_law_732 rfl ?_
  refine hb_callVi (q := 736) (b := 0) (d := 20) (vs := [.int (xs (i + 1)), .int (xs (i + 2)), .int (xs (i + 3))]) (st := []) hc mv_L_101 (q_put hI 0) sh0 sl0 rfl rfl rfl (Nat.le_of_ble_eq_true rfl) hR hcs dd_L_law_733 rfl (fun r M1 h1 => ?_)
  refine hb_aload_n (q := 737) hc dd_L_law_736 rfl rfl ?_
  refine hb_aload_n (q := 738) hc dd_L_law_737 rfl rfl ?_
  refine hb_iload_n (q := 739) hc dd_L_law_738 rfl rfl ?_
  refine hb_iconst (q := 740) (v := 1) hc dd_L_law_739 rfl (by decide) ?_
  refine hb_iadd (q := 741) hc dd_L_law_740 rfl ?_
  refine hb_sld (q := 742) (k := i + 1) hc hX hbl hbA hro (nI_add i 1) (by omega) hL dd_L_law_741 rfl ?_
  refine hb_aload_n (q := 743) hc dd_L_law_742 rfl rfl ?_
  refine hb_iload_n (q := 744) hc dd_L_law_743 rfl rfl ?_
  refine hb_iconst (q := 745) (v := 2) hc dd_L_law_744 rfl (by decide) ?_
  refine hb_iadd (q := 746) hc dd_L_law_745 rfl ?_
  refine hb_sld (q := 747) (k := i + 2) hc hX hbl hbA hro (nI_add i 2) (by omega) hL dd_L_law_746 rfl ?_
  refine hb_aload_n (q := 748) hc dd_L_law_747 rfl rfl ?_
  refine hb_iload_n (q := 749) hc dd_L_law_748 rfl rfl ?_
  refine hb_iconst (q := 750) (v := 3) hc dd_L_law_749 rfl (by decide) ?_
  refine hb_iadd (q := 751) hc dd_L_law_750 rfl ?_
  refine hb_sld (q := 752) (k := i + 3) hc hX hbl hbA hro (nI_add i 3) (by omega) hL dd_L_law_751 rfl ?_
  refine hb_callVi (q := 755) (b := 42) (d := 20) (vs := [.int (xs (i + 1)), .int (xs (i + 2)), .int (xs (i + 3))]) (st := [.int r]) hc mv_L_104 h1 sh42 sl42 rfl rfl rfl (Nat.le_of_ble_eq_true rfl) hR hcs dd_L_law_752 rfl (fun r' M2 h2 => ?_)
  exact hb_icmp_eq (q := 758) (tg := 991) hc dd_L_law_755 rfl (by decide) (fun _ => kk M2 h2.2) (fun h => absurd h2.1 h)
theorem lcase_22 (hc : CX p s m args meth c G A L_law) (hX : va_X b L xs s s.heap) (hbl : b < s.heap.size) (hbA : ¬ A b) (hro : G.2.1 4000 = b) (hL : L ≤ 2048) (hi : i + 4 ≤ L) (hR : 20 + 1 ≤ R.frames ∧ 40 * 20 + 40 ≤ R.locals) (hcs : cells ≤ R.cells ∧ slots ≤ R.slots) (hI : Inv M) (kk : ∀ M' : Mm, Inv M' → BW p l e R s m args below meth c G A cells slots Q L_law M' 991 (LvL i) []) : BW p l e R s m args below meth c G A cells slots Q L_law M 760 (LvL i) [] := by
  refine hb_aload_n (q := 761) hc dd_L_law_760 rfl rfl ?_
  refine hb_aload_n (q := 762) hc dd_L_law_761 rfl rfl ?_
  refine hb_iload_n (q := 763) hc dd_L_law_762 rfl rfl ?_
  refine hb_iconst (q := 764) (v := 1) hc dd_L_law_763 rfl (by decide) ?_
  refine hb_iadd (q := 765) hc dd_L_law_764 rfl ?_
  refine hb_sld (q := 766) (k := i + 1) hc hX hbl hbA hro (nI_add i 1) (by omega) hL dd_L_law_765 rfl ?_
  refine hb_aload_n (q := 767) hc dd_L_law_766 rfl rfl ?_
  refine hb_iload_n (q := 768) hc dd_L_law_767 rfl rfl ?_
  refine hb_iconst (q := 769) (v := 2) hc dd_L_law_768 rfl (by decide) ?_
  refine hb_iadd (q := 770) hc dd_L_law_769 rfl ?_
  refine hb_sld (q := 771) (k := i + 2) hc hX hbl hbA hro (nI_add i 2) (by omega) hL dd_L_law_770 rfl ?_
  refine hb_callVi (q := 774) (b := 0) (d := 20) (vs := [.int (xs (i + 1)), .int (xs (i + 2))]) (st := []) hc mv_L_105 (q_draw hI 0) sh0 sl0 rfl rfl rfl (Nat.le_of_ble_eq_true rfl) hR hcs dd_L_law_771 rfl (fun r M1 h1 => ?_)
  refine hb_aload_n (q := 775) hc dd_L_law_774 rfl rfl ?_
  refine hb_aload_n (q := 776) hc dd_L_law_775 rfl rfl ?_
  refine hb_iload_n (q := 777) hc dd_L_law_776 rfl rfl ?_
  refine hb_iconst (q := 778) (v := 1) hc dd_L_law_777 rfl (by decide) ?_
  refine hb_iadd (q := 779) hc dd_L_law_778 rfl ?_
  refine hb_sld (q := 780) (k := i + 1) hc hX hbl hbA hro (nI_add i 1) (by omega) hL dd_L_law_779 rfl ?_
  refine hb_aload_n (q := 781) hc dd_L_law_780 rfl rfl ?_
  refine hb_iload_n (q := 782) hc dd_L_law_781 rfl rfl ?_
  refine hb_iconst (q := 783) (v := 2) hc dd_L_law_782 rfl (by decide) ?_
  refine hb_iadd (q := 784) hc dd_L_law_783 rfl ?_
  refine hb_sld (q := 785) (k := i + 2) hc hX hbl hbA hro (nI_add i 2) (by omega) hL dd_L_law_784 rfl ?_
  refine hb_callVi (q := 788) (b := 42) (d := 20) (vs := [.int (xs (i + 1)), .int (xs (i + 2))]) (st := [.int r]) hc mv_L_108 h1 sh42 sl42 rfl rfl rfl (Nat.le_of_ble_eq_true rfl) hR hcs dd_L_law_785 rfl (fun r' M2 h2 => ?_)
  exact hb_icmp_eq (q := 791) (tg := 991) hc dd_L_law_788 rfl (by decide) (fun _ => kk M2 h2.2) (fun h => absurd h2.1 h)
theorem lcase_23 (hc : CX p s m args meth c G A L_law) (hX : va_X b L xs s s.heap) (hbl : b < s.heap.size) (hbA : ¬ A b) (hro : G.2.1 4000 = b) (hL : L ≤ 2048) (hi : i + 4 ≤ L) (hR : 20 + 1 ≤ R.frames ∧ 40 * 20 + 40 ≤ R.locals) (hcs : cells ≤ R.cells ∧ slots ≤ R.slots) (hI : Inv M) (kk : ∀ M' : Mm, Inv M' → BW p l e R s m args below meth c G A cells slots Q L_law M' 991 (LvL i) []) : BW p l e R s m args below meth c G A cells slots Q L_law M 793 (LvL i) [] := by
  refine hb_aload_n (q := 794) hc dd_L_law_793 rfl rfl ?_
  refine hb_aload_n (q := 795) hc dd_L_law_794 rfl rfl ?_
  refine hb_iload_n (q := 796) hc dd_L_law_795 rfl rfl ?_
  refine hb_iconst (q := 797) (v := 1) hc dd_L_law_796 rfl (by decide) ?_
  refine hb_iadd (q := 798) hc dd_L_law_797 rfl ?_
  refine hb_sld (q := 799) (k := i + 1) hc hX hbl hbA hro (nI_add i 1) (by omega) hL dd_L_law_798 rfl ?_
  refine hb_aload_n (q := 800) hc dd_L_law_799 rfl rfl ?_
  refine hb_iload_n (q := 801) hc dd_L_law_800 rfl rfl ?_
  refine hb_iconst (q := 802) (v := 2) hc dd_L_law_801 rfl (by decide) ?_
  refine hb_iadd (q := 803) hc dd_L_law_802 rfl ?_
  refine hb_sld (q := 804) (k := i + 2) hc hX hbl hbA hro (nI_add i 2) (by omega) hL dd_L_law_803 rfl ?_
  refine hb_callVi (q := 807) (b := 0) (d := 20) (vs := [.int (xs (i + 1)), .int (xs (i + 2))]) (st := []) hc mv_L_109 (q_turn hI 0) sh0 sl0 rfl rfl rfl (Nat.le_of_ble_eq_true rfl) hR hcs dd_L_law_804 rfl (fun r M1 h1 => ?_)
  refine hb_aload_n (q := 808) hc dd_L_law_807 rfl rfl ?_
  refine hb_aload_n (q := 809) hc dd_L_law_808 rfl rfl ?_
  refine hb_iload_n (q := 810) hc dd_L_law_809 rfl rfl ?_
  refine hb_iconst (q := 811) (v := 1) hc dd_L_law_810 rfl (by decide) ?_
  refine hb_iadd (q := 812) hc dd_L_law_811 rfl ?_
  refine hb_sld (q := 813) (k := i + 1) hc hX hbl hbA hro (nI_add i 1) (by omega) hL dd_L_law_812 rfl ?_
  refine hb_aload_n (q := 814) hc dd_L_law_813 rfl rfl ?_
  refine hb_iload_n (q := 815) hc dd_L_law_814 rfl rfl ?_
  refine hb_iconst (q := 816) (v := 2) hc dd_L_law_815 rfl (by decide) ?_
  refine hb_iadd (q := 817) hc dd_L_law_816 rfl ?_
  refine hb_sld (q := 818) (k := i + 2) hc hX hbl hbA hro (nI_add i 2) (by omega) hL dd_L_law_817 rfl ?_
  refine hb_callVi (q := 821) (b := 42) (d := 20) (vs := [.int (xs (i + 1)), .int (xs (i + 2))]) (st := [.int r]) hc mv_L_112 h1 sh42 sl42 rfl rfl rfl (Nat.le_of_ble_eq_true rfl) hR hcs dd_L_law_818 rfl (fun r' M2 h2 => ?_)
  exact hb_icmp_eq (q := 824) (tg := 991) hc dd_L_law_821 rfl (by decide) (fun _ => kk M2 h2.2) (fun h => absurd h2.1 h)
theorem lcase_24 (hc : CX p s m args meth c G A L_law) (hX : va_X b L xs s s.heap) (hbl : b < s.heap.size) (hbA : ¬ A b) (hro : G.2.1 4000 = b) (hL : L ≤ 2048) (hi : i + 4 ≤ L) (hR : 20 + 1 ≤ R.frames ∧ 40 * 20 + 40 ≤ R.locals) (hcs : cells ≤ R.cells ∧ slots ≤ R.slots) (hI : Inv M) (kk : ∀ M' : Mm, Inv M' → BW p l e R s m args below meth c G A cells slots Q L_law M' 991 (LvL i) []) : BW p l e R s m args below meth c G A cells slots Q L_law M 826 (LvL i) [] := by
  refine hb_aload_n (q := 827) hc dd_L_law_826 rfl rfl ?_
  refine hb_aload_n (q := 828) hc dd_L_law_827 rfl rfl ?_
  refine hb_iload_n (q := 829) hc dd_L_law_828 rfl rfl ?_
  refine hb_iconst (q := 830) (v := 1) hc dd_L_law_829 rfl (by decide) ?_
  refine hb_iadd (q := 831) hc dd_L_law_830 rfl ?_
  refine hb_sld (q := 832) (k := i + 1) hc hX hbl hbA hro (nI_add i 1) (by omega) hL dd_L_law_831 rfl ?_
  refine hb_aload_n (q := 833) hc dd_L_law_832 rfl rfl ?_
  refine hb_iload_n (q := 834) hc dd_L_law_833 rfl rfl ?_
  refine hb_iconst (q := 835) (v := 2) hc dd_L_law_834 rfl (by decide) ?_
  refine hb_iadd (q := 836) hc dd_L_law_835 rfl ?_
  refine hb_sld (q := 837) (k := i + 2) hc hX hbl hbA hro (nI_add i 2) (by omega) hL dd_L_law_836 rfl ?_
  refine hb_aload_n (q := 838) hc dd_L_law_837 rfl rfl ?_
  refine hb_iload_n (q := 839) hc dd_L_law_838 rfl rfl ?_
  refine hb_iconst (q := 840) (v := 3) hc dd_L_law_839 rfl (by decide) ?_
  refine hb_iadd (q := 841) hc dd_L_law_840 rfl ?_
  refine hb_sld (q := 842) (k := i + 3) hc hX hbl hbA hro (nI_add i 3) (by omega) hL dd_L_law_841 rfl ?_
  refine hb_callVi (q := 845) (b := 0) (d := 20) (vs := [.int (xs (i + 1)), .int (xs (i + 2)), .int (xs (i + 3))]) (st := []) hc mv_L_113 (q_find hI 0) sh0 sl0 rfl rfl rfl (Nat.le_of_ble_eq_true rfl) hR hcs dd_L_law_842 rfl (fun r M1 h1 => ?_)
  refine hb_aload_n (q := 846) hc dd_L_law_845 rfl rfl ?_
  refine hb_aload_n (q := 847) hc dd_L_law_846 rfl rfl ?_
  refine hb_iload_n (q := 848) hc dd_L_law_847 rfl rfl ?_
  refine hb_iconst (q := 849) (v := 1) hc dd_L_law_848 rfl (by decide) ?_
  refine hb_iadd (q := 850) hc dd_L_law_849 rfl ?_
  refine hb_sld (q := 851) (k := i + 1) hc hX hbl hbA hro (nI_add i 1) (by omega) hL dd_L_law_850 rfl ?_
  refine hb_aload_n (q := 852) hc dd_L_law_851 rfl rfl ?_
  refine hb_iload_n (q := 853) hc dd_L_law_852 rfl rfl ?_
  refine hb_iconst (q := 854) (v := 2) hc dd_L_law_853 rfl (by decide) ?_
  refine hb_iadd (q := 855) hc dd_L_law_854 rfl ?_
  refine hb_sld (q := 856) (k := i + 2) hc hX hbl hbA hro (nI_add i 2) (by omega) hL dd_L_law_855 rfl ?_
  refine hb_aload_n (q := 857) hc dd_L_law_856 rfl rfl ?_
  refine hb_iload_n (q := 858) hc dd_L_law_857 rfl rfl ?_
  refine hb_iconst (q := 859) (v := 3) hc dd_L_law_858 rfl (by decide) ?_
  refine hb_iadd (q := 860) hc dd_L_law_859 rfl ?_
  refine hb_sld (q := 861) (k := i + 3) hc hX hbl hbA hro (nI_add i 3) (by omega) hL dd_L_law_860 rfl ?_
  refine hb_callVi (q := 864) (b := 42) (d := 20) (vs := [.int (xs (i + 1)), .int (xs (i + 2)), .int (xs (i + 3))]) (st := [.int r]) hc mv_L_116 h1 sh42 sl42 rfl rfl rfl (Nat.le_of_ble_eq_true rfl) hR hcs dd_L_law_861 rfl (fun r' M2 h2 => ?_)
  exact hb_icmp_eq (q := 867) (tg := 991) hc dd_L_law_864 rfl (by decide) (fun _ => kk M2 h2.2) (fun h => absurd h2.1 h)
theorem lcase_25 (hc : CX p s m args meth c G A L_law) (hX : va_X b L xs s s.heap) (hbl : b < s.heap.size) (hbA : ¬ A b) (hro : G.2.1 4000 = b) (hL : L ≤ 2048) (hi : i + 4 ≤ L) (hR : 20 + 1 ≤ R.frames ∧ 40 * 20 + 40 ≤ R.locals) (hcs : cells ≤ R.cells ∧ slots ≤ R.slots) (hI : Inv M) (kk : ∀ M' : Mm, Inv M' → BW p l e R s m args below meth c G A cells slots Q L_law M' 991 (LvL i) []) : BW p l e R s m args below meth c G A cells slots Q L_law M 869 (LvL i) [] := by
  refine hb_aload_n (q := 870) hc dd_L_law_869 rfl rfl ?_
  refine hb_aload_n (q := 871) hc dd_L_law_870 rfl rfl ?_
  refine hb_iload_n (q := 872) hc dd_L_law_871 rfl rfl ?_
  refine hb_iconst (q := 873) (v := 1) hc dd_L_law_872 rfl (by decide) ?_
  refine hb_iadd (q := 874) hc dd_L_law_873 rfl ?_
  refine hb_sld (q := 875) (k := i + 1) hc hX hbl hbA hro (nI_add i 1) (by omega) hL dd_L_law_874 rfl ?_
  refine hb_aload_n (q := 876) hc dd_L_law_875 rfl rfl ?_
  refine hb_iload_n (q := 877) hc dd_L_law_876 rfl rfl ?_
  refine hb_iconst (q := 878) (v := 2) hc dd_L_law_877 rfl (by decide) ?_
  refine hb_iadd (q := 879) hc dd_L_law_878 rfl ?_
  refine hb_sld (q := 880) (k := i + 2) hc hX hbl hbA hro (nI_add i 2) (by omega) hL dd_L_law_879 rfl ?_
  refine hb_callVi (q := 883) (b := 0) (d := 20) (vs := [.int (xs (i + 1)), .int (xs (i + 2))]) (st := []) hc mv_L_117 (q_strike hI 0) sh0 sl0 rfl rfl rfl (Nat.le_of_ble_eq_true rfl) hR hcs dd_L_law_880 rfl (fun r M1 h1 => ?_)
  refine hb_aload_n (q := 884) hc dd_L_law_883 rfl rfl ?_
  refine hb_aload_n (q := 885) hc dd_L_law_884 rfl rfl ?_
  refine hb_iload_n (q := 886) hc dd_L_law_885 rfl rfl ?_
  refine hb_iconst (q := 887) (v := 1) hc dd_L_law_886 rfl (by decide) ?_
  refine hb_iadd (q := 888) hc dd_L_law_887 rfl ?_
  refine hb_sld (q := 889) (k := i + 1) hc hX hbl hbA hro (nI_add i 1) (by omega) hL dd_L_law_888 rfl ?_
  refine hb_aload_n (q := 890) hc dd_L_law_889 rfl rfl ?_
  refine hb_iload_n (q := 891) hc dd_L_law_890 rfl rfl ?_
  refine hb_iconst (q := 892) (v := 2) hc dd_L_law_891 rfl (by decide) ?_
  refine hb_iadd (q := 893) hc dd_L_law_892 rfl ?_
  refine hb_sld (q := 894) (k := i + 2) hc hX hbl hbA hro (nI_add i 2) (by omega) hL dd_L_law_893 rfl ?_
  refine hb_callVi (q := 897) (b := 42) (d := 20) (vs := [.int (xs (i + 1)), .int (xs (i + 2))]) (st := [.int r]) hc mv_L_120 h1 sh42 sl42 rfl rfl rfl (Nat.le_of_ble_eq_true rfl) hR hcs dd_L_law_894 rfl (fun r' M2 h2 => ?_)
  exact hb_icmp_eq (q := 900) (tg := 991) hc dd_L_law_897 rfl (by decide) (fun _ => kk M2 h2.2) (fun h => absurd h2.1 h)
theorem lcase_26 (hc : CX p s m args meth c G A L_law) (hX : va_X b L xs s s.heap) (hbl : b < s.heap.size) (hbA : ¬ A b) (hro : G.2.1 4000 = b) (hL : L ≤ 2048) (hi : i + 4 ≤ L) (hR : 20 + 1 ≤ R.frames ∧ 40 * 20 + 40 ≤ R.locals) (hcs : cells ≤ R.cells ∧ slots ≤ R.slots) (hI : Inv M) (kk : ∀ M' : Mm, Inv M' → BW p l e R s m args below meth c G A cells slots Q L_law M' 991 (LvL i) []) : BW p l e R s m args below meth c G A cells slots Q L_law M 902 (LvL i) [] := by
  refine hb_aload_n (q := 903) hc dd_L_law_902 rfl rfl ?_
  refine hb_aload_n (q := 904) hc dd_L_law_903 rfl rfl ?_
  refine hb_iload_n (q := 905) hc dd_L_law_904 rfl rfl ?_
  refine hb_iconst (q := 906) (v := 1) hc dd_L_law_905 rfl (by decide) ?_
  refine hb_iadd (q := 907) hc dd_L_law_906 rfl ?_
  refine hb_sld (q := 908) (k := i + 1) hc hX hbl hbA hro (nI_add i 1) (by omega) hL dd_L_law_907 rfl ?_
  refine hb_aload_n (q := 909) hc dd_L_law_908 rfl rfl ?_
  refine hb_iload_n (q := 910) hc dd_L_law_909 rfl rfl ?_
  refine hb_iconst (q := 911) (v := 2) hc dd_L_law_910 rfl (by decide) ?_
  refine hb_iadd (q := 912) hc dd_L_law_911 rfl ?_
  refine hb_sld (q := 913) (k := i + 2) hc hX hbl hbA hro (nI_add i 2) (by omega) hL dd_L_law_912 rfl ?_
  refine hb_aload_n (q := 914) hc dd_L_law_913 rfl rfl ?_
  refine hb_iload_n (q := 915) hc dd_L_law_914 rfl rfl ?_
  refine hb_iconst (q := 916) (v := 3) hc dd_L_law_915 rfl (by decide) ?_
  refine hb_iadd (q := 917) hc dd_L_law_916 rfl ?_
  refine hb_sld (q := 918) (k := i + 3) hc hX hbl hbA hro (nI_add i 3) (by omega) hL dd_L_law_917 rfl ?_
  refine hb_callVi (q := 921) (b := 0) (d := 20) (vs := [.int (xs (i + 1)), .int (xs (i + 2)), .int (xs (i + 3))]) (st := []) hc mv_L_121 (q_load hI 0) sh0 sl0 rfl rfl rfl (Nat.le_of_ble_eq_true rfl) hR hcs dd_L_law_918 rfl (fun r M1 h1 => ?_)
  refine hb_aload_n (q := 922) hc dd_L_law_921 rfl rfl ?_
  refine hb_aload_n (q := 923) hc dd_L_law_922 rfl rfl ?_
  refine hb_iload_n (q := 924) hc dd_L_law_923 rfl rfl ?_
  refine hb_iconst (q := 925) (v := 1) hc dd_L_law_924 rfl (by decide) ?_
  refine hb_iadd (q := 926) hc dd_L_law_925 rfl ?_
  refine hb_sld (q := 927) (k := i + 1) hc hX hbl hbA hro (nI_add i 1) (by omega) hL dd_L_law_926 rfl ?_
  refine hb_aload_n (q := 928) hc dd_L_law_927 rfl rfl ?_
  refine hb_iload_n (q := 929) hc dd_L_law_928 rfl rfl ?_
  refine hb_iconst (q := 930) (v := 2) hc dd_L_law_929 rfl (by decide) ?_
  refine hb_iadd (q := 931) hc dd_L_law_930 rfl ?_
  refine hb_sld (q := 932) (k := i + 2) hc hX hbl hbA hro (nI_add i 2) (by omega) hL dd_L_law_931 rfl ?_
  refine hb_aload_n (q := 933) hc dd_L_law_932 rfl rfl ?_
  refine hb_iload_n (q := 934) hc dd_L_law_933 rfl rfl ?_
  refine hb_iconst (q := 935) (v := 3) hc dd_L_law_934 rfl (by decide) ?_
  refine hb_iadd (q := 936) hc dd_L_law_935 rfl ?_
  refine hb_sld (q := 937) (k := i + 3) hc hX hbl hbA hro (nI_add i 3) (by omega) hL dd_L_law_936 rfl ?_
  refine hb_callVi (q := 940) (b := 42) (d := 20) (vs := [.int (xs (i + 1)), .int (xs (i + 2)), .int (xs (i + 3))]) (st := [.int r]) hc mv_L_124 h1 sh42 sl42 rfl rfl rfl (Nat.le_of_ble_eq_true rfl) hR hcs dd_L_law_937 rfl (fun r' M2 h2 => ?_)
  exact hb_icmp_eq (q := 943) (tg := 991) hc dd_L_law_940 rfl (by decide) (fun _ => kk M2 h2.2) (fun h => absurd h2.1 h)
theorem lcase_27 (hc : CX p s m args meth c G A L_law) (hX : va_X b L xs s s.heap) (hbl : b < s.heap.size) (hbA : ¬ A b) (hro : G.2.1 4000 = b) (hL : L ≤ 2048) (hi : i + 4 ≤ L) (hR : 20 + 1 ≤ R.frames ∧ 40 * 20 + 40 ≤ R.locals) (hcs : cells ≤ R.cells ∧ slots ≤ R.slots) (hI : Inv M) (kk : ∀ M' : Mm, Inv M' → BW p l e R s m args below meth c G A cells slots Q L_law M' 991 (LvL i) []) : BW p l e R s m args below meth c G A cells slots Q L_law M 945 (LvL i) [] := by
  refine hb_aload_n (q := 946) hc dd_L_law_945 rfl rfl ?_
  refine hb_aload_n (q := 947) hc dd_L_law_946 rfl rfl ?_
  refine hb_iload_n (q := 948) hc dd_L_law_947 rfl rfl ?_
  refine hb_iconst (q := 949) (v := 1) hc dd_L_law_948 rfl (by decide) ?_
  refine hb_iadd (q := 950) hc dd_L_law_949 rfl ?_
  refine hb_sld (q := 951) (k := i + 1) hc hX hbl hbA hro (nI_add i 1) (by omega) hL dd_L_law_950 rfl ?_
  refine hb_callVi (q := 954) (b := 0) (d := 20) (vs := [.int (xs (i + 1))]) (st := []) hc mv_L_125 (q_drop hI 0) sh0 sl0 rfl rfl rfl (Nat.le_of_ble_eq_true rfl) hR hcs dd_L_law_951 rfl (fun r M1 h1 => ?_)
  refine hb_aload_n (q := 955) hc dd_L_law_954 rfl rfl ?_
  refine hb_aload_n (q := 956) hc dd_L_law_955 rfl rfl ?_
  refine hb_iload_n (q := 957) hc dd_L_law_956 rfl rfl ?_
  refine hb_iconst (q := 958) (v := 1) hc dd_L_law_957 rfl (by decide) ?_
  refine hb_iadd (q := 959) hc dd_L_law_958 rfl ?_
  refine hb_sld (q := 960) (k := i + 1) hc hX hbl hbA hro (nI_add i 1) (by omega) hL dd_L_law_959 rfl ?_
  refine hb_callVi (q := 963) (b := 42) (d := 20) (vs := [.int (xs (i + 1))]) (st := [.int r]) hc mv_L_128 h1 sh42 sl42 rfl rfl rfl (Nat.le_of_ble_eq_true rfl) hR hcs dd_L_law_960 rfl (fun r' M2 h2 => ?_)
  exact hb_icmp_eq (q := 966) (tg := 991) hc dd_L_law_963 rfl (by decide) (fun _ => kk M2 h2.2) (fun h => absurd h2.1 h)
theorem lcase_28 (hc : CX p s m args meth c G A L_law) (hX : va_X b L xs s s.heap) (hbl : b < s.heap.size) (hbA : ¬ A b) (hro : G.2.1 4000 = b) (hL : L ≤ 2048) (hi : i + 4 ≤ L) (hR : 20 + 1 ≤ R.frames ∧ 40 * 20 + 40 ≤ R.locals) (hcs : cells ≤ R.cells ∧ slots ≤ R.slots) (hI : Inv M) (kk : ∀ M' : Mm, Inv M' → BW p l e R s m args below meth c G A cells slots Q L_law M' 991 (LvL i) []) : BW p l e R s m args below meth c G A cells slots Q L_law M 968 (LvL i) [] := by
  refine hb_aload_n (q := 969) hc dd_L_law_968 rfl rfl ?_
  refine hb_aload_n (q := 970) hc dd_L_law_969 rfl rfl ?_
  refine hb_iload_n (q := 971) hc dd_L_law_970 rfl rfl ?_
  refine hb_iconst (q := 972) (v := 1) hc dd_L_law_971 rfl (by decide) ?_
  refine hb_iadd (q := 973) hc dd_L_law_972 rfl ?_
  refine hb_sld (q := 974) (k := i + 1) hc hX hbl hbA hro (nI_add i 1) (by omega) hL dd_L_law_973 rfl ?_
  refine hb_callVi (q := 977) (b := 0) (d := 20) (vs := [.int (xs (i + 1))]) (st := []) hc mv_L_129 (q_count hI 0) sh0 sl0 rfl rfl rfl (Nat.le_of_ble_eq_true rfl) hR hcs dd_L_law_974 rfl (fun r M1 h1 => ?_)
  refine hb_aload_n (q := 978) hc dd_L_law_977 rfl rfl ?_
  refine hb_aload_n (q := 979) hc dd_L_law_978 rfl rfl ?_
  refine hb_iload_n (q := 980) hc dd_L_law_979 rfl rfl ?_
  refine hb_iconst (q := 981) (v := 1) hc dd_L_law_980 rfl (by decide) ?_
  refine hb_iadd (q := 982) hc dd_L_law_981 rfl ?_
  refine hb_sld (q := 983) (k := i + 1) hc hX hbl hbA hro (nI_add i 1) (by omega) hL dd_L_law_982 rfl ?_
  refine hb_callVi (q := 986) (b := 42) (d := 20) (vs := [.int (xs (i + 1))]) (st := [.int r]) hc mv_L_132 h1 sh42 sl42 rfl rfl rfl (Nat.le_of_ble_eq_true rfl) hR hcs dd_L_law_983 rfl (fun r' M2 h2 => ?_)
  exact hb_icmp_eq (q := 989) (tg := 991) hc dd_L_law_986 rfl (by decide) (fun _ => kk M2 h2.2) (fun h => absurd h2.1 h)
/-- one turn of the law: the switch -/
theorem law_turn (hc : CX p s m args meth c G A L_law) (hX : va_X b L xs s s.heap) (hbl : b < s.heap.size) (hbA : ¬ A b) (hro : G.2.1 4000 = b) (hL : L ≤ 2048) (hi : i + 4 ≤ L) (hR : 20 + 1 ≤ R.frames ∧ 40 * 20 + 40 ≤ R.locals) (hcs : cells ≤ R.cells ∧ slots ≤ R.slots) (hI : Inv M) (kk : ∀ M' : Mm, Inv M' → BW p l e R s m args below meth c G A cells slots Q L_law M' 991 (LvL i) []) : BW p l e R s m args below meth c G A cells slots Q L_law M 26 (LvL i) [] := by
  refine hb_aload_n (q := 27) hc dd_L_law_26 rfl rfl ?_
  refine hb_iload_n (q := 28) hc dd_L_law_27 rfl rfl ?_
  refine hb_sld (q := 29) (k := i) hc hX hbl hbA hro rfl (by omega) hL dd_L_law_28 rfl ?_
  refine hb_bipush (q := 31) (v := 31) hc dd_L_law_29 rfl (by decide) ?_
  refine hb_iand (q := 32) hc dd_L_law_31 rfl ?_
  obtain ⟨k, hk, ek⟩ := and31 (xs i)
  rw [ek]
  match k, hk with
  | 0, _ => exact hb_tableIn (off := 132) (tg := 164) hc dd_L_law_32 (by decide) (by decide) rfl (by decide) (lcase_0 hc hX hbl hbA hro hL hi hR hcs hI kk)
  | 1, _ => exact hb_tableIn (off := 155) (tg := 187) hc dd_L_law_32 (by decide) (by decide) rfl (by decide) (lcase_1 hc hX hbl hbA hro hL hi hR hcs hI kk)
  | 2, _ => exact hb_tableIn (off := 168) (tg := 200) hc dd_L_law_32 (by decide) (by decide) rfl (by decide) (lcase_2 hc hX hbl hbA hro hL hi hR hcs hI kk)
  | 3, _ => exact hb_tableIn (off := 181) (tg := 213) hc dd_L_law_32 (by decide) (by decide) rfl (by decide) (lcase_3 hc hX hbl hbA hro hL hi hR hcs hI kk)
  | 4, _ => exact hb_tableIn (off := 194) (tg := 226) hc dd_L_law_32 (by decide) (by decide) rfl (by decide) (lcase_4 hc hX hbl hbA hro hL hi hR hcs hI kk)
  | 5, _ => exact hb_tableIn (off := 227) (tg := 259) hc dd_L_law_32 (by decide) (by decide) rfl (by decide) (lcase_5 hc hX hbl hbA hro hL hi hR hcs hI kk)
  | 6, _ => exact hb_tableIn (off := 260) (tg := 292) hc dd_L_law_32 (by decide) (by decide) rfl (by decide) (lcase_6 hc hX hbl hbA hro hL hi hR hcs hI kk)
  | 7, _ => exact hb_tableIn (off := 303) (tg := 335) hc dd_L_law_32 (by decide) (by decide) rfl (by decide) (lcase_7 hc hX hbl hbA hro hL hi hR hcs hI kk)
  | 8, _ => exact hb_tableIn (off := 336) (tg := 368) hc dd_L_law_32 (by decide) (by decide) rfl (by decide) (lcase_8 hc hX hbl hbA hro hL hi hR hcs hI kk)
  | 9, _ => exact hb_tableIn (off := 359) (tg := 391) hc dd_L_law_32 (by decide) (by decide) rfl (by decide) (lcase_9 hc hX hbl hbA hro hL hi hR hcs hI kk)
  | 10, _ => exact hb_tableIn (off := 392) (tg := 424) hc dd_L_law_32 (by decide) (by decide) rfl (by decide) (lcase_10 hc hX hbl hbA hro hL hi hR hcs hI kk)
  | 11, _ => exact hb_tableIn (off := 405) (tg := 437) hc dd_L_law_32 (by decide) (by decide) rfl (by decide) (lcase_11 hc hX hbl hbA hro hL hi hR hcs hI kk)
  | 12, _ => exact hb_tableIn (off := 428) (tg := 460) hc dd_L_law_32 (by decide) (by decide) rfl (by decide) (lcase_12 hc hX hbl hbA hro hL hi hR hcs hI kk)
  | 13, _ => exact hb_tableIn (off := 451) (tg := 483) hc dd_L_law_32 (by decide) (by decide) rfl (by decide) (lcase_13 hc hX hbl hbA hro hL hi hR hcs hI kk)
  | 14, _ => exact hb_tableIn (off := 484) (tg := 516) hc dd_L_law_32 (by decide) (by decide) rfl (by decide) (lcase_14 hc hX hbl hbA hro hL hi hR hcs hI kk)
  | 15, _ => exact hb_tableIn (off := 507) (tg := 539) hc dd_L_law_32 (by decide) (by decide) rfl (by decide) (lcase_15 hc hX hbl hbA hro hL hi hR hcs hI kk)
  | 16, _ => exact hb_tableIn (off := 540) (tg := 572) hc dd_L_law_32 (by decide) (by decide) rfl (by decide) (lcase_16 hc hX hbl hbA hro hL hi hR hcs hI kk)
  | 17, _ => exact hb_tableIn (off := 573) (tg := 605) hc dd_L_law_32 (by decide) (by decide) rfl (by decide) (lcase_17 hc hX hbl hbA hro hL hi hR hcs hI kk)
  | 18, _ => exact hb_tableIn (off := 606) (tg := 638) hc dd_L_law_32 (by decide) (by decide) rfl (by decide) (lcase_18 hc hX hbl hbA hro hL hi hR hcs hI kk)
  | 19, _ => exact hb_tableIn (off := 629) (tg := 661) hc dd_L_law_32 (by decide) (by decide) rfl (by decide) (lcase_19 hc hX hbl hbA hro hL hi hR hcs hI kk)
  | 20, _ => exact hb_tableIn (off := 662) (tg := 694) hc dd_L_law_32 (by decide) (by decide) rfl (by decide) (lcase_20 hc hX hbl hbA hro hL hi hR hcs hI kk)
  | 21, _ => exact hb_tableIn (off := 685) (tg := 717) hc dd_L_law_32 (by decide) (by decide) rfl (by decide) (lcase_21 hc hX hbl hbA hro hL hi hR hcs hI kk)
  | 22, _ => exact hb_tableIn (off := 728) (tg := 760) hc dd_L_law_32 (by decide) (by decide) rfl (by decide) (lcase_22 hc hX hbl hbA hro hL hi hR hcs hI kk)
  | 23, _ => exact hb_tableIn (off := 761) (tg := 793) hc dd_L_law_32 (by decide) (by decide) rfl (by decide) (lcase_23 hc hX hbl hbA hro hL hi hR hcs hI kk)
  | 24, _ => exact hb_tableIn (off := 794) (tg := 826) hc dd_L_law_32 (by decide) (by decide) rfl (by decide) (lcase_24 hc hX hbl hbA hro hL hi hR hcs hI kk)
  | 25, _ => exact hb_tableIn (off := 837) (tg := 869) hc dd_L_law_32 (by decide) (by decide) rfl (by decide) (lcase_25 hc hX hbl hbA hro hL hi hR hcs hI kk)
  | 26, _ => exact hb_tableIn (off := 870) (tg := 902) hc dd_L_law_32 (by decide) (by decide) rfl (by decide) (lcase_26 hc hX hbl hbA hro hL hi hR hcs hI kk)
  | 27, _ => exact hb_tableIn (off := 913) (tg := 945) hc dd_L_law_32 (by decide) (by decide) rfl (by decide) (lcase_27 hc hX hbl hbA hro hL hi hR hcs hI kk)
  | 28, _ => exact hb_tableIn (off := 936) (tg := 968) hc dd_L_law_32 (by decide) (by decide) rfl (by decide) (lcase_28 hc hX hbl hbA hro hL hi hR hcs hI kk)
  | 29, _ => exact hb_tableOut (tg := 991) hc dd_L_law_32 (Or.inr (by decide)) (by decide) (kk M hI)
  | 30, _ => exact hb_tableOut (tg := 991) hc dd_L_law_32 (Or.inr (by decide)) (by decide) (kk M hI)
  | 31, _ => exact hb_tableOut (tg := 991) hc dd_L_law_32 (Or.inr (by decide)) (by decide) (kk M hI)
  | k + 32, h => exact absurd h (by omega)
end LB
