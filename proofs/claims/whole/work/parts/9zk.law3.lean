-- ==== the law, call by call
theorem glcmp_self (x : Int) : glcmp x x = 0 := by
  unfold glcmp lg_cmp
  simp
section
variable {l : Launch} {G : gG} {p : Program} {e : Env} {s : State} {m : MethodId} {args : Array Value} {below : List Frame} {meth : Method} {c : Code} {Z : State → Prop}
theorem lwc_feed {b cc cd : Nat} {i : Int} {sh : gS} {M : gM} {z : aS} (hb33 : G.2.2.2 33 = some b) (hL : scL G ≤ 3072) (h0 : 0 ≤ i) (h6 : i + 6 ≤ scL G) (hc1 : cc + 5 ≤ 600000) (hc2 : cd + 1106 ≤ 7302249) (hS : lwS sh M z)
    (kk : ∀ (sh2 : gS) (M2 : gM) (z2 : aS), lwS sh2 M2 z2 → gB l G p e s m args below meth c Z room_1 yL_law cL_law 4 ret (cc + 5, cd + 1106) 1494 [(5, 33), (4, 0), (4, 711), (0, i)] [] sh2 M2) : gB l G p e s m args below meth c Z room_1 yL_law cL_law 4 ret (cc, cd) 188 [(5, 33), (4, 0), (4, 711), (0, i)] [] sh M := by
  have hI := hS.2.2.1
  refine q_aload_n (q0 := 189) (j := 1) rfl dL_law_188 rfl ?_
  refine q_aload5_n (q0 := 190) (j := 0) rfl dL_law_189 rfl ?_
  refine q_iload_n (q0 := 191) (j := 3) rfl dL_law_190 rfl ?_
  refine q_iconst (q0 := 192) rfl dL_law_191 (k := ?_)
  refine q_iadd (q0 := 193) rfl dL_law_192 (by omega) (by omega) ?_
  refine q_scld (q0 := 194) rfl hb33 (by omega) (by omega) dL_law_193 ?_
  refine q_aload5_n (q0 := 195) (j := 0) rfl dL_law_194 rfl ?_
  refine q_iload_n (q0 := 196) (j := 3) rfl dL_law_195 rfl ?_
  refine q_iconst (q0 := 197) rfl dL_law_196 (k := ?_)
  refine q_iadd (q0 := 198) rfl dL_law_197 (by omega) (by omega) ?_
  refine q_scld (q0 := 199) rfl hb33 (by omega) (by omega) dL_law_198 ?_
  refine q_aload5_n (q0 := 200) (j := 0) rfl dL_law_199 rfl ?_
  refine q_iload_n (q0 := 201) (j := 3) rfl dL_law_200 rfl ?_
  refine q_iconst (q0 := 202) rfl dL_law_201 (k := ?_)
  refine q_iadd (q0 := 203) rfl dL_law_202 (by omega) (by omega) ?_
  refine q_scld (q0 := 204) rfl hb33 (by omega) (by omega) dL_law_203 ?_
  refine q_aload5_n (q0 := 205) (j := 0) rfl dL_law_204 rfl ?_
  refine q_iload_n (q0 := 206) (j := 3) rfl dL_law_205 rfl ?_
  refine q_iconst (q0 := 207) rfl dL_law_206 (k := ?_)
  refine q_iadd (q0 := 208) rfl dL_law_207 (by omega) (by omega) ?_
  refine q_scld (q0 := 209) rfl hb33 (by omega) (by omega) dL_law_208 ?_
  refine q_aload5_n (q0 := 210) (j := 0) rfl dL_law_209 rfl ?_
  refine q_iload_n (q0 := 211) (j := 3) rfl dL_law_210 rfl ?_
  refine q_iconst (q0 := 212) rfl dL_law_211 (k := ?_)
  refine q_iadd (q0 := 213) rfl dL_law_212 (by omega) (by omega) ?_
  refine q_scld (q0 := 214) rfl hb33 (by omega) (by omega) dL_law_213 ?_
  refine q_callV (as := [_, _, _, _, _]) (rest := []) mt_X11_feed mi_X11_feed se_X11_feed ml_L_13 dL_law_214 (q0 := 217) rfl rfl (sh_0 hS.1.1) rfl rfl (sp_X11_feed hS.1 ) rfl ⟨Nat.le_of_ble_eq_true rfl, Nat.le_of_ble_eq_true rfl⟩ ⟨by show cc + 0 ≤ 600000; omega, by show cd + 0 ≤ 7302249; omega⟩ (Nat.le_of_ble_eq_true rfl) (fun r sh1 M1 hP hw1 hMw1 => ?_)
  obtain ⟨rfl, rfl, hC1, hU1, hT1⟩ := law_cls hS hP
  refine q_aload_n (q0 := 218) (j := 2) rfl dL_law_217 rfl ?_
  refine q_aload5_n (q0 := 219) (j := 0) rfl dL_law_218 rfl ?_
  refine q_iload_n (q0 := 220) (j := 3) rfl dL_law_219 rfl ?_
  refine q_iconst (q0 := 221) rfl dL_law_220 (k := ?_)
  refine q_iadd (q0 := 222) rfl dL_law_221 (by omega) (by omega) ?_
  refine q_scld (q0 := 223) rfl hb33 (by omega) (by omega) dL_law_222 ?_
  refine q_aload5_n (q0 := 224) (j := 0) rfl dL_law_223 rfl ?_
  refine q_iload_n (q0 := 225) (j := 3) rfl dL_law_224 rfl ?_
  refine q_iconst (q0 := 226) rfl dL_law_225 (k := ?_)
  refine q_iadd (q0 := 227) rfl dL_law_226 (by omega) (by omega) ?_
  refine q_scld (q0 := 228) rfl hb33 (by omega) (by omega) dL_law_227 ?_
  refine q_aload5_n (q0 := 229) (j := 0) rfl dL_law_228 rfl ?_
  refine q_iload_n (q0 := 230) (j := 3) rfl dL_law_229 rfl ?_
  refine q_iconst (q0 := 231) rfl dL_law_230 (k := ?_)
  refine q_iadd (q0 := 232) rfl dL_law_231 (by omega) (by omega) ?_
  refine q_scld (q0 := 233) rfl hb33 (by omega) (by omega) dL_law_232 ?_
  refine q_aload5_n (q0 := 234) (j := 0) rfl dL_law_233 rfl ?_
  refine q_iload_n (q0 := 235) (j := 3) rfl dL_law_234 rfl ?_
  refine q_iconst (q0 := 236) rfl dL_law_235 (k := ?_)
  refine q_iadd (q0 := 237) rfl dL_law_236 (by omega) (by omega) ?_
  refine q_scld (q0 := 238) rfl hb33 (by omega) (by omega) dL_law_237 ?_
  refine q_aload5_n (q0 := 239) (j := 0) rfl dL_law_238 rfl ?_
  refine q_iload_n (q0 := 240) (j := 3) rfl dL_law_239 rfl ?_
  refine q_iconst (q0 := 241) rfl dL_law_240 (k := ?_)
  refine q_iadd (q0 := 242) rfl dL_law_241 (by omega) (by omega) ?_
  refine q_scld (q0 := 243) rfl hb33 (by omega) (by omega) dL_law_242 ?_
  obtain ⟨M2, hF, hU2⟩ := (show ∃ M2, F_feed M1 (scX G (i + 1)) (scX G (i + 2)) (scX G (i + 3)) (scX G (i + 4)) (scX G (i + 5)) = some (_, M2) ∧ uSt M2 _ from t_feed hU1)
  refine q_callV (as := [_, _, _, _, _]) (rest := [_]) mt_X12_feed mi_X12_feed se_X12_feed ml_L_17 dL_law_243 (q0 := 246) rfl rfl (sh_711 hC1.1) rfl rfl (ok_feed hC1.1 hF) rfl ⟨Nat.le_of_ble_eq_true rfl, Nat.le_of_ble_eq_true rfl⟩ ⟨by show cc + 0 + 0 ≤ 600000; omega, by show cd + 0 + 0 ≤ 7302249; omega⟩ (Nat.le_of_ble_eq_true rfl) (fun r2 sh2 M3 hP2 hw2 hMw2 => ?_)
  obtain ⟨rfl, rfl, rfl⟩ := hP2
  have hS2 := law_ref (z := z) hC1 hT1 (fr_feed hF) (by decide) (by decide) hU2 (zI_tape hI _)
  refine q_icmp_eq (q0 := 249) (tgt := 1494) rfl dL_law_246 (by decide) (fun heq => ?_) (fun hne => absurd rfl hne)
  exact gB_ck (by show _ ≤ cc + 5; first | exact Nat.le_refl _ | exact Nat.le_add_right _ _) (by show _ ≤ cd + 1106; first | exact Nat.le_refl _ | exact Nat.le_add_right _ _) (kk _ _ _ hS2)
theorem lwc_commit {b cc cd : Nat} {i : Int} {sh : gS} {M : gM} {z : aS} (hb33 : G.2.2.2 33 = some b) (hL : scL G ≤ 3072) (h0 : 0 ≤ i) (h6 : i + 6 ≤ scL G) (hc1 : cc + 5 ≤ 600000) (hc2 : cd + 1106 ≤ 7302249) (hS : lwS sh M z)
    (kk : ∀ (sh2 : gS) (M2 : gM) (z2 : aS), lwS sh2 M2 z2 → gB l G p e s m args below meth c Z room_1 yL_law cL_law 4 ret (cc + 5, cd + 1106) 1494 [(5, 33), (4, 0), (4, 711), (0, i)] [] sh2 M2) : gB l G p e s m args below meth c Z room_1 yL_law cL_law 4 ret (cc, cd) 251 [(5, 33), (4, 0), (4, 711), (0, i)] [] sh M := by
  have hI := hS.2.2.1
  refine q_aload_n (q0 := 252) (j := 1) rfl dL_law_251 rfl ?_
  refine q_aload5_n (q0 := 253) (j := 0) rfl dL_law_252 rfl ?_
  refine q_iload_n (q0 := 254) (j := 3) rfl dL_law_253 rfl ?_
  refine q_iconst (q0 := 255) rfl dL_law_254 (k := ?_)
  refine q_iadd (q0 := 256) rfl dL_law_255 (by omega) (by omega) ?_
  refine q_scld (q0 := 257) rfl hb33 (by omega) (by omega) dL_law_256 ?_
  refine q_aload5_n (q0 := 258) (j := 0) rfl dL_law_257 rfl ?_
  refine q_iload_n (q0 := 259) (j := 3) rfl dL_law_258 rfl ?_
  refine q_iconst (q0 := 260) rfl dL_law_259 (k := ?_)
  refine q_iadd (q0 := 261) rfl dL_law_260 (by omega) (by omega) ?_
  refine q_scld (q0 := 262) rfl hb33 (by omega) (by omega) dL_law_261 ?_
  refine q_aload5_n (q0 := 263) (j := 0) rfl dL_law_262 rfl ?_
  refine q_iload_n (q0 := 264) (j := 3) rfl dL_law_263 rfl ?_
  refine q_iconst (q0 := 265) rfl dL_law_264 (k := ?_)
  refine q_iadd (q0 := 266) rfl dL_law_265 (by omega) (by omega) ?_
  refine q_scld (q0 := 267) rfl hb33 (by omega) (by omega) dL_law_266 ?_
  refine q_callV (as := [_, _, _]) (rest := []) mt_X11_commit mi_X11_commit se_X11_commit ml_L_18 dL_law_267 (q0 := 270) rfl rfl (sh_0 hS.1.1) rfl rfl (sp_X11_commit hS.1 hI.1) rfl ⟨Nat.le_of_ble_eq_true rfl, Nat.le_of_ble_eq_true rfl⟩ ⟨by show cc + 0 ≤ 600000; omega, by show cd + 0 ≤ 7302249; omega⟩ (Nat.le_of_ble_eq_true rfl) (fun r sh1 M1 hP hw1 hMw1 => ?_)
  obtain ⟨rfl, rfl, hC1, hU1, hT1⟩ := law_cls hS hP
  refine q_aload_n (q0 := 271) (j := 2) rfl dL_law_270 rfl ?_
  refine q_aload5_n (q0 := 272) (j := 0) rfl dL_law_271 rfl ?_
  refine q_iload_n (q0 := 273) (j := 3) rfl dL_law_272 rfl ?_
  refine q_iconst (q0 := 274) rfl dL_law_273 (k := ?_)
  refine q_iadd (q0 := 275) rfl dL_law_274 (by omega) (by omega) ?_
  refine q_scld (q0 := 276) rfl hb33 (by omega) (by omega) dL_law_275 ?_
  refine q_aload5_n (q0 := 277) (j := 0) rfl dL_law_276 rfl ?_
  refine q_iload_n (q0 := 278) (j := 3) rfl dL_law_277 rfl ?_
  refine q_iconst (q0 := 279) rfl dL_law_278 (k := ?_)
  refine q_iadd (q0 := 280) rfl dL_law_279 (by omega) (by omega) ?_
  refine q_scld (q0 := 281) rfl hb33 (by omega) (by omega) dL_law_280 ?_
  refine q_aload5_n (q0 := 282) (j := 0) rfl dL_law_281 rfl ?_
  refine q_iload_n (q0 := 283) (j := 3) rfl dL_law_282 rfl ?_
  refine q_iconst (q0 := 284) rfl dL_law_283 (k := ?_)
  refine q_iadd (q0 := 285) rfl dL_law_284 (by omega) (by omega) ?_
  refine q_scld (q0 := 286) rfl hb33 (by omega) (by omega) dL_law_285 ?_
  obtain ⟨M2, hF, hU2⟩ := (show ∃ M2, F_commit M1 (scX G (i + 1)) (scX G (i + 2)) (scX G (i + 3)) = some (_, M2) ∧ uSt M2 _ from t_commit hU1 hI)
  refine q_callV (as := [_, _, _]) (rest := [_]) mt_X12_commit mi_X12_commit se_X12_commit ml_L_22 dL_law_286 (q0 := 289) rfl rfl (sh_711 hC1.1) rfl rfl (ok_commit hC1.1 hF) rfl ⟨Nat.le_of_ble_eq_true rfl, Nat.le_of_ble_eq_true rfl⟩ ⟨by show cc + 0 + 0 ≤ 600000; omega, by show cd + 0 + 0 ≤ 7302249; omega⟩ (Nat.le_of_ble_eq_true rfl) (fun r2 sh2 M3 hP2 hw2 hMw2 => ?_)
  obtain ⟨rfl, rfl, rfl⟩ := hP2
  have hS2 := law_ref (z := z) hC1 hT1 (fr_commit hF) (by decide) (by decide) hU2 (zI_commit hI _ _ _)
  refine q_icmp_eq (q0 := 292) (tgt := 1494) rfl dL_law_289 (by decide) (fun heq => ?_) (fun hne => absurd rfl hne)
  exact gB_ck (by show _ ≤ cc + 5; first | exact Nat.le_refl _ | exact Nat.le_add_right _ _) (by show _ ≤ cd + 1106; first | exact Nat.le_refl _ | exact Nat.le_add_right _ _) (kk _ _ _ hS2)
theorem lwc_plan {b cc cd : Nat} {i : Int} {sh : gS} {M : gM} {z : aS} (hb33 : G.2.2.2 33 = some b) (hL : scL G ≤ 3072) (h0 : 0 ≤ i) (h6 : i + 6 ≤ scL G) (hc1 : cc + 5 ≤ 600000) (hc2 : cd + 1106 ≤ 7302249) (hS : lwS sh M z)
    (kk : ∀ (sh2 : gS) (M2 : gM) (z2 : aS), lwS sh2 M2 z2 → gB l G p e s m args below meth c Z room_1 yL_law cL_law 4 ret (cc + 5, cd + 1106) 1494 [(5, 33), (4, 0), (4, 711), (0, i)] [] sh2 M2) : gB l G p e s m args below meth c Z room_1 yL_law cL_law 4 ret (cc, cd) 294 [(5, 33), (4, 0), (4, 711), (0, i)] [] sh M := by
  have hI := hS.2.2.1
  refine q_aload_n (q0 := 295) (j := 1) rfl dL_law_294 rfl ?_
  refine q_aload5_n (q0 := 296) (j := 0) rfl dL_law_295 rfl ?_
  refine q_iload_n (q0 := 297) (j := 3) rfl dL_law_296 rfl ?_
  refine q_iconst (q0 := 298) rfl dL_law_297 (k := ?_)
  refine q_iadd (q0 := 299) rfl dL_law_298 (by omega) (by omega) ?_
  refine q_scld (q0 := 300) rfl hb33 (by omega) (by omega) dL_law_299 ?_
  refine q_aload5_n (q0 := 301) (j := 0) rfl dL_law_300 rfl ?_
  refine q_iload_n (q0 := 302) (j := 3) rfl dL_law_301 rfl ?_
  refine q_iconst (q0 := 303) rfl dL_law_302 (k := ?_)
  refine q_iadd (q0 := 304) rfl dL_law_303 (by omega) (by omega) ?_
  refine q_scld (q0 := 305) rfl hb33 (by omega) (by omega) dL_law_304 ?_
  refine q_callV (as := [_, _]) (rest := []) mt_X11_plan mi_X11_plan se_X11_plan ml_L_23 dL_law_305 (q0 := 308) rfl rfl (sh_0 hS.1.1) rfl rfl (sp_X11_plan hS.1 (fun w => (aText_I w).1)) rfl ⟨Nat.le_of_ble_eq_true rfl, Nat.le_of_ble_eq_true rfl⟩ ⟨by show cc + 0 ≤ 600000; omega, by show cd + 0 ≤ 7302249; omega⟩ (Nat.le_of_ble_eq_true rfl) (fun r sh1 M1 hP hw1 hMw1 => ?_)
  obtain ⟨rfl, rfl, hC1, hU1, hT1⟩ := law_cls hS hP
  refine q_aload_n (q0 := 309) (j := 2) rfl dL_law_308 rfl ?_
  refine q_aload5_n (q0 := 310) (j := 0) rfl dL_law_309 rfl ?_
  refine q_iload_n (q0 := 311) (j := 3) rfl dL_law_310 rfl ?_
  refine q_iconst (q0 := 312) rfl dL_law_311 (k := ?_)
  refine q_iadd (q0 := 313) rfl dL_law_312 (by omega) (by omega) ?_
  refine q_scld (q0 := 314) rfl hb33 (by omega) (by omega) dL_law_313 ?_
  refine q_aload5_n (q0 := 315) (j := 0) rfl dL_law_314 rfl ?_
  refine q_iload_n (q0 := 316) (j := 3) rfl dL_law_315 rfl ?_
  refine q_iconst (q0 := 317) rfl dL_law_316 (k := ?_)
  refine q_iadd (q0 := 318) rfl dL_law_317 (by omega) (by omega) ?_
  refine q_scld (q0 := 319) rfl hb33 (by omega) (by omega) dL_law_318 ?_
  obtain ⟨M2, hF, hU2⟩ := (show ∃ M2, F_plan M1 (scX G (i + 1)) (scX G (i + 2)) = some (_, M2) ∧ uSt M2 _ from s_plan hU1)
  refine q_callV (as := [_, _]) (rest := [_]) mt_X12_plan mi_X12_plan se_X12_plan ml_L_27 dL_law_319 (q0 := 322) rfl rfl (sh_711 hC1.1) rfl rfl (ok_plan hC1.1 hF) rfl ⟨Nat.le_of_ble_eq_true rfl, Nat.le_of_ble_eq_true rfl⟩ ⟨by show cc + 0 + 0 ≤ 600000; omega, by show cd + 0 + 0 ≤ 7302249; omega⟩ (Nat.le_of_ble_eq_true rfl) (fun r2 sh2 M3 hP2 hw2 hMw2 => ?_)
  obtain ⟨rfl, rfl, rfl⟩ := hP2
  have hS2 := law_ref (z := z) hC1 hT1 (fr_plan hF) (by decide) (by decide) hU2 (zI_plan hI _ _)
  refine q_icmp_eq (q0 := 325) (tgt := 1494) rfl dL_law_322 (by decide) (fun heq => ?_) (fun hne => absurd rfl hne)
  exact gB_ck (by show _ ≤ cc + 5; first | exact Nat.le_refl _ | exact Nat.le_add_right _ _) (by show _ ≤ cd + 1106; first | exact Nat.le_refl _ | exact Nat.le_add_right _ _) (kk _ _ _ hS2)
theorem lwc_ref {b cc cd : Nat} {i : Int} {sh : gS} {M : gM} {z : aS} (hb33 : G.2.2.2 33 = some b) (hL : scL G ≤ 3072) (h0 : 0 ≤ i) (h6 : i + 6 ≤ scL G) (hc1 : cc + 5 ≤ 600000) (hc2 : cd + 1106 ≤ 7302249) (hS : lwS sh M z)
    (kk : ∀ (sh2 : gS) (M2 : gM) (z2 : aS), lwS sh2 M2 z2 → gB l G p e s m args below meth c Z room_1 yL_law cL_law 4 ret (cc + 5, cd + 1106) 1494 [(5, 33), (4, 0), (4, 711), (0, i)] [] sh2 M2) : gB l G p e s m args below meth c Z room_1 yL_law cL_law 4 ret (cc, cd) 327 [(5, 33), (4, 0), (4, 711), (0, i)] [] sh M := by
  have hI := hS.2.2.1
  refine q_aload_n (q0 := 328) (j := 1) rfl dL_law_327 rfl ?_
  refine q_aload5_n (q0 := 329) (j := 0) rfl dL_law_328 rfl ?_
  refine q_iload_n (q0 := 330) (j := 3) rfl dL_law_329 rfl ?_
  refine q_iconst (q0 := 331) rfl dL_law_330 (k := ?_)
  refine q_iadd (q0 := 332) rfl dL_law_331 (by omega) (by omega) ?_
  refine q_scld (q0 := 333) rfl hb33 (by omega) (by omega) dL_law_332 ?_
  refine q_aload5_n (q0 := 334) (j := 0) rfl dL_law_333 rfl ?_
  refine q_iload_n (q0 := 335) (j := 3) rfl dL_law_334 rfl ?_
  refine q_iconst (q0 := 336) rfl dL_law_335 (k := ?_)
  refine q_iadd (q0 := 337) rfl dL_law_336 (by omega) (by omega) ?_
  refine q_scld (q0 := 338) rfl hb33 (by omega) (by omega) dL_law_337 ?_
  refine q_aload5_n (q0 := 339) (j := 0) rfl dL_law_338 rfl ?_
  refine q_iload_n (q0 := 340) (j := 3) rfl dL_law_339 rfl ?_
  refine q_iconst (q0 := 341) rfl dL_law_340 (k := ?_)
  refine q_iadd (q0 := 342) rfl dL_law_341 (by omega) (by omega) ?_
  refine q_scld (q0 := 343) rfl hb33 (by omega) (by omega) dL_law_342 ?_
  refine q_aload5_n (q0 := 344) (j := 0) rfl dL_law_343 rfl ?_
  refine q_iload_n (q0 := 345) (j := 3) rfl dL_law_344 rfl ?_
  refine q_iconst (q0 := 346) rfl dL_law_345 (k := ?_)
  refine q_iadd (q0 := 347) rfl dL_law_346 (by omega) (by omega) ?_
  refine q_scld (q0 := 348) rfl hb33 (by omega) (by omega) dL_law_347 ?_
  refine q_callV (as := [_, _, _, _]) (rest := []) mt_X11_ref mi_X11_ref se_X11_ref ml_L_28 dL_law_348 (q0 := 351) rfl rfl (sh_0 hS.1.1) rfl rfl (sp_X11_ref hS.1 ⟨hI.1, hI.2.2.1⟩) rfl ⟨Nat.le_of_ble_eq_true rfl, Nat.le_of_ble_eq_true rfl⟩ ⟨by show cc + 0 ≤ 600000; omega, by show cd + 0 ≤ 7302249; omega⟩ (Nat.le_of_ble_eq_true rfl) (fun r sh1 M1 hP hw1 hMw1 => ?_)
  obtain ⟨rfl, rfl, hC1, hU1, hT1⟩ := law_cls hS hP
  refine q_aload_n (q0 := 352) (j := 2) rfl dL_law_351 rfl ?_
  refine q_aload5_n (q0 := 353) (j := 0) rfl dL_law_352 rfl ?_
  refine q_iload_n (q0 := 354) (j := 3) rfl dL_law_353 rfl ?_
  refine q_iconst (q0 := 355) rfl dL_law_354 (k := ?_)
  refine q_iadd (q0 := 356) rfl dL_law_355 (by omega) (by omega) ?_
  refine q_scld (q0 := 357) rfl hb33 (by omega) (by omega) dL_law_356 ?_
  refine q_aload5_n (q0 := 358) (j := 0) rfl dL_law_357 rfl ?_
  refine q_iload_n (q0 := 359) (j := 3) rfl dL_law_358 rfl ?_
  refine q_iconst (q0 := 360) rfl dL_law_359 (k := ?_)
  refine q_iadd (q0 := 361) rfl dL_law_360 (by omega) (by omega) ?_
  refine q_scld (q0 := 362) rfl hb33 (by omega) (by omega) dL_law_361 ?_
  refine q_aload5_n (q0 := 363) (j := 0) rfl dL_law_362 rfl ?_
  refine q_iload_n (q0 := 364) (j := 3) rfl dL_law_363 rfl ?_
  refine q_iconst (q0 := 365) rfl dL_law_364 (k := ?_)
  refine q_iadd (q0 := 366) rfl dL_law_365 (by omega) (by omega) ?_
  refine q_scld (q0 := 367) rfl hb33 (by omega) (by omega) dL_law_366 ?_
  refine q_aload5_n (q0 := 368) (j := 0) rfl dL_law_367 rfl ?_
  refine q_iload_n (q0 := 369) (j := 3) rfl dL_law_368 rfl ?_
  refine q_iconst (q0 := 370) rfl dL_law_369 (k := ?_)
  refine q_iadd (q0 := 371) rfl dL_law_370 (by omega) (by omega) ?_
  refine q_scld (q0 := 372) rfl hb33 (by omega) (by omega) dL_law_371 ?_
  obtain ⟨M2, hF, hU2⟩ := (show ∃ M2, F_ref M1 (scX G (i + 1)) (scX G (i + 2)) (scX G (i + 3)) (scX G (i + 4)) = some (_, M2) ∧ uSt M2 _ from t_ref hU1 hI)
  refine q_callV (as := [_, _, _, _]) (rest := [_]) mt_X12_ref mi_X12_ref se_X12_ref ml_L_32 dL_law_372 (q0 := 375) rfl rfl (sh_711 hC1.1) rfl rfl (ok_ref hC1.1 hF) rfl ⟨Nat.le_of_ble_eq_true rfl, Nat.le_of_ble_eq_true rfl⟩ ⟨by show cc + 0 + 0 ≤ 600000; omega, by show cd + 0 + 0 ≤ 7302249; omega⟩ (Nat.le_of_ble_eq_true rfl) (fun r2 sh2 M3 hP2 hw2 hMw2 => ?_)
  obtain ⟨rfl, rfl, rfl⟩ := hP2
  have hS2 := law_ref (z := z) hC1 hT1 (fr_ref hF) (by decide) (by decide) hU2 (zI_ref hI _ _ _ _)
  refine q_icmp_eq (q0 := 378) (tgt := 1494) rfl dL_law_375 (by decide) (fun heq => ?_) (fun hne => absurd rfl hne)
  exact gB_ck (by show _ ≤ cc + 5; first | exact Nat.le_refl _ | exact Nat.le_add_right _ _) (by show _ ≤ cd + 1106; first | exact Nat.le_refl _ | exact Nat.le_add_right _ _) (kk _ _ _ hS2)
theorem lwc_run {b cc cd : Nat} {i : Int} {sh : gS} {M : gM} {z : aS} (hb33 : G.2.2.2 33 = some b) (hL : scL G ≤ 3072) (h0 : 0 ≤ i) (h6 : i + 6 ≤ scL G) (hc1 : cc + 5 ≤ 600000) (hc2 : cd + 1106 ≤ 7302249) (hS : lwS sh M z)
    (kk : ∀ (sh2 : gS) (M2 : gM) (z2 : aS), lwS sh2 M2 z2 → gB l G p e s m args below meth c Z room_1 yL_law cL_law 4 ret (cc + 5, cd + 1106) 1494 [(5, 33), (4, 0), (4, 711), (0, i)] [] sh2 M2) : gB l G p e s m args below meth c Z room_1 yL_law cL_law 4 ret (cc, cd) 380 [(5, 33), (4, 0), (4, 711), (0, i)] [] sh M := by
  have hI := hS.2.2.1
  refine q_aload_n (q0 := 381) (j := 1) rfl dL_law_380 rfl ?_
  refine q_aload5_n (q0 := 382) (j := 0) rfl dL_law_381 rfl ?_
  refine q_iload_n (q0 := 383) (j := 3) rfl dL_law_382 rfl ?_
  refine q_iconst (q0 := 384) rfl dL_law_383 (k := ?_)
  refine q_iadd (q0 := 385) rfl dL_law_384 (by omega) (by omega) ?_
  refine q_scld (q0 := 386) rfl hb33 (by omega) (by omega) dL_law_385 ?_
  refine q_callV (as := [_]) (rest := []) mt_X11_run mi_X11_run se_X11_run ml_L_33 dL_law_386 (q0 := 389) rfl rfl (sh_0 hS.1.1) rfl rfl (sp_X11_run hS.1 hI.1 hI.2.2.1 hI.2.2.2.1) rfl ⟨Nat.le_of_ble_eq_true rfl, Nat.le_of_ble_eq_true rfl⟩ ⟨by show cc + 0 ≤ 600000; omega, by show cd + 0 ≤ 7302249; omega⟩ (Nat.le_of_ble_eq_true rfl) (fun r sh1 M1 hP hw1 hMw1 => ?_)
  obtain ⟨rfl, rfl, hC1, hU1, hT1⟩ := law_cls hS hP
  refine q_aload_n (q0 := 390) (j := 2) rfl dL_law_389 rfl ?_
  refine q_aload5_n (q0 := 391) (j := 0) rfl dL_law_390 rfl ?_
  refine q_iload_n (q0 := 392) (j := 3) rfl dL_law_391 rfl ?_
  refine q_iconst (q0 := 393) rfl dL_law_392 (k := ?_)
  refine q_iadd (q0 := 394) rfl dL_law_393 (by omega) (by omega) ?_
  refine q_scld (q0 := 395) rfl hb33 (by omega) (by omega) dL_law_394 ?_
  obtain ⟨M2, hF, hU2⟩ := (show ∃ M2, F_run M1 (scX G (i + 1)) = some (_, M2) ∧ uSt M2 _ from s_run hU1 hI.1 hI.2.2.1 hI.2.2.2.1)
  refine q_callV (as := [_]) (rest := [_]) mt_X12_run mi_X12_run se_X12_run ml_L_37 dL_law_395 (q0 := 398) rfl rfl (sh_711 hC1.1) rfl rfl (ok_run hC1.1 hF) rfl ⟨Nat.le_of_ble_eq_true rfl, Nat.le_of_ble_eq_true rfl⟩ ⟨by show cc + 0 + 0 ≤ 600000; omega, by show cd + 0 + 0 ≤ 7302249; omega⟩ (Nat.le_of_ble_eq_true rfl) (fun r2 sh2 M3 hP2 hw2 hMw2 => ?_)
  obtain ⟨rfl, rfl, rfl⟩ := hP2
  have hS2 := law_ref (z := z) hC1 hT1 (fr_run hF) (by decide) (by decide) hU2 (zI_run hI _)
  refine q_icmp_eq (q0 := 401) (tgt := 1494) rfl dL_law_398 (by decide) (fun heq => ?_) (fun hne => absurd rfl hne)
  exact gB_ck (by show _ ≤ cc + 5; first | exact Nat.le_refl _ | exact Nat.le_add_right _ _) (by show _ ≤ cd + 1106; first | exact Nat.le_refl _ | exact Nat.le_add_right _ _) (kk _ _ _ hS2)
theorem lwc_again {b cc cd : Nat} {i : Int} {sh : gS} {M : gM} {z : aS} (hb33 : G.2.2.2 33 = some b) (hL : scL G ≤ 3072) (h0 : 0 ≤ i) (h6 : i + 6 ≤ scL G) (hc1 : cc + 5 ≤ 600000) (hc2 : cd + 1106 ≤ 7302249) (hS : lwS sh M z)
    (kk : ∀ (sh2 : gS) (M2 : gM) (z2 : aS), lwS sh2 M2 z2 → gB l G p e s m args below meth c Z room_1 yL_law cL_law 4 ret (cc + 5, cd + 1106) 1494 [(5, 33), (4, 0), (4, 711), (0, i)] [] sh2 M2) : gB l G p e s m args below meth c Z room_1 yL_law cL_law 4 ret (cc, cd) 403 [(5, 33), (4, 0), (4, 711), (0, i)] [] sh M := by
  have hI := hS.2.2.1
  refine q_aload_n (q0 := 404) (j := 1) rfl dL_law_403 rfl ?_
  refine q_aload5_n (q0 := 405) (j := 0) rfl dL_law_404 rfl ?_
  refine q_iload_n (q0 := 406) (j := 3) rfl dL_law_405 rfl ?_
  refine q_iconst (q0 := 407) rfl dL_law_406 (k := ?_)
  refine q_iadd (q0 := 408) rfl dL_law_407 (by omega) (by omega) ?_
  refine q_scld (q0 := 409) rfl hb33 (by omega) (by omega) dL_law_408 ?_
  refine q_callV (as := [_]) (rest := []) mt_X11_again mi_X11_again se_X11_again ml_L_38 dL_law_409 (q0 := 412) rfl rfl (sh_0 hS.1.1) rfl rfl (sp_X11_again hS.1 hI.1 hI.2.2.1 hI.2.2.2.1) rfl ⟨Nat.le_of_ble_eq_true rfl, Nat.le_of_ble_eq_true rfl⟩ ⟨by show cc + 0 ≤ 600000; omega, by show cd + 0 ≤ 7302249; omega⟩ (Nat.le_of_ble_eq_true rfl) (fun r sh1 M1 hP hw1 hMw1 => ?_)
  obtain ⟨rfl, rfl, hC1, hU1, hT1⟩ := law_cls hS hP
  refine q_aload_n (q0 := 413) (j := 2) rfl dL_law_412 rfl ?_
  refine q_aload5_n (q0 := 414) (j := 0) rfl dL_law_413 rfl ?_
  refine q_iload_n (q0 := 415) (j := 3) rfl dL_law_414 rfl ?_
  refine q_iconst (q0 := 416) rfl dL_law_415 (k := ?_)
  refine q_iadd (q0 := 417) rfl dL_law_416 (by omega) (by omega) ?_
  refine q_scld (q0 := 418) rfl hb33 (by omega) (by omega) dL_law_417 ?_
  obtain ⟨M2, hF, hU2⟩ := (show ∃ M2, F_again M1 (scX G (i + 1)) = some (_, M2) ∧ uSt M2 _ from s_again hU1 hI.1 hI.2.2.1 hI.2.2.2.1)
  refine q_callV (as := [_]) (rest := [_]) mt_X12_again mi_X12_again se_X12_again ml_L_41 dL_law_418 (q0 := 421) rfl rfl (sh_711 hC1.1) rfl rfl (ok_again hC1.1 hF) rfl ⟨Nat.le_of_ble_eq_true rfl, Nat.le_of_ble_eq_true rfl⟩ ⟨by show cc + 0 + 0 ≤ 600000; omega, by show cd + 0 + 0 ≤ 7302249; omega⟩ (Nat.le_of_ble_eq_true rfl) (fun r2 sh2 M3 hP2 hw2 hMw2 => ?_)
  obtain ⟨rfl, rfl, rfl⟩ := hP2
  have hS2 := law_ref (z := z) hC1 hT1 (fr_again hF) (by decide) (by decide) hU2 (zI_again hI _)
  refine q_icmp_eq (q0 := 424) (tgt := 1494) rfl dL_law_421 (by decide) (fun heq => ?_) (fun hne => absurd rfl hne)
  exact gB_ck (by show _ ≤ cc + 5; first | exact Nat.le_refl _ | exact Nat.le_add_right _ _) (by show _ ≤ cd + 1106; first | exact Nat.le_refl _ | exact Nat.le_add_right _ _) (kk _ _ _ hS2)
theorem lwc_join {b cc cd : Nat} {i : Int} {sh : gS} {M : gM} {z : aS} (hb33 : G.2.2.2 33 = some b) (hL : scL G ≤ 3072) (h0 : 0 ≤ i) (h6 : i + 6 ≤ scL G) (hc1 : cc + 5 ≤ 600000) (hc2 : cd + 1106 ≤ 7302249) (hS : lwS sh M z)
    (kk : ∀ (sh2 : gS) (M2 : gM) (z2 : aS), lwS sh2 M2 z2 → gB l G p e s m args below meth c Z room_1 yL_law cL_law 4 ret (cc + 5, cd + 1106) 1494 [(5, 33), (4, 0), (4, 711), (0, i)] [] sh2 M2) : gB l G p e s m args below meth c Z room_1 yL_law cL_law 4 ret (cc, cd) 426 [(5, 33), (4, 0), (4, 711), (0, i)] [] sh M := by
  have hI := hS.2.2.1
  refine q_aload_n (q0 := 427) (j := 1) rfl dL_law_426 rfl ?_
  refine q_aload5_n (q0 := 428) (j := 0) rfl dL_law_427 rfl ?_
  refine q_iload_n (q0 := 429) (j := 3) rfl dL_law_428 rfl ?_
  refine q_iconst (q0 := 430) rfl dL_law_429 (k := ?_)
  refine q_iadd (q0 := 431) rfl dL_law_430 (by omega) (by omega) ?_
  refine q_scld (q0 := 432) rfl hb33 (by omega) (by omega) dL_law_431 ?_
  refine q_aload5_n (q0 := 433) (j := 0) rfl dL_law_432 rfl ?_
  refine q_iload_n (q0 := 434) (j := 3) rfl dL_law_433 rfl ?_
  refine q_iconst (q0 := 435) rfl dL_law_434 (k := ?_)
  refine q_iadd (q0 := 436) rfl dL_law_435 (by omega) (by omega) ?_
  refine q_scld (q0 := 437) rfl hb33 (by omega) (by omega) dL_law_436 ?_
  refine q_aload5_n (q0 := 438) (j := 0) rfl dL_law_437 rfl ?_
  refine q_iload_n (q0 := 439) (j := 3) rfl dL_law_438 rfl ?_
  refine q_iconst (q0 := 440) rfl dL_law_439 (k := ?_)
  refine q_iadd (q0 := 441) rfl dL_law_440 (by omega) (by omega) ?_
  refine q_scld (q0 := 442) rfl hb33 (by omega) (by omega) dL_law_441 ?_
  refine q_aload5_n (q0 := 443) (j := 0) rfl dL_law_442 rfl ?_
  refine q_iload_n (q0 := 444) (j := 3) rfl dL_law_443 rfl ?_
  refine q_iconst (q0 := 445) rfl dL_law_444 (k := ?_)
  refine q_iadd (q0 := 446) rfl dL_law_445 (by omega) (by omega) ?_
  refine q_scld (q0 := 447) rfl hb33 (by omega) (by omega) dL_law_446 ?_
  refine q_aload5_n (q0 := 448) (j := 0) rfl dL_law_447 rfl ?_
  refine q_iload_n (q0 := 449) (j := 3) rfl dL_law_448 rfl ?_
  refine q_iconst (q0 := 450) rfl dL_law_449 (k := ?_)
  refine q_iadd (q0 := 451) rfl dL_law_450 (by omega) (by omega) ?_
  refine q_scld (q0 := 452) rfl hb33 (by omega) (by omega) dL_law_451 ?_
  refine q_callV (as := [_, _, _, _, _]) (rest := []) mt_X11_join mi_X11_join se_X11_join ml_L_42 dL_law_452 (q0 := 455) rfl rfl (sh_0 hS.1.1) rfl rfl (sp_X11_join hS.1 hI.1 (fun h h0 h1 => (hI.2.2.1 h h0 h1).1)) rfl ⟨Nat.le_of_ble_eq_true rfl, Nat.le_of_ble_eq_true rfl⟩ ⟨by show cc + 0 ≤ 600000; omega, by show cd + 0 ≤ 7302249; omega⟩ (Nat.le_of_ble_eq_true rfl) (fun r sh1 M1 hP hw1 hMw1 => ?_)
  obtain ⟨rfl, rfl, hC1, hU1, hT1⟩ := law_cls hS hP
  refine q_aload_n (q0 := 456) (j := 2) rfl dL_law_455 rfl ?_
  refine q_aload5_n (q0 := 457) (j := 0) rfl dL_law_456 rfl ?_
  refine q_iload_n (q0 := 458) (j := 3) rfl dL_law_457 rfl ?_
  refine q_iconst (q0 := 459) rfl dL_law_458 (k := ?_)
  refine q_iadd (q0 := 460) rfl dL_law_459 (by omega) (by omega) ?_
  refine q_scld (q0 := 461) rfl hb33 (by omega) (by omega) dL_law_460 ?_
  refine q_aload5_n (q0 := 462) (j := 0) rfl dL_law_461 rfl ?_
  refine q_iload_n (q0 := 463) (j := 3) rfl dL_law_462 rfl ?_
  refine q_iconst (q0 := 464) rfl dL_law_463 (k := ?_)
  refine q_iadd (q0 := 465) rfl dL_law_464 (by omega) (by omega) ?_
  refine q_scld (q0 := 466) rfl hb33 (by omega) (by omega) dL_law_465 ?_
  refine q_aload5_n (q0 := 467) (j := 0) rfl dL_law_466 rfl ?_
  refine q_iload_n (q0 := 468) (j := 3) rfl dL_law_467 rfl ?_
  refine q_iconst (q0 := 469) rfl dL_law_468 (k := ?_)
  refine q_iadd (q0 := 470) rfl dL_law_469 (by omega) (by omega) ?_
  refine q_scld (q0 := 471) rfl hb33 (by omega) (by omega) dL_law_470 ?_
  refine q_aload5_n (q0 := 472) (j := 0) rfl dL_law_471 rfl ?_
  refine q_iload_n (q0 := 473) (j := 3) rfl dL_law_472 rfl ?_
  refine q_iconst (q0 := 474) rfl dL_law_473 (k := ?_)
  refine q_iadd (q0 := 475) rfl dL_law_474 (by omega) (by omega) ?_
  refine q_scld (q0 := 476) rfl hb33 (by omega) (by omega) dL_law_475 ?_
  refine q_aload5_n (q0 := 477) (j := 0) rfl dL_law_476 rfl ?_
  refine q_iload_n (q0 := 478) (j := 3) rfl dL_law_477 rfl ?_
  refine q_iconst (q0 := 479) rfl dL_law_478 (k := ?_)
  refine q_iadd (q0 := 480) rfl dL_law_479 (by omega) (by omega) ?_
  refine q_scld (q0 := 481) rfl hb33 (by omega) (by omega) dL_law_480 ?_
  obtain ⟨M2, hF, hU2⟩ := (show ∃ M2, F_join M1 (scX G (i + 1)) (scX G (i + 2)) (scX G (i + 3)) (scX G (i + 4)) (scX G (i + 5)) = some (_, M2) ∧ uSt M2 _ from s_join hU1 hI.1 (fun h h0 h1 => (hI.2.2.1 h h0 h1).1))
  refine q_callV (as := [_, _, _, _, _]) (rest := [_]) mt_X12_join mi_X12_join se_X12_join ml_L_45 dL_law_481 (q0 := 484) rfl rfl (sh_711 hC1.1) rfl rfl (ok_join hC1.1 hF) rfl ⟨Nat.le_of_ble_eq_true rfl, Nat.le_of_ble_eq_true rfl⟩ ⟨by show cc + 0 + 0 ≤ 600000; omega, by show cd + 0 + 0 ≤ 7302249; omega⟩ (Nat.le_of_ble_eq_true rfl) (fun r2 sh2 M3 hP2 hw2 hMw2 => ?_)
  obtain ⟨rfl, rfl, rfl⟩ := hP2
  have hS2 := law_ref (z := z) hC1 hT1 (fr_join hF) (by decide) (by decide) hU2 (zI_join hI _ _ _ _ _)
  refine q_icmp_eq (q0 := 487) (tgt := 1494) rfl dL_law_484 (by decide) (fun heq => ?_) (fun hne => absurd rfl hne)
  exact gB_ck (by show _ ≤ cc + 5; first | exact Nat.le_refl _ | exact Nat.le_add_right _ _) (by show _ ≤ cd + 1106; first | exact Nat.le_refl _ | exact Nat.le_add_right _ _) (kk _ _ _ hS2)
theorem lwc_replay {b cc cd : Nat} {i : Int} {sh : gS} {M : gM} {z : aS} (hb33 : G.2.2.2 33 = some b) (hL : scL G ≤ 3072) (h0 : 0 ≤ i) (h6 : i + 6 ≤ scL G) (hc1 : cc + 5 ≤ 600000) (hc2 : cd + 1106 ≤ 7302249) (hS : lwS sh M z)
    (kk : ∀ (sh2 : gS) (M2 : gM) (z2 : aS), lwS sh2 M2 z2 → gB l G p e s m args below meth c Z room_1 yL_law cL_law 4 ret (cc + 5, cd + 1106) 1494 [(5, 33), (4, 0), (4, 711), (0, i)] [] sh2 M2) : gB l G p e s m args below meth c Z room_1 yL_law cL_law 4 ret (cc, cd) 489 [(5, 33), (4, 0), (4, 711), (0, i)] [] sh M := by
  have hI := hS.2.2.1
  refine q_aload_n (q0 := 490) (j := 1) rfl dL_law_489 rfl ?_
  refine q_aload5_n (q0 := 491) (j := 0) rfl dL_law_490 rfl ?_
  refine q_iload_n (q0 := 492) (j := 3) rfl dL_law_491 rfl ?_
  refine q_iconst (q0 := 493) rfl dL_law_492 (k := ?_)
  refine q_iadd (q0 := 494) rfl dL_law_493 (by omega) (by omega) ?_
  refine q_scld (q0 := 495) rfl hb33 (by omega) (by omega) dL_law_494 ?_
  refine q_aload5_n (q0 := 496) (j := 0) rfl dL_law_495 rfl ?_
  refine q_iload_n (q0 := 497) (j := 3) rfl dL_law_496 rfl ?_
  refine q_iconst (q0 := 498) rfl dL_law_497 (k := ?_)
  refine q_iadd (q0 := 499) rfl dL_law_498 (by omega) (by omega) ?_
  refine q_scld (q0 := 500) rfl hb33 (by omega) (by omega) dL_law_499 ?_
  refine q_aload5_n (q0 := 501) (j := 0) rfl dL_law_500 rfl ?_
  refine q_iload_n (q0 := 502) (j := 3) rfl dL_law_501 rfl ?_
  refine q_iconst (q0 := 503) rfl dL_law_502 (k := ?_)
  refine q_iadd (q0 := 504) rfl dL_law_503 (by omega) (by omega) ?_
  refine q_scld (q0 := 505) rfl hb33 (by omega) (by omega) dL_law_504 ?_
  refine q_callV (as := [_, _, _]) (rest := []) mt_X11_replay mi_X11_replay se_X11_replay ml_L_46 dL_law_505 (q0 := 508) rfl rfl (sh_0 hS.1.1) rfl rfl (sp_X11_replay hS.1 hI.1 (fun h h0 h1 => (hI.2.2.1 h h0 h1).1)) rfl ⟨Nat.le_of_ble_eq_true rfl, Nat.le_of_ble_eq_true rfl⟩ ⟨by show cc + 0 ≤ 600000; omega, by show cd + 0 ≤ 7302249; omega⟩ (Nat.le_of_ble_eq_true rfl) (fun r sh1 M1 hP hw1 hMw1 => ?_)
  obtain ⟨rfl, rfl, hC1, hU1, hT1⟩ := law_cls hS hP
  refine q_aload_n (q0 := 509) (j := 2) rfl dL_law_508 rfl ?_
  refine q_aload5_n (q0 := 510) (j := 0) rfl dL_law_509 rfl ?_
  refine q_iload_n (q0 := 511) (j := 3) rfl dL_law_510 rfl ?_
  refine q_iconst (q0 := 512) rfl dL_law_511 (k := ?_)
  refine q_iadd (q0 := 513) rfl dL_law_512 (by omega) (by omega) ?_
  refine q_scld (q0 := 514) rfl hb33 (by omega) (by omega) dL_law_513 ?_
  refine q_aload5_n (q0 := 515) (j := 0) rfl dL_law_514 rfl ?_
  refine q_iload_n (q0 := 516) (j := 3) rfl dL_law_515 rfl ?_
  refine q_iconst (q0 := 517) rfl dL_law_516 (k := ?_)
  refine q_iadd (q0 := 518) rfl dL_law_517 (by omega) (by omega) ?_
  refine q_scld (q0 := 519) rfl hb33 (by omega) (by omega) dL_law_518 ?_
  refine q_aload5_n (q0 := 520) (j := 0) rfl dL_law_519 rfl ?_
  refine q_iload_n (q0 := 521) (j := 3) rfl dL_law_520 rfl ?_
  refine q_iconst (q0 := 522) rfl dL_law_521 (k := ?_)
  refine q_iadd (q0 := 523) rfl dL_law_522 (by omega) (by omega) ?_
  refine q_scld (q0 := 524) rfl hb33 (by omega) (by omega) dL_law_523 ?_
  obtain ⟨M2, hF, hU2⟩ := (show ∃ M2, F_replay M1 (scX G (i + 1)) (scX G (i + 2)) (scX G (i + 3)) = some (_, M2) ∧ uSt M2 _ from s_replay hU1 hI.1 (fun h h0 h1 => (hI.2.2.1 h h0 h1).1))
  refine q_callV (as := [_, _, _]) (rest := [_]) mt_X12_replay mi_X12_replay se_X12_replay ml_L_49 dL_law_524 (q0 := 527) rfl rfl (sh_711 hC1.1) rfl rfl (ok_replay hC1.1 hF) rfl ⟨Nat.le_of_ble_eq_true rfl, Nat.le_of_ble_eq_true rfl⟩ ⟨by show cc + 0 + 0 ≤ 600000; omega, by show cd + 0 + 0 ≤ 7302249; omega⟩ (Nat.le_of_ble_eq_true rfl) (fun r2 sh2 M3 hP2 hw2 hMw2 => ?_)
  obtain ⟨rfl, rfl, rfl⟩ := hP2
  have hS2 := law_ref (z := z) hC1 hT1 (fr_replay hF) (by decide) (by decide) hU2 (zI_replay hI _ _ _)
  refine q_icmp_eq (q0 := 530) (tgt := 1494) rfl dL_law_527 (by decide) (fun heq => ?_) (fun hne => absurd rfl hne)
  exact gB_ck (by show _ ≤ cc + 5; first | exact Nat.le_refl _ | exact Nat.le_add_right _ _) (by show _ ≤ cd + 1106; first | exact Nat.le_refl _ | exact Nat.le_add_right _ _) (kk _ _ _ hS2)
theorem lwc_commitIs {b cc cd : Nat} {i : Int} {sh : gS} {M : gM} {z : aS} (hb33 : G.2.2.2 33 = some b) (hL : scL G ≤ 3072) (h0 : 0 ≤ i) (h6 : i + 6 ≤ scL G) (hc1 : cc + 5 ≤ 600000) (hc2 : cd + 1106 ≤ 7302249) (hS : lwS sh M z)
    (kk : ∀ (sh2 : gS) (M2 : gM) (z2 : aS), lwS sh2 M2 z2 → gB l G p e s m args below meth c Z room_1 yL_law cL_law 4 ret (cc + 5, cd + 1106) 1494 [(5, 33), (4, 0), (4, 711), (0, i)] [] sh2 M2) : gB l G p e s m args below meth c Z room_1 yL_law cL_law 4 ret (cc, cd) 532 [(5, 33), (4, 0), (4, 711), (0, i)] [] sh M := by
  have hI := hS.2.2.1
  refine q_aload_n (q0 := 533) (j := 1) rfl dL_law_532 rfl ?_
  refine q_aload5_n (q0 := 534) (j := 0) rfl dL_law_533 rfl ?_
  refine q_iload_n (q0 := 535) (j := 3) rfl dL_law_534 rfl ?_
  refine q_iconst (q0 := 536) rfl dL_law_535 (k := ?_)
  refine q_iadd (q0 := 537) rfl dL_law_536 (by omega) (by omega) ?_
  refine q_scld (q0 := 538) rfl hb33 (by omega) (by omega) dL_law_537 ?_
  refine q_aload5_n (q0 := 539) (j := 0) rfl dL_law_538 rfl ?_
  refine q_iload_n (q0 := 540) (j := 3) rfl dL_law_539 rfl ?_
  refine q_iconst (q0 := 541) rfl dL_law_540 (k := ?_)
  refine q_iadd (q0 := 542) rfl dL_law_541 (by omega) (by omega) ?_
  refine q_scld (q0 := 543) rfl hb33 (by omega) (by omega) dL_law_542 ?_
  refine q_callV (as := [_, _]) (rest := []) mt_X11_commitIs mi_X11_commitIs se_X11_commitIs ml_L_50 dL_law_543 (q0 := 546) rfl rfl (sh_0 hS.1.1) rfl rfl (sp_X11_commitIs hS.1 hI.1.1) rfl ⟨Nat.le_of_ble_eq_true rfl, Nat.le_of_ble_eq_true rfl⟩ ⟨by show cc + 0 ≤ 600000; omega, by show cd + 0 ≤ 7302249; omega⟩ (Nat.le_of_ble_eq_true rfl) (fun r sh1 M1 hP hw1 hMw1 => ?_)
  obtain ⟨rfl, rfl, hC1, hU1, hT1⟩ := law_cls hS hP
  refine q_aload_n (q0 := 547) (j := 2) rfl dL_law_546 rfl ?_
  refine q_aload5_n (q0 := 548) (j := 0) rfl dL_law_547 rfl ?_
  refine q_iload_n (q0 := 549) (j := 3) rfl dL_law_548 rfl ?_
  refine q_iconst (q0 := 550) rfl dL_law_549 (k := ?_)
  refine q_iadd (q0 := 551) rfl dL_law_550 (by omega) (by omega) ?_
  refine q_scld (q0 := 552) rfl hb33 (by omega) (by omega) dL_law_551 ?_
  refine q_aload5_n (q0 := 553) (j := 0) rfl dL_law_552 rfl ?_
  refine q_iload_n (q0 := 554) (j := 3) rfl dL_law_553 rfl ?_
  refine q_iconst (q0 := 555) rfl dL_law_554 (k := ?_)
  refine q_iadd (q0 := 556) rfl dL_law_555 (by omega) (by omega) ?_
  refine q_scld (q0 := 557) rfl hb33 (by omega) (by omega) dL_law_556 ?_
  obtain ⟨M2, hF, hU2⟩ := (show ∃ M2, F_commitIs M1 (scX G (i + 1)) (scX G (i + 2)) = some (_, M2) ∧ uSt M2 _ from s_commitIs hU1 hI.1.1)
  refine q_callV (as := [_, _]) (rest := [_]) mt_X12_commitIs mi_X12_commitIs se_X12_commitIs ml_L_53 dL_law_557 (q0 := 560) rfl rfl (sh_711 hC1.1) rfl rfl (ok_commitIs hC1.1 hF) rfl ⟨Nat.le_of_ble_eq_true rfl, Nat.le_of_ble_eq_true rfl⟩ ⟨by show cc + 0 + 0 ≤ 600000; omega, by show cd + 0 + 0 ≤ 7302249; omega⟩ (Nat.le_of_ble_eq_true rfl) (fun r2 sh2 M3 hP2 hw2 hMw2 => ?_)
  obtain ⟨rfl, rfl, rfl⟩ := hP2
  have hS2 := law_ref (z := z) hC1 hT1 (fr_commitIs hF) (by decide) (by decide) hU2 hI
  refine q_icmp_eq (q0 := 563) (tgt := 1494) rfl dL_law_560 (by decide) (fun heq => ?_) (fun hne => absurd rfl hne)
  exact gB_ck (by show _ ≤ cc + 5; first | exact Nat.le_refl _ | exact Nat.le_add_right _ _) (by show _ ≤ cd + 1106; first | exact Nat.le_refl _ | exact Nat.le_add_right _ _) (kk _ _ _ hS2)
theorem lwc_spelt {b cc cd : Nat} {i : Int} {sh : gS} {M : gM} {z : aS} (hb33 : G.2.2.2 33 = some b) (hL : scL G ≤ 3072) (h0 : 0 ≤ i) (h6 : i + 6 ≤ scL G) (hc1 : cc + 5 ≤ 600000) (hc2 : cd + 1106 ≤ 7302249) (hS : lwS sh M z)
    (kk : ∀ (sh2 : gS) (M2 : gM) (z2 : aS), lwS sh2 M2 z2 → gB l G p e s m args below meth c Z room_1 yL_law cL_law 4 ret (cc + 5, cd + 1106) 1494 [(5, 33), (4, 0), (4, 711), (0, i)] [] sh2 M2) : gB l G p e s m args below meth c Z room_1 yL_law cL_law 4 ret (cc, cd) 565 [(5, 33), (4, 0), (4, 711), (0, i)] [] sh M := by
  have hI := hS.2.2.1
  refine q_aload_n (q0 := 566) (j := 1) rfl dL_law_565 rfl ?_
  refine q_aload5_n (q0 := 567) (j := 0) rfl dL_law_566 rfl ?_
  refine q_iload_n (q0 := 568) (j := 3) rfl dL_law_567 rfl ?_
  refine q_iconst (q0 := 569) rfl dL_law_568 (k := ?_)
  refine q_iadd (q0 := 570) rfl dL_law_569 (by omega) (by omega) ?_
  refine q_scld (q0 := 571) rfl hb33 (by omega) (by omega) dL_law_570 ?_
  refine q_aload5_n (q0 := 572) (j := 0) rfl dL_law_571 rfl ?_
  refine q_iload_n (q0 := 573) (j := 3) rfl dL_law_572 rfl ?_
  refine q_iconst (q0 := 574) rfl dL_law_573 (k := ?_)
  refine q_iadd (q0 := 575) rfl dL_law_574 (by omega) (by omega) ?_
  refine q_scld (q0 := 576) rfl hb33 (by omega) (by omega) dL_law_575 ?_
  refine q_callV (as := [_, _]) (rest := []) mt_X11_spelt mi_X11_spelt se_X11_spelt ml_L_54 dL_law_576 (q0 := 579) rfl rfl (sh_0 hS.1.1) rfl rfl (sp_X11_spelt hS.1 hI.1.1 hS.2.2.2) rfl ⟨Nat.le_of_ble_eq_true rfl, Nat.le_of_ble_eq_true rfl⟩ ⟨by show cc + 5 ≤ 600000; omega, by show cd + 1106 ≤ 7302249; omega⟩ (Nat.le_of_ble_eq_true rfl) (fun r sh1 M1 hP hw1 hMw1 => ?_)
  obtain ⟨rfl, hC1, hU1, hT1⟩ := law_spt hS hP
  refine q_aload_n (q0 := 580) (j := 2) rfl dL_law_579 rfl ?_
  refine q_aload5_n (q0 := 581) (j := 0) rfl dL_law_580 rfl ?_
  refine q_iload_n (q0 := 582) (j := 3) rfl dL_law_581 rfl ?_
  refine q_iconst (q0 := 583) rfl dL_law_582 (k := ?_)
  refine q_iadd (q0 := 584) rfl dL_law_583 (by omega) (by omega) ?_
  refine q_scld (q0 := 585) rfl hb33 (by omega) (by omega) dL_law_584 ?_
  refine q_aload5_n (q0 := 586) (j := 0) rfl dL_law_585 rfl ?_
  refine q_iload_n (q0 := 587) (j := 3) rfl dL_law_586 rfl ?_
  refine q_iconst (q0 := 588) rfl dL_law_587 (k := ?_)
  refine q_iadd (q0 := 589) rfl dL_law_588 (by omega) (by omega) ?_
  refine q_scld (q0 := 590) rfl hb33 (by omega) (by omega) dL_law_589 ?_
  obtain ⟨M2, hF, hU2⟩ := (show ∃ M2, F_spelt M1 (scX G (i + 1)) (scX G (i + 2)) = some (_, M2) ∧ uSt M2 _ from s_spelt hU1 hI.1.1 (zI_ten hI))
  refine q_callV (as := [_, _]) (rest := [_]) mt_X12_spelt mi_X12_spelt se_X12_spelt ml_L_57 dL_law_590 (q0 := 593) rfl rfl (sh_711 hC1.1) rfl rfl (ok_spelt hC1.1 hF) rfl ⟨Nat.le_of_ble_eq_true rfl, Nat.le_of_ble_eq_true rfl⟩ ⟨by show cc + 5 + 0 ≤ 600000; omega, by show cd + 1106 + 0 ≤ 7302249; omega⟩ (Nat.le_of_ble_eq_true rfl) (fun r2 sh2 M3 hP2 hw2 hMw2 => ?_)
  obtain ⟨rfl, rfl, rfl⟩ := hP2
  have hS2 := law_ref (z := z) hC1 hT1 (fr_spelt hF) (by decide) (by decide) hU2 hI
  refine q_icmp_eq (q0 := 596) (tgt := 1494) rfl dL_law_593 (by decide) (fun heq => ?_) (fun hne => absurd rfl hne)
  exact gB_ck (by show _ ≤ cc + 5; first | exact Nat.le_refl _ | exact Nat.le_add_right _ _) (by show _ ≤ cd + 1106; first | exact Nat.le_refl _ | exact Nat.le_add_right _ _) (kk _ _ _ hS2)
theorem lwc_look {b cc cd : Nat} {i : Int} {sh : gS} {M : gM} {z : aS} (hb33 : G.2.2.2 33 = some b) (hL : scL G ≤ 3072) (h0 : 0 ≤ i) (h6 : i + 6 ≤ scL G) (hc1 : cc + 5 ≤ 600000) (hc2 : cd + 1106 ≤ 7302249) (hS : lwS sh M z)
    (kk : ∀ (sh2 : gS) (M2 : gM) (z2 : aS), lwS sh2 M2 z2 → gB l G p e s m args below meth c Z room_1 yL_law cL_law 4 ret (cc + 5, cd + 1106) 1494 [(5, 33), (4, 0), (4, 711), (0, i)] [] sh2 M2) : gB l G p e s m args below meth c Z room_1 yL_law cL_law 4 ret (cc, cd) 598 [(5, 33), (4, 0), (4, 711), (0, i)] [] sh M := by
  have hI := hS.2.2.1
  refine q_aload_n (q0 := 599) (j := 1) rfl dL_law_598 rfl ?_
  refine q_aload5_n (q0 := 600) (j := 0) rfl dL_law_599 rfl ?_
  refine q_iload_n (q0 := 601) (j := 3) rfl dL_law_600 rfl ?_
  refine q_iconst (q0 := 602) rfl dL_law_601 (k := ?_)
  refine q_iadd (q0 := 603) rfl dL_law_602 (by omega) (by omega) ?_
  refine q_scld (q0 := 604) rfl hb33 (by omega) (by omega) dL_law_603 ?_
  refine q_aload5_n (q0 := 605) (j := 0) rfl dL_law_604 rfl ?_
  refine q_iload_n (q0 := 606) (j := 3) rfl dL_law_605 rfl ?_
  refine q_iconst (q0 := 607) rfl dL_law_606 (k := ?_)
  refine q_iadd (q0 := 608) rfl dL_law_607 (by omega) (by omega) ?_
  refine q_scld (q0 := 609) rfl hb33 (by omega) (by omega) dL_law_608 ?_
  refine q_aload5_n (q0 := 610) (j := 0) rfl dL_law_609 rfl ?_
  refine q_iload_n (q0 := 611) (j := 3) rfl dL_law_610 rfl ?_
  refine q_iconst (q0 := 612) rfl dL_law_611 (k := ?_)
  refine q_iadd (q0 := 613) rfl dL_law_612 (by omega) (by omega) ?_
  refine q_scld (q0 := 614) rfl hb33 (by omega) (by omega) dL_law_613 ?_
  refine q_callV (as := [_, _, _]) (rest := []) mt_X11_look mi_X11_look se_X11_look ml_L_58 dL_law_614 (q0 := 617) rfl rfl (sh_0 hS.1.1) rfl rfl (sp_X11_look hS.1 ) rfl ⟨Nat.le_of_ble_eq_true rfl, Nat.le_of_ble_eq_true rfl⟩ ⟨by show cc + 0 ≤ 600000; omega, by show cd + 0 ≤ 7302249; omega⟩ (Nat.le_of_ble_eq_true rfl) (fun r sh1 M1 hP hw1 hMw1 => ?_)
  obtain ⟨rfl, rfl, hC1, hU1, hT1⟩ := law_cls hS hP
  refine q_aload_n (q0 := 618) (j := 2) rfl dL_law_617 rfl ?_
  refine q_aload5_n (q0 := 619) (j := 0) rfl dL_law_618 rfl ?_
  refine q_iload_n (q0 := 620) (j := 3) rfl dL_law_619 rfl ?_
  refine q_iconst (q0 := 621) rfl dL_law_620 (k := ?_)
  refine q_iadd (q0 := 622) rfl dL_law_621 (by omega) (by omega) ?_
  refine q_scld (q0 := 623) rfl hb33 (by omega) (by omega) dL_law_622 ?_
  refine q_aload5_n (q0 := 624) (j := 0) rfl dL_law_623 rfl ?_
  refine q_iload_n (q0 := 625) (j := 3) rfl dL_law_624 rfl ?_
  refine q_iconst (q0 := 626) rfl dL_law_625 (k := ?_)
  refine q_iadd (q0 := 627) rfl dL_law_626 (by omega) (by omega) ?_
  refine q_scld (q0 := 628) rfl hb33 (by omega) (by omega) dL_law_627 ?_
  refine q_aload5_n (q0 := 629) (j := 0) rfl dL_law_628 rfl ?_
  refine q_iload_n (q0 := 630) (j := 3) rfl dL_law_629 rfl ?_
  refine q_iconst (q0 := 631) rfl dL_law_630 (k := ?_)
  refine q_iadd (q0 := 632) rfl dL_law_631 (by omega) (by omega) ?_
  refine q_scld (q0 := 633) rfl hb33 (by omega) (by omega) dL_law_632 ?_
  obtain ⟨M2, hF, hU2⟩ := (show ∃ M2, F_look M1 (scX G (i + 1)) (scX G (i + 2)) (scX G (i + 3)) = some (_, M2) ∧ uSt M2 _ from s_look hU1 hI.1)
  refine q_callV (as := [_, _, _]) (rest := [_]) mt_X12_look mi_X12_look se_X12_look ml_L_61 dL_law_633 (q0 := 636) rfl rfl (sh_711 hC1.1) rfl rfl (ok_look hC1.1 hF) rfl ⟨Nat.le_of_ble_eq_true rfl, Nat.le_of_ble_eq_true rfl⟩ ⟨by show cc + 0 + 0 ≤ 600000; omega, by show cd + 0 + 0 ≤ 7302249; omega⟩ (Nat.le_of_ble_eq_true rfl) (fun r2 sh2 M3 hP2 hw2 hMw2 => ?_)
  obtain ⟨rfl, rfl, rfl⟩ := hP2
  have hS2 := law_ref (z := z) hC1 hT1 (fr_look hF) (by decide) (by decide) hU2 (zI_tape hI _)
  refine q_icmp_eq (q0 := 639) (tgt := 1494) rfl dL_law_636 (by decide) (fun heq => ?_) (fun hne => absurd rfl hne)
  exact gB_ck (by show _ ≤ cc + 5; first | exact Nat.le_refl _ | exact Nat.le_add_right _ _) (by show _ ≤ cd + 1106; first | exact Nat.le_refl _ | exact Nat.le_add_right _ _) (kk _ _ _ hS2)
theorem lwc_planIs {b cc cd : Nat} {i : Int} {sh : gS} {M : gM} {z : aS} (hb33 : G.2.2.2 33 = some b) (hL : scL G ≤ 3072) (h0 : 0 ≤ i) (h6 : i + 6 ≤ scL G) (hc1 : cc + 5 ≤ 600000) (hc2 : cd + 1106 ≤ 7302249) (hS : lwS sh M z)
    (kk : ∀ (sh2 : gS) (M2 : gM) (z2 : aS), lwS sh2 M2 z2 → gB l G p e s m args below meth c Z room_1 yL_law cL_law 4 ret (cc + 5, cd + 1106) 1494 [(5, 33), (4, 0), (4, 711), (0, i)] [] sh2 M2) : gB l G p e s m args below meth c Z room_1 yL_law cL_law 4 ret (cc, cd) 641 [(5, 33), (4, 0), (4, 711), (0, i)] [] sh M := by
  have hI := hS.2.2.1
  refine q_aload_n (q0 := 642) (j := 1) rfl dL_law_641 rfl ?_
  refine q_aload5_n (q0 := 643) (j := 0) rfl dL_law_642 rfl ?_
  refine q_iload_n (q0 := 644) (j := 3) rfl dL_law_643 rfl ?_
  refine q_iconst (q0 := 645) rfl dL_law_644 (k := ?_)
  refine q_iadd (q0 := 646) rfl dL_law_645 (by omega) (by omega) ?_
  refine q_scld (q0 := 647) rfl hb33 (by omega) (by omega) dL_law_646 ?_
  refine q_aload5_n (q0 := 648) (j := 0) rfl dL_law_647 rfl ?_
  refine q_iload_n (q0 := 649) (j := 3) rfl dL_law_648 rfl ?_
  refine q_iconst (q0 := 650) rfl dL_law_649 (k := ?_)
  refine q_iadd (q0 := 651) rfl dL_law_650 (by omega) (by omega) ?_
  refine q_scld (q0 := 652) rfl hb33 (by omega) (by omega) dL_law_651 ?_
  refine q_callV (as := [_, _]) (rest := []) mt_X11_planIs mi_X11_planIs se_X11_planIs ml_L_62 dL_law_652 (q0 := 655) rfl rfl (sh_0 hS.1.1) rfl rfl (sp_X11_planIs hS.1 ) rfl ⟨Nat.le_of_ble_eq_true rfl, Nat.le_of_ble_eq_true rfl⟩ ⟨by show cc + 0 ≤ 600000; omega, by show cd + 0 ≤ 7302249; omega⟩ (Nat.le_of_ble_eq_true rfl) (fun r sh1 M1 hP hw1 hMw1 => ?_)
  obtain ⟨rfl, rfl, hC1, hU1, hT1⟩ := law_cls hS hP
  refine q_aload_n (q0 := 656) (j := 2) rfl dL_law_655 rfl ?_
  refine q_aload5_n (q0 := 657) (j := 0) rfl dL_law_656 rfl ?_
  refine q_iload_n (q0 := 658) (j := 3) rfl dL_law_657 rfl ?_
  refine q_iconst (q0 := 659) rfl dL_law_658 (k := ?_)
  refine q_iadd (q0 := 660) rfl dL_law_659 (by omega) (by omega) ?_
  refine q_scld (q0 := 661) rfl hb33 (by omega) (by omega) dL_law_660 ?_
  refine q_aload5_n (q0 := 662) (j := 0) rfl dL_law_661 rfl ?_
  refine q_iload_n (q0 := 663) (j := 3) rfl dL_law_662 rfl ?_
  refine q_iconst (q0 := 664) rfl dL_law_663 (k := ?_)
  refine q_iadd (q0 := 665) rfl dL_law_664 (by omega) (by omega) ?_
  refine q_scld (q0 := 666) rfl hb33 (by omega) (by omega) dL_law_665 ?_
  have hF := (show F_planIs M1 (scX G (i + 1)) (scX G (i + 2)) = _ from s_planIs (fA := aPl z) (n := (aCs z).length) hU1.2.2.2.1 (fun p p0 p1 => plInv_gd (hI.2.2.2.1 p p0 p1)) (fun p p0 p1 => plInv_top (hI.2.2.2.1 p p0 p1)) hI.2.1)
  refine q_callV (as := [_, _]) (rest := [_]) mt_X12_planIs mi_X12_planIs se_X12_planIs ml_L_65 dL_law_666 (q0 := 669) rfl rfl (sh_711 hC1.1) rfl rfl (ok_planIs hC1.1 hF) rfl ⟨Nat.le_of_ble_eq_true rfl, Nat.le_of_ble_eq_true rfl⟩ ⟨by show cc + 0 + 0 ≤ 600000; omega, by show cd + 0 + 0 ≤ 7302249; omega⟩ (Nat.le_of_ble_eq_true rfl) (fun r2 sh2 M3 hP2 hw2 hMw2 => ?_)
  obtain ⟨rfl, rfl, rfl⟩ := hP2
  have hS2 := law_same hC1 hT1 hU1 hI
  refine q_icmp_eq (q0 := 672) (tgt := 1494) rfl dL_law_669 (by decide) (fun heq => ?_) (fun hne => absurd rfl hne)
  exact gB_ck (by show _ ≤ cc + 5; first | exact Nat.le_refl _ | exact Nat.le_add_right _ _) (by show _ ≤ cd + 1106; first | exact Nat.le_refl _ | exact Nat.le_add_right _ _) (kk _ _ _ hS2)
theorem lwc_image {b cc cd : Nat} {i : Int} {sh : gS} {M : gM} {z : aS} (hb33 : G.2.2.2 33 = some b) (hL : scL G ≤ 3072) (h0 : 0 ≤ i) (h6 : i + 6 ≤ scL G) (hc1 : cc + 5 ≤ 600000) (hc2 : cd + 1106 ≤ 7302249) (hS : lwS sh M z)
    (kk : ∀ (sh2 : gS) (M2 : gM) (z2 : aS), lwS sh2 M2 z2 → gB l G p e s m args below meth c Z room_1 yL_law cL_law 4 ret (cc + 5, cd + 1106) 1494 [(5, 33), (4, 0), (4, 711), (0, i)] [] sh2 M2) : gB l G p e s m args below meth c Z room_1 yL_law cL_law 4 ret (cc, cd) 674 [(5, 33), (4, 0), (4, 711), (0, i)] [] sh M := by
  have hI := hS.2.2.1
  refine q_aload_n (q0 := 675) (j := 1) rfl dL_law_674 rfl ?_
  refine q_aload5_n (q0 := 676) (j := 0) rfl dL_law_675 rfl ?_
  refine q_iload_n (q0 := 677) (j := 3) rfl dL_law_676 rfl ?_
  refine q_iconst (q0 := 678) rfl dL_law_677 (k := ?_)
  refine q_iadd (q0 := 679) rfl dL_law_678 (by omega) (by omega) ?_
  refine q_scld (q0 := 680) rfl hb33 (by omega) (by omega) dL_law_679 ?_
  refine q_aload5_n (q0 := 681) (j := 0) rfl dL_law_680 rfl ?_
  refine q_iload_n (q0 := 682) (j := 3) rfl dL_law_681 rfl ?_
  refine q_iconst (q0 := 683) rfl dL_law_682 (k := ?_)
  refine q_iadd (q0 := 684) rfl dL_law_683 (by omega) (by omega) ?_
  refine q_scld (q0 := 685) rfl hb33 (by omega) (by omega) dL_law_684 ?_
  refine q_aload5_n (q0 := 686) (j := 0) rfl dL_law_685 rfl ?_
  refine q_iload_n (q0 := 687) (j := 3) rfl dL_law_686 rfl ?_
  refine q_iconst (q0 := 688) rfl dL_law_687 (k := ?_)
  refine q_iadd (q0 := 689) rfl dL_law_688 (by omega) (by omega) ?_
  refine q_scld (q0 := 690) rfl hb33 (by omega) (by omega) dL_law_689 ?_
  refine q_callV (as := [_, _, _]) (rest := []) mt_X11_image mi_X11_image se_X11_image ml_L_66 dL_law_690 (q0 := 693) rfl rfl (sh_0 hS.1.1) rfl rfl (sp_X11_image hS.1 ) rfl ⟨Nat.le_of_ble_eq_true rfl, Nat.le_of_ble_eq_true rfl⟩ ⟨by show cc + 0 ≤ 600000; omega, by show cd + 0 ≤ 7302249; omega⟩ (Nat.le_of_ble_eq_true rfl) (fun r sh1 M1 hP hw1 hMw1 => ?_)
  obtain ⟨rfl, rfl, hC1, hU1, hT1⟩ := law_cls hS hP
  refine q_aload_n (q0 := 694) (j := 2) rfl dL_law_693 rfl ?_
  refine q_aload5_n (q0 := 695) (j := 0) rfl dL_law_694 rfl ?_
  refine q_iload_n (q0 := 696) (j := 3) rfl dL_law_695 rfl ?_
  refine q_iconst (q0 := 697) rfl dL_law_696 (k := ?_)
  refine q_iadd (q0 := 698) rfl dL_law_697 (by omega) (by omega) ?_
  refine q_scld (q0 := 699) rfl hb33 (by omega) (by omega) dL_law_698 ?_
  refine q_aload5_n (q0 := 700) (j := 0) rfl dL_law_699 rfl ?_
  refine q_iload_n (q0 := 701) (j := 3) rfl dL_law_700 rfl ?_
  refine q_iconst (q0 := 702) rfl dL_law_701 (k := ?_)
  refine q_iadd (q0 := 703) rfl dL_law_702 (by omega) (by omega) ?_
  refine q_scld (q0 := 704) rfl hb33 (by omega) (by omega) dL_law_703 ?_
  refine q_aload5_n (q0 := 705) (j := 0) rfl dL_law_704 rfl ?_
  refine q_iload_n (q0 := 706) (j := 3) rfl dL_law_705 rfl ?_
  refine q_iconst (q0 := 707) rfl dL_law_706 (k := ?_)
  refine q_iadd (q0 := 708) rfl dL_law_707 (by omega) (by omega) ?_
  refine q_scld (q0 := 709) rfl hb33 (by omega) (by omega) dL_law_708 ?_
  have hF := (show F_image M1 (scX G (i + 1)) (scX G (i + 2)) (scX G (i + 3)) = _ from s_image (cs := aCs z) (fA := aPl z) hU1.1 hU1.2.2.2.1 (fun p p0 p1 => plInv_gd (hI.2.2.2.1 p p0 p1)))
  refine q_callV (as := [_, _, _]) (rest := [_]) mt_X12_image mi_X12_image se_X12_image ml_L_69 dL_law_709 (q0 := 712) rfl rfl (sh_711 hC1.1) rfl rfl (ok_image hC1.1 hF) rfl ⟨Nat.le_of_ble_eq_true rfl, Nat.le_of_ble_eq_true rfl⟩ ⟨by show cc + 0 + 0 ≤ 600000; omega, by show cd + 0 + 0 ≤ 7302249; omega⟩ (Nat.le_of_ble_eq_true rfl) (fun r2 sh2 M3 hP2 hw2 hMw2 => ?_)
  obtain ⟨rfl, rfl, rfl⟩ := hP2
  have hS2 := law_same hC1 hT1 hU1 hI
  refine q_icmp_eq (q0 := 715) (tgt := 1494) rfl dL_law_712 (by decide) (fun heq => ?_) (fun hne => absurd rfl hne)
  exact gB_ck (by show _ ≤ cc + 5; first | exact Nat.le_refl _ | exact Nat.le_add_right _ _) (by show _ ≤ cd + 1106; first | exact Nat.le_refl _ | exact Nat.le_add_right _ _) (kk _ _ _ hS2)
theorem lwc_tried {b cc cd : Nat} {i : Int} {sh : gS} {M : gM} {z : aS} (hb33 : G.2.2.2 33 = some b) (hL : scL G ≤ 3072) (h0 : 0 ≤ i) (h6 : i + 6 ≤ scL G) (hc1 : cc + 5 ≤ 600000) (hc2 : cd + 1106 ≤ 7302249) (hS : lwS sh M z)
    (kk : ∀ (sh2 : gS) (M2 : gM) (z2 : aS), lwS sh2 M2 z2 → gB l G p e s m args below meth c Z room_1 yL_law cL_law 4 ret (cc + 5, cd + 1106) 1494 [(5, 33), (4, 0), (4, 711), (0, i)] [] sh2 M2) : gB l G p e s m args below meth c Z room_1 yL_law cL_law 4 ret (cc, cd) 717 [(5, 33), (4, 0), (4, 711), (0, i)] [] sh M := by
  have hI := hS.2.2.1
  refine q_aload_n (q0 := 718) (j := 1) rfl dL_law_717 rfl ?_
  refine q_aload5_n (q0 := 719) (j := 0) rfl dL_law_718 rfl ?_
  refine q_iload_n (q0 := 720) (j := 3) rfl dL_law_719 rfl ?_
  refine q_iconst (q0 := 721) rfl dL_law_720 (k := ?_)
  refine q_iadd (q0 := 722) rfl dL_law_721 (by omega) (by omega) ?_
  refine q_scld (q0 := 723) rfl hb33 (by omega) (by omega) dL_law_722 ?_
  refine q_aload5_n (q0 := 724) (j := 0) rfl dL_law_723 rfl ?_
  refine q_iload_n (q0 := 725) (j := 3) rfl dL_law_724 rfl ?_
  refine q_iconst (q0 := 726) rfl dL_law_725 (k := ?_)
  refine q_iadd (q0 := 727) rfl dL_law_726 (by omega) (by omega) ?_
  refine q_scld (q0 := 728) rfl hb33 (by omega) (by omega) dL_law_727 ?_
  refine q_aload5_n (q0 := 729) (j := 0) rfl dL_law_728 rfl ?_
  refine q_iload_n (q0 := 730) (j := 3) rfl dL_law_729 rfl ?_
  refine q_iconst (q0 := 731) rfl dL_law_730 (k := ?_)
  refine q_iadd (q0 := 732) rfl dL_law_731 (by omega) (by omega) ?_
  refine q_scld (q0 := 733) rfl hb33 (by omega) (by omega) dL_law_732 ?_
  refine q_callV (as := [_, _, _]) (rest := []) mt_X11_tried mi_X11_tried se_X11_tried ml_L_70 dL_law_733 (q0 := 736) rfl rfl (sh_0 hS.1.1) rfl rfl (sp_X11_tried hS.1 hI.1 (fun p p0 p1 => plInv_gd (hI.2.2.2.1 p p0 p1)) (fun p p0 p1 => plInv_fit hI.1.1 (hI.2.2.2.1 p p0 p1))) rfl ⟨Nat.le_of_ble_eq_true rfl, Nat.le_of_ble_eq_true rfl⟩ ⟨by show cc + 0 ≤ 600000; omega, by show cd + 0 ≤ 7302249; omega⟩ (Nat.le_of_ble_eq_true rfl) (fun r sh1 M1 hP hw1 hMw1 => ?_)
  obtain ⟨rfl, rfl, hC1, hU1, hT1⟩ := law_cls hS hP
  refine q_aload_n (q0 := 737) (j := 2) rfl dL_law_736 rfl ?_
  refine q_aload5_n (q0 := 738) (j := 0) rfl dL_law_737 rfl ?_
  refine q_iload_n (q0 := 739) (j := 3) rfl dL_law_738 rfl ?_
  refine q_iconst (q0 := 740) rfl dL_law_739 (k := ?_)
  refine q_iadd (q0 := 741) rfl dL_law_740 (by omega) (by omega) ?_
  refine q_scld (q0 := 742) rfl hb33 (by omega) (by omega) dL_law_741 ?_
  refine q_aload5_n (q0 := 743) (j := 0) rfl dL_law_742 rfl ?_
  refine q_iload_n (q0 := 744) (j := 3) rfl dL_law_743 rfl ?_
  refine q_iconst (q0 := 745) rfl dL_law_744 (k := ?_)
  refine q_iadd (q0 := 746) rfl dL_law_745 (by omega) (by omega) ?_
  refine q_scld (q0 := 747) rfl hb33 (by omega) (by omega) dL_law_746 ?_
  refine q_aload5_n (q0 := 748) (j := 0) rfl dL_law_747 rfl ?_
  refine q_iload_n (q0 := 749) (j := 3) rfl dL_law_748 rfl ?_
  refine q_iconst (q0 := 750) rfl dL_law_749 (k := ?_)
  refine q_iadd (q0 := 751) rfl dL_law_750 (by omega) (by omega) ?_
  refine q_scld (q0 := 752) rfl hb33 (by omega) (by omega) dL_law_751 ?_
  obtain ⟨M2, hF, hU2⟩ := (show ∃ M2, F_tried M1 (scX G (i + 1)) (scX G (i + 2)) (scX G (i + 3)) = some (_, M2) ∧ uSt M2 _ from s_tried hU1 hI.1 (fun p p0 p1 => plInv_fit hI.1.1 (hI.2.2.2.1 p p0 p1)))
  refine q_callV (as := [_, _, _]) (rest := [_]) mt_X12_tried mi_X12_tried se_X12_tried ml_L_73 dL_law_752 (q0 := 755) rfl rfl (sh_711 hC1.1) rfl rfl (ok_tried hC1.1 hF) rfl ⟨Nat.le_of_ble_eq_true rfl, Nat.le_of_ble_eq_true rfl⟩ ⟨by show cc + 0 + 0 ≤ 600000; omega, by show cd + 0 + 0 ≤ 7302249; omega⟩ (Nat.le_of_ble_eq_true rfl) (fun r2 sh2 M3 hP2 hw2 hMw2 => ?_)
  obtain ⟨rfl, rfl, rfl⟩ := hP2
  have hS2 := law_ref (z := z) hC1 hT1 (fr_tried hF) (by decide) (by decide) hU2 hI
  refine q_icmp_eq (q0 := 758) (tgt := 1494) rfl dL_law_755 (by decide) (fun heq => ?_) (fun hne => absurd rfl hne)
  exact gB_ck (by show _ ≤ cc + 5; first | exact Nat.le_refl _ | exact Nat.le_add_right _ _) (by show _ ≤ cd + 1106; first | exact Nat.le_refl _ | exact Nat.le_add_right _ _) (kk _ _ _ hS2)
theorem lwc_share {b cc cd : Nat} {i : Int} {sh : gS} {M : gM} {z : aS} (hb33 : G.2.2.2 33 = some b) (hL : scL G ≤ 3072) (h0 : 0 ≤ i) (h6 : i + 6 ≤ scL G) (hc1 : cc + 5 ≤ 600000) (hc2 : cd + 1106 ≤ 7302249) (hS : lwS sh M z)
    (kk : ∀ (sh2 : gS) (M2 : gM) (z2 : aS), lwS sh2 M2 z2 → gB l G p e s m args below meth c Z room_1 yL_law cL_law 4 ret (cc + 5, cd + 1106) 1494 [(5, 33), (4, 0), (4, 711), (0, i)] [] sh2 M2) : gB l G p e s m args below meth c Z room_1 yL_law cL_law 4 ret (cc, cd) 760 [(5, 33), (4, 0), (4, 711), (0, i)] [] sh M := by
  have hI := hS.2.2.1
  refine q_aload_n (q0 := 761) (j := 1) rfl dL_law_760 rfl ?_
  refine q_aload5_n (q0 := 762) (j := 0) rfl dL_law_761 rfl ?_
  refine q_iload_n (q0 := 763) (j := 3) rfl dL_law_762 rfl ?_
  refine q_iconst (q0 := 764) rfl dL_law_763 (k := ?_)
  refine q_iadd (q0 := 765) rfl dL_law_764 (by omega) (by omega) ?_
  refine q_scld (q0 := 766) rfl hb33 (by omega) (by omega) dL_law_765 ?_
  refine q_callV (as := [_]) (rest := []) mt_X11_share mi_X11_share se_X11_share ml_L_74 dL_law_766 (q0 := 769) rfl rfl (sh_0 hS.1.1) rfl rfl (sp_X11_share hS.1 (fun p p0 p1 => plInv_gd (hI.2.2.2.1 p p0 p1))) rfl ⟨Nat.le_of_ble_eq_true rfl, Nat.le_of_ble_eq_true rfl⟩ ⟨by show cc + 0 ≤ 600000; omega, by show cd + 0 ≤ 7302249; omega⟩ (Nat.le_of_ble_eq_true rfl) (fun r sh1 M1 hP hw1 hMw1 => ?_)
  obtain ⟨rfl, rfl, hC1, hU1, hT1⟩ := law_cls hS hP
  refine q_aload_n (q0 := 770) (j := 2) rfl dL_law_769 rfl ?_
  refine q_aload5_n (q0 := 771) (j := 0) rfl dL_law_770 rfl ?_
  refine q_iload_n (q0 := 772) (j := 3) rfl dL_law_771 rfl ?_
  refine q_iconst (q0 := 773) rfl dL_law_772 (k := ?_)
  refine q_iadd (q0 := 774) rfl dL_law_773 (by omega) (by omega) ?_
  refine q_scld (q0 := 775) rfl hb33 (by omega) (by omega) dL_law_774 ?_
  have hF := (show F_share M1 (scX G (i + 1)) = _ from s_share hU1 (fun p p0 p1 => plInv_gd (hI.2.2.2.1 p p0 p1)) (fun p p0 p1 => plInv_top (hI.2.2.2.1 p p0 p1)))
  refine q_callV (as := [_]) (rest := [_]) mt_X12_share mi_X12_share se_X12_share ml_L_78 dL_law_775 (q0 := 778) rfl rfl (sh_711 hC1.1) rfl rfl (ok_share hC1.1 hF) rfl ⟨Nat.le_of_ble_eq_true rfl, Nat.le_of_ble_eq_true rfl⟩ ⟨by show cc + 0 + 0 ≤ 600000; omega, by show cd + 0 + 0 ≤ 7302249; omega⟩ (Nat.le_of_ble_eq_true rfl) (fun r2 sh2 M3 hP2 hw2 hMw2 => ?_)
  obtain ⟨rfl, rfl, rfl⟩ := hP2
  have hS2 := law_same hC1 hT1 hU1 hI
  refine q_lcmp (q0 := 779) rfl dL_law_778 ?_
  refine q_if_eq (q0 := 782) (tgt := 1494) rfl dL_law_779 (by decide) (fun heq => ?_) (fun hne => absurd (glcmp_self _) hne)
  exact gB_ck (by show _ ≤ cc + 5; first | exact Nat.le_refl _ | exact Nat.le_add_right _ _) (by show _ ≤ cd + 1106; first | exact Nat.le_refl _ | exact Nat.le_add_right _ _) (kk _ _ _ hS2)
theorem lwc_sound {b cc cd : Nat} {i : Int} {sh : gS} {M : gM} {z : aS} (hb33 : G.2.2.2 33 = some b) (hL : scL G ≤ 3072) (h0 : 0 ≤ i) (h6 : i + 6 ≤ scL G) (hc1 : cc + 5 ≤ 600000) (hc2 : cd + 1106 ≤ 7302249) (hS : lwS sh M z)
    (kk : ∀ (sh2 : gS) (M2 : gM) (z2 : aS), lwS sh2 M2 z2 → gB l G p e s m args below meth c Z room_1 yL_law cL_law 4 ret (cc + 5, cd + 1106) 1494 [(5, 33), (4, 0), (4, 711), (0, i)] [] sh2 M2) : gB l G p e s m args below meth c Z room_1 yL_law cL_law 4 ret (cc, cd) 784 [(5, 33), (4, 0), (4, 711), (0, i)] [] sh M := by
  have hI := hS.2.2.1
  refine q_aload_n (q0 := 785) (j := 1) rfl dL_law_784 rfl ?_
  refine q_aload5_n (q0 := 786) (j := 0) rfl dL_law_785 rfl ?_
  refine q_iload_n (q0 := 787) (j := 3) rfl dL_law_786 rfl ?_
  refine q_iconst (q0 := 788) rfl dL_law_787 (k := ?_)
  refine q_iadd (q0 := 789) rfl dL_law_788 (by omega) (by omega) ?_
  refine q_scld (q0 := 790) rfl hb33 (by omega) (by omega) dL_law_789 ?_
  refine q_aload5_n (q0 := 791) (j := 0) rfl dL_law_790 rfl ?_
  refine q_iload_n (q0 := 792) (j := 3) rfl dL_law_791 rfl ?_
  refine q_iconst (q0 := 793) rfl dL_law_792 (k := ?_)
  refine q_iadd (q0 := 794) rfl dL_law_793 (by omega) (by omega) ?_
  refine q_scld (q0 := 795) rfl hb33 (by omega) (by omega) dL_law_794 ?_
  refine q_callV (as := [_, _]) (rest := []) mt_X11_sound mi_X11_sound se_X11_sound ml_L_79 dL_law_795 (q0 := 798) rfl rfl (sh_0 hS.1.1) rfl rfl (sp_X11_sound hS.1 hI.1 (fun h h0 h1 => (hI.2.2.1 h h0 h1).1) (fun p p0 p1 => plInv_gd (hI.2.2.2.1 p p0 p1)) (fun p p0 p1 => plInv_fit hI.1.1 (hI.2.2.2.1 p p0 p1))) rfl ⟨Nat.le_of_ble_eq_true rfl, Nat.le_of_ble_eq_true rfl⟩ ⟨by show cc + 0 ≤ 600000; omega, by show cd + 0 ≤ 7302249; omega⟩ (Nat.le_of_ble_eq_true rfl) (fun r sh1 M1 hP hw1 hMw1 => ?_)
  obtain ⟨rfl, rfl, hC1, hU1, hT1⟩ := law_cls hS hP
  refine q_aload_n (q0 := 799) (j := 2) rfl dL_law_798 rfl ?_
  refine q_aload5_n (q0 := 800) (j := 0) rfl dL_law_799 rfl ?_
  refine q_iload_n (q0 := 801) (j := 3) rfl dL_law_800 rfl ?_
  refine q_iconst (q0 := 802) rfl dL_law_801 (k := ?_)
  refine q_iadd (q0 := 803) rfl dL_law_802 (by omega) (by omega) ?_
  refine q_scld (q0 := 804) rfl hb33 (by omega) (by omega) dL_law_803 ?_
  refine q_aload5_n (q0 := 805) (j := 0) rfl dL_law_804 rfl ?_
  refine q_iload_n (q0 := 806) (j := 3) rfl dL_law_805 rfl ?_
  refine q_iconst (q0 := 807) rfl dL_law_806 (k := ?_)
  refine q_iadd (q0 := 808) rfl dL_law_807 (by omega) (by omega) ?_
  refine q_scld (q0 := 809) rfl hb33 (by omega) (by omega) dL_law_808 ?_
  obtain ⟨M2, hF, hU2⟩ := (show ∃ M2, F_sound M1 (scX G (i + 1)) (scX G (i + 2)) = some (_, M2) ∧ uSt M2 _ from s_sound hU1 hI.1 (fun h h0 h1 => (hI.2.2.1 h h0 h1).1) (fun p p0 p1 => plInv_gd (hI.2.2.2.1 p p0 p1)) (fun p p0 p1 => plInv_fit hI.1.1 (hI.2.2.2.1 p p0 p1)))
  refine q_callV (as := [_, _]) (rest := [_]) mt_X12_sound mi_X12_sound se_X12_sound ml_L_82 dL_law_809 (q0 := 812) rfl rfl (sh_711 hC1.1) rfl rfl (ok_sound hC1.1 hF) rfl ⟨Nat.le_of_ble_eq_true rfl, Nat.le_of_ble_eq_true rfl⟩ ⟨by show cc + 0 + 0 ≤ 600000; omega, by show cd + 0 + 0 ≤ 7302249; omega⟩ (Nat.le_of_ble_eq_true rfl) (fun r2 sh2 M3 hP2 hw2 hMw2 => ?_)
  obtain ⟨rfl, rfl, rfl⟩ := hP2
  have hS2 := law_ref (z := z) hC1 hT1 (fr_sound hF) (by decide) (by decide) hU2 hI
  refine q_icmp_eq (q0 := 815) (tgt := 1494) rfl dL_law_812 (by decide) (fun heq => ?_) (fun hne => absurd rfl hne)
  exact gB_ck (by show _ ≤ cc + 5; first | exact Nat.le_refl _ | exact Nat.le_add_right _ _) (by show _ ≤ cd + 1106; first | exact Nat.le_refl _ | exact Nat.le_add_right _ _) (kk _ _ _ hS2)
theorem lwc_refIs {b cc cd : Nat} {i : Int} {sh : gS} {M : gM} {z : aS} (hb33 : G.2.2.2 33 = some b) (hL : scL G ≤ 3072) (h0 : 0 ≤ i) (h6 : i + 6 ≤ scL G) (hc1 : cc + 5 ≤ 600000) (hc2 : cd + 1106 ≤ 7302249) (hS : lwS sh M z)
    (kk : ∀ (sh2 : gS) (M2 : gM) (z2 : aS), lwS sh2 M2 z2 → gB l G p e s m args below meth c Z room_1 yL_law cL_law 4 ret (cc + 5, cd + 1106) 1494 [(5, 33), (4, 0), (4, 711), (0, i)] [] sh2 M2) : gB l G p e s m args below meth c Z room_1 yL_law cL_law 4 ret (cc, cd) 817 [(5, 33), (4, 0), (4, 711), (0, i)] [] sh M := by
  have hI := hS.2.2.1
  refine q_aload_n (q0 := 818) (j := 1) rfl dL_law_817 rfl ?_
  refine q_aload5_n (q0 := 819) (j := 0) rfl dL_law_818 rfl ?_
  refine q_iload_n (q0 := 820) (j := 3) rfl dL_law_819 rfl ?_
  refine q_iconst (q0 := 821) rfl dL_law_820 (k := ?_)
  refine q_iadd (q0 := 822) rfl dL_law_821 (by omega) (by omega) ?_
  refine q_scld (q0 := 823) rfl hb33 (by omega) (by omega) dL_law_822 ?_
  refine q_aload5_n (q0 := 824) (j := 0) rfl dL_law_823 rfl ?_
  refine q_iload_n (q0 := 825) (j := 3) rfl dL_law_824 rfl ?_
  refine q_iconst (q0 := 826) rfl dL_law_825 (k := ?_)
  refine q_iadd (q0 := 827) rfl dL_law_826 (by omega) (by omega) ?_
  refine q_scld (q0 := 828) rfl hb33 (by omega) (by omega) dL_law_827 ?_
  refine q_aload5_n (q0 := 829) (j := 0) rfl dL_law_828 rfl ?_
  refine q_iload_n (q0 := 830) (j := 3) rfl dL_law_829 rfl ?_
  refine q_iconst (q0 := 831) rfl dL_law_830 (k := ?_)
  refine q_iadd (q0 := 832) rfl dL_law_831 (by omega) (by omega) ?_
  refine q_scld (q0 := 833) rfl hb33 (by omega) (by omega) dL_law_832 ?_
  refine q_callV (as := [_, _, _]) (rest := []) mt_X11_refIs mi_X11_refIs se_X11_refIs ml_L_83 dL_law_833 (q0 := 836) rfl rfl (sh_0 hS.1.1) rfl rfl (sp_X11_refIs hS.1 ) rfl ⟨Nat.le_of_ble_eq_true rfl, Nat.le_of_ble_eq_true rfl⟩ ⟨by show cc + 0 ≤ 600000; omega, by show cd + 0 ≤ 7302249; omega⟩ (Nat.le_of_ble_eq_true rfl) (fun r sh1 M1 hP hw1 hMw1 => ?_)
  obtain ⟨rfl, rfl, hC1, hU1, hT1⟩ := law_cls hS hP
  refine q_aload_n (q0 := 837) (j := 2) rfl dL_law_836 rfl ?_
  refine q_aload5_n (q0 := 838) (j := 0) rfl dL_law_837 rfl ?_
  refine q_iload_n (q0 := 839) (j := 3) rfl dL_law_838 rfl ?_
  refine q_iconst (q0 := 840) rfl dL_law_839 (k := ?_)
  refine q_iadd (q0 := 841) rfl dL_law_840 (by omega) (by omega) ?_
  refine q_scld (q0 := 842) rfl hb33 (by omega) (by omega) dL_law_841 ?_
  refine q_aload5_n (q0 := 843) (j := 0) rfl dL_law_842 rfl ?_
  refine q_iload_n (q0 := 844) (j := 3) rfl dL_law_843 rfl ?_
  refine q_iconst (q0 := 845) rfl dL_law_844 (k := ?_)
  refine q_iadd (q0 := 846) rfl dL_law_845 (by omega) (by omega) ?_
  refine q_scld (q0 := 847) rfl hb33 (by omega) (by omega) dL_law_846 ?_
  refine q_aload5_n (q0 := 848) (j := 0) rfl dL_law_847 rfl ?_
  refine q_iload_n (q0 := 849) (j := 3) rfl dL_law_848 rfl ?_
  refine q_iconst (q0 := 850) rfl dL_law_849 (k := ?_)
  refine q_iadd (q0 := 851) rfl dL_law_850 (by omega) (by omega) ?_
  refine q_scld (q0 := 852) rfl hb33 (by omega) (by omega) dL_law_851 ?_
  have hF := (show F_refIs M1 (scX G (i + 1)) (scX G (i + 2)) (scX G (i + 3)) = _ from s_refIs (fA := aRs z) (n := ((aCs z).length : Int)) hU1.2.2.1 (fun h h0 h1 => (hI.2.2.1 h h0 h1).1))
  refine q_callV (as := [_, _, _]) (rest := [_]) mt_X12_refIs mi_X12_refIs se_X12_refIs ml_L_86 dL_law_852 (q0 := 855) rfl rfl (sh_711 hC1.1) rfl rfl (ok_refIs hC1.1 hF) rfl ⟨Nat.le_of_ble_eq_true rfl, Nat.le_of_ble_eq_true rfl⟩ ⟨by show cc + 0 + 0 ≤ 600000; omega, by show cd + 0 + 0 ≤ 7302249; omega⟩ (Nat.le_of_ble_eq_true rfl) (fun r2 sh2 M3 hP2 hw2 hMw2 => ?_)
  obtain ⟨rfl, rfl, rfl⟩ := hP2
  have hS2 := law_same hC1 hT1 hU1 hI
  refine q_icmp_eq (q0 := 858) (tgt := 1494) rfl dL_law_855 (by decide) (fun heq => ?_) (fun hne => absurd rfl hne)
  exact gB_ck (by show _ ≤ cc + 5; first | exact Nat.le_refl _ | exact Nat.le_add_right _ _) (by show _ ≤ cd + 1106; first | exact Nat.le_refl _ | exact Nat.le_add_right _ _) (kk _ _ _ hS2)
theorem lwc_historyIs {b cc cd : Nat} {i : Int} {sh : gS} {M : gM} {z : aS} (hb33 : G.2.2.2 33 = some b) (hL : scL G ≤ 3072) (h0 : 0 ≤ i) (h6 : i + 6 ≤ scL G) (hc1 : cc + 5 ≤ 600000) (hc2 : cd + 1106 ≤ 7302249) (hS : lwS sh M z)
    (kk : ∀ (sh2 : gS) (M2 : gM) (z2 : aS), lwS sh2 M2 z2 → gB l G p e s m args below meth c Z room_1 yL_law cL_law 4 ret (cc + 5, cd + 1106) 1494 [(5, 33), (4, 0), (4, 711), (0, i)] [] sh2 M2) : gB l G p e s m args below meth c Z room_1 yL_law cL_law 4 ret (cc, cd) 860 [(5, 33), (4, 0), (4, 711), (0, i)] [] sh M := by
  have hI := hS.2.2.1
  refine q_aload_n (q0 := 861) (j := 1) rfl dL_law_860 rfl ?_
  refine q_aload5_n (q0 := 862) (j := 0) rfl dL_law_861 rfl ?_
  refine q_iload_n (q0 := 863) (j := 3) rfl dL_law_862 rfl ?_
  refine q_iconst (q0 := 864) rfl dL_law_863 (k := ?_)
  refine q_iadd (q0 := 865) rfl dL_law_864 (by omega) (by omega) ?_
  refine q_scld (q0 := 866) rfl hb33 (by omega) (by omega) dL_law_865 ?_
  refine q_aload5_n (q0 := 867) (j := 0) rfl dL_law_866 rfl ?_
  refine q_iload_n (q0 := 868) (j := 3) rfl dL_law_867 rfl ?_
  refine q_iconst (q0 := 869) rfl dL_law_868 (k := ?_)
  refine q_iadd (q0 := 870) rfl dL_law_869 (by omega) (by omega) ?_
  refine q_scld (q0 := 871) rfl hb33 (by omega) (by omega) dL_law_870 ?_
  refine q_callV (as := [_, _]) (rest := []) mt_X11_historyIs mi_X11_historyIs se_X11_historyIs ml_L_87 dL_law_871 (q0 := 874) rfl rfl (sh_0 hS.1.1) rfl rfl (sp_X11_historyIs hS.1 hI.1.1 (fun h h0 h1 => (hI.2.2.1 h h0 h1).1)) rfl ⟨Nat.le_of_ble_eq_true rfl, Nat.le_of_ble_eq_true rfl⟩ ⟨by show cc + 0 ≤ 600000; omega, by show cd + 0 ≤ 7302249; omega⟩ (Nat.le_of_ble_eq_true rfl) (fun r sh1 M1 hP hw1 hMw1 => ?_)
  obtain ⟨rfl, rfl, hC1, hU1, hT1⟩ := law_cls hS hP
  refine q_aload_n (q0 := 875) (j := 2) rfl dL_law_874 rfl ?_
  refine q_aload5_n (q0 := 876) (j := 0) rfl dL_law_875 rfl ?_
  refine q_iload_n (q0 := 877) (j := 3) rfl dL_law_876 rfl ?_
  refine q_iconst (q0 := 878) rfl dL_law_877 (k := ?_)
  refine q_iadd (q0 := 879) rfl dL_law_878 (by omega) (by omega) ?_
  refine q_scld (q0 := 880) rfl hb33 (by omega) (by omega) dL_law_879 ?_
  refine q_aload5_n (q0 := 881) (j := 0) rfl dL_law_880 rfl ?_
  refine q_iload_n (q0 := 882) (j := 3) rfl dL_law_881 rfl ?_
  refine q_iconst (q0 := 883) rfl dL_law_882 (k := ?_)
  refine q_iadd (q0 := 884) rfl dL_law_883 (by omega) (by omega) ?_
  refine q_scld (q0 := 885) rfl hb33 (by omega) (by omega) dL_law_884 ?_
  obtain ⟨M2, hF, hU2⟩ := (show ∃ M2, F_historyIs M1 (scX G (i + 1)) (scX G (i + 2)) = some (_, M2) ∧ uSt M2 _ from s_historyIs hU1 hI.1.1 (uRs_of hU1 hI))
  refine q_callV (as := [_, _]) (rest := [_]) mt_X12_historyIs mi_X12_historyIs se_X12_historyIs ml_L_90 dL_law_885 (q0 := 888) rfl rfl (sh_711 hC1.1) rfl rfl (ok_historyIs hC1.1 hF) rfl ⟨Nat.le_of_ble_eq_true rfl, Nat.le_of_ble_eq_true rfl⟩ ⟨by show cc + 0 + 0 ≤ 600000; omega, by show cd + 0 + 0 ≤ 7302249; omega⟩ (Nat.le_of_ble_eq_true rfl) (fun r2 sh2 M3 hP2 hw2 hMw2 => ?_)
  obtain ⟨rfl, rfl, rfl⟩ := hP2
  have hS2 := law_ref (z := z) hC1 hT1 (fr_historyIs hF) (by decide) (by decide) hU2 hI
  refine q_icmp_eq (q0 := 891) (tgt := 1494) rfl dL_law_888 (by decide) (fun heq => ?_) (fun hne => absurd rfl hne)
  exact gB_ck (by show _ ≤ cc + 5; first | exact Nat.le_refl _ | exact Nat.le_add_right _ _) (by show _ ≤ cd + 1106; first | exact Nat.le_refl _ | exact Nat.le_add_right _ _) (kk _ _ _ hS2)
theorem lwc_listing {b cc cd : Nat} {i : Int} {sh : gS} {M : gM} {z : aS} (hb33 : G.2.2.2 33 = some b) (hL : scL G ≤ 3072) (h0 : 0 ≤ i) (h6 : i + 6 ≤ scL G) (hc1 : cc + 5 ≤ 600000) (hc2 : cd + 1106 ≤ 7302249) (hS : lwS sh M z)
    (kk : ∀ (sh2 : gS) (M2 : gM) (z2 : aS), lwS sh2 M2 z2 → gB l G p e s m args below meth c Z room_1 yL_law cL_law 4 ret (cc + 5, cd + 1106) 1494 [(5, 33), (4, 0), (4, 711), (0, i)] [] sh2 M2) : gB l G p e s m args below meth c Z room_1 yL_law cL_law 4 ret (cc, cd) 893 [(5, 33), (4, 0), (4, 711), (0, i)] [] sh M := by
  have hI := hS.2.2.1
  refine q_aload_n (q0 := 894) (j := 1) rfl dL_law_893 rfl ?_
  refine q_aload5_n (q0 := 895) (j := 0) rfl dL_law_894 rfl ?_
  refine q_iload_n (q0 := 896) (j := 3) rfl dL_law_895 rfl ?_
  refine q_iconst (q0 := 897) rfl dL_law_896 (k := ?_)
  refine q_iadd (q0 := 898) rfl dL_law_897 (by omega) (by omega) ?_
  refine q_scld (q0 := 899) rfl hb33 (by omega) (by omega) dL_law_898 ?_
  refine q_aload5_n (q0 := 900) (j := 0) rfl dL_law_899 rfl ?_
  refine q_iload_n (q0 := 901) (j := 3) rfl dL_law_900 rfl ?_
  refine q_iconst (q0 := 902) rfl dL_law_901 (k := ?_)
  refine q_iadd (q0 := 903) rfl dL_law_902 (by omega) (by omega) ?_
  refine q_scld (q0 := 904) rfl hb33 (by omega) (by omega) dL_law_903 ?_
  refine q_callV (as := [_, _]) (rest := []) mt_X11_listing mi_X11_listing se_X11_listing ml_L_91 dL_law_904 (q0 := 907) rfl rfl (sh_0 hS.1.1) rfl rfl (sp_X11_listing hS.1 hI.1.1 (fun h h0 h1 => (hI.2.2.1 h h0 h1).1)) rfl ⟨Nat.le_of_ble_eq_true rfl, Nat.le_of_ble_eq_true rfl⟩ ⟨by show cc + 0 ≤ 600000; omega, by show cd + 0 ≤ 7302249; omega⟩ (Nat.le_of_ble_eq_true rfl) (fun r sh1 M1 hP hw1 hMw1 => ?_)
  obtain ⟨rfl, rfl, hC1, hU1, hT1⟩ := law_cls hS hP
  refine q_aload_n (q0 := 908) (j := 2) rfl dL_law_907 rfl ?_
  refine q_aload5_n (q0 := 909) (j := 0) rfl dL_law_908 rfl ?_
  refine q_iload_n (q0 := 910) (j := 3) rfl dL_law_909 rfl ?_
  refine q_iconst (q0 := 911) rfl dL_law_910 (k := ?_)
  refine q_iadd (q0 := 912) rfl dL_law_911 (by omega) (by omega) ?_
  refine q_scld (q0 := 913) rfl hb33 (by omega) (by omega) dL_law_912 ?_
  refine q_aload5_n (q0 := 914) (j := 0) rfl dL_law_913 rfl ?_
  refine q_iload_n (q0 := 915) (j := 3) rfl dL_law_914 rfl ?_
  refine q_iconst (q0 := 916) rfl dL_law_915 (k := ?_)
  refine q_iadd (q0 := 917) rfl dL_law_916 (by omega) (by omega) ?_
  refine q_scld (q0 := 918) rfl hb33 (by omega) (by omega) dL_law_917 ?_
  obtain ⟨M2, hF, hU2⟩ := (show ∃ M2, F_listing M1 (scX G (i + 1)) (scX G (i + 2)) = some (_, M2) ∧ uSt M2 _ from s_listing hU1 hI.1.1 (uRs_of hU1 hI))
  refine q_callV (as := [_, _]) (rest := [_]) mt_X12_listing mi_X12_listing se_X12_listing ml_L_94 dL_law_918 (q0 := 921) rfl rfl (sh_711 hC1.1) rfl rfl (ok_listing hC1.1 hF) rfl ⟨Nat.le_of_ble_eq_true rfl, Nat.le_of_ble_eq_true rfl⟩ ⟨by show cc + 0 + 0 ≤ 600000; omega, by show cd + 0 + 0 ≤ 7302249; omega⟩ (Nat.le_of_ble_eq_true rfl) (fun r2 sh2 M3 hP2 hw2 hMw2 => ?_)
  obtain ⟨rfl, rfl, rfl⟩ := hP2
  have hS2 := law_ref (z := z) hC1 hT1 (fr_listing hF) (by decide) (by decide) hU2 hI
  refine q_icmp_eq (q0 := 924) (tgt := 1494) rfl dL_law_921 (by decide) (fun heq => ?_) (fun hne => absurd rfl hne)
  exact gB_ck (by show _ ≤ cc + 5; first | exact Nat.le_refl _ | exact Nat.le_add_right _ _) (by show _ ≤ cd + 1106; first | exact Nat.le_refl _ | exact Nat.le_add_right _ _) (kk _ _ _ hS2)
theorem lwc_ancestor {b cc cd : Nat} {i : Int} {sh : gS} {M : gM} {z : aS} (hb33 : G.2.2.2 33 = some b) (hL : scL G ≤ 3072) (h0 : 0 ≤ i) (h6 : i + 6 ≤ scL G) (hc1 : cc + 5 ≤ 600000) (hc2 : cd + 1106 ≤ 7302249) (hS : lwS sh M z)
    (kk : ∀ (sh2 : gS) (M2 : gM) (z2 : aS), lwS sh2 M2 z2 → gB l G p e s m args below meth c Z room_1 yL_law cL_law 4 ret (cc + 5, cd + 1106) 1494 [(5, 33), (4, 0), (4, 711), (0, i)] [] sh2 M2) : gB l G p e s m args below meth c Z room_1 yL_law cL_law 4 ret (cc, cd) 926 [(5, 33), (4, 0), (4, 711), (0, i)] [] sh M := by
  have hI := hS.2.2.1
  refine q_aload_n (q0 := 927) (j := 1) rfl dL_law_926 rfl ?_
  refine q_aload5_n (q0 := 928) (j := 0) rfl dL_law_927 rfl ?_
  refine q_iload_n (q0 := 929) (j := 3) rfl dL_law_928 rfl ?_
  refine q_iconst (q0 := 930) rfl dL_law_929 (k := ?_)
  refine q_iadd (q0 := 931) rfl dL_law_930 (by omega) (by omega) ?_
  refine q_scld (q0 := 932) rfl hb33 (by omega) (by omega) dL_law_931 ?_
  refine q_aload5_n (q0 := 933) (j := 0) rfl dL_law_932 rfl ?_
  refine q_iload_n (q0 := 934) (j := 3) rfl dL_law_933 rfl ?_
  refine q_iconst (q0 := 935) rfl dL_law_934 (k := ?_)
  refine q_iadd (q0 := 936) rfl dL_law_935 (by omega) (by omega) ?_
  refine q_scld (q0 := 937) rfl hb33 (by omega) (by omega) dL_law_936 ?_
  refine q_callV (as := [_, _]) (rest := []) mt_X11_ancestor mi_X11_ancestor se_X11_ancestor ml_L_95 dL_law_937 (q0 := 940) rfl rfl (sh_0 hS.1.1) rfl rfl (sp_X11_ancestor hS.1 ) rfl ⟨Nat.le_of_ble_eq_true rfl, Nat.le_of_ble_eq_true rfl⟩ ⟨by show cc + 0 ≤ 600000; omega, by show cd + 0 ≤ 7302249; omega⟩ (Nat.le_of_ble_eq_true rfl) (fun r sh1 M1 hP hw1 hMw1 => ?_)
  obtain ⟨rfl, rfl, hC1, hU1, hT1⟩ := law_cls hS hP
  refine q_aload_n (q0 := 941) (j := 2) rfl dL_law_940 rfl ?_
  refine q_aload5_n (q0 := 942) (j := 0) rfl dL_law_941 rfl ?_
  refine q_iload_n (q0 := 943) (j := 3) rfl dL_law_942 rfl ?_
  refine q_iconst (q0 := 944) rfl dL_law_943 (k := ?_)
  refine q_iadd (q0 := 945) rfl dL_law_944 (by omega) (by omega) ?_
  refine q_scld (q0 := 946) rfl hb33 (by omega) (by omega) dL_law_945 ?_
  refine q_aload5_n (q0 := 947) (j := 0) rfl dL_law_946 rfl ?_
  refine q_iload_n (q0 := 948) (j := 3) rfl dL_law_947 rfl ?_
  refine q_iconst (q0 := 949) rfl dL_law_948 (k := ?_)
  refine q_iadd (q0 := 950) rfl dL_law_949 (by omega) (by omega) ?_
  refine q_scld (q0 := 951) rfl hb33 (by omega) (by omega) dL_law_950 ?_
  obtain ⟨M2, hF, hU2⟩ := (show ∃ M2, F_ancestor M1 (scX G (i + 1)) (scX G (i + 2)) = some (_, M2) ∧ uSt M2 _ from t_ancestor hU1 hI)
  refine q_callV (as := [_, _]) (rest := [_]) mt_X12_ancestor mi_X12_ancestor se_X12_ancestor ml_L_98 dL_law_951 (q0 := 954) rfl rfl (sh_711 hC1.1) rfl rfl (ok_ancestor hC1.1 hF) rfl ⟨Nat.le_of_ble_eq_true rfl, Nat.le_of_ble_eq_true rfl⟩ ⟨by show cc + 0 + 0 ≤ 600000; omega, by show cd + 0 + 0 ≤ 7302249; omega⟩ (Nat.le_of_ble_eq_true rfl) (fun r2 sh2 M3 hP2 hw2 hMw2 => ?_)
  obtain ⟨rfl, rfl, rfl⟩ := hP2
  have hS2 := law_ref (z := z) hC1 hT1 (fr_ancestor hF) (by decide) (by decide) hU2 hI
  refine q_icmp_eq (q0 := 957) (tgt := 1494) rfl dL_law_954 (by decide) (fun heq => ?_) (fun hne => absurd rfl hne)
  exact gB_ck (by show _ ≤ cc + 5; first | exact Nat.le_refl _ | exact Nat.le_add_right _ _) (by show _ ≤ cd + 1106; first | exact Nat.le_refl _ | exact Nat.le_add_right _ _) (kk _ _ _ hS2)
theorem lwc_base {b cc cd : Nat} {i : Int} {sh : gS} {M : gM} {z : aS} (hb33 : G.2.2.2 33 = some b) (hL : scL G ≤ 3072) (h0 : 0 ≤ i) (h6 : i + 6 ≤ scL G) (hc1 : cc + 5 ≤ 600000) (hc2 : cd + 1106 ≤ 7302249) (hS : lwS sh M z)
    (kk : ∀ (sh2 : gS) (M2 : gM) (z2 : aS), lwS sh2 M2 z2 → gB l G p e s m args below meth c Z room_1 yL_law cL_law 4 ret (cc + 5, cd + 1106) 1494 [(5, 33), (4, 0), (4, 711), (0, i)] [] sh2 M2) : gB l G p e s m args below meth c Z room_1 yL_law cL_law 4 ret (cc, cd) 959 [(5, 33), (4, 0), (4, 711), (0, i)] [] sh M := by
  have hI := hS.2.2.1
  refine q_aload_n (q0 := 960) (j := 1) rfl dL_law_959 rfl ?_
  refine q_aload5_n (q0 := 961) (j := 0) rfl dL_law_960 rfl ?_
  refine q_iload_n (q0 := 962) (j := 3) rfl dL_law_961 rfl ?_
  refine q_iconst (q0 := 963) rfl dL_law_962 (k := ?_)
  refine q_iadd (q0 := 964) rfl dL_law_963 (by omega) (by omega) ?_
  refine q_scld (q0 := 965) rfl hb33 (by omega) (by omega) dL_law_964 ?_
  refine q_aload5_n (q0 := 966) (j := 0) rfl dL_law_965 rfl ?_
  refine q_iload_n (q0 := 967) (j := 3) rfl dL_law_966 rfl ?_
  refine q_iconst (q0 := 968) rfl dL_law_967 (k := ?_)
  refine q_iadd (q0 := 969) rfl dL_law_968 (by omega) (by omega) ?_
  refine q_scld (q0 := 970) rfl hb33 (by omega) (by omega) dL_law_969 ?_
  refine q_aload5_n (q0 := 971) (j := 0) rfl dL_law_970 rfl ?_
  refine q_iload_n (q0 := 972) (j := 3) rfl dL_law_971 rfl ?_
  refine q_iconst (q0 := 973) rfl dL_law_972 (k := ?_)
  refine q_iadd (q0 := 974) rfl dL_law_973 (by omega) (by omega) ?_
  refine q_scld (q0 := 975) rfl hb33 (by omega) (by omega) dL_law_974 ?_
  refine q_callV (as := [_, _, _]) (rest := []) mt_X11_base mi_X11_base se_X11_base ml_L_99 dL_law_975 (q0 := 978) rfl rfl (sh_0 hS.1.1) rfl rfl (sp_X11_base hS.1 hI.1.1) rfl ⟨Nat.le_of_ble_eq_true rfl, Nat.le_of_ble_eq_true rfl⟩ ⟨by show cc + 0 ≤ 600000; omega, by show cd + 0 ≤ 7302249; omega⟩ (Nat.le_of_ble_eq_true rfl) (fun r sh1 M1 hP hw1 hMw1 => ?_)
  obtain ⟨rfl, rfl, hC1, hU1, hT1⟩ := law_cls hS hP
  refine q_aload_n (q0 := 979) (j := 2) rfl dL_law_978 rfl ?_
  refine q_aload5_n (q0 := 980) (j := 0) rfl dL_law_979 rfl ?_
  refine q_iload_n (q0 := 981) (j := 3) rfl dL_law_980 rfl ?_
  refine q_iconst (q0 := 982) rfl dL_law_981 (k := ?_)
  refine q_iadd (q0 := 983) rfl dL_law_982 (by omega) (by omega) ?_
  refine q_scld (q0 := 984) rfl hb33 (by omega) (by omega) dL_law_983 ?_
  refine q_aload5_n (q0 := 985) (j := 0) rfl dL_law_984 rfl ?_
  refine q_iload_n (q0 := 986) (j := 3) rfl dL_law_985 rfl ?_
  refine q_iconst (q0 := 987) rfl dL_law_986 (k := ?_)
  refine q_iadd (q0 := 988) rfl dL_law_987 (by omega) (by omega) ?_
  refine q_scld (q0 := 989) rfl hb33 (by omega) (by omega) dL_law_988 ?_
  refine q_aload5_n (q0 := 990) (j := 0) rfl dL_law_989 rfl ?_
  refine q_iload_n (q0 := 991) (j := 3) rfl dL_law_990 rfl ?_
  refine q_iconst (q0 := 992) rfl dL_law_991 (k := ?_)
  refine q_iadd (q0 := 993) rfl dL_law_992 (by omega) (by omega) ?_
  refine q_scld (q0 := 994) rfl hb33 (by omega) (by omega) dL_law_993 ?_
  obtain ⟨M2, hF, hU2⟩ := (show ∃ M2, F_base M1 (scX G (i + 1)) (scX G (i + 2)) (scX G (i + 3)) = some (_, M2) ∧ uSt M2 _ from s_base hU1 hI.1.1)
  refine q_callV (as := [_, _, _]) (rest := [_]) mt_X12_base mi_X12_base se_X12_base ml_L_102 dL_law_994 (q0 := 997) rfl rfl (sh_711 hC1.1) rfl rfl (ok_base hC1.1 hF) rfl ⟨Nat.le_of_ble_eq_true rfl, Nat.le_of_ble_eq_true rfl⟩ ⟨by show cc + 0 + 0 ≤ 600000; omega, by show cd + 0 + 0 ≤ 7302249; omega⟩ (Nat.le_of_ble_eq_true rfl) (fun r2 sh2 M3 hP2 hw2 hMw2 => ?_)
  obtain ⟨rfl, rfl, rfl⟩ := hP2
  have hS2 := law_ref (z := z) hC1 hT1 (fr_base hF) (by decide) (by decide) hU2 hI
  refine q_icmp_eq (q0 := 1000) (tgt := 1494) rfl dL_law_997 (by decide) (fun heq => ?_) (fun hne => absurd rfl hne)
  exact gB_ck (by show _ ≤ cc + 5; first | exact Nat.le_refl _ | exact Nat.le_add_right _ _) (by show _ ≤ cd + 1106; first | exact Nat.le_refl _ | exact Nat.le_add_right _ _) (kk _ _ _ hS2)
theorem lwc_way {b cc cd : Nat} {i : Int} {sh : gS} {M : gM} {z : aS} (hb33 : G.2.2.2 33 = some b) (hL : scL G ≤ 3072) (h0 : 0 ≤ i) (h6 : i + 6 ≤ scL G) (hc1 : cc + 5 ≤ 600000) (hc2 : cd + 1106 ≤ 7302249) (hS : lwS sh M z)
    (kk : ∀ (sh2 : gS) (M2 : gM) (z2 : aS), lwS sh2 M2 z2 → gB l G p e s m args below meth c Z room_1 yL_law cL_law 4 ret (cc + 5, cd + 1106) 1494 [(5, 33), (4, 0), (4, 711), (0, i)] [] sh2 M2) : gB l G p e s m args below meth c Z room_1 yL_law cL_law 4 ret (cc, cd) 1002 [(5, 33), (4, 0), (4, 711), (0, i)] [] sh M := by
  have hI := hS.2.2.1
  refine q_aload_n (q0 := 1003) (j := 1) rfl dL_law_1002 rfl ?_
  refine q_aload5_n (q0 := 1004) (j := 0) rfl dL_law_1003 rfl ?_
  refine q_iload_n (q0 := 1005) (j := 3) rfl dL_law_1004 rfl ?_
  refine q_iconst (q0 := 1006) rfl dL_law_1005 (k := ?_)
  refine q_iadd (q0 := 1007) rfl dL_law_1006 (by omega) (by omega) ?_
  refine q_scld (q0 := 1008) rfl hb33 (by omega) (by omega) dL_law_1007 ?_
  refine q_aload5_n (q0 := 1009) (j := 0) rfl dL_law_1008 rfl ?_
  refine q_iload_n (q0 := 1010) (j := 3) rfl dL_law_1009 rfl ?_
  refine q_iconst (q0 := 1011) rfl dL_law_1010 (k := ?_)
  refine q_iadd (q0 := 1012) rfl dL_law_1011 (by omega) (by omega) ?_
  refine q_scld (q0 := 1013) rfl hb33 (by omega) (by omega) dL_law_1012 ?_
  refine q_callV (as := [_, _]) (rest := []) mt_X11_way mi_X11_way se_X11_way ml_L_103 dL_law_1013 (q0 := 1016) rfl rfl (sh_0 hS.1.1) rfl rfl (sp_X11_way hS.1 ) rfl ⟨Nat.le_of_ble_eq_true rfl, Nat.le_of_ble_eq_true rfl⟩ ⟨by show cc + 0 ≤ 600000; omega, by show cd + 0 ≤ 7302249; omega⟩ (Nat.le_of_ble_eq_true rfl) (fun r sh1 M1 hP hw1 hMw1 => ?_)
  obtain ⟨rfl, rfl, hC1, hU1, hT1⟩ := law_cls hS hP
  refine q_aload_n (q0 := 1017) (j := 2) rfl dL_law_1016 rfl ?_
  refine q_aload5_n (q0 := 1018) (j := 0) rfl dL_law_1017 rfl ?_
  refine q_iload_n (q0 := 1019) (j := 3) rfl dL_law_1018 rfl ?_
  refine q_iconst (q0 := 1020) rfl dL_law_1019 (k := ?_)
  refine q_iadd (q0 := 1021) rfl dL_law_1020 (by omega) (by omega) ?_
  refine q_scld (q0 := 1022) rfl hb33 (by omega) (by omega) dL_law_1021 ?_
  refine q_aload5_n (q0 := 1023) (j := 0) rfl dL_law_1022 rfl ?_
  refine q_iload_n (q0 := 1024) (j := 3) rfl dL_law_1023 rfl ?_
  refine q_iconst (q0 := 1025) rfl dL_law_1024 (k := ?_)
  refine q_iadd (q0 := 1026) rfl dL_law_1025 (by omega) (by omega) ?_
  refine q_scld (q0 := 1027) rfl hb33 (by omega) (by omega) dL_law_1026 ?_
  obtain ⟨M2, hF, hU2⟩ := (show ∃ M2, F_way M1 (scX G (i + 1)) (scX G (i + 2)) = some (_, M2) ∧ uSt M2 _ from s_way hU1 hI.1.1)
  refine q_callV (as := [_, _]) (rest := [_]) mt_X12_way mi_X12_way se_X12_way ml_L_106 dL_law_1027 (q0 := 1030) rfl rfl (sh_711 hC1.1) rfl rfl (ok_way hC1.1 hF) rfl ⟨Nat.le_of_ble_eq_true rfl, Nat.le_of_ble_eq_true rfl⟩ ⟨by show cc + 0 + 0 ≤ 600000; omega, by show cd + 0 + 0 ≤ 7302249; omega⟩ (Nat.le_of_ble_eq_true rfl) (fun r2 sh2 M3 hP2 hw2 hMw2 => ?_)
  obtain ⟨rfl, rfl, rfl⟩ := hP2
  have hS2 := law_ref (z := z) hC1 hT1 (fr_way hF) (by decide) (by decide) hU2 hI
  refine q_icmp_eq (q0 := 1033) (tgt := 1494) rfl dL_law_1030 (by decide) (fun heq => ?_) (fun hne => absurd rfl hne)
  exact gB_ck (by show _ ≤ cc + 5; first | exact Nat.le_refl _ | exact Nat.le_add_right _ _) (by show _ ≤ cd + 1106; first | exact Nat.le_refl _ | exact Nat.le_add_right _ _) (kk _ _ _ hS2)
theorem lwc_halving {b cc cd : Nat} {i : Int} {sh : gS} {M : gM} {z : aS} (hb33 : G.2.2.2 33 = some b) (hL : scL G ≤ 3072) (h0 : 0 ≤ i) (h6 : i + 6 ≤ scL G) (hc1 : cc + 5 ≤ 600000) (hc2 : cd + 1106 ≤ 7302249) (hS : lwS sh M z)
    (kk : ∀ (sh2 : gS) (M2 : gM) (z2 : aS), lwS sh2 M2 z2 → gB l G p e s m args below meth c Z room_1 yL_law cL_law 4 ret (cc + 5, cd + 1106) 1494 [(5, 33), (4, 0), (4, 711), (0, i)] [] sh2 M2) : gB l G p e s m args below meth c Z room_1 yL_law cL_law 4 ret (cc, cd) 1035 [(5, 33), (4, 0), (4, 711), (0, i)] [] sh M := by
  have hI := hS.2.2.1
  refine q_aload_n (q0 := 1036) (j := 1) rfl dL_law_1035 rfl ?_
  refine q_aload5_n (q0 := 1037) (j := 0) rfl dL_law_1036 rfl ?_
  refine q_iload_n (q0 := 1038) (j := 3) rfl dL_law_1037 rfl ?_
  refine q_iconst (q0 := 1039) rfl dL_law_1038 (k := ?_)
  refine q_iadd (q0 := 1040) rfl dL_law_1039 (by omega) (by omega) ?_
  refine q_scld (q0 := 1041) rfl hb33 (by omega) (by omega) dL_law_1040 ?_
  refine q_aload5_n (q0 := 1042) (j := 0) rfl dL_law_1041 rfl ?_
  refine q_iload_n (q0 := 1043) (j := 3) rfl dL_law_1042 rfl ?_
  refine q_iconst (q0 := 1044) rfl dL_law_1043 (k := ?_)
  refine q_iadd (q0 := 1045) rfl dL_law_1044 (by omega) (by omega) ?_
  refine q_scld (q0 := 1046) rfl hb33 (by omega) (by omega) dL_law_1045 ?_
  refine q_aload5_n (q0 := 1047) (j := 0) rfl dL_law_1046 rfl ?_
  refine q_iload_n (q0 := 1048) (j := 3) rfl dL_law_1047 rfl ?_
  refine q_iconst (q0 := 1049) rfl dL_law_1048 (k := ?_)
  refine q_iadd (q0 := 1050) rfl dL_law_1049 (by omega) (by omega) ?_
  refine q_scld (q0 := 1051) rfl hb33 (by omega) (by omega) dL_law_1050 ?_
  refine q_callV (as := [_, _, _]) (rest := []) mt_X11_halving mi_X11_halving se_X11_halving ml_L_107 dL_law_1051 (q0 := 1054) rfl rfl (sh_0 hS.1.1) rfl rfl (sp_X11_halving hS.1 hI.1.1) rfl ⟨Nat.le_of_ble_eq_true rfl, Nat.le_of_ble_eq_true rfl⟩ ⟨by show cc + 0 ≤ 600000; omega, by show cd + 0 ≤ 7302249; omega⟩ (Nat.le_of_ble_eq_true rfl) (fun r sh1 M1 hP hw1 hMw1 => ?_)
  obtain ⟨rfl, rfl, hC1, hU1, hT1⟩ := law_cls hS hP
  refine q_aload_n (q0 := 1055) (j := 2) rfl dL_law_1054 rfl ?_
  refine q_aload5_n (q0 := 1056) (j := 0) rfl dL_law_1055 rfl ?_
  refine q_iload_n (q0 := 1057) (j := 3) rfl dL_law_1056 rfl ?_
  refine q_iconst (q0 := 1058) rfl dL_law_1057 (k := ?_)
  refine q_iadd (q0 := 1059) rfl dL_law_1058 (by omega) (by omega) ?_
  refine q_scld (q0 := 1060) rfl hb33 (by omega) (by omega) dL_law_1059 ?_
  refine q_aload5_n (q0 := 1061) (j := 0) rfl dL_law_1060 rfl ?_
  refine q_iload_n (q0 := 1062) (j := 3) rfl dL_law_1061 rfl ?_
  refine q_iconst (q0 := 1063) rfl dL_law_1062 (k := ?_)
  refine q_iadd (q0 := 1064) rfl dL_law_1063 (by omega) (by omega) ?_
  refine q_scld (q0 := 1065) rfl hb33 (by omega) (by omega) dL_law_1064 ?_
  refine q_aload5_n (q0 := 1066) (j := 0) rfl dL_law_1065 rfl ?_
  refine q_iload_n (q0 := 1067) (j := 3) rfl dL_law_1066 rfl ?_
  refine q_iconst (q0 := 1068) rfl dL_law_1067 (k := ?_)
  refine q_iadd (q0 := 1069) rfl dL_law_1068 (by omega) (by omega) ?_
  refine q_scld (q0 := 1070) rfl hb33 (by omega) (by omega) dL_law_1069 ?_
  obtain ⟨M2, hF, hU2⟩ := (show ∃ M2, F_halving M1 (scX G (i + 1)) (scX G (i + 2)) (scX G (i + 3)) = some (_, M2) ∧ uSt M2 _ from s_halving hU1 hI.1.1)
  refine q_callV (as := [_, _, _]) (rest := [_]) mt_X12_halving mi_X12_halving se_X12_halving ml_L_110 dL_law_1070 (q0 := 1073) rfl rfl (sh_711 hC1.1) rfl rfl (ok_halving hC1.1 hF) rfl ⟨Nat.le_of_ble_eq_true rfl, Nat.le_of_ble_eq_true rfl⟩ ⟨by show cc + 0 + 0 ≤ 600000; omega, by show cd + 0 + 0 ≤ 7302249; omega⟩ (Nat.le_of_ble_eq_true rfl) (fun r2 sh2 M3 hP2 hw2 hMw2 => ?_)
  obtain ⟨rfl, rfl, rfl⟩ := hP2
  have hS2 := law_ref (z := z) hC1 hT1 (fr_halving hF) (by decide) (by decide) hU2 hI
  refine q_icmp_eq (q0 := 1076) (tgt := 1494) rfl dL_law_1073 (by decide) (fun heq => ?_) (fun hne => absurd rfl hne)
  exact gB_ck (by show _ ≤ cc + 5; first | exact Nat.le_refl _ | exact Nat.le_add_right _ _) (by show _ ≤ cd + 1106; first | exact Nat.le_refl _ | exact Nat.le_add_right _ _) (kk _ _ _ hS2)
theorem lwc_diff {b cc cd : Nat} {i : Int} {sh : gS} {M : gM} {z : aS} (hb33 : G.2.2.2 33 = some b) (hL : scL G ≤ 3072) (h0 : 0 ≤ i) (h6 : i + 6 ≤ scL G) (hc1 : cc + 5 ≤ 600000) (hc2 : cd + 1106 ≤ 7302249) (hS : lwS sh M z)
    (kk : ∀ (sh2 : gS) (M2 : gM) (z2 : aS), lwS sh2 M2 z2 → gB l G p e s m args below meth c Z room_1 yL_law cL_law 4 ret (cc + 5, cd + 1106) 1494 [(5, 33), (4, 0), (4, 711), (0, i)] [] sh2 M2) : gB l G p e s m args below meth c Z room_1 yL_law cL_law 4 ret (cc, cd) 1078 [(5, 33), (4, 0), (4, 711), (0, i)] [] sh M := by
  have hI := hS.2.2.1
  refine q_aload_n (q0 := 1079) (j := 1) rfl dL_law_1078 rfl ?_
  refine q_aload5_n (q0 := 1080) (j := 0) rfl dL_law_1079 rfl ?_
  refine q_iload_n (q0 := 1081) (j := 3) rfl dL_law_1080 rfl ?_
  refine q_iconst (q0 := 1082) rfl dL_law_1081 (k := ?_)
  refine q_iadd (q0 := 1083) rfl dL_law_1082 (by omega) (by omega) ?_
  refine q_scld (q0 := 1084) rfl hb33 (by omega) (by omega) dL_law_1083 ?_
  refine q_aload5_n (q0 := 1085) (j := 0) rfl dL_law_1084 rfl ?_
  refine q_iload_n (q0 := 1086) (j := 3) rfl dL_law_1085 rfl ?_
  refine q_iconst (q0 := 1087) rfl dL_law_1086 (k := ?_)
  refine q_iadd (q0 := 1088) rfl dL_law_1087 (by omega) (by omega) ?_
  refine q_scld (q0 := 1089) rfl hb33 (by omega) (by omega) dL_law_1088 ?_
  refine q_aload5_n (q0 := 1090) (j := 0) rfl dL_law_1089 rfl ?_
  refine q_iload_n (q0 := 1091) (j := 3) rfl dL_law_1090 rfl ?_
  refine q_iconst (q0 := 1092) rfl dL_law_1091 (k := ?_)
  refine q_iadd (q0 := 1093) rfl dL_law_1092 (by omega) (by omega) ?_
  refine q_scld (q0 := 1094) rfl hb33 (by omega) (by omega) dL_law_1093 ?_
  refine q_callV (as := [_, _, _]) (rest := []) mt_X11_diff mi_X11_diff se_X11_diff ml_L_111 dL_law_1094 (q0 := 1097) rfl rfl (sh_0 hS.1.1) rfl rfl (sp_X11_diff hS.1 hI.1.1 (zI_ten hI)) rfl ⟨Nat.le_of_ble_eq_true rfl, Nat.le_of_ble_eq_true rfl⟩ ⟨by show cc + 0 ≤ 600000; omega, by show cd + 0 ≤ 7302249; omega⟩ (Nat.le_of_ble_eq_true rfl) (fun r sh1 M1 hP hw1 hMw1 => ?_)
  obtain ⟨rfl, rfl, hC1, hU1, hT1⟩ := law_cls hS hP
  refine q_aload_n (q0 := 1098) (j := 2) rfl dL_law_1097 rfl ?_
  refine q_aload5_n (q0 := 1099) (j := 0) rfl dL_law_1098 rfl ?_
  refine q_iload_n (q0 := 1100) (j := 3) rfl dL_law_1099 rfl ?_
  refine q_iconst (q0 := 1101) rfl dL_law_1100 (k := ?_)
  refine q_iadd (q0 := 1102) rfl dL_law_1101 (by omega) (by omega) ?_
  refine q_scld (q0 := 1103) rfl hb33 (by omega) (by omega) dL_law_1102 ?_
  refine q_aload5_n (q0 := 1104) (j := 0) rfl dL_law_1103 rfl ?_
  refine q_iload_n (q0 := 1105) (j := 3) rfl dL_law_1104 rfl ?_
  refine q_iconst (q0 := 1106) rfl dL_law_1105 (k := ?_)
  refine q_iadd (q0 := 1107) rfl dL_law_1106 (by omega) (by omega) ?_
  refine q_scld (q0 := 1108) rfl hb33 (by omega) (by omega) dL_law_1107 ?_
  refine q_aload5_n (q0 := 1109) (j := 0) rfl dL_law_1108 rfl ?_
  refine q_iload_n (q0 := 1110) (j := 3) rfl dL_law_1109 rfl ?_
  refine q_iconst (q0 := 1111) rfl dL_law_1110 (k := ?_)
  refine q_iadd (q0 := 1112) rfl dL_law_1111 (by omega) (by omega) ?_
  refine q_scld (q0 := 1113) rfl hb33 (by omega) (by omega) dL_law_1112 ?_
  obtain ⟨M2, hF, hU2⟩ := (show ∃ M2, F_diff M1 (scX G (i + 1)) (scX G (i + 2)) (scX G (i + 3)) = some (_, M2) ∧ uSt M2 _ from s_diff hU1 hI.1.1 (zI_ten hI))
  refine q_callV (as := [_, _, _]) (rest := [_]) mt_X12_diff mi_X12_diff se_X12_diff ml_L_114 dL_law_1113 (q0 := 1116) rfl rfl (sh_711 hC1.1) rfl rfl (ok_diff hC1.1 hF) rfl ⟨Nat.le_of_ble_eq_true rfl, Nat.le_of_ble_eq_true rfl⟩ ⟨by show cc + 0 + 0 ≤ 600000; omega, by show cd + 0 + 0 ≤ 7302249; omega⟩ (Nat.le_of_ble_eq_true rfl) (fun r2 sh2 M3 hP2 hw2 hMw2 => ?_)
  obtain ⟨rfl, rfl, rfl⟩ := hP2
  have hS2 := law_ref (z := z) hC1 hT1 (fr_diff hF) (by decide) (by decide) hU2 hI
  refine q_icmp_eq (q0 := 1119) (tgt := 1494) rfl dL_law_1116 (by decide) (fun heq => ?_) (fun hne => absurd rfl hne)
  exact gB_ck (by show _ ≤ cc + 5; first | exact Nat.le_refl _ | exact Nat.le_add_right _ _) (by show _ ≤ cd + 1106; first | exact Nat.le_refl _ | exact Nat.le_add_right _ _) (kk _ _ _ hS2)
theorem lwc_renamed {b cc cd : Nat} {i : Int} {sh : gS} {M : gM} {z : aS} (hb33 : G.2.2.2 33 = some b) (hL : scL G ≤ 3072) (h0 : 0 ≤ i) (h6 : i + 6 ≤ scL G) (hc1 : cc + 5 ≤ 600000) (hc2 : cd + 1106 ≤ 7302249) (hS : lwS sh M z)
    (kk : ∀ (sh2 : gS) (M2 : gM) (z2 : aS), lwS sh2 M2 z2 → gB l G p e s m args below meth c Z room_1 yL_law cL_law 4 ret (cc + 5, cd + 1106) 1494 [(5, 33), (4, 0), (4, 711), (0, i)] [] sh2 M2) : gB l G p e s m args below meth c Z room_1 yL_law cL_law 4 ret (cc, cd) 1121 [(5, 33), (4, 0), (4, 711), (0, i)] [] sh M := by
  have hI := hS.2.2.1
  refine q_aload_n (q0 := 1122) (j := 1) rfl dL_law_1121 rfl ?_
  refine q_aload5_n (q0 := 1123) (j := 0) rfl dL_law_1122 rfl ?_
  refine q_iload_n (q0 := 1124) (j := 3) rfl dL_law_1123 rfl ?_
  refine q_iconst (q0 := 1125) rfl dL_law_1124 (k := ?_)
  refine q_iadd (q0 := 1126) rfl dL_law_1125 (by omega) (by omega) ?_
  refine q_scld (q0 := 1127) rfl hb33 (by omega) (by omega) dL_law_1126 ?_
  refine q_aload5_n (q0 := 1128) (j := 0) rfl dL_law_1127 rfl ?_
  refine q_iload_n (q0 := 1129) (j := 3) rfl dL_law_1128 rfl ?_
  refine q_iconst (q0 := 1130) rfl dL_law_1129 (k := ?_)
  refine q_iadd (q0 := 1131) rfl dL_law_1130 (by omega) (by omega) ?_
  refine q_scld (q0 := 1132) rfl hb33 (by omega) (by omega) dL_law_1131 ?_
  refine q_aload5_n (q0 := 1133) (j := 0) rfl dL_law_1132 rfl ?_
  refine q_iload_n (q0 := 1134) (j := 3) rfl dL_law_1133 rfl ?_
  refine q_iconst (q0 := 1135) rfl dL_law_1134 (k := ?_)
  refine q_iadd (q0 := 1136) rfl dL_law_1135 (by omega) (by omega) ?_
  refine q_scld (q0 := 1137) rfl hb33 (by omega) (by omega) dL_law_1136 ?_
  refine q_aload5_n (q0 := 1138) (j := 0) rfl dL_law_1137 rfl ?_
  refine q_iload_n (q0 := 1139) (j := 3) rfl dL_law_1138 rfl ?_
  refine q_iconst (q0 := 1140) rfl dL_law_1139 (k := ?_)
  refine q_iadd (q0 := 1141) rfl dL_law_1140 (by omega) (by omega) ?_
  refine q_scld (q0 := 1142) rfl hb33 (by omega) (by omega) dL_law_1141 ?_
  refine q_callV (as := [_, _, _, _]) (rest := []) mt_X11_renamed mi_X11_renamed se_X11_renamed ml_L_115 dL_law_1142 (q0 := 1145) rfl rfl (sh_0 hS.1.1) rfl rfl (sp_X11_renamed hS.1 hI.1.1 (zI_ten hI)) rfl ⟨Nat.le_of_ble_eq_true rfl, Nat.le_of_ble_eq_true rfl⟩ ⟨by show cc + 0 ≤ 600000; omega, by show cd + 0 ≤ 7302249; omega⟩ (Nat.le_of_ble_eq_true rfl) (fun r sh1 M1 hP hw1 hMw1 => ?_)
  obtain ⟨rfl, rfl, hC1, hU1, hT1⟩ := law_cls hS hP
  refine q_aload_n (q0 := 1146) (j := 2) rfl dL_law_1145 rfl ?_
  refine q_aload5_n (q0 := 1147) (j := 0) rfl dL_law_1146 rfl ?_
  refine q_iload_n (q0 := 1148) (j := 3) rfl dL_law_1147 rfl ?_
  refine q_iconst (q0 := 1149) rfl dL_law_1148 (k := ?_)
  refine q_iadd (q0 := 1150) rfl dL_law_1149 (by omega) (by omega) ?_
  refine q_scld (q0 := 1151) rfl hb33 (by omega) (by omega) dL_law_1150 ?_
  refine q_aload5_n (q0 := 1152) (j := 0) rfl dL_law_1151 rfl ?_
  refine q_iload_n (q0 := 1153) (j := 3) rfl dL_law_1152 rfl ?_
  refine q_iconst (q0 := 1154) rfl dL_law_1153 (k := ?_)
  refine q_iadd (q0 := 1155) rfl dL_law_1154 (by omega) (by omega) ?_
  refine q_scld (q0 := 1156) rfl hb33 (by omega) (by omega) dL_law_1155 ?_
  refine q_aload5_n (q0 := 1157) (j := 0) rfl dL_law_1156 rfl ?_
  refine q_iload_n (q0 := 1158) (j := 3) rfl dL_law_1157 rfl ?_
  refine q_iconst (q0 := 1159) rfl dL_law_1158 (k := ?_)
  refine q_iadd (q0 := 1160) rfl dL_law_1159 (by omega) (by omega) ?_
  refine q_scld (q0 := 1161) rfl hb33 (by omega) (by omega) dL_law_1160 ?_
  refine q_aload5_n (q0 := 1162) (j := 0) rfl dL_law_1161 rfl ?_
  refine q_iload_n (q0 := 1163) (j := 3) rfl dL_law_1162 rfl ?_
  refine q_iconst (q0 := 1164) rfl dL_law_1163 (k := ?_)
  refine q_iadd (q0 := 1165) rfl dL_law_1164 (by omega) (by omega) ?_
  refine q_scld (q0 := 1166) rfl hb33 (by omega) (by omega) dL_law_1165 ?_
  obtain ⟨M2, hF, hU2⟩ := (show ∃ M2, F_renamed M1 (scX G (i + 1)) (scX G (i + 2)) (scX G (i + 3)) (scX G (i + 4)) = some (_, M2) ∧ uSt M2 _ from s_renamed hU1 hI.1.1 (zI_ten hI))
  refine q_callV (as := [_, _, _, _]) (rest := [_]) mt_X12_renamed mi_X12_renamed se_X12_renamed ml_L_118 dL_law_1166 (q0 := 1169) rfl rfl (sh_711 hC1.1) rfl rfl (ok_renamed hC1.1 hF) rfl ⟨Nat.le_of_ble_eq_true rfl, Nat.le_of_ble_eq_true rfl⟩ ⟨by show cc + 0 + 0 ≤ 600000; omega, by show cd + 0 + 0 ≤ 7302249; omega⟩ (Nat.le_of_ble_eq_true rfl) (fun r2 sh2 M3 hP2 hw2 hMw2 => ?_)
  obtain ⟨rfl, rfl, rfl⟩ := hP2
  have hS2 := law_ref (z := z) hC1 hT1 (fr_renamed hF) (by decide) (by decide) hU2 hI
  refine q_icmp_eq (q0 := 1172) (tgt := 1494) rfl dL_law_1169 (by decide) (fun heq => ?_) (fun hne => absurd rfl hne)
  exact gB_ck (by show _ ≤ cc + 5; first | exact Nat.le_refl _ | exact Nat.le_add_right _ _) (by show _ ≤ cd + 1106; first | exact Nat.le_refl _ | exact Nat.le_add_right _ _) (kk _ _ _ hS2)
theorem lwc_likeness {b cc cd : Nat} {i : Int} {sh : gS} {M : gM} {z : aS} (hb33 : G.2.2.2 33 = some b) (hL : scL G ≤ 3072) (h0 : 0 ≤ i) (h6 : i + 6 ≤ scL G) (hc1 : cc + 5 ≤ 600000) (hc2 : cd + 1106 ≤ 7302249) (hS : lwS sh M z)
    (kk : ∀ (sh2 : gS) (M2 : gM) (z2 : aS), lwS sh2 M2 z2 → gB l G p e s m args below meth c Z room_1 yL_law cL_law 4 ret (cc + 5, cd + 1106) 1494 [(5, 33), (4, 0), (4, 711), (0, i)] [] sh2 M2) : gB l G p e s m args below meth c Z room_1 yL_law cL_law 4 ret (cc, cd) 1174 [(5, 33), (4, 0), (4, 711), (0, i)] [] sh M := by
  have hI := hS.2.2.1
  refine q_aload_n (q0 := 1175) (j := 1) rfl dL_law_1174 rfl ?_
  refine q_aload5_n (q0 := 1176) (j := 0) rfl dL_law_1175 rfl ?_
  refine q_iload_n (q0 := 1177) (j := 3) rfl dL_law_1176 rfl ?_
  refine q_iconst (q0 := 1178) rfl dL_law_1177 (k := ?_)
  refine q_iadd (q0 := 1179) rfl dL_law_1178 (by omega) (by omega) ?_
  refine q_scld (q0 := 1180) rfl hb33 (by omega) (by omega) dL_law_1179 ?_
  refine q_aload5_n (q0 := 1181) (j := 0) rfl dL_law_1180 rfl ?_
  refine q_iload_n (q0 := 1182) (j := 3) rfl dL_law_1181 rfl ?_
  refine q_iconst (q0 := 1183) rfl dL_law_1182 (k := ?_)
  refine q_iadd (q0 := 1184) rfl dL_law_1183 (by omega) (by omega) ?_
  refine q_scld (q0 := 1185) rfl hb33 (by omega) (by omega) dL_law_1184 ?_
  refine q_aload5_n (q0 := 1186) (j := 0) rfl dL_law_1185 rfl ?_
  refine q_iload_n (q0 := 1187) (j := 3) rfl dL_law_1186 rfl ?_
  refine q_iconst (q0 := 1188) rfl dL_law_1187 (k := ?_)
  refine q_iadd (q0 := 1189) rfl dL_law_1188 (by omega) (by omega) ?_
  refine q_scld (q0 := 1190) rfl hb33 (by omega) (by omega) dL_law_1189 ?_
  refine q_aload5_n (q0 := 1191) (j := 0) rfl dL_law_1190 rfl ?_
  refine q_iload_n (q0 := 1192) (j := 3) rfl dL_law_1191 rfl ?_
  refine q_iconst (q0 := 1193) rfl dL_law_1192 (k := ?_)
  refine q_iadd (q0 := 1194) rfl dL_law_1193 (by omega) (by omega) ?_
  refine q_scld (q0 := 1195) rfl hb33 (by omega) (by omega) dL_law_1194 ?_
  refine q_aload5_n (q0 := 1196) (j := 0) rfl dL_law_1195 rfl ?_
  refine q_iload_n (q0 := 1197) (j := 3) rfl dL_law_1196 rfl ?_
  refine q_iconst (q0 := 1198) rfl dL_law_1197 (k := ?_)
  refine q_iadd (q0 := 1199) rfl dL_law_1198 (by omega) (by omega) ?_
  refine q_scld (q0 := 1200) rfl hb33 (by omega) (by omega) dL_law_1199 ?_
  refine q_callV (as := [_, _, _, _, _]) (rest := []) mt_X11_likeness mi_X11_likeness se_X11_likeness ml_L_119 dL_law_1200 (q0 := 1203) rfl rfl (sh_0 hS.1.1) rfl rfl (sp_X11_likeness hS.1 (zI_ten hI)) rfl ⟨Nat.le_of_ble_eq_true rfl, Nat.le_of_ble_eq_true rfl⟩ ⟨by show cc + 0 ≤ 600000; omega, by show cd + 0 ≤ 7302249; omega⟩ (Nat.le_of_ble_eq_true rfl) (fun r sh1 M1 hP hw1 hMw1 => ?_)
  obtain ⟨rfl, rfl, hC1, hU1, hT1⟩ := law_cls hS hP
  refine q_aload_n (q0 := 1204) (j := 2) rfl dL_law_1203 rfl ?_
  refine q_aload5_n (q0 := 1205) (j := 0) rfl dL_law_1204 rfl ?_
  refine q_iload_n (q0 := 1206) (j := 3) rfl dL_law_1205 rfl ?_
  refine q_iconst (q0 := 1207) rfl dL_law_1206 (k := ?_)
  refine q_iadd (q0 := 1208) rfl dL_law_1207 (by omega) (by omega) ?_
  refine q_scld (q0 := 1209) rfl hb33 (by omega) (by omega) dL_law_1208 ?_
  refine q_aload5_n (q0 := 1210) (j := 0) rfl dL_law_1209 rfl ?_
  refine q_iload_n (q0 := 1211) (j := 3) rfl dL_law_1210 rfl ?_
  refine q_iconst (q0 := 1212) rfl dL_law_1211 (k := ?_)
  refine q_iadd (q0 := 1213) rfl dL_law_1212 (by omega) (by omega) ?_
  refine q_scld (q0 := 1214) rfl hb33 (by omega) (by omega) dL_law_1213 ?_
  refine q_aload5_n (q0 := 1215) (j := 0) rfl dL_law_1214 rfl ?_
  refine q_iload_n (q0 := 1216) (j := 3) rfl dL_law_1215 rfl ?_
  refine q_iconst (q0 := 1217) rfl dL_law_1216 (k := ?_)
  refine q_iadd (q0 := 1218) rfl dL_law_1217 (by omega) (by omega) ?_
  refine q_scld (q0 := 1219) rfl hb33 (by omega) (by omega) dL_law_1218 ?_
  refine q_aload5_n (q0 := 1220) (j := 0) rfl dL_law_1219 rfl ?_
  refine q_iload_n (q0 := 1221) (j := 3) rfl dL_law_1220 rfl ?_
  refine q_iconst (q0 := 1222) rfl dL_law_1221 (k := ?_)
  refine q_iadd (q0 := 1223) rfl dL_law_1222 (by omega) (by omega) ?_
  refine q_scld (q0 := 1224) rfl hb33 (by omega) (by omega) dL_law_1223 ?_
  refine q_aload5_n (q0 := 1225) (j := 0) rfl dL_law_1224 rfl ?_
  refine q_iload_n (q0 := 1226) (j := 3) rfl dL_law_1225 rfl ?_
  refine q_iconst (q0 := 1227) rfl dL_law_1226 (k := ?_)
  refine q_iadd (q0 := 1228) rfl dL_law_1227 (by omega) (by omega) ?_
  refine q_scld (q0 := 1229) rfl hb33 (by omega) (by omega) dL_law_1228 ?_
  obtain ⟨M2, hF, hU2⟩ := (show ∃ M2, F_likeness M1 (scX G (i + 1)) (scX G (i + 2)) (scX G (i + 3)) (scX G (i + 4)) (scX G (i + 5)) = some (_, M2) ∧ uSt M2 _ from s_likeness hU1 (zI_ten hI))
  refine q_callV (as := [_, _, _, _, _]) (rest := [_]) mt_X12_likeness mi_X12_likeness se_X12_likeness ml_L_122 dL_law_1229 (q0 := 1232) rfl rfl (sh_711 hC1.1) rfl rfl (ok_likeness hC1.1 hF) rfl ⟨Nat.le_of_ble_eq_true rfl, Nat.le_of_ble_eq_true rfl⟩ ⟨by show cc + 0 + 0 ≤ 600000; omega, by show cd + 0 + 0 ≤ 7302249; omega⟩ (Nat.le_of_ble_eq_true rfl) (fun r2 sh2 M3 hP2 hw2 hMw2 => ?_)
  obtain ⟨rfl, rfl, rfl⟩ := hP2
  have hS2 := law_ref (z := z) hC1 hT1 (fr_likeness hF) (by decide) (by decide) hU2 hI
  refine q_icmp_eq (q0 := 1235) (tgt := 1494) rfl dL_law_1232 (by decide) (fun heq => ?_) (fun hne => absurd rfl hne)
  exact gB_ck (by show _ ≤ cc + 5; first | exact Nat.le_refl _ | exact Nat.le_add_right _ _) (by show _ ≤ cd + 1106; first | exact Nat.le_refl _ | exact Nat.le_add_right _ _) (kk _ _ _ hS2)
theorem lwc_origin {b cc cd : Nat} {i : Int} {sh : gS} {M : gM} {z : aS} (hb33 : G.2.2.2 33 = some b) (hL : scL G ≤ 3072) (h0 : 0 ≤ i) (h6 : i + 6 ≤ scL G) (hc1 : cc + 5 ≤ 600000) (hc2 : cd + 1106 ≤ 7302249) (hS : lwS sh M z)
    (kk : ∀ (sh2 : gS) (M2 : gM) (z2 : aS), lwS sh2 M2 z2 → gB l G p e s m args below meth c Z room_1 yL_law cL_law 4 ret (cc + 5, cd + 1106) 1494 [(5, 33), (4, 0), (4, 711), (0, i)] [] sh2 M2) : gB l G p e s m args below meth c Z room_1 yL_law cL_law 4 ret (cc, cd) 1237 [(5, 33), (4, 0), (4, 711), (0, i)] [] sh M := by
  have hI := hS.2.2.1
  refine q_aload_n (q0 := 1238) (j := 1) rfl dL_law_1237 rfl ?_
  refine q_aload5_n (q0 := 1239) (j := 0) rfl dL_law_1238 rfl ?_
  refine q_iload_n (q0 := 1240) (j := 3) rfl dL_law_1239 rfl ?_
  refine q_iconst (q0 := 1241) rfl dL_law_1240 (k := ?_)
  refine q_iadd (q0 := 1242) rfl dL_law_1241 (by omega) (by omega) ?_
  refine q_scld (q0 := 1243) rfl hb33 (by omega) (by omega) dL_law_1242 ?_
  refine q_aload5_n (q0 := 1244) (j := 0) rfl dL_law_1243 rfl ?_
  refine q_iload_n (q0 := 1245) (j := 3) rfl dL_law_1244 rfl ?_
  refine q_iconst (q0 := 1246) rfl dL_law_1245 (k := ?_)
  refine q_iadd (q0 := 1247) rfl dL_law_1246 (by omega) (by omega) ?_
  refine q_scld (q0 := 1248) rfl hb33 (by omega) (by omega) dL_law_1247 ?_
  refine q_aload5_n (q0 := 1249) (j := 0) rfl dL_law_1248 rfl ?_
  refine q_iload_n (q0 := 1250) (j := 3) rfl dL_law_1249 rfl ?_
  refine q_iconst (q0 := 1251) rfl dL_law_1250 (k := ?_)
  refine q_iadd (q0 := 1252) rfl dL_law_1251 (by omega) (by omega) ?_
  refine q_scld (q0 := 1253) rfl hb33 (by omega) (by omega) dL_law_1252 ?_
  refine q_callV (as := [_, _, _]) (rest := []) mt_X11_origin mi_X11_origin se_X11_origin ml_L_123 dL_law_1253 (q0 := 1256) rfl rfl (sh_0 hS.1.1) rfl rfl (sp_X11_origin hS.1 hI.1.1 (zI_ten hI)) rfl ⟨Nat.le_of_ble_eq_true rfl, Nat.le_of_ble_eq_true rfl⟩ ⟨by show cc + 0 ≤ 600000; omega, by show cd + 0 ≤ 7302249; omega⟩ (Nat.le_of_ble_eq_true rfl) (fun r sh1 M1 hP hw1 hMw1 => ?_)
  obtain ⟨rfl, rfl, hC1, hU1, hT1⟩ := law_cls hS hP
  refine q_aload_n (q0 := 1257) (j := 2) rfl dL_law_1256 rfl ?_
  refine q_aload5_n (q0 := 1258) (j := 0) rfl dL_law_1257 rfl ?_
  refine q_iload_n (q0 := 1259) (j := 3) rfl dL_law_1258 rfl ?_
  refine q_iconst (q0 := 1260) rfl dL_law_1259 (k := ?_)
  refine q_iadd (q0 := 1261) rfl dL_law_1260 (by omega) (by omega) ?_
  refine q_scld (q0 := 1262) rfl hb33 (by omega) (by omega) dL_law_1261 ?_
  refine q_aload5_n (q0 := 1263) (j := 0) rfl dL_law_1262 rfl ?_
  refine q_iload_n (q0 := 1264) (j := 3) rfl dL_law_1263 rfl ?_
  refine q_iconst (q0 := 1265) rfl dL_law_1264 (k := ?_)
  refine q_iadd (q0 := 1266) rfl dL_law_1265 (by omega) (by omega) ?_
  refine q_scld (q0 := 1267) rfl hb33 (by omega) (by omega) dL_law_1266 ?_
  refine q_aload5_n (q0 := 1268) (j := 0) rfl dL_law_1267 rfl ?_
  refine q_iload_n (q0 := 1269) (j := 3) rfl dL_law_1268 rfl ?_
  refine q_iconst (q0 := 1270) rfl dL_law_1269 (k := ?_)
  refine q_iadd (q0 := 1271) rfl dL_law_1270 (by omega) (by omega) ?_
  refine q_scld (q0 := 1272) rfl hb33 (by omega) (by omega) dL_law_1271 ?_
  obtain ⟨M2, hF, hU2⟩ := (show ∃ M2, F_origin M1 (scX G (i + 1)) (scX G (i + 2)) (scX G (i + 3)) = some (_, M2) ∧ uSt M2 _ from s_origin hU1 hI.1.1 (zI_ten hI))
  refine q_callV (as := [_, _, _]) (rest := [_]) mt_X12_origin mi_X12_origin se_X12_origin ml_L_126 dL_law_1272 (q0 := 1275) rfl rfl (sh_711 hC1.1) rfl rfl (ok_origin hC1.1 hF) rfl ⟨Nat.le_of_ble_eq_true rfl, Nat.le_of_ble_eq_true rfl⟩ ⟨by show cc + 0 + 0 ≤ 600000; omega, by show cd + 0 + 0 ≤ 7302249; omega⟩ (Nat.le_of_ble_eq_true rfl) (fun r2 sh2 M3 hP2 hw2 hMw2 => ?_)
  obtain ⟨rfl, rfl, rfl⟩ := hP2
  have hS2 := law_ref (z := z) hC1 hT1 (fr_origin hF) (by decide) (by decide) hU2 hI
  refine q_icmp_eq (q0 := 1278) (tgt := 1494) rfl dL_law_1275 (by decide) (fun heq => ?_) (fun hne => absurd rfl hne)
  exact gB_ck (by show _ ≤ cc + 5; first | exact Nat.le_refl _ | exact Nat.le_add_right _ _) (by show _ ≤ cd + 1106; first | exact Nat.le_refl _ | exact Nat.le_add_right _ _) (kk _ _ _ hS2)
theorem lwc_touches {b cc cd : Nat} {i : Int} {sh : gS} {M : gM} {z : aS} (hb33 : G.2.2.2 33 = some b) (hL : scL G ≤ 3072) (h0 : 0 ≤ i) (h6 : i + 6 ≤ scL G) (hc1 : cc + 5 ≤ 600000) (hc2 : cd + 1106 ≤ 7302249) (hS : lwS sh M z)
    (kk : ∀ (sh2 : gS) (M2 : gM) (z2 : aS), lwS sh2 M2 z2 → gB l G p e s m args below meth c Z room_1 yL_law cL_law 4 ret (cc + 5, cd + 1106) 1494 [(5, 33), (4, 0), (4, 711), (0, i)] [] sh2 M2) : gB l G p e s m args below meth c Z room_1 yL_law cL_law 4 ret (cc, cd) 1280 [(5, 33), (4, 0), (4, 711), (0, i)] [] sh M := by
  have hI := hS.2.2.1
  refine q_aload_n (q0 := 1281) (j := 1) rfl dL_law_1280 rfl ?_
  refine q_aload5_n (q0 := 1282) (j := 0) rfl dL_law_1281 rfl ?_
  refine q_iload_n (q0 := 1283) (j := 3) rfl dL_law_1282 rfl ?_
  refine q_iconst (q0 := 1284) rfl dL_law_1283 (k := ?_)
  refine q_iadd (q0 := 1285) rfl dL_law_1284 (by omega) (by omega) ?_
  refine q_scld (q0 := 1286) rfl hb33 (by omega) (by omega) dL_law_1285 ?_
  refine q_aload5_n (q0 := 1287) (j := 0) rfl dL_law_1286 rfl ?_
  refine q_iload_n (q0 := 1288) (j := 3) rfl dL_law_1287 rfl ?_
  refine q_iconst (q0 := 1289) rfl dL_law_1288 (k := ?_)
  refine q_iadd (q0 := 1290) rfl dL_law_1289 (by omega) (by omega) ?_
  refine q_scld (q0 := 1291) rfl hb33 (by omega) (by omega) dL_law_1290 ?_
  refine q_callV (as := [_, _]) (rest := []) mt_X11_touches mi_X11_touches se_X11_touches ml_L_127 dL_law_1291 (q0 := 1294) rfl rfl (sh_0 hS.1.1) rfl rfl (sp_X11_touches hS.1 (fun h h0 h1 => (hI.2.2.1 h h0 h1).1)) rfl ⟨Nat.le_of_ble_eq_true rfl, Nat.le_of_ble_eq_true rfl⟩ ⟨by show cc + 0 ≤ 600000; omega, by show cd + 0 ≤ 7302249; omega⟩ (Nat.le_of_ble_eq_true rfl) (fun r sh1 M1 hP hw1 hMw1 => ?_)
  obtain ⟨rfl, rfl, hC1, hU1, hT1⟩ := law_cls hS hP
  refine q_aload_n (q0 := 1295) (j := 2) rfl dL_law_1294 rfl ?_
  refine q_aload5_n (q0 := 1296) (j := 0) rfl dL_law_1295 rfl ?_
  refine q_iload_n (q0 := 1297) (j := 3) rfl dL_law_1296 rfl ?_
  refine q_iconst (q0 := 1298) rfl dL_law_1297 (k := ?_)
  refine q_iadd (q0 := 1299) rfl dL_law_1298 (by omega) (by omega) ?_
  refine q_scld (q0 := 1300) rfl hb33 (by omega) (by omega) dL_law_1299 ?_
  refine q_aload5_n (q0 := 1301) (j := 0) rfl dL_law_1300 rfl ?_
  refine q_iload_n (q0 := 1302) (j := 3) rfl dL_law_1301 rfl ?_
  refine q_iconst (q0 := 1303) rfl dL_law_1302 (k := ?_)
  refine q_iadd (q0 := 1304) rfl dL_law_1303 (by omega) (by omega) ?_
  refine q_scld (q0 := 1305) rfl hb33 (by omega) (by omega) dL_law_1304 ?_
  obtain ⟨M2, hF, hU2⟩ := (show ∃ M2, F_touches M1 (scX G (i + 1)) (scX G (i + 2)) = some (_, M2) ∧ uSt M2 _ from s_touches hU1 hI.1 hI.2.2.1)
  refine q_callV (as := [_, _]) (rest := [_]) mt_X12_touches mi_X12_touches se_X12_touches ml_L_130 dL_law_1305 (q0 := 1308) rfl rfl (sh_711 hC1.1) rfl rfl (ok_touches hC1.1 hF) rfl ⟨Nat.le_of_ble_eq_true rfl, Nat.le_of_ble_eq_true rfl⟩ ⟨by show cc + 0 + 0 ≤ 600000; omega, by show cd + 0 + 0 ≤ 7302249; omega⟩ (Nat.le_of_ble_eq_true rfl) (fun r2 sh2 M3 hP2 hw2 hMw2 => ?_)
  obtain ⟨rfl, rfl, rfl⟩ := hP2
  have hS2 := law_ref (z := z) hC1 hT1 (fr_touches hF) (by decide) (by decide) hU2 (zI_tape hI _)
  refine q_icmp_eq (q0 := 1311) (tgt := 1494) rfl dL_law_1308 (by decide) (fun heq => ?_) (fun hne => absurd rfl hne)
  exact gB_ck (by show _ ≤ cc + 5; first | exact Nat.le_refl _ | exact Nat.le_add_right _ _) (by show _ ≤ cd + 1106; first | exact Nat.le_refl _ | exact Nat.le_add_right _ _) (kk _ _ _ hS2)
theorem lwc_apart {b cc cd : Nat} {i : Int} {sh : gS} {M : gM} {z : aS} (hb33 : G.2.2.2 33 = some b) (hL : scL G ≤ 3072) (h0 : 0 ≤ i) (h6 : i + 6 ≤ scL G) (hc1 : cc + 5 ≤ 600000) (hc2 : cd + 1106 ≤ 7302249) (hS : lwS sh M z)
    (kk : ∀ (sh2 : gS) (M2 : gM) (z2 : aS), lwS sh2 M2 z2 → gB l G p e s m args below meth c Z room_1 yL_law cL_law 4 ret (cc + 5, cd + 1106) 1494 [(5, 33), (4, 0), (4, 711), (0, i)] [] sh2 M2) : gB l G p e s m args below meth c Z room_1 yL_law cL_law 4 ret (cc, cd) 1313 [(5, 33), (4, 0), (4, 711), (0, i)] [] sh M := by
  have hI := hS.2.2.1
  refine q_aload_n (q0 := 1314) (j := 1) rfl dL_law_1313 rfl ?_
  refine q_aload5_n (q0 := 1315) (j := 0) rfl dL_law_1314 rfl ?_
  refine q_iload_n (q0 := 1316) (j := 3) rfl dL_law_1315 rfl ?_
  refine q_iconst (q0 := 1317) rfl dL_law_1316 (k := ?_)
  refine q_iadd (q0 := 1318) rfl dL_law_1317 (by omega) (by omega) ?_
  refine q_scld (q0 := 1319) rfl hb33 (by omega) (by omega) dL_law_1318 ?_
  refine q_aload5_n (q0 := 1320) (j := 0) rfl dL_law_1319 rfl ?_
  refine q_iload_n (q0 := 1321) (j := 3) rfl dL_law_1320 rfl ?_
  refine q_iconst (q0 := 1322) rfl dL_law_1321 (k := ?_)
  refine q_iadd (q0 := 1323) rfl dL_law_1322 (by omega) (by omega) ?_
  refine q_scld (q0 := 1324) rfl hb33 (by omega) (by omega) dL_law_1323 ?_
  refine q_aload5_n (q0 := 1325) (j := 0) rfl dL_law_1324 rfl ?_
  refine q_iload_n (q0 := 1326) (j := 3) rfl dL_law_1325 rfl ?_
  refine q_iconst (q0 := 1327) rfl dL_law_1326 (k := ?_)
  refine q_iadd (q0 := 1328) rfl dL_law_1327 (by omega) (by omega) ?_
  refine q_scld (q0 := 1329) rfl hb33 (by omega) (by omega) dL_law_1328 ?_
  refine q_callV (as := [_, _, _]) (rest := []) mt_X11_apart mi_X11_apart se_X11_apart ml_L_131 dL_law_1329 (q0 := 1332) rfl rfl (sh_0 hS.1.1) rfl rfl (sp_X11_apart hS.1 hI.1.1 (fun h h0 h1 => (hI.2.2.1 h h0 h1).1)) rfl ⟨Nat.le_of_ble_eq_true rfl, Nat.le_of_ble_eq_true rfl⟩ ⟨by show cc + 0 ≤ 600000; omega, by show cd + 0 ≤ 7302249; omega⟩ (Nat.le_of_ble_eq_true rfl) (fun r sh1 M1 hP hw1 hMw1 => ?_)
  obtain ⟨rfl, rfl, hC1, hU1, hT1⟩ := law_cls hS hP
  refine q_aload_n (q0 := 1333) (j := 2) rfl dL_law_1332 rfl ?_
  refine q_aload5_n (q0 := 1334) (j := 0) rfl dL_law_1333 rfl ?_
  refine q_iload_n (q0 := 1335) (j := 3) rfl dL_law_1334 rfl ?_
  refine q_iconst (q0 := 1336) rfl dL_law_1335 (k := ?_)
  refine q_iadd (q0 := 1337) rfl dL_law_1336 (by omega) (by omega) ?_
  refine q_scld (q0 := 1338) rfl hb33 (by omega) (by omega) dL_law_1337 ?_
  refine q_aload5_n (q0 := 1339) (j := 0) rfl dL_law_1338 rfl ?_
  refine q_iload_n (q0 := 1340) (j := 3) rfl dL_law_1339 rfl ?_
  refine q_iconst (q0 := 1341) rfl dL_law_1340 (k := ?_)
  refine q_iadd (q0 := 1342) rfl dL_law_1341 (by omega) (by omega) ?_
  refine q_scld (q0 := 1343) rfl hb33 (by omega) (by omega) dL_law_1342 ?_
  refine q_aload5_n (q0 := 1344) (j := 0) rfl dL_law_1343 rfl ?_
  refine q_iload_n (q0 := 1345) (j := 3) rfl dL_law_1344 rfl ?_
  refine q_iconst (q0 := 1346) rfl dL_law_1345 (k := ?_)
  refine q_iadd (q0 := 1347) rfl dL_law_1346 (by omega) (by omega) ?_
  refine q_scld (q0 := 1348) rfl hb33 (by omega) (by omega) dL_law_1347 ?_
  obtain ⟨M2, hF, hU2⟩ := (show ∃ M2, F_apart M1 (scX G (i + 1)) (scX G (i + 2)) (scX G (i + 3)) = some (_, M2) ∧ uSt M2 _ from s_apart hU1 hI.1.1 (uRs_of hU1 hI))
  refine q_callV (as := [_, _, _]) (rest := [_]) mt_X12_apart mi_X12_apart se_X12_apart ml_L_134 dL_law_1348 (q0 := 1351) rfl rfl (sh_711 hC1.1) rfl rfl (ok_apart hC1.1 hF) rfl ⟨Nat.le_of_ble_eq_true rfl, Nat.le_of_ble_eq_true rfl⟩ ⟨by show cc + 0 + 0 ≤ 600000; omega, by show cd + 0 + 0 ≤ 7302249; omega⟩ (Nat.le_of_ble_eq_true rfl) (fun r2 sh2 M3 hP2 hw2 hMw2 => ?_)
  obtain ⟨rfl, rfl, rfl⟩ := hP2
  have hS2 := law_ref (z := z) hC1 hT1 (fr_apart hF) (by decide) (by decide) hU2 hI
  refine q_icmp_eq (q0 := 1354) (tgt := 1494) rfl dL_law_1351 (by decide) (fun heq => ?_) (fun hne => absurd rfl hne)
  exact gB_ck (by show _ ≤ cc + 5; first | exact Nat.le_refl _ | exact Nat.le_add_right _ _) (by show _ ≤ cd + 1106; first | exact Nat.le_refl _ | exact Nat.le_add_right _ _) (kk _ _ _ hS2)
theorem lwc_picked {b cc cd : Nat} {i : Int} {sh : gS} {M : gM} {z : aS} (hb33 : G.2.2.2 33 = some b) (hL : scL G ≤ 3072) (h0 : 0 ≤ i) (h6 : i + 6 ≤ scL G) (hc1 : cc + 5 ≤ 600000) (hc2 : cd + 1106 ≤ 7302249) (hS : lwS sh M z)
    (kk : ∀ (sh2 : gS) (M2 : gM) (z2 : aS), lwS sh2 M2 z2 → gB l G p e s m args below meth c Z room_1 yL_law cL_law 4 ret (cc + 5, cd + 1106) 1494 [(5, 33), (4, 0), (4, 711), (0, i)] [] sh2 M2) : gB l G p e s m args below meth c Z room_1 yL_law cL_law 4 ret (cc, cd) 1356 [(5, 33), (4, 0), (4, 711), (0, i)] [] sh M := by
  have hI := hS.2.2.1
  refine q_aload_n (q0 := 1357) (j := 1) rfl dL_law_1356 rfl ?_
  refine q_aload5_n (q0 := 1358) (j := 0) rfl dL_law_1357 rfl ?_
  refine q_iload_n (q0 := 1359) (j := 3) rfl dL_law_1358 rfl ?_
  refine q_iconst (q0 := 1360) rfl dL_law_1359 (k := ?_)
  refine q_iadd (q0 := 1361) rfl dL_law_1360 (by omega) (by omega) ?_
  refine q_scld (q0 := 1362) rfl hb33 (by omega) (by omega) dL_law_1361 ?_
  refine q_aload5_n (q0 := 1363) (j := 0) rfl dL_law_1362 rfl ?_
  refine q_iload_n (q0 := 1364) (j := 3) rfl dL_law_1363 rfl ?_
  refine q_iconst (q0 := 1365) rfl dL_law_1364 (k := ?_)
  refine q_iadd (q0 := 1366) rfl dL_law_1365 (by omega) (by omega) ?_
  refine q_scld (q0 := 1367) rfl hb33 (by omega) (by omega) dL_law_1366 ?_
  refine q_callV (as := [_, _]) (rest := []) mt_X11_picked mi_X11_picked se_X11_picked ml_L_135 dL_law_1367 (q0 := 1370) rfl rfl (sh_0 hS.1.1) rfl rfl (sp_X11_picked hS.1 hI.1.1 (fun h h0 h1 => (hI.2.2.1 h h0 h1).1)) rfl ⟨Nat.le_of_ble_eq_true rfl, Nat.le_of_ble_eq_true rfl⟩ ⟨by show cc + 0 ≤ 600000; omega, by show cd + 0 ≤ 7302249; omega⟩ (Nat.le_of_ble_eq_true rfl) (fun r sh1 M1 hP hw1 hMw1 => ?_)
  obtain ⟨rfl, rfl, hC1, hU1, hT1⟩ := law_cls hS hP
  refine q_aload_n (q0 := 1371) (j := 2) rfl dL_law_1370 rfl ?_
  refine q_aload5_n (q0 := 1372) (j := 0) rfl dL_law_1371 rfl ?_
  refine q_iload_n (q0 := 1373) (j := 3) rfl dL_law_1372 rfl ?_
  refine q_iconst (q0 := 1374) rfl dL_law_1373 (k := ?_)
  refine q_iadd (q0 := 1375) rfl dL_law_1374 (by omega) (by omega) ?_
  refine q_scld (q0 := 1376) rfl hb33 (by omega) (by omega) dL_law_1375 ?_
  refine q_aload5_n (q0 := 1377) (j := 0) rfl dL_law_1376 rfl ?_
  refine q_iload_n (q0 := 1378) (j := 3) rfl dL_law_1377 rfl ?_
  refine q_iconst (q0 := 1379) rfl dL_law_1378 (k := ?_)
  refine q_iadd (q0 := 1380) rfl dL_law_1379 (by omega) (by omega) ?_
  refine q_scld (q0 := 1381) rfl hb33 (by omega) (by omega) dL_law_1380 ?_
  obtain ⟨M2, hF, hU2⟩ := (show ∃ M2, F_picked M1 (scX G (i + 1)) (scX G (i + 2)) = some (_, M2) ∧ uSt M2 _ from s_picked hU1 hI.1.1 hI.2.2.1)
  refine q_callV (as := [_, _]) (rest := [_]) mt_X12_picked mi_X12_picked se_X12_picked ml_L_138 dL_law_1381 (q0 := 1384) rfl rfl (sh_711 hC1.1) rfl rfl (ok_picked hC1.1 hF) rfl ⟨Nat.le_of_ble_eq_true rfl, Nat.le_of_ble_eq_true rfl⟩ ⟨by show cc + 0 + 0 ≤ 600000; omega, by show cd + 0 + 0 ≤ 7302249; omega⟩ (Nat.le_of_ble_eq_true rfl) (fun r2 sh2 M3 hP2 hw2 hMw2 => ?_)
  obtain ⟨rfl, rfl, rfl⟩ := hP2
  have hS2 := law_ref (z := z) hC1 hT1 (fr_picked hF) (by decide) (by decide) hU2 hI
  refine q_icmp_eq (q0 := 1387) (tgt := 1494) rfl dL_law_1384 (by decide) (fun heq => ?_) (fun hne => absurd rfl hne)
  exact gB_ck (by show _ ≤ cc + 5; first | exact Nat.le_refl _ | exact Nat.le_add_right _ _) (by show _ ≤ cd + 1106; first | exact Nat.le_refl _ | exact Nat.le_add_right _ _) (kk _ _ _ hS2)
theorem lwc_line {b cc cd : Nat} {i : Int} {sh : gS} {M : gM} {z : aS} (hb33 : G.2.2.2 33 = some b) (hL : scL G ≤ 3072) (h0 : 0 ≤ i) (h6 : i + 6 ≤ scL G) (hc1 : cc + 5 ≤ 600000) (hc2 : cd + 1106 ≤ 7302249) (hS : lwS sh M z)
    (kk : ∀ (sh2 : gS) (M2 : gM) (z2 : aS), lwS sh2 M2 z2 → gB l G p e s m args below meth c Z room_1 yL_law cL_law 4 ret (cc + 5, cd + 1106) 1494 [(5, 33), (4, 0), (4, 711), (0, i)] [] sh2 M2) : gB l G p e s m args below meth c Z room_1 yL_law cL_law 4 ret (cc, cd) 1389 [(5, 33), (4, 0), (4, 711), (0, i)] [] sh M := by
  have hI := hS.2.2.1
  refine q_aload_n (q0 := 1390) (j := 1) rfl dL_law_1389 rfl ?_
  refine q_aload5_n (q0 := 1391) (j := 0) rfl dL_law_1390 rfl ?_
  refine q_iload_n (q0 := 1392) (j := 3) rfl dL_law_1391 rfl ?_
  refine q_iconst (q0 := 1393) rfl dL_law_1392 (k := ?_)
  refine q_iadd (q0 := 1394) rfl dL_law_1393 (by omega) (by omega) ?_
  refine q_scld (q0 := 1395) rfl hb33 (by omega) (by omega) dL_law_1394 ?_
  refine q_aload5_n (q0 := 1396) (j := 0) rfl dL_law_1395 rfl ?_
  refine q_iload_n (q0 := 1397) (j := 3) rfl dL_law_1396 rfl ?_
  refine q_iconst (q0 := 1398) rfl dL_law_1397 (k := ?_)
  refine q_iadd (q0 := 1399) rfl dL_law_1398 (by omega) (by omega) ?_
  refine q_scld (q0 := 1400) rfl hb33 (by omega) (by omega) dL_law_1399 ?_
  refine q_callV (as := [_, _]) (rest := []) mt_X11_line mi_X11_line se_X11_line ml_L_139 dL_law_1400 (q0 := 1403) rfl rfl (sh_0 hS.1.1) rfl rfl (sp_X11_line hS.1 ) rfl ⟨Nat.le_of_ble_eq_true rfl, Nat.le_of_ble_eq_true rfl⟩ ⟨by show cc + 0 ≤ 600000; omega, by show cd + 0 ≤ 7302249; omega⟩ (Nat.le_of_ble_eq_true rfl) (fun r sh1 M1 hP hw1 hMw1 => ?_)
  obtain ⟨rfl, rfl, hC1, hU1, hT1⟩ := law_cls hS hP
  refine q_aload_n (q0 := 1404) (j := 2) rfl dL_law_1403 rfl ?_
  refine q_aload5_n (q0 := 1405) (j := 0) rfl dL_law_1404 rfl ?_
  refine q_iload_n (q0 := 1406) (j := 3) rfl dL_law_1405 rfl ?_
  refine q_iconst (q0 := 1407) rfl dL_law_1406 (k := ?_)
  refine q_iadd (q0 := 1408) rfl dL_law_1407 (by omega) (by omega) ?_
  refine q_scld (q0 := 1409) rfl hb33 (by omega) (by omega) dL_law_1408 ?_
  refine q_aload5_n (q0 := 1410) (j := 0) rfl dL_law_1409 rfl ?_
  refine q_iload_n (q0 := 1411) (j := 3) rfl dL_law_1410 rfl ?_
  refine q_iconst (q0 := 1412) rfl dL_law_1411 (k := ?_)
  refine q_iadd (q0 := 1413) rfl dL_law_1412 (by omega) (by omega) ?_
  refine q_scld (q0 := 1414) rfl hb33 (by omega) (by omega) dL_law_1413 ?_
  have hF := (show F_line M1 (scX G (i + 1)) (scX G (i + 2)) = _ from s_line (cs := aCs z) hU1.1 hI.1.1)
  refine q_callV (as := [_, _]) (rest := [_]) mt_X12_line mi_X12_line se_X12_line ml_L_142 dL_law_1414 (q0 := 1417) rfl rfl (sh_711 hC1.1) rfl rfl (ok_line hC1.1 hF) rfl ⟨Nat.le_of_ble_eq_true rfl, Nat.le_of_ble_eq_true rfl⟩ ⟨by show cc + 0 + 0 ≤ 600000; omega, by show cd + 0 + 0 ≤ 7302249; omega⟩ (Nat.le_of_ble_eq_true rfl) (fun r2 sh2 M3 hP2 hw2 hMw2 => ?_)
  obtain ⟨rfl, rfl, rfl⟩ := hP2
  have hS2 := law_same hC1 hT1 hU1 hI
  refine q_icmp_eq (q0 := 1420) (tgt := 1494) rfl dL_law_1417 (by decide) (fun heq => ?_) (fun hne => absurd rfl hne)
  exact gB_ck (by show _ ≤ cc + 5; first | exact Nat.le_refl _ | exact Nat.le_add_right _ _) (by show _ ≤ cd + 1106; first | exact Nat.le_refl _ | exact Nat.le_add_right _ _) (kk _ _ _ hS2)
theorem lwc_keep {b cc cd : Nat} {i : Int} {sh : gS} {M : gM} {z : aS} (hb33 : G.2.2.2 33 = some b) (hL : scL G ≤ 3072) (h0 : 0 ≤ i) (h6 : i + 6 ≤ scL G) (hc1 : cc + 5 ≤ 600000) (hc2 : cd + 1106 ≤ 7302249) (hS : lwS sh M z)
    (kk : ∀ (sh2 : gS) (M2 : gM) (z2 : aS), lwS sh2 M2 z2 → gB l G p e s m args below meth c Z room_1 yL_law cL_law 4 ret (cc + 5, cd + 1106) 1494 [(5, 33), (4, 0), (4, 711), (0, i)] [] sh2 M2) : gB l G p e s m args below meth c Z room_1 yL_law cL_law 4 ret (cc, cd) 1422 [(5, 33), (4, 0), (4, 711), (0, i)] [] sh M := by
  have hI := hS.2.2.1
  refine q_aload_n (q0 := 1423) (j := 1) rfl dL_law_1422 rfl ?_
  refine q_callV (as := []) (rest := []) mt_X11_keep mi_X11_keep se_X11_keep ml_L_143 dL_law_1423 (q0 := 1426) rfl rfl (sh_0 hS.1.1) rfl rfl (sp_X11_keep hS.1 (fun p p0 p1 => plInv_gd (hI.2.2.2.1 p p0 p1))) rfl ⟨Nat.le_of_ble_eq_true rfl, Nat.le_of_ble_eq_true rfl⟩ ⟨by show cc + 0 ≤ 600000; omega, by show cd + 0 ≤ 7302249; omega⟩ (Nat.le_of_ble_eq_true rfl) (fun r sh1 M1 hP hw1 hMw1 => ?_)
  obtain ⟨rfl, rfl, hC1, hU1, hT1⟩ := law_cls hS hP
  refine q_aload_n (q0 := 1427) (j := 2) rfl dL_law_1426 rfl ?_
  obtain ⟨M2, hF, hU2⟩ := (show ∃ M2, F_keep M1  = some (_, M2) ∧ uSt M2 _ from s_keep hU1)
  refine q_callV (as := []) (rest := [_]) mt_X12_keep mi_X12_keep se_X12_keep ml_L_147 dL_law_1427 (q0 := 1430) rfl rfl (sh_711 hC1.1) rfl rfl (ok_keep hC1.1 hF) rfl ⟨Nat.le_of_ble_eq_true rfl, Nat.le_of_ble_eq_true rfl⟩ ⟨by show cc + 0 + 0 ≤ 600000; omega, by show cd + 0 + 0 ≤ 7302249; omega⟩ (Nat.le_of_ble_eq_true rfl) (fun r2 sh2 M3 hP2 hw2 hMw2 => ?_)
  obtain ⟨rfl, rfl, rfl⟩ := hP2
  have hS2 := law_ref (z := z) hC1 hT1 (fr_keep hF) (by decide) (by decide) hU2 (zI_keep hI)
  refine q_icmp_eq (q0 := 1433) (tgt := 1494) rfl dL_law_1430 (by decide) (fun heq => ?_) (fun hne => absurd rfl hne)
  exact gB_ck (by show _ ≤ cc + 5; first | exact Nat.le_refl _ | exact Nat.le_add_right _ _) (by show _ ≤ cd + 1106; first | exact Nat.le_refl _ | exact Nat.le_add_right _ _) (kk _ _ _ hS2)
theorem lwc_undo {b cc cd : Nat} {i : Int} {sh : gS} {M : gM} {z : aS} (hb33 : G.2.2.2 33 = some b) (hL : scL G ≤ 3072) (h0 : 0 ≤ i) (h6 : i + 6 ≤ scL G) (hc1 : cc + 5 ≤ 600000) (hc2 : cd + 1106 ≤ 7302249) (hS : lwS sh M z)
    (kk : ∀ (sh2 : gS) (M2 : gM) (z2 : aS), lwS sh2 M2 z2 → gB l G p e s m args below meth c Z room_1 yL_law cL_law 4 ret (cc + 5, cd + 1106) 1494 [(5, 33), (4, 0), (4, 711), (0, i)] [] sh2 M2) : gB l G p e s m args below meth c Z room_1 yL_law cL_law 4 ret (cc, cd) 1435 [(5, 33), (4, 0), (4, 711), (0, i)] [] sh M := by
  have hI := hS.2.2.1
  refine q_aload_n (q0 := 1436) (j := 1) rfl dL_law_1435 rfl ?_
  refine q_callV (as := []) (rest := []) mt_X11_undo mi_X11_undo se_X11_undo ml_L_148 dL_law_1436 (q0 := 1439) rfl rfl (sh_0 hS.1.1) rfl rfl (sp_X11_undo hS.1 (fun p p0 p1 hv => plInv_gd ((hI.2.2.2.2.2 hv).2 p p0 p1 ((aCs z).take (aSv z).toNat) (by have := hI.2.2.2.2.1; rw [List.length_take]; omega))) hI.2.2.2.2.1) rfl ⟨Nat.le_of_ble_eq_true rfl, Nat.le_of_ble_eq_true rfl⟩ ⟨by show cc + 0 ≤ 600000; omega, by show cd + 0 ≤ 7302249; omega⟩ (Nat.le_of_ble_eq_true rfl) (fun r sh1 M1 hP hw1 hMw1 => ?_)
  obtain ⟨rfl, rfl, hC1, hU1, hT1⟩ := law_cls hS hP
  refine q_aload_n (q0 := 1440) (j := 2) rfl dL_law_1439 rfl ?_
  obtain ⟨M2, hF, hU2⟩ := (show ∃ M2, F_undo M1  = some (_, M2) ∧ uSt M2 _ from s_undo hU1 hI.2.2.2.2.1)
  refine q_callV (as := []) (rest := [_]) mt_X12_undo mi_X12_undo se_X12_undo ml_L_152 dL_law_1440 (q0 := 1443) rfl rfl (sh_711 hC1.1) rfl rfl (ok_undo hC1.1 hF) rfl ⟨Nat.le_of_ble_eq_true rfl, Nat.le_of_ble_eq_true rfl⟩ ⟨by show cc + 0 + 0 ≤ 600000; omega, by show cd + 0 + 0 ≤ 7302249; omega⟩ (Nat.le_of_ble_eq_true rfl) (fun r2 sh2 M3 hP2 hw2 hMw2 => ?_)
  obtain ⟨rfl, rfl, rfl⟩ := hP2
  have hS2 := law_ref (z := z) hC1 hT1 (fr_undo hF) (by decide) (by decide) hU2 (zI_undo hI)
  refine q_icmp_eq (q0 := 1446) (tgt := 1494) rfl dL_law_1443 (by decide) (fun heq => ?_) (fun hne => absurd rfl hne)
  exact gB_ck (by show _ ≤ cc + 5; first | exact Nat.le_refl _ | exact Nat.le_add_right _ _) (by show _ ≤ cd + 1106; first | exact Nat.le_refl _ | exact Nat.le_add_right _ _) (kk _ _ _ hS2)
theorem lwc_check {b cc cd : Nat} {i : Int} {sh : gS} {M : gM} {z : aS} (hb33 : G.2.2.2 33 = some b) (hL : scL G ≤ 3072) (h0 : 0 ≤ i) (h6 : i + 6 ≤ scL G) (hc1 : cc + 5 ≤ 600000) (hc2 : cd + 1106 ≤ 7302249) (hS : lwS sh M z)
    (kk : ∀ (sh2 : gS) (M2 : gM) (z2 : aS), lwS sh2 M2 z2 → gB l G p e s m args below meth c Z room_1 yL_law cL_law 4 ret (cc + 5, cd + 1106) 1494 [(5, 33), (4, 0), (4, 711), (0, i)] [] sh2 M2) : gB l G p e s m args below meth c Z room_1 yL_law cL_law 4 ret (cc, cd) 1448 [(5, 33), (4, 0), (4, 711), (0, i)] [] sh M := by
  have hI := hS.2.2.1
  refine q_aload_n (q0 := 1449) (j := 1) rfl dL_law_1448 rfl ?_
  refine q_aload5_n (q0 := 1450) (j := 0) rfl dL_law_1449 rfl ?_
  refine q_iload_n (q0 := 1451) (j := 3) rfl dL_law_1450 rfl ?_
  refine q_iconst (q0 := 1452) rfl dL_law_1451 (k := ?_)
  refine q_iadd (q0 := 1453) rfl dL_law_1452 (by omega) (by omega) ?_
  refine q_scld (q0 := 1454) rfl hb33 (by omega) (by omega) dL_law_1453 ?_
  refine q_callV (as := [_]) (rest := []) mt_X11_check mi_X11_check se_X11_check ml_L_153 dL_law_1454 (q0 := 1457) rfl rfl (sh_0 hS.1.1) rfl rfl (sp_X11_check hS.1 ) rfl ⟨Nat.le_of_ble_eq_true rfl, Nat.le_of_ble_eq_true rfl⟩ ⟨by show cc + 0 ≤ 600000; omega, by show cd + 0 ≤ 7302249; omega⟩ (Nat.le_of_ble_eq_true rfl) (fun r sh1 M1 hP hw1 hMw1 => ?_)
  obtain ⟨rfl, rfl, hC1, hU1, hT1⟩ := law_cls hS hP
  refine q_aload_n (q0 := 1458) (j := 2) rfl dL_law_1457 rfl ?_
  refine q_aload5_n (q0 := 1459) (j := 0) rfl dL_law_1458 rfl ?_
  refine q_iload_n (q0 := 1460) (j := 3) rfl dL_law_1459 rfl ?_
  refine q_iconst (q0 := 1461) rfl dL_law_1460 (k := ?_)
  refine q_iadd (q0 := 1462) rfl dL_law_1461 (by omega) (by omega) ?_
  refine q_scld (q0 := 1463) rfl hb33 (by omega) (by omega) dL_law_1462 ?_
  obtain ⟨M2, hF, hU2⟩ := (show ∃ M2, F_check M1 (scX G (i + 1)) = some (_, M2) ∧ uSt M2 _ from s_check hU1)
  refine q_callV (as := [_]) (rest := [_]) mt_X12_check mi_X12_check se_X12_check ml_L_156 dL_law_1463 (q0 := 1466) rfl rfl (sh_711 hC1.1) rfl rfl (ok_check hC1.1 hF) rfl ⟨Nat.le_of_ble_eq_true rfl, Nat.le_of_ble_eq_true rfl⟩ ⟨by show cc + 0 + 0 ≤ 600000; omega, by show cd + 0 + 0 ≤ 7302249; omega⟩ (Nat.le_of_ble_eq_true rfl) (fun r2 sh2 M3 hP2 hw2 hMw2 => ?_)
  obtain ⟨rfl, rfl, rfl⟩ := hP2
  have hS2 := law_ref (z := z) hC1 hT1 (fr_check hF) (by decide) (by decide) hU2 (zI_check hI _)
  refine q_icmp_eq (q0 := 1469) (tgt := 1494) rfl dL_law_1466 (by decide) (fun heq => ?_) (fun hne => absurd rfl hne)
  exact gB_ck (by show _ ≤ cc + 5; first | exact Nat.le_refl _ | exact Nat.le_add_right _ _) (by show _ ≤ cd + 1106; first | exact Nat.le_refl _ | exact Nat.le_add_right _ _) (kk _ _ _ hS2)
theorem lwc_count {b cc cd : Nat} {i : Int} {sh : gS} {M : gM} {z : aS} (hb33 : G.2.2.2 33 = some b) (hL : scL G ≤ 3072) (h0 : 0 ≤ i) (h6 : i + 6 ≤ scL G) (hc1 : cc + 5 ≤ 600000) (hc2 : cd + 1106 ≤ 7302249) (hS : lwS sh M z)
    (kk : ∀ (sh2 : gS) (M2 : gM) (z2 : aS), lwS sh2 M2 z2 → gB l G p e s m args below meth c Z room_1 yL_law cL_law 4 ret (cc + 5, cd + 1106) 1494 [(5, 33), (4, 0), (4, 711), (0, i)] [] sh2 M2) : gB l G p e s m args below meth c Z room_1 yL_law cL_law 4 ret (cc, cd) 1471 [(5, 33), (4, 0), (4, 711), (0, i)] [] sh M := by
  have hI := hS.2.2.1
  refine q_aload_n (q0 := 1472) (j := 1) rfl dL_law_1471 rfl ?_
  refine q_aload5_n (q0 := 1473) (j := 0) rfl dL_law_1472 rfl ?_
  refine q_iload_n (q0 := 1474) (j := 3) rfl dL_law_1473 rfl ?_
  refine q_iconst (q0 := 1475) rfl dL_law_1474 (k := ?_)
  refine q_iadd (q0 := 1476) rfl dL_law_1475 (by omega) (by omega) ?_
  refine q_scld (q0 := 1477) rfl hb33 (by omega) (by omega) dL_law_1476 ?_
  refine q_callV (as := [_]) (rest := []) mt_X11_count mi_X11_count se_X11_count ml_L_157 dL_law_1477 (q0 := 1480) rfl rfl (sh_0 hS.1.1) rfl rfl (sp_X11_count hS.1 hI.1.1 (fun p p0 p1 => plInv_gd (hI.2.2.2.1 p p0 p1))) rfl ⟨Nat.le_of_ble_eq_true rfl, Nat.le_of_ble_eq_true rfl⟩ ⟨by show cc + 0 ≤ 600000; omega, by show cd + 0 ≤ 7302249; omega⟩ (Nat.le_of_ble_eq_true rfl) (fun r sh1 M1 hP hw1 hMw1 => ?_)
  obtain ⟨rfl, rfl, hC1, hU1, hT1⟩ := law_cls hS hP
  refine q_aload_n (q0 := 1481) (j := 2) rfl dL_law_1480 rfl ?_
  refine q_aload5_n (q0 := 1482) (j := 0) rfl dL_law_1481 rfl ?_
  refine q_iload_n (q0 := 1483) (j := 3) rfl dL_law_1482 rfl ?_
  refine q_iconst (q0 := 1484) rfl dL_law_1483 (k := ?_)
  refine q_iadd (q0 := 1485) rfl dL_law_1484 (by omega) (by omega) ?_
  refine q_scld (q0 := 1486) rfl hb33 (by omega) (by omega) dL_law_1485 ?_
  have hF := (show F_count M1 (scX G (i + 1)) = _ from s_count hU1 hI.1.1 (uRs_of hU1 hI))
  refine q_callV (as := [_]) (rest := [_]) mt_X12_count mi_X12_count se_X12_count ml_L_160 dL_law_1486 (q0 := 1489) rfl rfl (sh_711 hC1.1) rfl rfl (ok_count hC1.1 hF) rfl ⟨Nat.le_of_ble_eq_true rfl, Nat.le_of_ble_eq_true rfl⟩ ⟨by show cc + 0 + 0 ≤ 600000; omega, by show cd + 0 + 0 ≤ 7302249; omega⟩ (Nat.le_of_ble_eq_true rfl) (fun r2 sh2 M3 hP2 hw2 hMw2 => ?_)
  obtain ⟨rfl, rfl, rfl⟩ := hP2
  have hS2 := law_same hC1 hT1 hU1 hI
  refine q_icmp_eq (q0 := 1492) (tgt := 1494) rfl dL_law_1489 (by decide) (fun heq => ?_) (fun hne => absurd rfl hne)
  exact gB_ck (by show _ ≤ cc + 5; first | exact Nat.le_refl _ | exact Nat.le_add_right _ _) (by show _ ≤ cd + 1106; first | exact Nat.le_refl _ | exact Nat.le_add_right _ _) (kk _ _ _ hS2)
end
