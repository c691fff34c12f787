/-! the law: one call -/
def TSL : List (Int32 × Nat) := [(0, 232), (1, 305), (2, 330), (3, 355), (4, 380), (5, 405), (6, 442), (7, 510), (8, 547), (9, 572), (10, 597), (11, 646), (12, 683), (13, 720), (14, 757), (15, 794), (16, 807), (17, 832), (18, 901), (19, 914), (20, 951), (21, 1000), (22, 1037), (23, 1062), (24, 1099), (25, 1124), (26, 1149), (27, 1198), (28, 1235), (29, 1260), (30, 1273), (31, 1310), (32, 1323), (33, 1336), (34, 1349), (35, 1362), (36, 1399), (37, 1460), (38, 1509), (39, 1534), (40, 1571), (41, 1584), (42, 1597), (43, 1610)]
def LVL (t : Nat) : List (Nat × Value) := [(4, .int (nI (6 * t))), (0, .ref 1010), (1, .ref 0), (2, .ref 310), (3, .ref 333)]
section LawC
variable {X : XS} {t : Nat} {σ : Mm}
theorem sl_in {k : Nat} (hk : k < 6) (hl : 6 * t + 6 ≤ X.1) (hX : X.1 ≤ 3072) : vp_in (nI (6 * t) + nI k) X.1 := by
  rw [nI_add]
  exact nI_in (by omega) (by omega)
/-- what one turn of the law's loop owes -/
def TURN1 (X : XS) (t : Nat) (σ : Mm) (pc : Nat) : Prop := ∃ σ1, ALL (t + 1) σ1 ∧ ∀ (F : Nat × Option Value × Mm) (kc ks : Nat), J X mL_law 300 kc ks F 1635 (LVL t) [] 335 σ1 → J X mL_law 300 (kc + 1) (ks + 6) F pc (LVL t) [] 335 σ
theorem rt0 : RT 335 0 109 := RT_ob (c := 9) (by decide +kernel) (by decide)
theorem rt310 : RT 335 310 110 := RT_ob (c := 10) (by decide +kernel) (by decide)
theorem rt333 : RT 335 333 201 := RT_ar (t := 1) (L := 1) (by decide +kernel) (by decide)
set_option maxRecDepth 20000 in
set_option maxHeartbeats 2000000 in
theorem lw_0 (h : ALL t σ) (ht : t ≤ 1000) (hl : 6 * t + 6 ≤ X.1) (hX : X.1 ≤ 3072) : TURN1 X t σ 232 := by
  obtain ⟨v, σ1, σ2, e1, e2, hA⟩ := A_feed h ht (X.2 (nI (6 * t) + nI 1).toNatClampNeg) (X.2 (nI (6 * t) + nI 2).toNatClampNeg) (X.2 (nI (6 * t) + nI 3).toNatClampNeg) (X.2 (nI (6 * t) + nI 4).toNatClampNeg) (X.2 (nI (6 * t) + nI 5).toNatClampNeg)
  refine ⟨σ2, hA, fun F kc ks hk => ?_⟩
  unfold LVL
  refine J_aload_n (z := 2) dL_law_232 rfl rfl (q := 233) rfl ?_
  refine J_aload_n (z := 1) dL_law_233 rfl rfl (q := 234) rfl ?_
  refine J_iload (z := 0) dL_law_234 rfl (q := 236) rfl ?_
  refine J_iconst (x := nI 1) dL_law_236 (by decide) (q := 237) rfl ?_
  refine J_iadd dL_law_237 (q := 238) rfl ?_
  refine J_sld dL_law_238 (sl_in (k := 1) (by decide) hl hX) (q := 239) rfl ?_
  refine J_aload_n (z := 1) dL_law_239 rfl rfl (q := 240) rfl ?_
  refine J_iload (z := 0) dL_law_240 rfl (q := 242) rfl ?_
  refine J_iconst (x := nI 2) dL_law_242 (by decide) (q := 243) rfl ?_
  refine J_iadd dL_law_243 (q := 244) rfl ?_
  refine J_sld dL_law_244 (sl_in (k := 2) (by decide) hl hX) (q := 245) rfl ?_
  refine J_aload_n (z := 1) dL_law_245 rfl rfl (q := 246) rfl ?_
  refine J_iload (z := 0) dL_law_246 rfl (q := 248) rfl ?_
  refine J_iconst (x := nI 3) dL_law_248 (by decide) (q := 249) rfl ?_
  refine J_iadd dL_law_249 (q := 250) rfl ?_
  refine J_sld dL_law_250 (sl_in (k := 3) (by decide) hl hX) (q := 251) rfl ?_
  refine J_aload_n (z := 1) dL_law_251 rfl rfl (q := 252) rfl ?_
  refine J_iload (z := 0) dL_law_252 rfl (q := 254) rfl ?_
  refine J_iconst (x := nI 4) dL_law_254 (by decide) (q := 255) rfl ?_
  refine J_iadd dL_law_255 (q := 256) rfl ?_
  refine J_sld dL_law_256 (sl_in (k := 4) (by decide) hl hX) (q := 257) rfl ?_
  refine J_aload_n (z := 1) dL_law_257 rfl rfl (q := 258) rfl ?_
  refine J_iload (z := 0) dL_law_258 rfl (q := 260) rfl ?_
  refine J_iconst (x := nI 5) dL_law_260 (by decide) (q := 261) rfl ?_
  refine J_iadd dL_law_261 (q := 262) rfl ?_
  refine J_sld dL_law_262 (sl_in (k := 5) (by decide) hl hX) (q := 263) rfl ?_
  refine J_callV (as := [.int (X.2 (nI (6 * t) + nI 1).toNatClampNeg), .int (X.2 (nI (6 * t) + nI 2).toNatClampNeg), .int (X.2 (nI (6 * t) + nI 3).toNatClampNeg), .int (X.2 (nI (6 * t) + nI 4).toNatClampNeg), .int (X.2 (nI (6 * t) + nI 5).toNatClampNeg)]) (kc2 := kc + 1) (ks2 := ks + 6) (F1 := (335, some (.int v), σ1)) dL_law_263 mRL_19 rt0 (tX9_feed rt0 e1) rfl (Nat.le_of_ble_eq_true rfl) (Nat.le_of_ble_eq_true rfl) (Nat.le_of_ble_eq_true rfl) (by omega) (by omega) (Nat.le_refl _) (fun h => h) (Or.inl rfl) (q := 266) rfl (fun _ => ?_)
  refine J_aload_n (z := 3) dL_law_266 rfl rfl (q := 267) rfl ?_
  refine J_aload_n (z := 1) dL_law_267 rfl rfl (q := 268) rfl ?_
  refine J_iload (z := 0) dL_law_268 rfl (q := 270) rfl ?_
  refine J_iconst (x := nI 1) dL_law_270 (by decide) (q := 271) rfl ?_
  refine J_iadd dL_law_271 (q := 272) rfl ?_
  refine J_sld dL_law_272 (sl_in (k := 1) (by decide) hl hX) (q := 273) rfl ?_
  refine J_aload_n (z := 1) dL_law_273 rfl rfl (q := 274) rfl ?_
  refine J_iload (z := 0) dL_law_274 rfl (q := 276) rfl ?_
  refine J_iconst (x := nI 2) dL_law_276 (by decide) (q := 277) rfl ?_
  refine J_iadd dL_law_277 (q := 278) rfl ?_
  refine J_sld dL_law_278 (sl_in (k := 2) (by decide) hl hX) (q := 279) rfl ?_
  refine J_aload_n (z := 1) dL_law_279 rfl rfl (q := 280) rfl ?_
  refine J_iload (z := 0) dL_law_280 rfl (q := 282) rfl ?_
  refine J_iconst (x := nI 3) dL_law_282 (by decide) (q := 283) rfl ?_
  refine J_iadd dL_law_283 (q := 284) rfl ?_
  refine J_sld dL_law_284 (sl_in (k := 3) (by decide) hl hX) (q := 285) rfl ?_
  refine J_aload_n (z := 1) dL_law_285 rfl rfl (q := 286) rfl ?_
  refine J_iload (z := 0) dL_law_286 rfl (q := 288) rfl ?_
  refine J_iconst (x := nI 4) dL_law_288 (by decide) (q := 289) rfl ?_
  refine J_iadd dL_law_289 (q := 290) rfl ?_
  refine J_sld dL_law_290 (sl_in (k := 4) (by decide) hl hX) (q := 291) rfl ?_
  refine J_aload_n (z := 1) dL_law_291 rfl rfl (q := 292) rfl ?_
  refine J_iload (z := 0) dL_law_292 rfl (q := 294) rfl ?_
  refine J_iconst (x := nI 5) dL_law_294 (by decide) (q := 295) rfl ?_
  refine J_iadd dL_law_295 (q := 296) rfl ?_
  refine J_sld dL_law_296 (sl_in (k := 5) (by decide) hl hX) (q := 297) rfl ?_
  refine J_callV (as := [.int (X.2 (nI (6 * t) + nI 1).toNatClampNeg), .int (X.2 (nI (6 * t) + nI 2).toNatClampNeg), .int (X.2 (nI (6 * t) + nI 3).toNatClampNeg), .int (X.2 (nI (6 * t) + nI 4).toNatClampNeg), .int (X.2 (nI (6 * t) + nI 5).toNatClampNeg)]) (kc2 := kc) (ks2 := ks) (F1 := (335, some (.int v), σ2)) dL_law_297 mRL_23 rt310 (tX10_feed rt310 e2) rfl (Nat.le_of_ble_eq_true rfl) (Nat.le_of_ble_eq_true rfl) (Nat.le_of_ble_eq_true rfl) (by omega) (by omega) (Nat.le_refl _) (fun h => h) (Or.inl rfl) (q := 300) rfl (fun _ => ?_)
  exact J_icmp_eq (tgt := 1635) dL_law_300 (by decide) (q := 303) rfl (fun _ => hk) (fun c => absurd rfl c)
set_option maxRecDepth 20000 in
set_option maxHeartbeats 2000000 in
theorem lw_1 (h : ALL t σ) (ht : t ≤ 1000) (hl : 6 * t + 6 ≤ X.1) (hX : X.1 ≤ 3072) : TURN1 X t σ 305 := by
  obtain ⟨v, σ1, σ2, e1, e2, hA⟩ := A_end h ht (X.2 (nI (6 * t) + nI 1).toNatClampNeg)
  refine ⟨σ2, hA, fun F kc ks hk => ?_⟩
  unfold LVL
  refine J_aload_n (z := 2) dL_law_305 rfl rfl (q := 306) rfl ?_
  refine J_aload_n (z := 1) dL_law_306 rfl rfl (q := 307) rfl ?_
  refine J_iload (z := 0) dL_law_307 rfl (q := 309) rfl ?_
  refine J_iconst (x := nI 1) dL_law_309 (by decide) (q := 310) rfl ?_
  refine J_iadd dL_law_310 (q := 311) rfl ?_
  refine J_sld dL_law_311 (sl_in (k := 1) (by decide) hl hX) (q := 312) rfl ?_
  refine J_callV (as := [.int (X.2 (nI (6 * t) + nI 1).toNatClampNeg)]) (kc2 := kc + 1) (ks2 := ks + 6) (F1 := (335, some (.int v), σ1)) dL_law_312 mRL_24 rt0 (tX9_end rt0 e1) rfl (Nat.le_of_ble_eq_true rfl) (Nat.le_of_ble_eq_true rfl) (Nat.le_of_ble_eq_true rfl) (by omega) (by omega) (Nat.le_refl _) (fun h => h) (Or.inl rfl) (q := 315) rfl (fun _ => ?_)
  refine J_aload_n (z := 3) dL_law_315 rfl rfl (q := 316) rfl ?_
  refine J_aload_n (z := 1) dL_law_316 rfl rfl (q := 317) rfl ?_
  refine J_iload (z := 0) dL_law_317 rfl (q := 319) rfl ?_
  refine J_iconst (x := nI 1) dL_law_319 (by decide) (q := 320) rfl ?_
  refine J_iadd dL_law_320 (q := 321) rfl ?_
  refine J_sld dL_law_321 (sl_in (k := 1) (by decide) hl hX) (q := 322) rfl ?_
  refine J_callV (as := [.int (X.2 (nI (6 * t) + nI 1).toNatClampNeg)]) (kc2 := kc) (ks2 := ks) (F1 := (335, some (.int v), σ2)) dL_law_322 mRL_28 rt310 (tX10_end rt310 e2) rfl (Nat.le_of_ble_eq_true rfl) (Nat.le_of_ble_eq_true rfl) (Nat.le_of_ble_eq_true rfl) (by omega) (by omega) (Nat.le_refl _) (fun h => h) (Or.inl rfl) (q := 325) rfl (fun _ => ?_)
  exact J_icmp_eq (tgt := 1635) dL_law_325 (by decide) (q := 328) rfl (fun _ => hk) (fun c => absurd rfl c)
set_option maxRecDepth 20000 in
set_option maxHeartbeats 2000000 in
theorem lw_2 (h : ALL t σ) (ht : t ≤ 1000) (hl : 6 * t + 6 ≤ X.1) (hX : X.1 ≤ 3072) : TURN1 X t σ 330 := by
  obtain ⟨v, σ1, σ2, e1, e2, hA⟩ := A_fault h ht (X.2 (nI (6 * t) + nI 1).toNatClampNeg)
  refine ⟨σ2, hA, fun F kc ks hk => ?_⟩
  unfold LVL
  refine J_aload_n (z := 2) dL_law_330 rfl rfl (q := 331) rfl ?_
  refine J_aload_n (z := 1) dL_law_331 rfl rfl (q := 332) rfl ?_
  refine J_iload (z := 0) dL_law_332 rfl (q := 334) rfl ?_
  refine J_iconst (x := nI 1) dL_law_334 (by decide) (q := 335) rfl ?_
  refine J_iadd dL_law_335 (q := 336) rfl ?_
  refine J_sld dL_law_336 (sl_in (k := 1) (by decide) hl hX) (q := 337) rfl ?_
  refine J_callV (as := [.int (X.2 (nI (6 * t) + nI 1).toNatClampNeg)]) (kc2 := kc + 1) (ks2 := ks + 6) (F1 := (335, some (.int v), σ1)) dL_law_337 mRL_29 rt0 (tX9_fault rt0 e1) rfl (Nat.le_of_ble_eq_true rfl) (Nat.le_of_ble_eq_true rfl) (Nat.le_of_ble_eq_true rfl) (by omega) (by omega) (Nat.le_refl _) (fun h => h) (Or.inl rfl) (q := 340) rfl (fun _ => ?_)
  refine J_aload_n (z := 3) dL_law_340 rfl rfl (q := 341) rfl ?_
  refine J_aload_n (z := 1) dL_law_341 rfl rfl (q := 342) rfl ?_
  refine J_iload (z := 0) dL_law_342 rfl (q := 344) rfl ?_
  refine J_iconst (x := nI 1) dL_law_344 (by decide) (q := 345) rfl ?_
  refine J_iadd dL_law_345 (q := 346) rfl ?_
  refine J_sld dL_law_346 (sl_in (k := 1) (by decide) hl hX) (q := 347) rfl ?_
  refine J_callV (as := [.int (X.2 (nI (6 * t) + nI 1).toNatClampNeg)]) (kc2 := kc) (ks2 := ks) (F1 := (335, some (.int v), σ2)) dL_law_347 mRL_33 rt310 (tX10_fault rt310 e2) rfl (Nat.le_of_ble_eq_true rfl) (Nat.le_of_ble_eq_true rfl) (Nat.le_of_ble_eq_true rfl) (by omega) (by omega) (Nat.le_refl _) (fun h => h) (Or.inl rfl) (q := 350) rfl (fun _ => ?_)
  exact J_icmp_eq (tgt := 1635) dL_law_350 (by decide) (q := 353) rfl (fun _ => hk) (fun c => absurd rfl c)
set_option maxRecDepth 20000 in
set_option maxHeartbeats 2000000 in
theorem lw_3 (h : ALL t σ) (ht : t ≤ 1000) (hl : 6 * t + 6 ≤ X.1) (hX : X.1 ≤ 3072) : TURN1 X t σ 355 := by
  obtain ⟨v, σ1, σ2, e1, e2, hA⟩ := A_text h ht (X.2 (nI (6 * t) + nI 1).toNatClampNeg)
  refine ⟨σ2, hA, fun F kc ks hk => ?_⟩
  unfold LVL
  refine J_aload_n (z := 2) dL_law_355 rfl rfl (q := 356) rfl ?_
  refine J_aload_n (z := 1) dL_law_356 rfl rfl (q := 357) rfl ?_
  refine J_iload (z := 0) dL_law_357 rfl (q := 359) rfl ?_
  refine J_iconst (x := nI 1) dL_law_359 (by decide) (q := 360) rfl ?_
  refine J_iadd dL_law_360 (q := 361) rfl ?_
  refine J_sld dL_law_361 (sl_in (k := 1) (by decide) hl hX) (q := 362) rfl ?_
  refine J_callV (as := [.int (X.2 (nI (6 * t) + nI 1).toNatClampNeg)]) (kc2 := kc + 1) (ks2 := ks + 6) (F1 := (335, some (.int v), σ1)) dL_law_362 mRL_34 rt0 (tX9_text rt0 e1) rfl (Nat.le_of_ble_eq_true rfl) (Nat.le_of_ble_eq_true rfl) (Nat.le_of_ble_eq_true rfl) (by omega) (by omega) (Nat.le_refl _) (fun h => h) (Or.inl rfl) (q := 365) rfl (fun _ => ?_)
  refine J_aload_n (z := 3) dL_law_365 rfl rfl (q := 366) rfl ?_
  refine J_aload_n (z := 1) dL_law_366 rfl rfl (q := 367) rfl ?_
  refine J_iload (z := 0) dL_law_367 rfl (q := 369) rfl ?_
  refine J_iconst (x := nI 1) dL_law_369 (by decide) (q := 370) rfl ?_
  refine J_iadd dL_law_370 (q := 371) rfl ?_
  refine J_sld dL_law_371 (sl_in (k := 1) (by decide) hl hX) (q := 372) rfl ?_
  refine J_callV (as := [.int (X.2 (nI (6 * t) + nI 1).toNatClampNeg)]) (kc2 := kc) (ks2 := ks) (F1 := (335, some (.int v), σ2)) dL_law_372 mRL_37 rt310 (tX10_text rt310 e2) rfl (Nat.le_of_ble_eq_true rfl) (Nat.le_of_ble_eq_true rfl) (Nat.le_of_ble_eq_true rfl) (by omega) (by omega) (Nat.le_refl _) (fun h => h) (Or.inl rfl) (q := 375) rfl (fun _ => ?_)
  exact J_icmp_eq (tgt := 1635) dL_law_375 (by decide) (q := 378) rfl (fun _ => hk) (fun c => absurd rfl c)
set_option maxRecDepth 20000 in
set_option maxHeartbeats 2000000 in
theorem lw_4 (h : ALL t σ) (ht : t ≤ 1000) (hl : 6 * t + 6 ≤ X.1) (hX : X.1 ≤ 3072) : TURN1 X t σ 380 := by
  obtain ⟨v, σ2, e1, e2, hA⟩ := A_hall h ht (X.2 (nI (6 * t) + nI 1).toNatClampNeg)
  refine ⟨σ2, hA, fun F kc ks hk => ?_⟩
  unfold LVL
  refine J_aload_n (z := 2) dL_law_380 rfl rfl (q := 381) rfl ?_
  refine J_aload_n (z := 1) dL_law_381 rfl rfl (q := 382) rfl ?_
  refine J_iload (z := 0) dL_law_382 rfl (q := 384) rfl ?_
  refine J_iconst (x := nI 1) dL_law_384 (by decide) (q := 385) rfl ?_
  refine J_iadd dL_law_385 (q := 386) rfl ?_
  refine J_sld dL_law_386 (sl_in (k := 1) (by decide) hl hX) (q := 387) rfl ?_
  refine J_callV (as := [.int (X.2 (nI (6 * t) + nI 1).toNatClampNeg)]) (kc2 := kc + 1) (ks2 := ks + 6) (F1 := (335, some (.int v), σ)) dL_law_387 mRL_38 rt0 (tX9_hall rt0 e1) rfl (Nat.le_of_ble_eq_true rfl) (Nat.le_of_ble_eq_true rfl) (Nat.le_of_ble_eq_true rfl) (by omega) (by omega) (Nat.le_refl _) (fun h => h) (Or.inl rfl) (q := 390) rfl (fun _ => ?_)
  refine J_aload_n (z := 3) dL_law_390 rfl rfl (q := 391) rfl ?_
  refine J_aload_n (z := 1) dL_law_391 rfl rfl (q := 392) rfl ?_
  refine J_iload (z := 0) dL_law_392 rfl (q := 394) rfl ?_
  refine J_iconst (x := nI 1) dL_law_394 (by decide) (q := 395) rfl ?_
  refine J_iadd dL_law_395 (q := 396) rfl ?_
  refine J_sld dL_law_396 (sl_in (k := 1) (by decide) hl hX) (q := 397) rfl ?_
  refine J_callV (as := [.int (X.2 (nI (6 * t) + nI 1).toNatClampNeg)]) (kc2 := kc) (ks2 := ks) (F1 := (335, some (.int v), σ2)) dL_law_397 mRL_41 rt310 (tX10_hall rt310 e2) rfl (Nat.le_of_ble_eq_true rfl) (Nat.le_of_ble_eq_true rfl) (Nat.le_of_ble_eq_true rfl) (by omega) (by omega) (Nat.le_refl _) (fun h => h) (Or.inl rfl) (q := 400) rfl (fun _ => ?_)
  exact J_icmp_eq (tgt := 1635) dL_law_400 (by decide) (q := 403) rfl (fun _ => hk) (fun c => absurd rfl c)
set_option maxRecDepth 20000 in
set_option maxHeartbeats 2000000 in
theorem lw_5 (h : ALL t σ) (ht : t ≤ 1000) (hl : 6 * t + 6 ≤ X.1) (hX : X.1 ≤ 3072) : TURN1 X t σ 405 := by
  obtain ⟨v, σ2, e1, e2, hA⟩ := A_page h ht (X.2 (nI (6 * t) + nI 1).toNatClampNeg) (X.2 (nI (6 * t) + nI 2).toNatClampNeg)
  refine ⟨σ2, hA, fun F kc ks hk => ?_⟩
  unfold LVL
  refine J_aload_n (z := 2) dL_law_405 rfl rfl (q := 406) rfl ?_
  refine J_aload_n (z := 1) dL_law_406 rfl rfl (q := 407) rfl ?_
  refine J_iload (z := 0) dL_law_407 rfl (q := 409) rfl ?_
  refine J_iconst (x := nI 1) dL_law_409 (by decide) (q := 410) rfl ?_
  refine J_iadd dL_law_410 (q := 411) rfl ?_
  refine J_sld dL_law_411 (sl_in (k := 1) (by decide) hl hX) (q := 412) rfl ?_
  refine J_aload_n (z := 1) dL_law_412 rfl rfl (q := 413) rfl ?_
  refine J_iload (z := 0) dL_law_413 rfl (q := 415) rfl ?_
  refine J_iconst (x := nI 2) dL_law_415 (by decide) (q := 416) rfl ?_
  refine J_iadd dL_law_416 (q := 417) rfl ?_
  refine J_sld dL_law_417 (sl_in (k := 2) (by decide) hl hX) (q := 418) rfl ?_
  refine J_callV (as := [.int (X.2 (nI (6 * t) + nI 1).toNatClampNeg), .int (X.2 (nI (6 * t) + nI 2).toNatClampNeg)]) (kc2 := kc + 1) (ks2 := ks + 6) (F1 := (335, some (.int v), σ)) dL_law_418 mRL_42 rt0 (tX9_page rt0 e1) rfl (Nat.le_of_ble_eq_true rfl) (Nat.le_of_ble_eq_true rfl) (Nat.le_of_ble_eq_true rfl) (by omega) (by omega) (Nat.le_refl _) (fun h => h) (Or.inl rfl) (q := 421) rfl (fun _ => ?_)
  refine J_aload_n (z := 3) dL_law_421 rfl rfl (q := 422) rfl ?_
  refine J_aload_n (z := 1) dL_law_422 rfl rfl (q := 423) rfl ?_
  refine J_iload (z := 0) dL_law_423 rfl (q := 425) rfl ?_
  refine J_iconst (x := nI 1) dL_law_425 (by decide) (q := 426) rfl ?_
  refine J_iadd dL_law_426 (q := 427) rfl ?_
  refine J_sld dL_law_427 (sl_in (k := 1) (by decide) hl hX) (q := 428) rfl ?_
  refine J_aload_n (z := 1) dL_law_428 rfl rfl (q := 429) rfl ?_
  refine J_iload (z := 0) dL_law_429 rfl (q := 431) rfl ?_
  refine J_iconst (x := nI 2) dL_law_431 (by decide) (q := 432) rfl ?_
  refine J_iadd dL_law_432 (q := 433) rfl ?_
  refine J_sld dL_law_433 (sl_in (k := 2) (by decide) hl hX) (q := 434) rfl ?_
  refine J_callV (as := [.int (X.2 (nI (6 * t) + nI 1).toNatClampNeg), .int (X.2 (nI (6 * t) + nI 2).toNatClampNeg)]) (kc2 := kc) (ks2 := ks) (F1 := (335, some (.int v), σ2)) dL_law_434 mRL_45 rt310 (tX10_page rt310 e2) rfl (Nat.le_of_ble_eq_true rfl) (Nat.le_of_ble_eq_true rfl) (Nat.le_of_ble_eq_true rfl) (by omega) (by omega) (Nat.le_refl _) (fun h => h) (Or.inl rfl) (q := 437) rfl (fun _ => ?_)
  exact J_icmp_eq (tgt := 1635) dL_law_437 (by decide) (q := 440) rfl (fun _ => hk) (fun c => absurd rfl c)
set_option maxRecDepth 20000 in
set_option maxHeartbeats 2000000 in
theorem lw_7 (h : ALL t σ) (ht : t ≤ 1000) (hl : 6 * t + 6 ≤ X.1) (hX : X.1 ≤ 3072) : TURN1 X t σ 510 := by
  obtain ⟨v, σ2, e1, e2, hA⟩ := A_memory h ht (X.2 (nI (6 * t) + nI 1).toNatClampNeg) (X.2 (nI (6 * t) + nI 2).toNatClampNeg)
  refine ⟨σ2, hA, fun F kc ks hk => ?_⟩
  unfold LVL
  refine J_aload_n (z := 2) dL_law_510 rfl rfl (q := 511) rfl ?_
  refine J_aload_n (z := 1) dL_law_511 rfl rfl (q := 512) rfl ?_
  refine J_iload (z := 0) dL_law_512 rfl (q := 514) rfl ?_
  refine J_iconst (x := nI 1) dL_law_514 (by decide) (q := 515) rfl ?_
  refine J_iadd dL_law_515 (q := 516) rfl ?_
  refine J_sld dL_law_516 (sl_in (k := 1) (by decide) hl hX) (q := 517) rfl ?_
  refine J_aload_n (z := 1) dL_law_517 rfl rfl (q := 518) rfl ?_
  refine J_iload (z := 0) dL_law_518 rfl (q := 520) rfl ?_
  refine J_iconst (x := nI 2) dL_law_520 (by decide) (q := 521) rfl ?_
  refine J_iadd dL_law_521 (q := 522) rfl ?_
  refine J_sld dL_law_522 (sl_in (k := 2) (by decide) hl hX) (q := 523) rfl ?_
  refine J_callV (as := [.int (X.2 (nI (6 * t) + nI 1).toNatClampNeg), .int (X.2 (nI (6 * t) + nI 2).toNatClampNeg)]) (kc2 := kc + 1) (ks2 := ks + 6) (F1 := (335, some (.int v), σ)) dL_law_523 mRL_56 rt0 (tX9_memory rt0 e1) rfl (Nat.le_of_ble_eq_true rfl) (Nat.le_of_ble_eq_true rfl) (Nat.le_of_ble_eq_true rfl) (by omega) (by omega) (Nat.le_refl _) (fun h => h) (Or.inl rfl) (q := 526) rfl (fun _ => ?_)
  refine J_aload_n (z := 3) dL_law_526 rfl rfl (q := 527) rfl ?_
  refine J_aload_n (z := 1) dL_law_527 rfl rfl (q := 528) rfl ?_
  refine J_iload (z := 0) dL_law_528 rfl (q := 530) rfl ?_
  refine J_iconst (x := nI 1) dL_law_530 (by decide) (q := 531) rfl ?_
  refine J_iadd dL_law_531 (q := 532) rfl ?_
  refine J_sld dL_law_532 (sl_in (k := 1) (by decide) hl hX) (q := 533) rfl ?_
  refine J_aload_n (z := 1) dL_law_533 rfl rfl (q := 534) rfl ?_
  refine J_iload (z := 0) dL_law_534 rfl (q := 536) rfl ?_
  refine J_iconst (x := nI 2) dL_law_536 (by decide) (q := 537) rfl ?_
  refine J_iadd dL_law_537 (q := 538) rfl ?_
  refine J_sld dL_law_538 (sl_in (k := 2) (by decide) hl hX) (q := 539) rfl ?_
  refine J_callV (as := [.int (X.2 (nI (6 * t) + nI 1).toNatClampNeg), .int (X.2 (nI (6 * t) + nI 2).toNatClampNeg)]) (kc2 := kc) (ks2 := ks) (F1 := (335, some (.int v), σ2)) dL_law_539 mRL_59 rt310 (tX10_memory rt310 e2) rfl (Nat.le_of_ble_eq_true rfl) (Nat.le_of_ble_eq_true rfl) (Nat.le_of_ble_eq_true rfl) (by omega) (by omega) (Nat.le_refl _) (fun h => h) (Or.inl rfl) (q := 542) rfl (fun _ => ?_)
  exact J_icmp_eq (tgt := 1635) dL_law_542 (by decide) (q := 545) rfl (fun _ => hk) (fun c => absurd rfl c)
set_option maxRecDepth 20000 in
set_option maxHeartbeats 2000000 in
theorem lw_8 (h : ALL t σ) (ht : t ≤ 1000) (hl : 6 * t + 6 ≤ X.1) (hX : X.1 ≤ 3072) : TURN1 X t σ 547 := by
  obtain ⟨v, σ1, σ2, e1, e2, hA⟩ := A_law h ht (X.2 (nI (6 * t) + nI 1).toNatClampNeg)
  refine ⟨σ2, hA, fun F kc ks hk => ?_⟩
  unfold LVL
  refine J_aload_n (z := 2) dL_law_547 rfl rfl (q := 548) rfl ?_
  refine J_aload_n (z := 1) dL_law_548 rfl rfl (q := 549) rfl ?_
  refine J_iload (z := 0) dL_law_549 rfl (q := 551) rfl ?_
  refine J_iconst (x := nI 1) dL_law_551 (by decide) (q := 552) rfl ?_
  refine J_iadd dL_law_552 (q := 553) rfl ?_
  refine J_sld dL_law_553 (sl_in (k := 1) (by decide) hl hX) (q := 554) rfl ?_
  refine J_callV (as := [.int (X.2 (nI (6 * t) + nI 1).toNatClampNeg)]) (kc2 := kc + 1) (ks2 := ks + 6) (F1 := (335, some (.int v), σ1)) dL_law_554 mRL_60 rt0 (tX9_law rt0 e1) rfl (Nat.le_of_ble_eq_true rfl) (Nat.le_of_ble_eq_true rfl) (Nat.le_of_ble_eq_true rfl) (by omega) (by omega) (Nat.le_refl _) (fun h => h) (Or.inl rfl) (q := 557) rfl (fun _ => ?_)
  refine J_aload_n (z := 3) dL_law_557 rfl rfl (q := 558) rfl ?_
  refine J_aload_n (z := 1) dL_law_558 rfl rfl (q := 559) rfl ?_
  refine J_iload (z := 0) dL_law_559 rfl (q := 561) rfl ?_
  refine J_iconst (x := nI 1) dL_law_561 (by decide) (q := 562) rfl ?_
  refine J_iadd dL_law_562 (q := 563) rfl ?_
  refine J_sld dL_law_563 (sl_in (k := 1) (by decide) hl hX) (q := 564) rfl ?_
  refine J_callV (as := [.int (X.2 (nI (6 * t) + nI 1).toNatClampNeg)]) (kc2 := kc) (ks2 := ks) (F1 := (335, some (.int v), σ2)) dL_law_564 mRL_63 rt310 (tX10_law rt310 e2) rfl (Nat.le_of_ble_eq_true rfl) (Nat.le_of_ble_eq_true rfl) (Nat.le_of_ble_eq_true rfl) (by omega) (by omega) (Nat.le_refl _) (fun h => h) (Or.inl rfl) (q := 567) rfl (fun _ => ?_)
  exact J_icmp_eq (tgt := 1635) dL_law_567 (by decide) (q := 570) rfl (fun _ => hk) (fun c => absurd rfl c)
set_option maxRecDepth 20000 in
set_option maxHeartbeats 2000000 in
theorem lw_9 (h : ALL t σ) (ht : t ≤ 1000) (hl : 6 * t + 6 ≤ X.1) (hX : X.1 ≤ 3072) : TURN1 X t σ 572 := by
  obtain ⟨v, σ1, σ2, e1, e2, hA⟩ := A_slips h ht (X.2 (nI (6 * t) + nI 1).toNatClampNeg)
  refine ⟨σ2, hA, fun F kc ks hk => ?_⟩
  unfold LVL
  refine J_aload_n (z := 2) dL_law_572 rfl rfl (q := 573) rfl ?_
  refine J_aload_n (z := 1) dL_law_573 rfl rfl (q := 574) rfl ?_
  refine J_iload (z := 0) dL_law_574 rfl (q := 576) rfl ?_
  refine J_iconst (x := nI 1) dL_law_576 (by decide) (q := 577) rfl ?_
  refine J_iadd dL_law_577 (q := 578) rfl ?_
  refine J_sld dL_law_578 (sl_in (k := 1) (by decide) hl hX) (q := 579) rfl ?_
  refine J_callV (as := [.int (X.2 (nI (6 * t) + nI 1).toNatClampNeg)]) (kc2 := kc + 1) (ks2 := ks + 6) (F1 := (335, some (.int v), σ1)) dL_law_579 mRL_64 rt0 (tX9_slips rt0 e1) rfl (Nat.le_of_ble_eq_true rfl) (Nat.le_of_ble_eq_true rfl) (Nat.le_of_ble_eq_true rfl) (by omega) (by omega) (Nat.le_refl _) (fun h => h) (Or.inl rfl) (q := 582) rfl (fun _ => ?_)
  refine J_aload_n (z := 3) dL_law_582 rfl rfl (q := 583) rfl ?_
  refine J_aload_n (z := 1) dL_law_583 rfl rfl (q := 584) rfl ?_
  refine J_iload (z := 0) dL_law_584 rfl (q := 586) rfl ?_
  refine J_iconst (x := nI 1) dL_law_586 (by decide) (q := 587) rfl ?_
  refine J_iadd dL_law_587 (q := 588) rfl ?_
  refine J_sld dL_law_588 (sl_in (k := 1) (by decide) hl hX) (q := 589) rfl ?_
  refine J_callV (as := [.int (X.2 (nI (6 * t) + nI 1).toNatClampNeg)]) (kc2 := kc) (ks2 := ks) (F1 := (335, some (.int v), σ2)) dL_law_589 mRL_67 rt310 (tX10_slips rt310 e2) rfl (Nat.le_of_ble_eq_true rfl) (Nat.le_of_ble_eq_true rfl) (Nat.le_of_ble_eq_true rfl) (by omega) (by omega) (Nat.le_refl _) (fun h => h) (Or.inl rfl) (q := 592) rfl (fun _ => ?_)
  exact J_icmp_eq (tgt := 1635) dL_law_592 (by decide) (q := 595) rfl (fun _ => hk) (fun c => absurd rfl c)
set_option maxRecDepth 20000 in
set_option maxHeartbeats 2000000 in
theorem lw_10 (h : ALL t σ) (ht : t ≤ 1000) (hl : 6 * t + 6 ≤ X.1) (hX : X.1 ≤ 3072) : TURN1 X t σ 597 := by
  obtain ⟨v, σ1, σ2, e1, e2, hA⟩ := A_melt h ht (X.2 (nI (6 * t) + nI 1).toNatClampNeg) (X.2 (nI (6 * t) + nI 2).toNatClampNeg) (X.2 (nI (6 * t) + nI 3).toNatClampNeg)
  refine ⟨σ2, hA, fun F kc ks hk => ?_⟩
  unfold LVL
  refine J_aload_n (z := 2) dL_law_597 rfl rfl (q := 598) rfl ?_
  refine J_aload_n (z := 1) dL_law_598 rfl rfl (q := 599) rfl ?_
  refine J_iload (z := 0) dL_law_599 rfl (q := 601) rfl ?_
  refine J_iconst (x := nI 1) dL_law_601 (by decide) (q := 602) rfl ?_
  refine J_iadd dL_law_602 (q := 603) rfl ?_
  refine J_sld dL_law_603 (sl_in (k := 1) (by decide) hl hX) (q := 604) rfl ?_
  refine J_aload_n (z := 1) dL_law_604 rfl rfl (q := 605) rfl ?_
  refine J_iload (z := 0) dL_law_605 rfl (q := 607) rfl ?_
  refine J_iconst (x := nI 2) dL_law_607 (by decide) (q := 608) rfl ?_
  refine J_iadd dL_law_608 (q := 609) rfl ?_
  refine J_sld dL_law_609 (sl_in (k := 2) (by decide) hl hX) (q := 610) rfl ?_
  refine J_aload_n (z := 1) dL_law_610 rfl rfl (q := 611) rfl ?_
  refine J_iload (z := 0) dL_law_611 rfl (q := 613) rfl ?_
  refine J_iconst (x := nI 3) dL_law_613 (by decide) (q := 614) rfl ?_
  refine J_iadd dL_law_614 (q := 615) rfl ?_
  refine J_sld dL_law_615 (sl_in (k := 3) (by decide) hl hX) (q := 616) rfl ?_
  refine J_callV (as := [.int (X.2 (nI (6 * t) + nI 1).toNatClampNeg), .int (X.2 (nI (6 * t) + nI 2).toNatClampNeg), .int (X.2 (nI (6 * t) + nI 3).toNatClampNeg)]) (kc2 := kc + 1) (ks2 := ks + 6) (F1 := (335, some (.int v), σ1)) dL_law_616 mRL_68 rt0 (tX9_melt rt0 e1) rfl (Nat.le_of_ble_eq_true rfl) (Nat.le_of_ble_eq_true rfl) (Nat.le_of_ble_eq_true rfl) (by omega) (by omega) (Nat.le_refl _) (fun h => h) (Or.inl rfl) (q := 619) rfl (fun _ => ?_)
  refine J_aload_n (z := 3) dL_law_619 rfl rfl (q := 620) rfl ?_
  refine J_aload_n (z := 1) dL_law_620 rfl rfl (q := 621) rfl ?_
  refine J_iload (z := 0) dL_law_621 rfl (q := 623) rfl ?_
  refine J_iconst (x := nI 1) dL_law_623 (by decide) (q := 624) rfl ?_
  refine J_iadd dL_law_624 (q := 625) rfl ?_
  refine J_sld dL_law_625 (sl_in (k := 1) (by decide) hl hX) (q := 626) rfl ?_
  refine J_aload_n (z := 1) dL_law_626 rfl rfl (q := 627) rfl ?_
  refine J_iload (z := 0) dL_law_627 rfl (q := 629) rfl ?_
  refine J_iconst (x := nI 2) dL_law_629 (by decide) (q := 630) rfl ?_
  refine J_iadd dL_law_630 (q := 631) rfl ?_
  refine J_sld dL_law_631 (sl_in (k := 2) (by decide) hl hX) (q := 632) rfl ?_
  refine J_aload_n (z := 1) dL_law_632 rfl rfl (q := 633) rfl ?_
  refine J_iload (z := 0) dL_law_633 rfl (q := 635) rfl ?_
  refine J_iconst (x := nI 3) dL_law_635 (by decide) (q := 636) rfl ?_
  refine J_iadd dL_law_636 (q := 637) rfl ?_
  refine J_sld dL_law_637 (sl_in (k := 3) (by decide) hl hX) (q := 638) rfl ?_
  refine J_callV (as := [.int (X.2 (nI (6 * t) + nI 1).toNatClampNeg), .int (X.2 (nI (6 * t) + nI 2).toNatClampNeg), .int (X.2 (nI (6 * t) + nI 3).toNatClampNeg)]) (kc2 := kc) (ks2 := ks) (F1 := (335, some (.int v), σ2)) dL_law_638 mRL_72 rt310 (tX10_melt rt310 e2) rfl (Nat.le_of_ble_eq_true rfl) (Nat.le_of_ble_eq_true rfl) (Nat.le_of_ble_eq_true rfl) (by omega) (by omega) (Nat.le_refl _) (fun h => h) (Or.inl rfl) (q := 641) rfl (fun _ => ?_)
  exact J_icmp_eq (tgt := 1635) dL_law_641 (by decide) (q := 644) rfl (fun _ => hk) (fun c => absurd rfl c)
set_option maxRecDepth 20000 in
set_option maxHeartbeats 2000000 in
theorem lw_11 (h : ALL t σ) (ht : t ≤ 1000) (hl : 6 * t + 6 ≤ X.1) (hX : X.1 ≤ 3072) : TURN1 X t σ 646 := by
  obtain ⟨v, σ1, σ2, e1, e2, hA⟩ := A_read h ht (X.2 (nI (6 * t) + nI 1).toNatClampNeg) (X.2 (nI (6 * t) + nI 2).toNatClampNeg)
  refine ⟨σ2, hA, fun F kc ks hk => ?_⟩
  unfold LVL
  refine J_aload_n (z := 2) dL_law_646 rfl rfl (q := 647) rfl ?_
  refine J_aload_n (z := 1) dL_law_647 rfl rfl (q := 648) rfl ?_
  refine J_iload (z := 0) dL_law_648 rfl (q := 650) rfl ?_
  refine J_iconst (x := nI 1) dL_law_650 (by decide) (q := 651) rfl ?_
  refine J_iadd dL_law_651 (q := 652) rfl ?_
  refine J_sld dL_law_652 (sl_in (k := 1) (by decide) hl hX) (q := 653) rfl ?_
  refine J_aload_n (z := 1) dL_law_653 rfl rfl (q := 654) rfl ?_
  refine J_iload (z := 0) dL_law_654 rfl (q := 656) rfl ?_
  refine J_iconst (x := nI 2) dL_law_656 (by decide) (q := 657) rfl ?_
  refine J_iadd dL_law_657 (q := 658) rfl ?_
  refine J_sld dL_law_658 (sl_in (k := 2) (by decide) hl hX) (q := 659) rfl ?_
  refine J_callV (as := [.int (X.2 (nI (6 * t) + nI 1).toNatClampNeg), .int (X.2 (nI (6 * t) + nI 2).toNatClampNeg)]) (kc2 := kc + 1) (ks2 := ks + 6) (F1 := (335, some (.int v), σ1)) dL_law_659 mRL_73 rt0 (tX9_read rt0 e1) rfl (Nat.le_of_ble_eq_true rfl) (Nat.le_of_ble_eq_true rfl) (Nat.le_of_ble_eq_true rfl) (by omega) (by omega) (Nat.le_refl _) (fun h => h) (Or.inl rfl) (q := 662) rfl (fun _ => ?_)
  refine J_aload_n (z := 3) dL_law_662 rfl rfl (q := 663) rfl ?_
  refine J_aload_n (z := 1) dL_law_663 rfl rfl (q := 664) rfl ?_
  refine J_iload (z := 0) dL_law_664 rfl (q := 666) rfl ?_
  refine J_iconst (x := nI 1) dL_law_666 (by decide) (q := 667) rfl ?_
  refine J_iadd dL_law_667 (q := 668) rfl ?_
  refine J_sld dL_law_668 (sl_in (k := 1) (by decide) hl hX) (q := 669) rfl ?_
  refine J_aload_n (z := 1) dL_law_669 rfl rfl (q := 670) rfl ?_
  refine J_iload (z := 0) dL_law_670 rfl (q := 672) rfl ?_
  refine J_iconst (x := nI 2) dL_law_672 (by decide) (q := 673) rfl ?_
  refine J_iadd dL_law_673 (q := 674) rfl ?_
  refine J_sld dL_law_674 (sl_in (k := 2) (by decide) hl hX) (q := 675) rfl ?_
  refine J_callV (as := [.int (X.2 (nI (6 * t) + nI 1).toNatClampNeg), .int (X.2 (nI (6 * t) + nI 2).toNatClampNeg)]) (kc2 := kc) (ks2 := ks) (F1 := (335, some (.int v), σ2)) dL_law_675 mRL_76 rt310 (tX10_read rt310 e2) rfl (Nat.le_of_ble_eq_true rfl) (Nat.le_of_ble_eq_true rfl) (Nat.le_of_ble_eq_true rfl) (by omega) (by omega) (Nat.le_refl _) (fun h => h) (Or.inl rfl) (q := 678) rfl (fun _ => ?_)
  exact J_icmp_eq (tgt := 1635) dL_law_678 (by decide) (q := 681) rfl (fun _ => hk) (fun c => absurd rfl c)
set_option maxRecDepth 20000 in
set_option maxHeartbeats 2000000 in
theorem lw_12 (h : ALL t σ) (ht : t ≤ 1000) (hl : 6 * t + 6 ≤ X.1) (hX : X.1 ≤ 3072) : TURN1 X t σ 683 := by
  obtain ⟨v, σ1, σ2, e1, e2, hA⟩ := A_recut h ht (X.2 (nI (6 * t) + nI 1).toNatClampNeg) (X.2 (nI (6 * t) + nI 2).toNatClampNeg)
  refine ⟨σ2, hA, fun F kc ks hk => ?_⟩
  unfold LVL
  refine J_aload_n (z := 2) dL_law_683 rfl rfl (q := 684) rfl ?_
  refine J_aload_n (z := 1) dL_law_684 rfl rfl (q := 685) rfl ?_
  refine J_iload (z := 0) dL_law_685 rfl (q := 687) rfl ?_
  refine J_iconst (x := nI 1) dL_law_687 (by decide) (q := 688) rfl ?_
  refine J_iadd dL_law_688 (q := 689) rfl ?_
  refine J_sld dL_law_689 (sl_in (k := 1) (by decide) hl hX) (q := 690) rfl ?_
  refine J_aload_n (z := 1) dL_law_690 rfl rfl (q := 691) rfl ?_
  refine J_iload (z := 0) dL_law_691 rfl (q := 693) rfl ?_
  refine J_iconst (x := nI 2) dL_law_693 (by decide) (q := 694) rfl ?_
  refine J_iadd dL_law_694 (q := 695) rfl ?_
  refine J_sld dL_law_695 (sl_in (k := 2) (by decide) hl hX) (q := 696) rfl ?_
  refine J_callV (as := [.int (X.2 (nI (6 * t) + nI 1).toNatClampNeg), .int (X.2 (nI (6 * t) + nI 2).toNatClampNeg)]) (kc2 := kc + 1) (ks2 := ks + 6) (F1 := (335, some (.int v), σ1)) dL_law_696 mRL_77 rt0 (tX9_recut rt0 e1) rfl (Nat.le_of_ble_eq_true rfl) (Nat.le_of_ble_eq_true rfl) (Nat.le_of_ble_eq_true rfl) (by omega) (by omega) (Nat.le_refl _) (fun h => h) (Or.inl rfl) (q := 699) rfl (fun _ => ?_)
  refine J_aload_n (z := 3) dL_law_699 rfl rfl (q := 700) rfl ?_
  refine J_aload_n (z := 1) dL_law_700 rfl rfl (q := 701) rfl ?_
  refine J_iload (z := 0) dL_law_701 rfl (q := 703) rfl ?_
  refine J_iconst (x := nI 1) dL_law_703 (by decide) (q := 704) rfl ?_
  refine J_iadd dL_law_704 (q := 705) rfl ?_
  refine J_sld dL_law_705 (sl_in (k := 1) (by decide) hl hX) (q := 706) rfl ?_
  refine J_aload_n (z := 1) dL_law_706 rfl rfl (q := 707) rfl ?_
  refine J_iload (z := 0) dL_law_707 rfl (q := 709) rfl ?_
  refine J_iconst (x := nI 2) dL_law_709 (by decide) (q := 710) rfl ?_
  refine J_iadd dL_law_710 (q := 711) rfl ?_
  refine J_sld dL_law_711 (sl_in (k := 2) (by decide) hl hX) (q := 712) rfl ?_
  refine J_callV (as := [.int (X.2 (nI (6 * t) + nI 1).toNatClampNeg), .int (X.2 (nI (6 * t) + nI 2).toNatClampNeg)]) (kc2 := kc) (ks2 := ks) (F1 := (335, some (.int v), σ2)) dL_law_712 mRL_80 rt310 (tX10_recut rt310 e2) rfl (Nat.le_of_ble_eq_true rfl) (Nat.le_of_ble_eq_true rfl) (Nat.le_of_ble_eq_true rfl) (by omega) (by omega) (Nat.le_refl _) (fun h => h) (Or.inl rfl) (q := 715) rfl (fun _ => ?_)
  exact J_icmp_eq (tgt := 1635) dL_law_715 (by decide) (q := 718) rfl (fun _ => hk) (fun c => absurd rfl c)
set_option maxRecDepth 20000 in
set_option maxHeartbeats 2000000 in
theorem lw_13 (h : ALL t σ) (ht : t ≤ 1000) (hl : 6 * t + 6 ≤ X.1) (hX : X.1 ≤ 3072) : TURN1 X t σ 720 := by
  obtain ⟨v, σ1, σ2, e1, e2, hA⟩ := A_go h ht (X.2 (nI (6 * t) + nI 1).toNatClampNeg) (X.2 (nI (6 * t) + nI 2).toNatClampNeg)
  refine ⟨σ2, hA, fun F kc ks hk => ?_⟩
  unfold LVL
  refine J_aload_n (z := 2) dL_law_720 rfl rfl (q := 721) rfl ?_
  refine J_aload_n (z := 1) dL_law_721 rfl rfl (q := 722) rfl ?_
  refine J_iload (z := 0) dL_law_722 rfl (q := 724) rfl ?_
  refine J_iconst (x := nI 1) dL_law_724 (by decide) (q := 725) rfl ?_
  refine J_iadd dL_law_725 (q := 726) rfl ?_
  refine J_sld dL_law_726 (sl_in (k := 1) (by decide) hl hX) (q := 727) rfl ?_
  refine J_aload_n (z := 1) dL_law_727 rfl rfl (q := 728) rfl ?_
  refine J_iload (z := 0) dL_law_728 rfl (q := 730) rfl ?_
  refine J_iconst (x := nI 2) dL_law_730 (by decide) (q := 731) rfl ?_
  refine J_iadd dL_law_731 (q := 732) rfl ?_
  refine J_sld dL_law_732 (sl_in (k := 2) (by decide) hl hX) (q := 733) rfl ?_
  refine J_callV (as := [.int (X.2 (nI (6 * t) + nI 1).toNatClampNeg), .int (X.2 (nI (6 * t) + nI 2).toNatClampNeg)]) (kc2 := kc + 1) (ks2 := ks + 6) (F1 := (335, some (.int v), σ1)) dL_law_733 mRL_81 rt0 (tX9_go rt0 e1) rfl (Nat.le_of_ble_eq_true rfl) (Nat.le_of_ble_eq_true rfl) (Nat.le_of_ble_eq_true rfl) (by omega) (by omega) (Nat.le_refl _) (fun h => h) (Or.inl rfl) (q := 736) rfl (fun _ => ?_)
  refine J_aload_n (z := 3) dL_law_736 rfl rfl (q := 737) rfl ?_
  refine J_aload_n (z := 1) dL_law_737 rfl rfl (q := 738) rfl ?_
  refine J_iload (z := 0) dL_law_738 rfl (q := 740) rfl ?_
  refine J_iconst (x := nI 1) dL_law_740 (by decide) (q := 741) rfl ?_
  refine J_iadd dL_law_741 (q := 742) rfl ?_
  refine J_sld dL_law_742 (sl_in (k := 1) (by decide) hl hX) (q := 743) rfl ?_
  refine J_aload_n (z := 1) dL_law_743 rfl rfl (q := 744) rfl ?_
  refine J_iload (z := 0) dL_law_744 rfl (q := 746) rfl ?_
  refine J_iconst (x := nI 2) dL_law_746 (by decide) (q := 747) rfl ?_
  refine J_iadd dL_law_747 (q := 748) rfl ?_
  refine J_sld dL_law_748 (sl_in (k := 2) (by decide) hl hX) (q := 749) rfl ?_
  refine J_callV (as := [.int (X.2 (nI (6 * t) + nI 1).toNatClampNeg), .int (X.2 (nI (6 * t) + nI 2).toNatClampNeg)]) (kc2 := kc) (ks2 := ks) (F1 := (335, some (.int v), σ2)) dL_law_749 mRL_84 rt310 (tX10_go rt310 e2) rfl (Nat.le_of_ble_eq_true rfl) (Nat.le_of_ble_eq_true rfl) (Nat.le_of_ble_eq_true rfl) (by omega) (by omega) (Nat.le_refl _) (fun h => h) (Or.inl rfl) (q := 752) rfl (fun _ => ?_)
  exact J_icmp_eq (tgt := 1635) dL_law_752 (by decide) (q := 755) rfl (fun _ => hk) (fun c => absurd rfl c)
set_option maxRecDepth 20000 in
set_option maxHeartbeats 2000000 in
theorem lw_14 (h : ALL t σ) (ht : t ≤ 1000) (hl : 6 * t + 6 ≤ X.1) (hX : X.1 ≤ 3072) : TURN1 X t σ 757 := by
  obtain ⟨v, σ1, σ2, e1, e2, hA⟩ := A_tell h ht (X.2 (nI (6 * t) + nI 1).toNatClampNeg) (X.2 (nI (6 * t) + nI 2).toNatClampNeg)
  refine ⟨σ2, hA, fun F kc ks hk => ?_⟩
  unfold LVL
  refine J_aload_n (z := 2) dL_law_757 rfl rfl (q := 758) rfl ?_
  refine J_aload_n (z := 1) dL_law_758 rfl rfl (q := 759) rfl ?_
  refine J_iload (z := 0) dL_law_759 rfl (q := 761) rfl ?_
  refine J_iconst (x := nI 1) dL_law_761 (by decide) (q := 762) rfl ?_
  refine J_iadd dL_law_762 (q := 763) rfl ?_
  refine J_sld dL_law_763 (sl_in (k := 1) (by decide) hl hX) (q := 764) rfl ?_
  refine J_aload_n (z := 1) dL_law_764 rfl rfl (q := 765) rfl ?_
  refine J_iload (z := 0) dL_law_765 rfl (q := 767) rfl ?_
  refine J_iconst (x := nI 2) dL_law_767 (by decide) (q := 768) rfl ?_
  refine J_iadd dL_law_768 (q := 769) rfl ?_
  refine J_sld dL_law_769 (sl_in (k := 2) (by decide) hl hX) (q := 770) rfl ?_
  refine J_callV (as := [.int (X.2 (nI (6 * t) + nI 1).toNatClampNeg), .int (X.2 (nI (6 * t) + nI 2).toNatClampNeg)]) (kc2 := kc + 1) (ks2 := ks + 6) (F1 := (335, some (.int v), σ1)) dL_law_770 mRL_85 rt0 (tX9_tell rt0 e1) rfl (Nat.le_of_ble_eq_true rfl) (Nat.le_of_ble_eq_true rfl) (Nat.le_of_ble_eq_true rfl) (by omega) (by omega) (Nat.le_refl _) (fun h => h) (Or.inl rfl) (q := 773) rfl (fun _ => ?_)
  refine J_aload_n (z := 3) dL_law_773 rfl rfl (q := 774) rfl ?_
  refine J_aload_n (z := 1) dL_law_774 rfl rfl (q := 775) rfl ?_
  refine J_iload (z := 0) dL_law_775 rfl (q := 777) rfl ?_
  refine J_iconst (x := nI 1) dL_law_777 (by decide) (q := 778) rfl ?_
  refine J_iadd dL_law_778 (q := 779) rfl ?_
  refine J_sld dL_law_779 (sl_in (k := 1) (by decide) hl hX) (q := 780) rfl ?_
  refine J_aload_n (z := 1) dL_law_780 rfl rfl (q := 781) rfl ?_
  refine J_iload (z := 0) dL_law_781 rfl (q := 783) rfl ?_
  refine J_iconst (x := nI 2) dL_law_783 (by decide) (q := 784) rfl ?_
  refine J_iadd dL_law_784 (q := 785) rfl ?_
  refine J_sld dL_law_785 (sl_in (k := 2) (by decide) hl hX) (q := 786) rfl ?_
  refine J_callV (as := [.int (X.2 (nI (6 * t) + nI 1).toNatClampNeg), .int (X.2 (nI (6 * t) + nI 2).toNatClampNeg)]) (kc2 := kc) (ks2 := ks) (F1 := (335, some (.int v), σ2)) dL_law_786 mRL_88 rt310 (tX10_tell rt310 e2) rfl (Nat.le_of_ble_eq_true rfl) (Nat.le_of_ble_eq_true rfl) (Nat.le_of_ble_eq_true rfl) (by omega) (by omega) (Nat.le_refl _) (fun h => h) (Or.inl rfl) (q := 789) rfl (fun _ => ?_)
  exact J_icmp_eq (tgt := 1635) dL_law_789 (by decide) (q := 792) rfl (fun _ => hk) (fun c => absurd rfl c)
set_option maxRecDepth 20000 in
set_option maxHeartbeats 2000000 in
theorem lw_15 (h : ALL t σ) (ht : t ≤ 1000) (hl : 6 * t + 6 ≤ X.1) (hX : X.1 ≤ 3072) : TURN1 X t σ 794 := by
  obtain ⟨v, σ1, σ2, e1, e2, hA⟩ := A_night h ht
  refine ⟨σ2, hA, fun F kc ks hk => ?_⟩
  unfold LVL
  refine J_aload_n (z := 2) dL_law_794 rfl rfl (q := 795) rfl ?_
  refine J_callV (as := []) (kc2 := kc + 1) (ks2 := ks + 6) (F1 := (335, some (.int v), σ1)) dL_law_795 mRL_89 rt0 (tX9_night rt0 e1) rfl (Nat.le_of_ble_eq_true rfl) (Nat.le_of_ble_eq_true rfl) (Nat.le_of_ble_eq_true rfl) (by omega) (by omega) (Nat.le_refl _) (fun h => h) (Or.inl rfl) (q := 798) rfl (fun _ => ?_)
  refine J_aload_n (z := 3) dL_law_798 rfl rfl (q := 799) rfl ?_
  refine J_callV (as := []) (kc2 := kc) (ks2 := ks) (F1 := (335, some (.int v), σ2)) dL_law_799 mRL_92 rt310 (tX10_night rt310 e2) rfl (Nat.le_of_ble_eq_true rfl) (Nat.le_of_ble_eq_true rfl) (Nat.le_of_ble_eq_true rfl) (by omega) (by omega) (Nat.le_refl _) (fun h => h) (Or.inl rfl) (q := 802) rfl (fun _ => ?_)
  exact J_icmp_eq (tgt := 1635) dL_law_802 (by decide) (q := 805) rfl (fun _ => hk) (fun c => absurd rfl c)
set_option maxRecDepth 20000 in
set_option maxHeartbeats 2000000 in
theorem lw_16 (h : ALL t σ) (ht : t ≤ 1000) (hl : 6 * t + 6 ≤ X.1) (hX : X.1 ≤ 3072) : TURN1 X t σ 807 := by
  obtain ⟨v, σ1, σ2, e1, e2, hA⟩ := A_hare h ht (X.2 (nI (6 * t) + nI 1).toNatClampNeg)
  refine ⟨σ2, hA, fun F kc ks hk => ?_⟩
  unfold LVL
  refine J_aload_n (z := 2) dL_law_807 rfl rfl (q := 808) rfl ?_
  refine J_aload_n (z := 1) dL_law_808 rfl rfl (q := 809) rfl ?_
  refine J_iload (z := 0) dL_law_809 rfl (q := 811) rfl ?_
  refine J_iconst (x := nI 1) dL_law_811 (by decide) (q := 812) rfl ?_
  refine J_iadd dL_law_812 (q := 813) rfl ?_
  refine J_sld dL_law_813 (sl_in (k := 1) (by decide) hl hX) (q := 814) rfl ?_
  refine J_callV (as := [.int (X.2 (nI (6 * t) + nI 1).toNatClampNeg)]) (kc2 := kc + 1) (ks2 := ks + 6) (F1 := (335, some (.int v), σ1)) dL_law_814 mRL_93 rt0 (tX9_hare rt0 e1) rfl (Nat.le_of_ble_eq_true rfl) (Nat.le_of_ble_eq_true rfl) (Nat.le_of_ble_eq_true rfl) (by omega) (by omega) (Nat.le_refl _) (fun h => h) (Or.inl rfl) (q := 817) rfl (fun _ => ?_)
  refine J_aload_n (z := 3) dL_law_817 rfl rfl (q := 818) rfl ?_
  refine J_aload_n (z := 1) dL_law_818 rfl rfl (q := 819) rfl ?_
  refine J_iload (z := 0) dL_law_819 rfl (q := 821) rfl ?_
  refine J_iconst (x := nI 1) dL_law_821 (by decide) (q := 822) rfl ?_
  refine J_iadd dL_law_822 (q := 823) rfl ?_
  refine J_sld dL_law_823 (sl_in (k := 1) (by decide) hl hX) (q := 824) rfl ?_
  refine J_callV (as := [.int (X.2 (nI (6 * t) + nI 1).toNatClampNeg)]) (kc2 := kc) (ks2 := ks) (F1 := (335, some (.int v), σ2)) dL_law_824 mRL_96 rt310 (tX10_hare rt310 e2) rfl (Nat.le_of_ble_eq_true rfl) (Nat.le_of_ble_eq_true rfl) (Nat.le_of_ble_eq_true rfl) (by omega) (by omega) (Nat.le_refl _) (fun h => h) (Or.inl rfl) (q := 827) rfl (fun _ => ?_)
  exact J_icmp_eq (tgt := 1635) dL_law_827 (by decide) (q := 830) rfl (fun _ => hk) (fun c => absurd rfl c)
set_option maxRecDepth 20000 in
set_option maxHeartbeats 2000000 in
theorem lw_17 (h : ALL t σ) (ht : t ≤ 1000) (hl : 6 * t + 6 ≤ X.1) (hX : X.1 ≤ 3072) : TURN1 X t σ 832 := by
  obtain ⟨v, σ1, σ2, e1, e2, hA⟩ := A_cent h ht (X.2 (nI (6 * t) + nI 1).toNatClampNeg) ((shlL ((X.2 (nI (6 * t) + nI 2).toNatClampNeg)).toInt64 32) ||| (((X.2 (nI (6 * t) + nI 3).toNatClampNeg)).toInt64 &&& 4294967295))
  refine ⟨σ2, hA, fun F kc ks hk => ?_⟩
  unfold LVL
  refine J_aload_n (z := 2) dL_law_832 rfl rfl (q := 833) rfl ?_
  refine J_aload_n (z := 1) dL_law_833 rfl rfl (q := 834) rfl ?_
  refine J_iload (z := 0) dL_law_834 rfl (q := 836) rfl ?_
  refine J_iconst (x := nI 1) dL_law_836 (by decide) (q := 837) rfl ?_
  refine J_iadd dL_law_837 (q := 838) rfl ?_
  refine J_sld dL_law_838 (sl_in (k := 1) (by decide) hl hX) (q := 839) rfl ?_
  refine J_aload_n (z := 1) dL_law_839 rfl rfl (q := 840) rfl ?_
  refine J_iload (z := 0) dL_law_840 rfl (q := 842) rfl ?_
  refine J_iconst (x := nI 2) dL_law_842 (by decide) (q := 843) rfl ?_
  refine J_iadd dL_law_843 (q := 844) rfl ?_
  refine J_sld dL_law_844 (sl_in (k := 2) (by decide) hl hX) (q := 845) rfl ?_
  refine J_i2l dL_law_845 (q := 846) rfl ?_
  refine J_bipush (x := 32) dL_law_846 (by decide) (q := 848) rfl ?_
  refine J_lshl dL_law_848 (q := 849) rfl ?_
  refine J_aload_n (z := 1) dL_law_849 rfl rfl (q := 850) rfl ?_
  refine J_iload (z := 0) dL_law_850 rfl (q := 852) rfl ?_
  refine J_iconst (x := nI 3) dL_law_852 (by decide) (q := 853) rfl ?_
  refine J_iadd dL_law_853 (q := 854) rfl ?_
  refine J_sld dL_law_854 (sl_in (k := 3) (by decide) hl hX) (q := 855) rfl ?_
  refine J_i2l dL_law_855 (q := 856) rfl ?_
  refine J_ldc2 (x := 4294967295) dL_law_856 q_l97 (q := 859) rfl ?_
  refine J_land dL_law_859 (q := 860) rfl ?_
  refine J_lor dL_law_860 (q := 861) rfl ?_
  refine J_callV (as := [.int (X.2 (nI (6 * t) + nI 1).toNatClampNeg), .long ((shlL ((X.2 (nI (6 * t) + nI 2).toNatClampNeg)).toInt64 32) ||| (((X.2 (nI (6 * t) + nI 3).toNatClampNeg)).toInt64 &&& 4294967295))]) (kc2 := kc + 1) (ks2 := ks + 6) (F1 := (335, some (.int v), σ1)) dL_law_861 mRL_99 rt0 (tX9_centuries rt0 e1) rfl (Nat.le_of_ble_eq_true rfl) (Nat.le_of_ble_eq_true rfl) (Nat.le_of_ble_eq_true rfl) (by omega) (by omega) (Nat.le_refl _) (fun h => h) (Or.inl rfl) (q := 864) rfl (fun _ => ?_)
  refine J_aload_n (z := 3) dL_law_864 rfl rfl (q := 865) rfl ?_
  refine J_aload_n (z := 1) dL_law_865 rfl rfl (q := 866) rfl ?_
  refine J_iload (z := 0) dL_law_866 rfl (q := 868) rfl ?_
  refine J_iconst (x := nI 1) dL_law_868 (by decide) (q := 869) rfl ?_
  refine J_iadd dL_law_869 (q := 870) rfl ?_
  refine J_sld dL_law_870 (sl_in (k := 1) (by decide) hl hX) (q := 871) rfl ?_
  refine J_aload_n (z := 1) dL_law_871 rfl rfl (q := 872) rfl ?_
  refine J_iload (z := 0) dL_law_872 rfl (q := 874) rfl ?_
  refine J_iconst (x := nI 2) dL_law_874 (by decide) (q := 875) rfl ?_
  refine J_iadd dL_law_875 (q := 876) rfl ?_
  refine J_sld dL_law_876 (sl_in (k := 2) (by decide) hl hX) (q := 877) rfl ?_
  refine J_i2l dL_law_877 (q := 878) rfl ?_
  refine J_bipush (x := 32) dL_law_878 (by decide) (q := 880) rfl ?_
  refine J_lshl dL_law_880 (q := 881) rfl ?_
  refine J_aload_n (z := 1) dL_law_881 rfl rfl (q := 882) rfl ?_
  refine J_iload (z := 0) dL_law_882 rfl (q := 884) rfl ?_
  refine J_iconst (x := nI 3) dL_law_884 (by decide) (q := 885) rfl ?_
  refine J_iadd dL_law_885 (q := 886) rfl ?_
  refine J_sld dL_law_886 (sl_in (k := 3) (by decide) hl hX) (q := 887) rfl ?_
  refine J_i2l dL_law_887 (q := 888) rfl ?_
  refine J_ldc2 (x := 4294967295) dL_law_888 q_l97 (q := 891) rfl ?_
  refine J_land dL_law_891 (q := 892) rfl ?_
  refine J_lor dL_law_892 (q := 893) rfl ?_
  refine J_callV (as := [.int (X.2 (nI (6 * t) + nI 1).toNatClampNeg), .long ((shlL ((X.2 (nI (6 * t) + nI 2).toNatClampNeg)).toInt64 32) ||| (((X.2 (nI (6 * t) + nI 3).toNatClampNeg)).toInt64 &&& 4294967295))]) (kc2 := kc) (ks2 := ks) (F1 := (335, some (.int v), σ2)) dL_law_893 mRL_103 rt310 (tX10_centuries rt310 e2) rfl (Nat.le_of_ble_eq_true rfl) (Nat.le_of_ble_eq_true rfl) (Nat.le_of_ble_eq_true rfl) (by omega) (by omega) (Nat.le_refl _) (fun h => h) (Or.inl rfl) (q := 896) rfl (fun _ => ?_)
  exact J_icmp_eq (tgt := 1635) dL_law_896 (by decide) (q := 899) rfl (fun _ => hk) (fun c => absurd rfl c)
set_option maxRecDepth 20000 in
set_option maxHeartbeats 2000000 in
theorem lw_18 (h : ALL t σ) (ht : t ≤ 1000) (hl : 6 * t + 6 ≤ X.1) (hX : X.1 ≤ 3072) : TURN1 X t σ 901 := by
  obtain ⟨v, σ1, σ2, e1, e2, hA⟩ := A_undo h ht
  refine ⟨σ2, hA, fun F kc ks hk => ?_⟩
  unfold LVL
  refine J_aload_n (z := 2) dL_law_901 rfl rfl (q := 902) rfl ?_
  refine J_callV (as := []) (kc2 := kc + 1) (ks2 := ks + 6) (F1 := (335, some (.int v), σ1)) dL_law_902 mRL_104 rt0 (tX9_undo rt0 e1) rfl (Nat.le_of_ble_eq_true rfl) (Nat.le_of_ble_eq_true rfl) (Nat.le_of_ble_eq_true rfl) (by omega) (by omega) (Nat.le_refl _) (fun h => h) (Or.inl rfl) (q := 905) rfl (fun _ => ?_)
  refine J_aload_n (z := 3) dL_law_905 rfl rfl (q := 906) rfl ?_
  refine J_callV (as := []) (kc2 := kc) (ks2 := ks) (F1 := (335, some (.int v), σ2)) dL_law_906 mRL_107 rt310 (tX10_undo rt310 e2) rfl (Nat.le_of_ble_eq_true rfl) (Nat.le_of_ble_eq_true rfl) (Nat.le_of_ble_eq_true rfl) (by omega) (by omega) (Nat.le_refl _) (fun h => h) (Or.inl rfl) (q := 909) rfl (fun _ => ?_)
  exact J_icmp_eq (tgt := 1635) dL_law_909 (by decide) (q := 912) rfl (fun _ => hk) (fun c => absurd rfl c)
set_option maxRecDepth 20000 in
set_option maxHeartbeats 2000000 in
theorem lw_19 (h : ALL t σ) (ht : t ≤ 1000) (hl : 6 * t + 6 ≤ X.1) (hX : X.1 ≤ 3072) : TURN1 X t σ 914 := by
  obtain ⟨v, σ2, e1, e2, hA⟩ := A_log h ht (X.2 (nI (6 * t) + nI 1).toNatClampNeg) (X.2 (nI (6 * t) + nI 2).toNatClampNeg)
  refine ⟨σ2, hA, fun F kc ks hk => ?_⟩
  unfold LVL
  refine J_aload_n (z := 2) dL_law_914 rfl rfl (q := 915) rfl ?_
  refine J_aload_n (z := 1) dL_law_915 rfl rfl (q := 916) rfl ?_
  refine J_iload (z := 0) dL_law_916 rfl (q := 918) rfl ?_
  refine J_iconst (x := nI 1) dL_law_918 (by decide) (q := 919) rfl ?_
  refine J_iadd dL_law_919 (q := 920) rfl ?_
  refine J_sld dL_law_920 (sl_in (k := 1) (by decide) hl hX) (q := 921) rfl ?_
  refine J_aload_n (z := 1) dL_law_921 rfl rfl (q := 922) rfl ?_
  refine J_iload (z := 0) dL_law_922 rfl (q := 924) rfl ?_
  refine J_iconst (x := nI 2) dL_law_924 (by decide) (q := 925) rfl ?_
  refine J_iadd dL_law_925 (q := 926) rfl ?_
  refine J_sld dL_law_926 (sl_in (k := 2) (by decide) hl hX) (q := 927) rfl ?_
  refine J_callV (as := [.int (X.2 (nI (6 * t) + nI 1).toNatClampNeg), .int (X.2 (nI (6 * t) + nI 2).toNatClampNeg)]) (kc2 := kc + 1) (ks2 := ks + 6) (F1 := (335, some (.int v), σ)) dL_law_927 mRL_108 rt0 (tX9_log rt0 e1) rfl (Nat.le_of_ble_eq_true rfl) (Nat.le_of_ble_eq_true rfl) (Nat.le_of_ble_eq_true rfl) (by omega) (by omega) (Nat.le_refl _) (fun h => h) (Or.inl rfl) (q := 930) rfl (fun _ => ?_)
  refine J_aload_n (z := 3) dL_law_930 rfl rfl (q := 931) rfl ?_
  refine J_aload_n (z := 1) dL_law_931 rfl rfl (q := 932) rfl ?_
  refine J_iload (z := 0) dL_law_932 rfl (q := 934) rfl ?_
  refine J_iconst (x := nI 1) dL_law_934 (by decide) (q := 935) rfl ?_
  refine J_iadd dL_law_935 (q := 936) rfl ?_
  refine J_sld dL_law_936 (sl_in (k := 1) (by decide) hl hX) (q := 937) rfl ?_
  refine J_aload_n (z := 1) dL_law_937 rfl rfl (q := 938) rfl ?_
  refine J_iload (z := 0) dL_law_938 rfl (q := 940) rfl ?_
  refine J_iconst (x := nI 2) dL_law_940 (by decide) (q := 941) rfl ?_
  refine J_iadd dL_law_941 (q := 942) rfl ?_
  refine J_sld dL_law_942 (sl_in (k := 2) (by decide) hl hX) (q := 943) rfl ?_
  refine J_callV (as := [.int (X.2 (nI (6 * t) + nI 1).toNatClampNeg), .int (X.2 (nI (6 * t) + nI 2).toNatClampNeg)]) (kc2 := kc) (ks2 := ks) (F1 := (335, some (.int v), σ2)) dL_law_943 mRL_111 rt310 (tX10_log rt310 e2) rfl (Nat.le_of_ble_eq_true rfl) (Nat.le_of_ble_eq_true rfl) (Nat.le_of_ble_eq_true rfl) (by omega) (by omega) (Nat.le_refl _) (fun h => h) (Or.inl rfl) (q := 946) rfl (fun _ => ?_)
  exact J_icmp_eq (tgt := 1635) dL_law_946 (by decide) (q := 949) rfl (fun _ => hk) (fun c => absurd rfl c)
set_option maxRecDepth 20000 in
set_option maxHeartbeats 2000000 in
theorem lw_20 (h : ALL t σ) (ht : t ≤ 1000) (hl : 6 * t + 6 ≤ X.1) (hX : X.1 ≤ 3072) : TURN1 X t σ 951 := by
  obtain ⟨v, σ2, e1, e2, hA⟩ := A_step h ht (X.2 (nI (6 * t) + nI 1).toNatClampNeg) (X.2 (nI (6 * t) + nI 2).toNatClampNeg) (X.2 (nI (6 * t) + nI 3).toNatClampNeg)
  refine ⟨σ2, hA, fun F kc ks hk => ?_⟩
  unfold LVL
  refine J_aload_n (z := 2) dL_law_951 rfl rfl (q := 952) rfl ?_
  refine J_aload_n (z := 1) dL_law_952 rfl rfl (q := 953) rfl ?_
  refine J_iload (z := 0) dL_law_953 rfl (q := 955) rfl ?_
  refine J_iconst (x := nI 1) dL_law_955 (by decide) (q := 956) rfl ?_
  refine J_iadd dL_law_956 (q := 957) rfl ?_
  refine J_sld dL_law_957 (sl_in (k := 1) (by decide) hl hX) (q := 958) rfl ?_
  refine J_aload_n (z := 1) dL_law_958 rfl rfl (q := 959) rfl ?_
  refine J_iload (z := 0) dL_law_959 rfl (q := 961) rfl ?_
  refine J_iconst (x := nI 2) dL_law_961 (by decide) (q := 962) rfl ?_
  refine J_iadd dL_law_962 (q := 963) rfl ?_
  refine J_sld dL_law_963 (sl_in (k := 2) (by decide) hl hX) (q := 964) rfl ?_
  refine J_aload_n (z := 1) dL_law_964 rfl rfl (q := 965) rfl ?_
  refine J_iload (z := 0) dL_law_965 rfl (q := 967) rfl ?_
  refine J_iconst (x := nI 3) dL_law_967 (by decide) (q := 968) rfl ?_
  refine J_iadd dL_law_968 (q := 969) rfl ?_
  refine J_sld dL_law_969 (sl_in (k := 3) (by decide) hl hX) (q := 970) rfl ?_
  refine J_callV (as := [.int (X.2 (nI (6 * t) + nI 1).toNatClampNeg), .int (X.2 (nI (6 * t) + nI 2).toNatClampNeg), .int (X.2 (nI (6 * t) + nI 3).toNatClampNeg)]) (kc2 := kc + 1) (ks2 := ks + 6) (F1 := (335, some (.int v), σ)) dL_law_970 mRL_112 rt0 (tX9_step rt0 e1) rfl (Nat.le_of_ble_eq_true rfl) (Nat.le_of_ble_eq_true rfl) (Nat.le_of_ble_eq_true rfl) (by omega) (by omega) (Nat.le_refl _) (fun h => h) (Or.inl rfl) (q := 973) rfl (fun _ => ?_)
  refine J_aload_n (z := 3) dL_law_973 rfl rfl (q := 974) rfl ?_
  refine J_aload_n (z := 1) dL_law_974 rfl rfl (q := 975) rfl ?_
  refine J_iload (z := 0) dL_law_975 rfl (q := 977) rfl ?_
  refine J_iconst (x := nI 1) dL_law_977 (by decide) (q := 978) rfl ?_
  refine J_iadd dL_law_978 (q := 979) rfl ?_
  refine J_sld dL_law_979 (sl_in (k := 1) (by decide) hl hX) (q := 980) rfl ?_
  refine J_aload_n (z := 1) dL_law_980 rfl rfl (q := 981) rfl ?_
  refine J_iload (z := 0) dL_law_981 rfl (q := 983) rfl ?_
  refine J_iconst (x := nI 2) dL_law_983 (by decide) (q := 984) rfl ?_
  refine J_iadd dL_law_984 (q := 985) rfl ?_
  refine J_sld dL_law_985 (sl_in (k := 2) (by decide) hl hX) (q := 986) rfl ?_
  refine J_aload_n (z := 1) dL_law_986 rfl rfl (q := 987) rfl ?_
  refine J_iload (z := 0) dL_law_987 rfl (q := 989) rfl ?_
  refine J_iconst (x := nI 3) dL_law_989 (by decide) (q := 990) rfl ?_
  refine J_iadd dL_law_990 (q := 991) rfl ?_
  refine J_sld dL_law_991 (sl_in (k := 3) (by decide) hl hX) (q := 992) rfl ?_
  refine J_callV (as := [.int (X.2 (nI (6 * t) + nI 1).toNatClampNeg), .int (X.2 (nI (6 * t) + nI 2).toNatClampNeg), .int (X.2 (nI (6 * t) + nI 3).toNatClampNeg)]) (kc2 := kc) (ks2 := ks) (F1 := (335, some (.int v), σ2)) dL_law_992 mRL_115 rt310 (tX10_step rt310 e2) rfl (Nat.le_of_ble_eq_true rfl) (Nat.le_of_ble_eq_true rfl) (Nat.le_of_ble_eq_true rfl) (by omega) (by omega) (Nat.le_refl _) (fun h => h) (Or.inl rfl) (q := 995) rfl (fun _ => ?_)
  exact J_icmp_eq (tgt := 1635) dL_law_995 (by decide) (q := 998) rfl (fun _ => hk) (fun c => absurd rfl c)
set_option maxRecDepth 20000 in
set_option maxHeartbeats 2000000 in
theorem lw_21 (h : ALL t σ) (ht : t ≤ 1000) (hl : 6 * t + 6 ≤ X.1) (hX : X.1 ≤ 3072) : TURN1 X t σ 1000 := by
  obtain ⟨v, σ1, σ2, e1, e2, hA⟩ := A_run h ht (X.2 (nI (6 * t) + nI 1).toNatClampNeg) (X.2 (nI (6 * t) + nI 2).toNatClampNeg)
  refine ⟨σ2, hA, fun F kc ks hk => ?_⟩
  unfold LVL
  refine J_aload_n (z := 2) dL_law_1000 rfl rfl (q := 1001) rfl ?_
  refine J_aload_n (z := 1) dL_law_1001 rfl rfl (q := 1002) rfl ?_
  refine J_iload (z := 0) dL_law_1002 rfl (q := 1004) rfl ?_
  refine J_iconst (x := nI 1) dL_law_1004 (by decide) (q := 1005) rfl ?_
  refine J_iadd dL_law_1005 (q := 1006) rfl ?_
  refine J_sld dL_law_1006 (sl_in (k := 1) (by decide) hl hX) (q := 1007) rfl ?_
  refine J_aload_n (z := 1) dL_law_1007 rfl rfl (q := 1008) rfl ?_
  refine J_iload (z := 0) dL_law_1008 rfl (q := 1010) rfl ?_
  refine J_iconst (x := nI 2) dL_law_1010 (by decide) (q := 1011) rfl ?_
  refine J_iadd dL_law_1011 (q := 1012) rfl ?_
  refine J_sld dL_law_1012 (sl_in (k := 2) (by decide) hl hX) (q := 1013) rfl ?_
  refine J_callV (as := [.int (X.2 (nI (6 * t) + nI 1).toNatClampNeg), .int (X.2 (nI (6 * t) + nI 2).toNatClampNeg)]) (kc2 := kc + 1) (ks2 := ks + 6) (F1 := (335, some (.int v), σ1)) dL_law_1013 mRL_116 rt0 (tX9_run rt0 e1) rfl (Nat.le_of_ble_eq_true rfl) (Nat.le_of_ble_eq_true rfl) (Nat.le_of_ble_eq_true rfl) (by omega) (by omega) (Nat.le_refl _) (fun h => h) (Or.inl rfl) (q := 1016) rfl (fun _ => ?_)
  refine J_aload_n (z := 3) dL_law_1016 rfl rfl (q := 1017) rfl ?_
  refine J_aload_n (z := 1) dL_law_1017 rfl rfl (q := 1018) rfl ?_
  refine J_iload (z := 0) dL_law_1018 rfl (q := 1020) rfl ?_
  refine J_iconst (x := nI 1) dL_law_1020 (by decide) (q := 1021) rfl ?_
  refine J_iadd dL_law_1021 (q := 1022) rfl ?_
  refine J_sld dL_law_1022 (sl_in (k := 1) (by decide) hl hX) (q := 1023) rfl ?_
  refine J_aload_n (z := 1) dL_law_1023 rfl rfl (q := 1024) rfl ?_
  refine J_iload (z := 0) dL_law_1024 rfl (q := 1026) rfl ?_
  refine J_iconst (x := nI 2) dL_law_1026 (by decide) (q := 1027) rfl ?_
  refine J_iadd dL_law_1027 (q := 1028) rfl ?_
  refine J_sld dL_law_1028 (sl_in (k := 2) (by decide) hl hX) (q := 1029) rfl ?_
  refine J_callV (as := [.int (X.2 (nI (6 * t) + nI 1).toNatClampNeg), .int (X.2 (nI (6 * t) + nI 2).toNatClampNeg)]) (kc2 := kc) (ks2 := ks) (F1 := (335, some (.int v), σ2)) dL_law_1029 mRL_119 rt310 (tX10_run rt310 e2) rfl (Nat.le_of_ble_eq_true rfl) (Nat.le_of_ble_eq_true rfl) (Nat.le_of_ble_eq_true rfl) (by omega) (by omega) (Nat.le_refl _) (fun h => h) (Or.inl rfl) (q := 1032) rfl (fun _ => ?_)
  exact J_icmp_eq (tgt := 1635) dL_law_1032 (by decide) (q := 1035) rfl (fun _ => hk) (fun c => absurd rfl c)
set_option maxRecDepth 20000 in
set_option maxHeartbeats 2000000 in
theorem lw_22 (h : ALL t σ) (ht : t ≤ 1000) (hl : 6 * t + 6 ≤ X.1) (hX : X.1 ≤ 3072) : TURN1 X t σ 1037 := by
  obtain ⟨v, σ1, σ2, e1, e2, hA⟩ := A_perform h ht (X.2 (nI (6 * t) + nI 1).toNatClampNeg)
  refine ⟨σ2, hA, fun F kc ks hk => ?_⟩
  unfold LVL
  refine J_aload_n (z := 2) dL_law_1037 rfl rfl (q := 1038) rfl ?_
  refine J_aload_n (z := 1) dL_law_1038 rfl rfl (q := 1039) rfl ?_
  refine J_iload (z := 0) dL_law_1039 rfl (q := 1041) rfl ?_
  refine J_iconst (x := nI 1) dL_law_1041 (by decide) (q := 1042) rfl ?_
  refine J_iadd dL_law_1042 (q := 1043) rfl ?_
  refine J_sld dL_law_1043 (sl_in (k := 1) (by decide) hl hX) (q := 1044) rfl ?_
  refine J_callV (as := [.int (X.2 (nI (6 * t) + nI 1).toNatClampNeg)]) (kc2 := kc + 1) (ks2 := ks + 6) (F1 := (335, some (.int v), σ1)) dL_law_1044 mRL_120 rt0 (tX9_perform rt0 e1) rfl (Nat.le_of_ble_eq_true rfl) (Nat.le_of_ble_eq_true rfl) (Nat.le_of_ble_eq_true rfl) (by omega) (by omega) (Nat.le_refl _) (fun h => h) (Or.inl rfl) (q := 1047) rfl (fun _ => ?_)
  refine J_aload_n (z := 3) dL_law_1047 rfl rfl (q := 1048) rfl ?_
  refine J_aload_n (z := 1) dL_law_1048 rfl rfl (q := 1049) rfl ?_
  refine J_iload (z := 0) dL_law_1049 rfl (q := 1051) rfl ?_
  refine J_iconst (x := nI 1) dL_law_1051 (by decide) (q := 1052) rfl ?_
  refine J_iadd dL_law_1052 (q := 1053) rfl ?_
  refine J_sld dL_law_1053 (sl_in (k := 1) (by decide) hl hX) (q := 1054) rfl ?_
  refine J_callV (as := [.int (X.2 (nI (6 * t) + nI 1).toNatClampNeg)]) (kc2 := kc) (ks2 := ks) (F1 := (335, some (.int v), σ2)) dL_law_1054 mRL_123 rt310 (tX10_perform rt310 e2) rfl (Nat.le_of_ble_eq_true rfl) (Nat.le_of_ble_eq_true rfl) (Nat.le_of_ble_eq_true rfl) (by omega) (by omega) (Nat.le_refl _) (fun h => h) (Or.inl rfl) (q := 1057) rfl (fun _ => ?_)
  exact J_icmp_eq (tgt := 1635) dL_law_1057 (by decide) (q := 1060) rfl (fun _ => hk) (fun c => absurd rfl c)
set_option maxRecDepth 20000 in
set_option maxHeartbeats 2000000 in
theorem lw_23 (h : ALL t σ) (ht : t ≤ 1000) (hl : 6 * t + 6 ≤ X.1) (hX : X.1 ≤ 3072) : TURN1 X t σ 1062 := by
  obtain ⟨v, σ1, σ2, e1, e2, hA⟩ := A_loss h ht (X.2 (nI (6 * t) + nI 1).toNatClampNeg) (X.2 (nI (6 * t) + nI 2).toNatClampNeg)
  refine ⟨σ2, hA, fun F kc ks hk => ?_⟩
  unfold LVL
  refine J_aload_n (z := 2) dL_law_1062 rfl rfl (q := 1063) rfl ?_
  refine J_aload_n (z := 1) dL_law_1063 rfl rfl (q := 1064) rfl ?_
  refine J_iload (z := 0) dL_law_1064 rfl (q := 1066) rfl ?_
  refine J_iconst (x := nI 1) dL_law_1066 (by decide) (q := 1067) rfl ?_
  refine J_iadd dL_law_1067 (q := 1068) rfl ?_
  refine J_sld dL_law_1068 (sl_in (k := 1) (by decide) hl hX) (q := 1069) rfl ?_
  refine J_aload_n (z := 1) dL_law_1069 rfl rfl (q := 1070) rfl ?_
  refine J_iload (z := 0) dL_law_1070 rfl (q := 1072) rfl ?_
  refine J_iconst (x := nI 2) dL_law_1072 (by decide) (q := 1073) rfl ?_
  refine J_iadd dL_law_1073 (q := 1074) rfl ?_
  refine J_sld dL_law_1074 (sl_in (k := 2) (by decide) hl hX) (q := 1075) rfl ?_
  refine J_callV (as := [.int (X.2 (nI (6 * t) + nI 1).toNatClampNeg), .int (X.2 (nI (6 * t) + nI 2).toNatClampNeg)]) (kc2 := kc + 1) (ks2 := ks + 6) (F1 := (335, some (.int v), σ1)) dL_law_1075 mRL_124 rt0 (tX9_loss rt0 e1) rfl (Nat.le_of_ble_eq_true rfl) (Nat.le_of_ble_eq_true rfl) (Nat.le_of_ble_eq_true rfl) (by omega) (by omega) (Nat.le_refl _) (fun h => h) (Or.inl rfl) (q := 1078) rfl (fun _ => ?_)
  refine J_aload_n (z := 3) dL_law_1078 rfl rfl (q := 1079) rfl ?_
  refine J_aload_n (z := 1) dL_law_1079 rfl rfl (q := 1080) rfl ?_
  refine J_iload (z := 0) dL_law_1080 rfl (q := 1082) rfl ?_
  refine J_iconst (x := nI 1) dL_law_1082 (by decide) (q := 1083) rfl ?_
  refine J_iadd dL_law_1083 (q := 1084) rfl ?_
  refine J_sld dL_law_1084 (sl_in (k := 1) (by decide) hl hX) (q := 1085) rfl ?_
  refine J_aload_n (z := 1) dL_law_1085 rfl rfl (q := 1086) rfl ?_
  refine J_iload (z := 0) dL_law_1086 rfl (q := 1088) rfl ?_
  refine J_iconst (x := nI 2) dL_law_1088 (by decide) (q := 1089) rfl ?_
  refine J_iadd dL_law_1089 (q := 1090) rfl ?_
  refine J_sld dL_law_1090 (sl_in (k := 2) (by decide) hl hX) (q := 1091) rfl ?_
  refine J_callV (as := [.int (X.2 (nI (6 * t) + nI 1).toNatClampNeg), .int (X.2 (nI (6 * t) + nI 2).toNatClampNeg)]) (kc2 := kc) (ks2 := ks) (F1 := (335, some (.int v), σ2)) dL_law_1091 mRL_127 rt310 (tX10_loss rt310 e2) rfl (Nat.le_of_ble_eq_true rfl) (Nat.le_of_ble_eq_true rfl) (Nat.le_of_ble_eq_true rfl) (by omega) (by omega) (Nat.le_refl _) (fun h => h) (Or.inl rfl) (q := 1094) rfl (fun _ => ?_)
  exact J_icmp_eq (tgt := 1635) dL_law_1094 (by decide) (q := 1097) rfl (fun _ => hk) (fun c => absurd rfl c)
set_option maxRecDepth 20000 in
set_option maxHeartbeats 2000000 in
theorem lw_24 (h : ALL t σ) (ht : t ≤ 1000) (hl : 6 * t + 6 ≤ X.1) (hX : X.1 ≤ 3072) : TURN1 X t σ 1099 := by
  obtain ⟨v, σ1, σ2, e1, e2, hA⟩ := A_left h ht (X.2 (nI (6 * t) + nI 1).toNatClampNeg)
  refine ⟨σ2, hA, fun F kc ks hk => ?_⟩
  unfold LVL
  refine J_aload_n (z := 2) dL_law_1099 rfl rfl (q := 1100) rfl ?_
  refine J_aload_n (z := 1) dL_law_1100 rfl rfl (q := 1101) rfl ?_
  refine J_iload (z := 0) dL_law_1101 rfl (q := 1103) rfl ?_
  refine J_iconst (x := nI 1) dL_law_1103 (by decide) (q := 1104) rfl ?_
  refine J_iadd dL_law_1104 (q := 1105) rfl ?_
  refine J_sld dL_law_1105 (sl_in (k := 1) (by decide) hl hX) (q := 1106) rfl ?_
  refine J_callV (as := [.int (X.2 (nI (6 * t) + nI 1).toNatClampNeg)]) (kc2 := kc + 1) (ks2 := ks + 6) (F1 := (335, some (.int v), σ1)) dL_law_1106 mRL_128 rt0 (tX9_left rt0 e1) rfl (Nat.le_of_ble_eq_true rfl) (Nat.le_of_ble_eq_true rfl) (Nat.le_of_ble_eq_true rfl) (by omega) (by omega) (Nat.le_refl _) (fun h => h) (Or.inl rfl) (q := 1109) rfl (fun _ => ?_)
  refine J_aload_n (z := 3) dL_law_1109 rfl rfl (q := 1110) rfl ?_
  refine J_aload_n (z := 1) dL_law_1110 rfl rfl (q := 1111) rfl ?_
  refine J_iload (z := 0) dL_law_1111 rfl (q := 1113) rfl ?_
  refine J_iconst (x := nI 1) dL_law_1113 (by decide) (q := 1114) rfl ?_
  refine J_iadd dL_law_1114 (q := 1115) rfl ?_
  refine J_sld dL_law_1115 (sl_in (k := 1) (by decide) hl hX) (q := 1116) rfl ?_
  refine J_callV (as := [.int (X.2 (nI (6 * t) + nI 1).toNatClampNeg)]) (kc2 := kc) (ks2 := ks) (F1 := (335, some (.int v), σ2)) dL_law_1116 mRL_131 rt310 (tX10_left rt310 e2) rfl (Nat.le_of_ble_eq_true rfl) (Nat.le_of_ble_eq_true rfl) (Nat.le_of_ble_eq_true rfl) (by omega) (by omega) (Nat.le_refl _) (fun h => h) (Or.inl rfl) (q := 1119) rfl (fun _ => ?_)
  exact J_icmp_eq (tgt := 1635) dL_law_1119 (by decide) (q := 1122) rfl (fun _ => hk) (fun c => absurd rfl c)
set_option maxRecDepth 20000 in
set_option maxHeartbeats 2000000 in
theorem lw_25 (h : ALL t σ) (ht : t ≤ 1000) (hl : 6 * t + 6 ≤ X.1) (hX : X.1 ≤ 3072) : TURN1 X t σ 1124 := by
  obtain ⟨v, σ1, σ2, e1, e2, hA⟩ := A_last h ht (X.2 (nI (6 * t) + nI 1).toNatClampNeg)
  refine ⟨σ2, hA, fun F kc ks hk => ?_⟩
  unfold LVL
  refine J_aload_n (z := 2) dL_law_1124 rfl rfl (q := 1125) rfl ?_
  refine J_aload_n (z := 1) dL_law_1125 rfl rfl (q := 1126) rfl ?_
  refine J_iload (z := 0) dL_law_1126 rfl (q := 1128) rfl ?_
  refine J_iconst (x := nI 1) dL_law_1128 (by decide) (q := 1129) rfl ?_
  refine J_iadd dL_law_1129 (q := 1130) rfl ?_
  refine J_sld dL_law_1130 (sl_in (k := 1) (by decide) hl hX) (q := 1131) rfl ?_
  refine J_callV (as := [.int (X.2 (nI (6 * t) + nI 1).toNatClampNeg)]) (kc2 := kc + 1) (ks2 := ks + 6) (F1 := (335, some (.int v), σ1)) dL_law_1131 mRL_132 rt0 (tX9_last rt0 e1) rfl (Nat.le_of_ble_eq_true rfl) (Nat.le_of_ble_eq_true rfl) (Nat.le_of_ble_eq_true rfl) (by omega) (by omega) (Nat.le_refl _) (fun h => h) (Or.inl rfl) (q := 1134) rfl (fun _ => ?_)
  refine J_aload_n (z := 3) dL_law_1134 rfl rfl (q := 1135) rfl ?_
  refine J_aload_n (z := 1) dL_law_1135 rfl rfl (q := 1136) rfl ?_
  refine J_iload (z := 0) dL_law_1136 rfl (q := 1138) rfl ?_
  refine J_iconst (x := nI 1) dL_law_1138 (by decide) (q := 1139) rfl ?_
  refine J_iadd dL_law_1139 (q := 1140) rfl ?_
  refine J_sld dL_law_1140 (sl_in (k := 1) (by decide) hl hX) (q := 1141) rfl ?_
  refine J_callV (as := [.int (X.2 (nI (6 * t) + nI 1).toNatClampNeg)]) (kc2 := kc) (ks2 := ks) (F1 := (335, some (.int v), σ2)) dL_law_1141 mRL_135 rt310 (tX10_last rt310 e2) rfl (Nat.le_of_ble_eq_true rfl) (Nat.le_of_ble_eq_true rfl) (Nat.le_of_ble_eq_true rfl) (by omega) (by omega) (Nat.le_refl _) (fun h => h) (Or.inl rfl) (q := 1144) rfl (fun _ => ?_)
  exact J_icmp_eq (tgt := 1635) dL_law_1144 (by decide) (q := 1147) rfl (fun _ => hk) (fun c => absurd rfl c)
set_option maxRecDepth 20000 in
set_option maxHeartbeats 2000000 in
theorem lw_26 (h : ALL t σ) (ht : t ≤ 1000) (hl : 6 * t + 6 ≤ X.1) (hX : X.1 ≤ 3072) : TURN1 X t σ 1149 := by
  obtain ⟨v, σ1, σ2, e1, e2, hA⟩ := A_order h ht (X.2 (nI (6 * t) + nI 1).toNatClampNeg) (X.2 (nI (6 * t) + nI 2).toNatClampNeg) (X.2 (nI (6 * t) + nI 3).toNatClampNeg)
  refine ⟨σ2, hA, fun F kc ks hk => ?_⟩
  unfold LVL
  refine J_aload_n (z := 2) dL_law_1149 rfl rfl (q := 1150) rfl ?_
  refine J_aload_n (z := 1) dL_law_1150 rfl rfl (q := 1151) rfl ?_
  refine J_iload (z := 0) dL_law_1151 rfl (q := 1153) rfl ?_
  refine J_iconst (x := nI 1) dL_law_1153 (by decide) (q := 1154) rfl ?_
  refine J_iadd dL_law_1154 (q := 1155) rfl ?_
  refine J_sld dL_law_1155 (sl_in (k := 1) (by decide) hl hX) (q := 1156) rfl ?_
  refine J_aload_n (z := 1) dL_law_1156 rfl rfl (q := 1157) rfl ?_
  refine J_iload (z := 0) dL_law_1157 rfl (q := 1159) rfl ?_
  refine J_iconst (x := nI 2) dL_law_1159 (by decide) (q := 1160) rfl ?_
  refine J_iadd dL_law_1160 (q := 1161) rfl ?_
  refine J_sld dL_law_1161 (sl_in (k := 2) (by decide) hl hX) (q := 1162) rfl ?_
  refine J_aload_n (z := 1) dL_law_1162 rfl rfl (q := 1163) rfl ?_
  refine J_iload (z := 0) dL_law_1163 rfl (q := 1165) rfl ?_
  refine J_iconst (x := nI 3) dL_law_1165 (by decide) (q := 1166) rfl ?_
  refine J_iadd dL_law_1166 (q := 1167) rfl ?_
  refine J_sld dL_law_1167 (sl_in (k := 3) (by decide) hl hX) (q := 1168) rfl ?_
  refine J_callV (as := [.int (X.2 (nI (6 * t) + nI 1).toNatClampNeg), .int (X.2 (nI (6 * t) + nI 2).toNatClampNeg), .int (X.2 (nI (6 * t) + nI 3).toNatClampNeg)]) (kc2 := kc + 1) (ks2 := ks + 6) (F1 := (335, some (.int v), σ1)) dL_law_1168 mRL_136 rt0 (tX9_order rt0 e1) rfl (Nat.le_of_ble_eq_true rfl) (Nat.le_of_ble_eq_true rfl) (Nat.le_of_ble_eq_true rfl) (by omega) (by omega) (Nat.le_refl _) (fun h => h) (Or.inl rfl) (q := 1171) rfl (fun _ => ?_)
  refine J_aload_n (z := 3) dL_law_1171 rfl rfl (q := 1172) rfl ?_
  refine J_aload_n (z := 1) dL_law_1172 rfl rfl (q := 1173) rfl ?_
  refine J_iload (z := 0) dL_law_1173 rfl (q := 1175) rfl ?_
  refine J_iconst (x := nI 1) dL_law_1175 (by decide) (q := 1176) rfl ?_
  refine J_iadd dL_law_1176 (q := 1177) rfl ?_
  refine J_sld dL_law_1177 (sl_in (k := 1) (by decide) hl hX) (q := 1178) rfl ?_
  refine J_aload_n (z := 1) dL_law_1178 rfl rfl (q := 1179) rfl ?_
  refine J_iload (z := 0) dL_law_1179 rfl (q := 1181) rfl ?_
  refine J_iconst (x := nI 2) dL_law_1181 (by decide) (q := 1182) rfl ?_
  refine J_iadd dL_law_1182 (q := 1183) rfl ?_
  refine J_sld dL_law_1183 (sl_in (k := 2) (by decide) hl hX) (q := 1184) rfl ?_
  refine J_aload_n (z := 1) dL_law_1184 rfl rfl (q := 1185) rfl ?_
  refine J_iload (z := 0) dL_law_1185 rfl (q := 1187) rfl ?_
  refine J_iconst (x := nI 3) dL_law_1187 (by decide) (q := 1188) rfl ?_
  refine J_iadd dL_law_1188 (q := 1189) rfl ?_
  refine J_sld dL_law_1189 (sl_in (k := 3) (by decide) hl hX) (q := 1190) rfl ?_
  refine J_callV (as := [.int (X.2 (nI (6 * t) + nI 1).toNatClampNeg), .int (X.2 (nI (6 * t) + nI 2).toNatClampNeg), .int (X.2 (nI (6 * t) + nI 3).toNatClampNeg)]) (kc2 := kc) (ks2 := ks) (F1 := (335, some (.int v), σ2)) dL_law_1190 mRL_139 rt310 (tX10_order rt310 e2) rfl (Nat.le_of_ble_eq_true rfl) (Nat.le_of_ble_eq_true rfl) (Nat.le_of_ble_eq_true rfl) (by omega) (by omega) (Nat.le_refl _) (fun h => h) (Or.inl rfl) (q := 1193) rfl (fun _ => ?_)
  exact J_icmp_eq (tgt := 1635) dL_law_1193 (by decide) (q := 1196) rfl (fun _ => hk) (fun c => absurd rfl c)
set_option maxRecDepth 20000 in
set_option maxHeartbeats 2000000 in
theorem lw_27 (h : ALL t σ) (ht : t ≤ 1000) (hl : 6 * t + 6 ≤ X.1) (hX : X.1 ≤ 3072) : TURN1 X t σ 1198 := by
  obtain ⟨v, σ1, σ2, e1, e2, hA⟩ := A_share h ht (X.2 (nI (6 * t) + nI 1).toNatClampNeg) (X.2 (nI (6 * t) + nI 2).toNatClampNeg)
  refine ⟨σ2, hA, fun F kc ks hk => ?_⟩
  unfold LVL
  refine J_aload_n (z := 2) dL_law_1198 rfl rfl (q := 1199) rfl ?_
  refine J_aload_n (z := 1) dL_law_1199 rfl rfl (q := 1200) rfl ?_
  refine J_iload (z := 0) dL_law_1200 rfl (q := 1202) rfl ?_
  refine J_iconst (x := nI 1) dL_law_1202 (by decide) (q := 1203) rfl ?_
  refine J_iadd dL_law_1203 (q := 1204) rfl ?_
  refine J_sld dL_law_1204 (sl_in (k := 1) (by decide) hl hX) (q := 1205) rfl ?_
  refine J_aload_n (z := 1) dL_law_1205 rfl rfl (q := 1206) rfl ?_
  refine J_iload (z := 0) dL_law_1206 rfl (q := 1208) rfl ?_
  refine J_iconst (x := nI 2) dL_law_1208 (by decide) (q := 1209) rfl ?_
  refine J_iadd dL_law_1209 (q := 1210) rfl ?_
  refine J_sld dL_law_1210 (sl_in (k := 2) (by decide) hl hX) (q := 1211) rfl ?_
  refine J_callV (as := [.int (X.2 (nI (6 * t) + nI 1).toNatClampNeg), .int (X.2 (nI (6 * t) + nI 2).toNatClampNeg)]) (kc2 := kc + 1) (ks2 := ks + 6) (F1 := (335, some (.int v), σ1)) dL_law_1211 mRL_140 rt0 (tX9_share rt0 e1) rfl (Nat.le_of_ble_eq_true rfl) (Nat.le_of_ble_eq_true rfl) (Nat.le_of_ble_eq_true rfl) (by omega) (by omega) (Nat.le_refl _) (fun h => h) (Or.inl rfl) (q := 1214) rfl (fun _ => ?_)
  refine J_aload_n (z := 3) dL_law_1214 rfl rfl (q := 1215) rfl ?_
  refine J_aload_n (z := 1) dL_law_1215 rfl rfl (q := 1216) rfl ?_
  refine J_iload (z := 0) dL_law_1216 rfl (q := 1218) rfl ?_
  refine J_iconst (x := nI 1) dL_law_1218 (by decide) (q := 1219) rfl ?_
  refine J_iadd dL_law_1219 (q := 1220) rfl ?_
  refine J_sld dL_law_1220 (sl_in (k := 1) (by decide) hl hX) (q := 1221) rfl ?_
  refine J_aload_n (z := 1) dL_law_1221 rfl rfl (q := 1222) rfl ?_
  refine J_iload (z := 0) dL_law_1222 rfl (q := 1224) rfl ?_
  refine J_iconst (x := nI 2) dL_law_1224 (by decide) (q := 1225) rfl ?_
  refine J_iadd dL_law_1225 (q := 1226) rfl ?_
  refine J_sld dL_law_1226 (sl_in (k := 2) (by decide) hl hX) (q := 1227) rfl ?_
  refine J_callV (as := [.int (X.2 (nI (6 * t) + nI 1).toNatClampNeg), .int (X.2 (nI (6 * t) + nI 2).toNatClampNeg)]) (kc2 := kc) (ks2 := ks) (F1 := (335, some (.int v), σ2)) dL_law_1227 mRL_143 rt310 (tX10_share rt310 e2) rfl (Nat.le_of_ble_eq_true rfl) (Nat.le_of_ble_eq_true rfl) (Nat.le_of_ble_eq_true rfl) (by omega) (by omega) (Nat.le_refl _) (fun h => h) (Or.inl rfl) (q := 1230) rfl (fun _ => ?_)
  exact J_icmp_eq (tgt := 1635) dL_law_1230 (by decide) (q := 1233) rfl (fun _ => hk) (fun c => absurd rfl c)
set_option maxRecDepth 20000 in
set_option maxHeartbeats 2000000 in
theorem lw_28 (h : ALL t σ) (ht : t ≤ 1000) (hl : 6 * t + 6 ≤ X.1) (hX : X.1 ≤ 3072) : TURN1 X t σ 1235 := by
  obtain ⟨v, σ2, e1, e2, hA⟩ := A_who h ht (X.2 (nI (6 * t) + nI 1).toNatClampNeg)
  refine ⟨σ2, hA, fun F kc ks hk => ?_⟩
  unfold LVL
  refine J_aload_n (z := 2) dL_law_1235 rfl rfl (q := 1236) rfl ?_
  refine J_aload_n (z := 1) dL_law_1236 rfl rfl (q := 1237) rfl ?_
  refine J_iload (z := 0) dL_law_1237 rfl (q := 1239) rfl ?_
  refine J_iconst (x := nI 1) dL_law_1239 (by decide) (q := 1240) rfl ?_
  refine J_iadd dL_law_1240 (q := 1241) rfl ?_
  refine J_sld dL_law_1241 (sl_in (k := 1) (by decide) hl hX) (q := 1242) rfl ?_
  refine J_callV (as := [.int (X.2 (nI (6 * t) + nI 1).toNatClampNeg)]) (kc2 := kc + 1) (ks2 := ks + 6) (F1 := (335, some (.int v), σ)) dL_law_1242 mRL_144 rt0 (tX9_who rt0 e1) rfl (Nat.le_of_ble_eq_true rfl) (Nat.le_of_ble_eq_true rfl) (Nat.le_of_ble_eq_true rfl) (by omega) (by omega) (Nat.le_refl _) (fun h => h) (Or.inl rfl) (q := 1245) rfl (fun _ => ?_)
  refine J_aload_n (z := 3) dL_law_1245 rfl rfl (q := 1246) rfl ?_
  refine J_aload_n (z := 1) dL_law_1246 rfl rfl (q := 1247) rfl ?_
  refine J_iload (z := 0) dL_law_1247 rfl (q := 1249) rfl ?_
  refine J_iconst (x := nI 1) dL_law_1249 (by decide) (q := 1250) rfl ?_
  refine J_iadd dL_law_1250 (q := 1251) rfl ?_
  refine J_sld dL_law_1251 (sl_in (k := 1) (by decide) hl hX) (q := 1252) rfl ?_
  refine J_callV (as := [.int (X.2 (nI (6 * t) + nI 1).toNatClampNeg)]) (kc2 := kc) (ks2 := ks) (F1 := (335, some (.int v), σ2)) dL_law_1252 mRL_147 rt310 (tX10_who rt310 e2) rfl (Nat.le_of_ble_eq_true rfl) (Nat.le_of_ble_eq_true rfl) (Nat.le_of_ble_eq_true rfl) (by omega) (by omega) (Nat.le_refl _) (fun h => h) (Or.inl rfl) (q := 1255) rfl (fun _ => ?_)
  exact J_icmp_eq (tgt := 1635) dL_law_1255 (by decide) (q := 1258) rfl (fun _ => hk) (fun c => absurd rfl c)
set_option maxRecDepth 20000 in
set_option maxHeartbeats 2000000 in
theorem lw_29 (h : ALL t σ) (ht : t ≤ 1000) (hl : 6 * t + 6 ≤ X.1) (hX : X.1 ≤ 3072) : TURN1 X t σ 1260 := by
  obtain ⟨v, σ2, e1, e2, hA⟩ := A_first h ht
  refine ⟨σ2, hA, fun F kc ks hk => ?_⟩
  unfold LVL
  refine J_aload_n (z := 2) dL_law_1260 rfl rfl (q := 1261) rfl ?_
  refine J_callV (as := []) (kc2 := kc + 1) (ks2 := ks + 6) (F1 := (335, some (.int v), σ)) dL_law_1261 mRL_148 rt0 (tX9_first rt0 e1) rfl (Nat.le_of_ble_eq_true rfl) (Nat.le_of_ble_eq_true rfl) (Nat.le_of_ble_eq_true rfl) (by omega) (by omega) (Nat.le_refl _) (fun h => h) (Or.inl rfl) (q := 1264) rfl (fun _ => ?_)
  refine J_aload_n (z := 3) dL_law_1264 rfl rfl (q := 1265) rfl ?_
  refine J_callV (as := []) (kc2 := kc) (ks2 := ks) (F1 := (335, some (.int v), σ2)) dL_law_1265 mRL_151 rt310 (tX10_first rt310 e2) rfl (Nat.le_of_ble_eq_true rfl) (Nat.le_of_ble_eq_true rfl) (Nat.le_of_ble_eq_true rfl) (by omega) (by omega) (Nat.le_refl _) (fun h => h) (Or.inl rfl) (q := 1268) rfl (fun _ => ?_)
  exact J_icmp_eq (tgt := 1635) dL_law_1268 (by decide) (q := 1271) rfl (fun _ => hk) (fun c => absurd rfl c)
set_option maxRecDepth 20000 in
set_option maxHeartbeats 2000000 in
theorem lw_30 (h : ALL t σ) (ht : t ≤ 1000) (hl : 6 * t + 6 ≤ X.1) (hX : X.1 ≤ 3072) : TURN1 X t σ 1273 := by
  obtain ⟨v, σ2, e1, e2, hA⟩ := A_placeFor h ht (X.2 (nI (6 * t) + nI 1).toNatClampNeg) (X.2 (nI (6 * t) + nI 2).toNatClampNeg)
  refine ⟨σ2, hA, fun F kc ks hk => ?_⟩
  unfold LVL
  refine J_aload_n (z := 2) dL_law_1273 rfl rfl (q := 1274) rfl ?_
  refine J_aload_n (z := 1) dL_law_1274 rfl rfl (q := 1275) rfl ?_
  refine J_iload (z := 0) dL_law_1275 rfl (q := 1277) rfl ?_
  refine J_iconst (x := nI 1) dL_law_1277 (by decide) (q := 1278) rfl ?_
  refine J_iadd dL_law_1278 (q := 1279) rfl ?_
  refine J_sld dL_law_1279 (sl_in (k := 1) (by decide) hl hX) (q := 1280) rfl ?_
  refine J_aload_n (z := 1) dL_law_1280 rfl rfl (q := 1281) rfl ?_
  refine J_iload (z := 0) dL_law_1281 rfl (q := 1283) rfl ?_
  refine J_iconst (x := nI 2) dL_law_1283 (by decide) (q := 1284) rfl ?_
  refine J_iadd dL_law_1284 (q := 1285) rfl ?_
  refine J_sld dL_law_1285 (sl_in (k := 2) (by decide) hl hX) (q := 1286) rfl ?_
  refine J_callV (as := [.int (X.2 (nI (6 * t) + nI 1).toNatClampNeg), .int (X.2 (nI (6 * t) + nI 2).toNatClampNeg)]) (kc2 := kc + 1) (ks2 := ks + 6) (F1 := (335, some (.int v), σ)) dL_law_1286 mRL_152 rt0 (tX9_placeFor rt0 e1) rfl (Nat.le_of_ble_eq_true rfl) (Nat.le_of_ble_eq_true rfl) (Nat.le_of_ble_eq_true rfl) (by omega) (by omega) (Nat.le_refl _) (fun h => h) (Or.inl rfl) (q := 1289) rfl (fun _ => ?_)
  refine J_aload_n (z := 3) dL_law_1289 rfl rfl (q := 1290) rfl ?_
  refine J_aload_n (z := 1) dL_law_1290 rfl rfl (q := 1291) rfl ?_
  refine J_iload (z := 0) dL_law_1291 rfl (q := 1293) rfl ?_
  refine J_iconst (x := nI 1) dL_law_1293 (by decide) (q := 1294) rfl ?_
  refine J_iadd dL_law_1294 (q := 1295) rfl ?_
  refine J_sld dL_law_1295 (sl_in (k := 1) (by decide) hl hX) (q := 1296) rfl ?_
  refine J_aload_n (z := 1) dL_law_1296 rfl rfl (q := 1297) rfl ?_
  refine J_iload (z := 0) dL_law_1297 rfl (q := 1299) rfl ?_
  refine J_iconst (x := nI 2) dL_law_1299 (by decide) (q := 1300) rfl ?_
  refine J_iadd dL_law_1300 (q := 1301) rfl ?_
  refine J_sld dL_law_1301 (sl_in (k := 2) (by decide) hl hX) (q := 1302) rfl ?_
  refine J_callV (as := [.int (X.2 (nI (6 * t) + nI 1).toNatClampNeg), .int (X.2 (nI (6 * t) + nI 2).toNatClampNeg)]) (kc2 := kc) (ks2 := ks) (F1 := (335, some (.int v), σ2)) dL_law_1302 mRL_155 rt310 (tX10_placeFor rt310 e2) rfl (Nat.le_of_ble_eq_true rfl) (Nat.le_of_ble_eq_true rfl) (Nat.le_of_ble_eq_true rfl) (by omega) (by omega) (Nat.le_refl _) (fun h => h) (Or.inl rfl) (q := 1305) rfl (fun _ => ?_)
  exact J_icmp_eq (tgt := 1635) dL_law_1305 (by decide) (q := 1308) rfl (fun _ => hk) (fun c => absurd rfl c)
set_option maxRecDepth 20000 in
set_option maxHeartbeats 2000000 in
theorem lw_31 (h : ALL t σ) (ht : t ≤ 1000) (hl : 6 * t + 6 ≤ X.1) (hX : X.1 ≤ 3072) : TURN1 X t σ 1310 := by
  obtain ⟨v, σ2, e1, e2, hA⟩ := A_needy h ht
  refine ⟨σ2, hA, fun F kc ks hk => ?_⟩
  unfold LVL
  refine J_aload_n (z := 2) dL_law_1310 rfl rfl (q := 1311) rfl ?_
  refine J_callV (as := []) (kc2 := kc + 1) (ks2 := ks + 6) (F1 := (335, some (.int v), σ)) dL_law_1311 mRL_156 rt0 (tX9_needy rt0 e1) rfl (Nat.le_of_ble_eq_true rfl) (Nat.le_of_ble_eq_true rfl) (Nat.le_of_ble_eq_true rfl) (by omega) (by omega) (Nat.le_refl _) (fun h => h) (Or.inl rfl) (q := 1314) rfl (fun _ => ?_)
  refine J_aload_n (z := 3) dL_law_1314 rfl rfl (q := 1315) rfl ?_
  refine J_callV (as := []) (kc2 := kc) (ks2 := ks) (F1 := (335, some (.int v), σ2)) dL_law_1315 mRL_159 rt310 (tX10_needy rt310 e2) rfl (Nat.le_of_ble_eq_true rfl) (Nat.le_of_ble_eq_true rfl) (Nat.le_of_ble_eq_true rfl) (by omega) (by omega) (Nat.le_refl _) (fun h => h) (Or.inl rfl) (q := 1318) rfl (fun _ => ?_)
  exact J_icmp_eq (tgt := 1635) dL_law_1318 (by decide) (q := 1321) rfl (fun _ => hk) (fun c => absurd rfl c)
set_option maxRecDepth 20000 in
set_option maxHeartbeats 2000000 in
theorem lw_32 (h : ALL t σ) (ht : t ≤ 1000) (hl : 6 * t + 6 ≤ X.1) (hX : X.1 ≤ 3072) : TURN1 X t σ 1323 := by
  obtain ⟨v, σ2, e1, e2, hA⟩ := A_known h ht
  refine ⟨σ2, hA, fun F kc ks hk => ?_⟩
  unfold LVL
  refine J_aload_n (z := 2) dL_law_1323 rfl rfl (q := 1324) rfl ?_
  refine J_callV (as := []) (kc2 := kc + 1) (ks2 := ks + 6) (F1 := (335, some (.int v), σ)) dL_law_1324 mRL_160 rt0 (tX9_known rt0 e1) rfl (Nat.le_of_ble_eq_true rfl) (Nat.le_of_ble_eq_true rfl) (Nat.le_of_ble_eq_true rfl) (by omega) (by omega) (Nat.le_refl _) (fun h => h) (Or.inl rfl) (q := 1327) rfl (fun _ => ?_)
  refine J_aload_n (z := 3) dL_law_1327 rfl rfl (q := 1328) rfl ?_
  refine J_callV (as := []) (kc2 := kc) (ks2 := ks) (F1 := (335, some (.int v), σ2)) dL_law_1328 mRL_163 rt310 (tX10_known rt310 e2) rfl (Nat.le_of_ble_eq_true rfl) (Nat.le_of_ble_eq_true rfl) (Nat.le_of_ble_eq_true rfl) (by omega) (by omega) (Nat.le_refl _) (fun h => h) (Or.inl rfl) (q := 1331) rfl (fun _ => ?_)
  exact J_icmp_eq (tgt := 1635) dL_law_1331 (by decide) (q := 1334) rfl (fun _ => hk) (fun c => absurd rfl c)
set_option maxRecDepth 20000 in
set_option maxHeartbeats 2000000 in
theorem lw_33 (h : ALL t σ) (ht : t ≤ 1000) (hl : 6 * t + 6 ≤ X.1) (hX : X.1 ≤ 3072) : TURN1 X t σ 1336 := by
  obtain ⟨v, σ2, e1, e2, hA⟩ := A_sure h ht
  refine ⟨σ2, hA, fun F kc ks hk => ?_⟩
  unfold LVL
  refine J_aload_n (z := 2) dL_law_1336 rfl rfl (q := 1337) rfl ?_
  refine J_callV (as := []) (kc2 := kc + 1) (ks2 := ks + 6) (F1 := (335, some (.int v), σ)) dL_law_1337 mRL_164 rt0 (tX9_sure rt0 e1) rfl (Nat.le_of_ble_eq_true rfl) (Nat.le_of_ble_eq_true rfl) (Nat.le_of_ble_eq_true rfl) (by omega) (by omega) (Nat.le_refl _) (fun h => h) (Or.inl rfl) (q := 1340) rfl (fun _ => ?_)
  refine J_aload_n (z := 3) dL_law_1340 rfl rfl (q := 1341) rfl ?_
  refine J_callV (as := []) (kc2 := kc) (ks2 := ks) (F1 := (335, some (.int v), σ2)) dL_law_1341 mRL_167 rt310 (tX10_sure rt310 e2) rfl (Nat.le_of_ble_eq_true rfl) (Nat.le_of_ble_eq_true rfl) (Nat.le_of_ble_eq_true rfl) (by omega) (by omega) (Nat.le_refl _) (fun h => h) (Or.inl rfl) (q := 1344) rfl (fun _ => ?_)
  exact J_icmp_eq (tgt := 1635) dL_law_1344 (by decide) (q := 1347) rfl (fun _ => hk) (fun c => absurd rfl c)
set_option maxRecDepth 20000 in
set_option maxHeartbeats 2000000 in
theorem lw_34 (h : ALL t σ) (ht : t ≤ 1000) (hl : 6 * t + 6 ≤ X.1) (hX : X.1 ≤ 3072) : TURN1 X t σ 1349 := by
  obtain ⟨v, σ2, e1, e2, hA⟩ := A_split h ht
  refine ⟨σ2, hA, fun F kc ks hk => ?_⟩
  unfold LVL
  refine J_aload_n (z := 2) dL_law_1349 rfl rfl (q := 1350) rfl ?_
  refine J_callV (as := []) (kc2 := kc + 1) (ks2 := ks + 6) (F1 := (335, some (.int v), σ)) dL_law_1350 mRL_168 rt0 (tX9_split rt0 e1) rfl (Nat.le_of_ble_eq_true rfl) (Nat.le_of_ble_eq_true rfl) (Nat.le_of_ble_eq_true rfl) (by omega) (by omega) (Nat.le_refl _) (fun h => h) (Or.inl rfl) (q := 1353) rfl (fun _ => ?_)
  refine J_aload_n (z := 3) dL_law_1353 rfl rfl (q := 1354) rfl ?_
  refine J_callV (as := []) (kc2 := kc) (ks2 := ks) (F1 := (335, some (.int v), σ2)) dL_law_1354 mRL_171 rt310 (tX10_split rt310 e2) rfl (Nat.le_of_ble_eq_true rfl) (Nat.le_of_ble_eq_true rfl) (Nat.le_of_ble_eq_true rfl) (by omega) (by omega) (Nat.le_refl _) (fun h => h) (Or.inl rfl) (q := 1357) rfl (fun _ => ?_)
  exact J_icmp_eq (tgt := 1635) dL_law_1357 (by decide) (q := 1360) rfl (fun _ => hk) (fun c => absurd rfl c)
set_option maxRecDepth 20000 in
set_option maxHeartbeats 2000000 in
theorem lw_35 (h : ALL t σ) (ht : t ≤ 1000) (hl : 6 * t + 6 ≤ X.1) (hX : X.1 ≤ 3072) : TURN1 X t σ 1362 := by
  obtain ⟨v, σ2, e1, e2, hA⟩ := A_likely h ht (X.2 (nI (6 * t) + nI 1).toNatClampNeg) (X.2 (nI (6 * t) + nI 2).toNatClampNeg)
  refine ⟨σ2, hA, fun F kc ks hk => ?_⟩
  unfold LVL
  refine J_aload_n (z := 2) dL_law_1362 rfl rfl (q := 1363) rfl ?_
  refine J_aload_n (z := 1) dL_law_1363 rfl rfl (q := 1364) rfl ?_
  refine J_iload (z := 0) dL_law_1364 rfl (q := 1366) rfl ?_
  refine J_iconst (x := nI 1) dL_law_1366 (by decide) (q := 1367) rfl ?_
  refine J_iadd dL_law_1367 (q := 1368) rfl ?_
  refine J_sld dL_law_1368 (sl_in (k := 1) (by decide) hl hX) (q := 1369) rfl ?_
  refine J_aload_n (z := 1) dL_law_1369 rfl rfl (q := 1370) rfl ?_
  refine J_iload (z := 0) dL_law_1370 rfl (q := 1372) rfl ?_
  refine J_iconst (x := nI 2) dL_law_1372 (by decide) (q := 1373) rfl ?_
  refine J_iadd dL_law_1373 (q := 1374) rfl ?_
  refine J_sld dL_law_1374 (sl_in (k := 2) (by decide) hl hX) (q := 1375) rfl ?_
  refine J_callV (as := [.int (X.2 (nI (6 * t) + nI 1).toNatClampNeg), .int (X.2 (nI (6 * t) + nI 2).toNatClampNeg)]) (kc2 := kc + 1) (ks2 := ks + 6) (F1 := (335, some (.int v), σ)) dL_law_1375 mRL_172 rt0 (tX9_likely rt0 e1) rfl (Nat.le_of_ble_eq_true rfl) (Nat.le_of_ble_eq_true rfl) (Nat.le_of_ble_eq_true rfl) (by omega) (by omega) (Nat.le_refl _) (fun h => h) (Or.inl rfl) (q := 1378) rfl (fun _ => ?_)
  refine J_aload_n (z := 3) dL_law_1378 rfl rfl (q := 1379) rfl ?_
  refine J_aload_n (z := 1) dL_law_1379 rfl rfl (q := 1380) rfl ?_
  refine J_iload (z := 0) dL_law_1380 rfl (q := 1382) rfl ?_
  refine J_iconst (x := nI 1) dL_law_1382 (by decide) (q := 1383) rfl ?_
  refine J_iadd dL_law_1383 (q := 1384) rfl ?_
  refine J_sld dL_law_1384 (sl_in (k := 1) (by decide) hl hX) (q := 1385) rfl ?_
  refine J_aload_n (z := 1) dL_law_1385 rfl rfl (q := 1386) rfl ?_
  refine J_iload (z := 0) dL_law_1386 rfl (q := 1388) rfl ?_
  refine J_iconst (x := nI 2) dL_law_1388 (by decide) (q := 1389) rfl ?_
  refine J_iadd dL_law_1389 (q := 1390) rfl ?_
  refine J_sld dL_law_1390 (sl_in (k := 2) (by decide) hl hX) (q := 1391) rfl ?_
  refine J_callV (as := [.int (X.2 (nI (6 * t) + nI 1).toNatClampNeg), .int (X.2 (nI (6 * t) + nI 2).toNatClampNeg)]) (kc2 := kc) (ks2 := ks) (F1 := (335, some (.int v), σ2)) dL_law_1391 mRL_175 rt310 (tX10_likely rt310 e2) rfl (Nat.le_of_ble_eq_true rfl) (Nat.le_of_ble_eq_true rfl) (Nat.le_of_ble_eq_true rfl) (by omega) (by omega) (Nat.le_refl _) (fun h => h) (Or.inl rfl) (q := 1394) rfl (fun _ => ?_)
  exact J_icmp_eq (tgt := 1635) dL_law_1394 (by decide) (q := 1397) rfl (fun _ => hk) (fun c => absurd rfl c)
set_option maxRecDepth 20000 in
set_option maxHeartbeats 2000000 in
theorem lw_36 (h : ALL t σ) (ht : t ≤ 1000) (hl : 6 * t + 6 ≤ X.1) (hX : X.1 ≤ 3072) : TURN1 X t σ 1399 := by
  obtain ⟨v, σ1, σ2, e1, e2, hA⟩ := A_breathed h ht (X.2 (nI (6 * t) + nI 1).toNatClampNeg) (X.2 (nI (6 * t) + nI 2).toNatClampNeg) (X.2 (nI (6 * t) + nI 3).toNatClampNeg) (X.2 (nI (6 * t) + nI 4).toNatClampNeg)
  refine ⟨σ2, hA, fun F kc ks hk => ?_⟩
  unfold LVL
  refine J_aload_n (z := 2) dL_law_1399 rfl rfl (q := 1400) rfl ?_
  refine J_aload_n (z := 1) dL_law_1400 rfl rfl (q := 1401) rfl ?_
  refine J_iload (z := 0) dL_law_1401 rfl (q := 1403) rfl ?_
  refine J_iconst (x := nI 1) dL_law_1403 (by decide) (q := 1404) rfl ?_
  refine J_iadd dL_law_1404 (q := 1405) rfl ?_
  refine J_sld dL_law_1405 (sl_in (k := 1) (by decide) hl hX) (q := 1406) rfl ?_
  refine J_aload_n (z := 1) dL_law_1406 rfl rfl (q := 1407) rfl ?_
  refine J_iload (z := 0) dL_law_1407 rfl (q := 1409) rfl ?_
  refine J_iconst (x := nI 2) dL_law_1409 (by decide) (q := 1410) rfl ?_
  refine J_iadd dL_law_1410 (q := 1411) rfl ?_
  refine J_sld dL_law_1411 (sl_in (k := 2) (by decide) hl hX) (q := 1412) rfl ?_
  refine J_aload_n (z := 1) dL_law_1412 rfl rfl (q := 1413) rfl ?_
  refine J_iload (z := 0) dL_law_1413 rfl (q := 1415) rfl ?_
  refine J_iconst (x := nI 3) dL_law_1415 (by decide) (q := 1416) rfl ?_
  refine J_iadd dL_law_1416 (q := 1417) rfl ?_
  refine J_sld dL_law_1417 (sl_in (k := 3) (by decide) hl hX) (q := 1418) rfl ?_
  refine J_aload_n (z := 1) dL_law_1418 rfl rfl (q := 1419) rfl ?_
  refine J_iload (z := 0) dL_law_1419 rfl (q := 1421) rfl ?_
  refine J_iconst (x := nI 4) dL_law_1421 (by decide) (q := 1422) rfl ?_
  refine J_iadd dL_law_1422 (q := 1423) rfl ?_
  refine J_sld dL_law_1423 (sl_in (k := 4) (by decide) hl hX) (q := 1424) rfl ?_
  refine J_callV (as := [.int (X.2 (nI (6 * t) + nI 1).toNatClampNeg), .int (X.2 (nI (6 * t) + nI 2).toNatClampNeg), .int (X.2 (nI (6 * t) + nI 3).toNatClampNeg), .int (X.2 (nI (6 * t) + nI 4).toNatClampNeg)]) (kc2 := kc + 1) (ks2 := ks + 6) (F1 := (335, some (.int v), σ1)) dL_law_1424 mRL_176 rt0 (tX9_breathed rt0 e1) rfl (Nat.le_of_ble_eq_true rfl) (Nat.le_of_ble_eq_true rfl) (Nat.le_of_ble_eq_true rfl) (by omega) (by omega) (Nat.le_refl _) (fun h => h) (Or.inl rfl) (q := 1427) rfl (fun _ => ?_)
  refine J_aload_n (z := 3) dL_law_1427 rfl rfl (q := 1428) rfl ?_
  refine J_aload_n (z := 1) dL_law_1428 rfl rfl (q := 1429) rfl ?_
  refine J_iload (z := 0) dL_law_1429 rfl (q := 1431) rfl ?_
  refine J_iconst (x := nI 1) dL_law_1431 (by decide) (q := 1432) rfl ?_
  refine J_iadd dL_law_1432 (q := 1433) rfl ?_
  refine J_sld dL_law_1433 (sl_in (k := 1) (by decide) hl hX) (q := 1434) rfl ?_
  refine J_aload_n (z := 1) dL_law_1434 rfl rfl (q := 1435) rfl ?_
  refine J_iload (z := 0) dL_law_1435 rfl (q := 1437) rfl ?_
  refine J_iconst (x := nI 2) dL_law_1437 (by decide) (q := 1438) rfl ?_
  refine J_iadd dL_law_1438 (q := 1439) rfl ?_
  refine J_sld dL_law_1439 (sl_in (k := 2) (by decide) hl hX) (q := 1440) rfl ?_
  refine J_aload_n (z := 1) dL_law_1440 rfl rfl (q := 1441) rfl ?_
  refine J_iload (z := 0) dL_law_1441 rfl (q := 1443) rfl ?_
  refine J_iconst (x := nI 3) dL_law_1443 (by decide) (q := 1444) rfl ?_
  refine J_iadd dL_law_1444 (q := 1445) rfl ?_
  refine J_sld dL_law_1445 (sl_in (k := 3) (by decide) hl hX) (q := 1446) rfl ?_
  refine J_aload_n (z := 1) dL_law_1446 rfl rfl (q := 1447) rfl ?_
  refine J_iload (z := 0) dL_law_1447 rfl (q := 1449) rfl ?_
  refine J_iconst (x := nI 4) dL_law_1449 (by decide) (q := 1450) rfl ?_
  refine J_iadd dL_law_1450 (q := 1451) rfl ?_
  refine J_sld dL_law_1451 (sl_in (k := 4) (by decide) hl hX) (q := 1452) rfl ?_
  refine J_callV (as := [.int (X.2 (nI (6 * t) + nI 1).toNatClampNeg), .int (X.2 (nI (6 * t) + nI 2).toNatClampNeg), .int (X.2 (nI (6 * t) + nI 3).toNatClampNeg), .int (X.2 (nI (6 * t) + nI 4).toNatClampNeg)]) (kc2 := kc) (ks2 := ks) (F1 := (335, some (.int v), σ2)) dL_law_1452 mRL_180 rt310 (tX10_breathed rt310 e2) rfl (Nat.le_of_ble_eq_true rfl) (Nat.le_of_ble_eq_true rfl) (Nat.le_of_ble_eq_true rfl) (by omega) (by omega) (Nat.le_refl _) (fun h => h) (Or.inl rfl) (q := 1455) rfl (fun _ => ?_)
  exact J_icmp_eq (tgt := 1635) dL_law_1455 (by decide) (q := 1458) rfl (fun _ => hk) (fun c => absurd rfl c)
set_option maxRecDepth 20000 in
set_option maxHeartbeats 2000000 in
theorem lw_37 (h : ALL t σ) (ht : t ≤ 1000) (hl : 6 * t + 6 ≤ X.1) (hX : X.1 ≤ 3072) : TURN1 X t σ 1460 := by
  obtain ⟨v, σ1, σ2, e1, e2, hA⟩ := A_exam h ht (X.2 (nI (6 * t) + nI 1).toNatClampNeg) (X.2 (nI (6 * t) + nI 2).toNatClampNeg) (X.2 (nI (6 * t) + nI 3).toNatClampNeg)
  refine ⟨σ2, hA, fun F kc ks hk => ?_⟩
  unfold LVL
  refine J_aload_n (z := 2) dL_law_1460 rfl rfl (q := 1461) rfl ?_
  refine J_aload_n (z := 1) dL_law_1461 rfl rfl (q := 1462) rfl ?_
  refine J_iload (z := 0) dL_law_1462 rfl (q := 1464) rfl ?_
  refine J_iconst (x := nI 1) dL_law_1464 (by decide) (q := 1465) rfl ?_
  refine J_iadd dL_law_1465 (q := 1466) rfl ?_
  refine J_sld dL_law_1466 (sl_in (k := 1) (by decide) hl hX) (q := 1467) rfl ?_
  refine J_aload_n (z := 1) dL_law_1467 rfl rfl (q := 1468) rfl ?_
  refine J_iload (z := 0) dL_law_1468 rfl (q := 1470) rfl ?_
  refine J_iconst (x := nI 2) dL_law_1470 (by decide) (q := 1471) rfl ?_
  refine J_iadd dL_law_1471 (q := 1472) rfl ?_
  refine J_sld dL_law_1472 (sl_in (k := 2) (by decide) hl hX) (q := 1473) rfl ?_
  refine J_aload_n (z := 1) dL_law_1473 rfl rfl (q := 1474) rfl ?_
  refine J_iload (z := 0) dL_law_1474 rfl (q := 1476) rfl ?_
  refine J_iconst (x := nI 3) dL_law_1476 (by decide) (q := 1477) rfl ?_
  refine J_iadd dL_law_1477 (q := 1478) rfl ?_
  refine J_sld dL_law_1478 (sl_in (k := 3) (by decide) hl hX) (q := 1479) rfl ?_
  refine J_callV (as := [.int (X.2 (nI (6 * t) + nI 1).toNatClampNeg), .int (X.2 (nI (6 * t) + nI 2).toNatClampNeg), .int (X.2 (nI (6 * t) + nI 3).toNatClampNeg)]) (kc2 := kc + 1) (ks2 := ks + 6) (F1 := (335, some (.int v), σ1)) dL_law_1479 mRL_181 rt0 (tX9_exam rt0 e1) rfl (Nat.le_of_ble_eq_true rfl) (Nat.le_of_ble_eq_true rfl) (Nat.le_of_ble_eq_true rfl) (by omega) (by omega) (Nat.le_refl _) (fun h => h) (Or.inl rfl) (q := 1482) rfl (fun _ => ?_)
  refine J_aload_n (z := 3) dL_law_1482 rfl rfl (q := 1483) rfl ?_
  refine J_aload_n (z := 1) dL_law_1483 rfl rfl (q := 1484) rfl ?_
  refine J_iload (z := 0) dL_law_1484 rfl (q := 1486) rfl ?_
  refine J_iconst (x := nI 1) dL_law_1486 (by decide) (q := 1487) rfl ?_
  refine J_iadd dL_law_1487 (q := 1488) rfl ?_
  refine J_sld dL_law_1488 (sl_in (k := 1) (by decide) hl hX) (q := 1489) rfl ?_
  refine J_aload_n (z := 1) dL_law_1489 rfl rfl (q := 1490) rfl ?_
  refine J_iload (z := 0) dL_law_1490 rfl (q := 1492) rfl ?_
  refine J_iconst (x := nI 2) dL_law_1492 (by decide) (q := 1493) rfl ?_
  refine J_iadd dL_law_1493 (q := 1494) rfl ?_
  refine J_sld dL_law_1494 (sl_in (k := 2) (by decide) hl hX) (q := 1495) rfl ?_
  refine J_aload_n (z := 1) dL_law_1495 rfl rfl (q := 1496) rfl ?_
  refine J_iload (z := 0) dL_law_1496 rfl (q := 1498) rfl ?_
  refine J_iconst (x := nI 3) dL_law_1498 (by decide) (q := 1499) rfl ?_
  refine J_iadd dL_law_1499 (q := 1500) rfl ?_
  refine J_sld dL_law_1500 (sl_in (k := 3) (by decide) hl hX) (q := 1501) rfl ?_
  refine J_callV (as := [.int (X.2 (nI (6 * t) + nI 1).toNatClampNeg), .int (X.2 (nI (6 * t) + nI 2).toNatClampNeg), .int (X.2 (nI (6 * t) + nI 3).toNatClampNeg)]) (kc2 := kc) (ks2 := ks) (F1 := (335, some (.int v), σ2)) dL_law_1501 mRL_184 rt310 (tX10_exam rt310 e2) rfl (Nat.le_of_ble_eq_true rfl) (Nat.le_of_ble_eq_true rfl) (Nat.le_of_ble_eq_true rfl) (by omega) (by omega) (Nat.le_refl _) (fun h => h) (Or.inl rfl) (q := 1504) rfl (fun _ => ?_)
  exact J_icmp_eq (tgt := 1635) dL_law_1504 (by decide) (q := 1507) rfl (fun _ => hk) (fun c => absurd rfl c)
set_option maxRecDepth 20000 in
set_option maxHeartbeats 2000000 in
theorem lw_38 (h : ALL t σ) (ht : t ≤ 1000) (hl : 6 * t + 6 ≤ X.1) (hX : X.1 ≤ 3072) : TURN1 X t σ 1509 := by
  obtain ⟨v, σ2, e1, e2, hA⟩ := A_learnt h ht (X.2 (nI (6 * t) + nI 1).toNatClampNeg)
  refine ⟨σ2, hA, fun F kc ks hk => ?_⟩
  unfold LVL
  refine J_aload_n (z := 2) dL_law_1509 rfl rfl (q := 1510) rfl ?_
  refine J_aload_n (z := 1) dL_law_1510 rfl rfl (q := 1511) rfl ?_
  refine J_iload (z := 0) dL_law_1511 rfl (q := 1513) rfl ?_
  refine J_iconst (x := nI 1) dL_law_1513 (by decide) (q := 1514) rfl ?_
  refine J_iadd dL_law_1514 (q := 1515) rfl ?_
  refine J_sld dL_law_1515 (sl_in (k := 1) (by decide) hl hX) (q := 1516) rfl ?_
  refine J_callV (as := [.int (X.2 (nI (6 * t) + nI 1).toNatClampNeg)]) (kc2 := kc + 1) (ks2 := ks + 6) (F1 := (335, some (.int v), σ)) dL_law_1516 mRL_185 rt0 (tX9_learnt rt0 e1) rfl (Nat.le_of_ble_eq_true rfl) (Nat.le_of_ble_eq_true rfl) (Nat.le_of_ble_eq_true rfl) (by omega) (by omega) (Nat.le_refl _) (fun h => h) (Or.inl rfl) (q := 1519) rfl (fun _ => ?_)
  refine J_aload_n (z := 3) dL_law_1519 rfl rfl (q := 1520) rfl ?_
  refine J_aload_n (z := 1) dL_law_1520 rfl rfl (q := 1521) rfl ?_
  refine J_iload (z := 0) dL_law_1521 rfl (q := 1523) rfl ?_
  refine J_iconst (x := nI 1) dL_law_1523 (by decide) (q := 1524) rfl ?_
  refine J_iadd dL_law_1524 (q := 1525) rfl ?_
  refine J_sld dL_law_1525 (sl_in (k := 1) (by decide) hl hX) (q := 1526) rfl ?_
  refine J_callV (as := [.int (X.2 (nI (6 * t) + nI 1).toNatClampNeg)]) (kc2 := kc) (ks2 := ks) (F1 := (335, some (.int v), σ2)) dL_law_1526 mRL_188 rt310 (tX10_learnt rt310 e2) rfl (Nat.le_of_ble_eq_true rfl) (Nat.le_of_ble_eq_true rfl) (Nat.le_of_ble_eq_true rfl) (by omega) (by omega) (Nat.le_refl _) (fun h => h) (Or.inl rfl) (q := 1529) rfl (fun _ => ?_)
  exact J_icmp_eq (tgt := 1635) dL_law_1529 (by decide) (q := 1532) rfl (fun _ => hk) (fun c => absurd rfl c)
set_option maxRecDepth 20000 in
set_option maxHeartbeats 2000000 in
theorem lw_39 (h : ALL t σ) (ht : t ≤ 1000) (hl : 6 * t + 6 ≤ X.1) (hX : X.1 ≤ 3072) : TURN1 X t σ 1534 := by
  obtain ⟨v, σ1, σ2, e1, e2, hA⟩ := A_quiet h ht (X.2 (nI (6 * t) + nI 1).toNatClampNeg) (X.2 (nI (6 * t) + nI 2).toNatClampNeg)
  refine ⟨σ2, hA, fun F kc ks hk => ?_⟩
  unfold LVL
  refine J_aload_n (z := 2) dL_law_1534 rfl rfl (q := 1535) rfl ?_
  refine J_aload_n (z := 1) dL_law_1535 rfl rfl (q := 1536) rfl ?_
  refine J_iload (z := 0) dL_law_1536 rfl (q := 1538) rfl ?_
  refine J_iconst (x := nI 1) dL_law_1538 (by decide) (q := 1539) rfl ?_
  refine J_iadd dL_law_1539 (q := 1540) rfl ?_
  refine J_sld dL_law_1540 (sl_in (k := 1) (by decide) hl hX) (q := 1541) rfl ?_
  refine J_aload_n (z := 1) dL_law_1541 rfl rfl (q := 1542) rfl ?_
  refine J_iload (z := 0) dL_law_1542 rfl (q := 1544) rfl ?_
  refine J_iconst (x := nI 2) dL_law_1544 (by decide) (q := 1545) rfl ?_
  refine J_iadd dL_law_1545 (q := 1546) rfl ?_
  refine J_sld dL_law_1546 (sl_in (k := 2) (by decide) hl hX) (q := 1547) rfl ?_
  refine J_callV (as := [.int (X.2 (nI (6 * t) + nI 1).toNatClampNeg), .int (X.2 (nI (6 * t) + nI 2).toNatClampNeg)]) (kc2 := kc + 1) (ks2 := ks + 6) (F1 := (335, some (.int v), σ1)) dL_law_1547 mRL_189 rt0 (tX9_quiet rt0 e1) rfl (Nat.le_of_ble_eq_true rfl) (Nat.le_of_ble_eq_true rfl) (Nat.le_of_ble_eq_true rfl) (by omega) (by omega) (Nat.le_refl _) (fun h => h) (Or.inl rfl) (q := 1550) rfl (fun _ => ?_)
  refine J_aload_n (z := 3) dL_law_1550 rfl rfl (q := 1551) rfl ?_
  refine J_aload_n (z := 1) dL_law_1551 rfl rfl (q := 1552) rfl ?_
  refine J_iload (z := 0) dL_law_1552 rfl (q := 1554) rfl ?_
  refine J_iconst (x := nI 1) dL_law_1554 (by decide) (q := 1555) rfl ?_
  refine J_iadd dL_law_1555 (q := 1556) rfl ?_
  refine J_sld dL_law_1556 (sl_in (k := 1) (by decide) hl hX) (q := 1557) rfl ?_
  refine J_aload_n (z := 1) dL_law_1557 rfl rfl (q := 1558) rfl ?_
  refine J_iload (z := 0) dL_law_1558 rfl (q := 1560) rfl ?_
  refine J_iconst (x := nI 2) dL_law_1560 (by decide) (q := 1561) rfl ?_
  refine J_iadd dL_law_1561 (q := 1562) rfl ?_
  refine J_sld dL_law_1562 (sl_in (k := 2) (by decide) hl hX) (q := 1563) rfl ?_
  refine J_callV (as := [.int (X.2 (nI (6 * t) + nI 1).toNatClampNeg), .int (X.2 (nI (6 * t) + nI 2).toNatClampNeg)]) (kc2 := kc) (ks2 := ks) (F1 := (335, some (.int v), σ2)) dL_law_1563 mRL_192 rt310 (tX10_quiet rt310 e2) rfl (Nat.le_of_ble_eq_true rfl) (Nat.le_of_ble_eq_true rfl) (Nat.le_of_ble_eq_true rfl) (by omega) (by omega) (Nat.le_refl _) (fun h => h) (Or.inl rfl) (q := 1566) rfl (fun _ => ?_)
  exact J_icmp_eq (tgt := 1635) dL_law_1566 (by decide) (q := 1569) rfl (fun _ => hk) (fun c => absurd rfl c)
set_option maxRecDepth 20000 in
set_option maxHeartbeats 2000000 in
theorem lw_40 (h : ALL t σ) (ht : t ≤ 1000) (hl : 6 * t + 6 ≤ X.1) (hX : X.1 ≤ 3072) : TURN1 X t σ 1571 := by
  obtain ⟨v, σ2, e1, e2, hA⟩ := A_far h ht
  refine ⟨σ2, hA, fun F kc ks hk => ?_⟩
  unfold LVL
  refine J_aload_n (z := 2) dL_law_1571 rfl rfl (q := 1572) rfl ?_
  refine J_callV (as := []) (kc2 := kc + 1) (ks2 := ks + 6) (F1 := (335, some (.int v), σ)) dL_law_1572 mRL_193 rt0 (tX9_far rt0 e1) rfl (Nat.le_of_ble_eq_true rfl) (Nat.le_of_ble_eq_true rfl) (Nat.le_of_ble_eq_true rfl) (by omega) (by omega) (Nat.le_refl _) (fun h => h) (Or.inl rfl) (q := 1575) rfl (fun _ => ?_)
  refine J_aload_n (z := 3) dL_law_1575 rfl rfl (q := 1576) rfl ?_
  refine J_callV (as := []) (kc2 := kc) (ks2 := ks) (F1 := (335, some (.int v), σ2)) dL_law_1576 mRL_196 rt310 (tX10_far rt310 e2) rfl (Nat.le_of_ble_eq_true rfl) (Nat.le_of_ble_eq_true rfl) (Nat.le_of_ble_eq_true rfl) (by omega) (by omega) (Nat.le_refl _) (fun h => h) (Or.inl rfl) (q := 1579) rfl (fun _ => ?_)
  exact J_icmp_eq (tgt := 1635) dL_law_1579 (by decide) (q := 1582) rfl (fun _ => hk) (fun c => absurd rfl c)
set_option maxRecDepth 20000 in
set_option maxHeartbeats 2000000 in
theorem lw_41 (h : ALL t σ) (ht : t ≤ 1000) (hl : 6 * t + 6 ≤ X.1) (hX : X.1 ≤ 3072) : TURN1 X t σ 1584 := by
  obtain ⟨v, σ1, σ2, e1, e2, hA⟩ := A_image h ht
  refine ⟨σ2, hA, fun F kc ks hk => ?_⟩
  unfold LVL
  refine J_aload_n (z := 2) dL_law_1584 rfl rfl (q := 1585) rfl ?_
  refine J_callV (as := []) (kc2 := kc + 1) (ks2 := ks + 6) (F1 := (335, some (.int v), σ1)) dL_law_1585 mRL_197 rt0 (tX9_image rt0 e1) rfl (Nat.le_of_ble_eq_true rfl) (Nat.le_of_ble_eq_true rfl) (Nat.le_of_ble_eq_true rfl) (by omega) (by omega) (Nat.le_refl _) (fun h => h) (Or.inl rfl) (q := 1588) rfl (fun _ => ?_)
  refine J_aload_n (z := 3) dL_law_1588 rfl rfl (q := 1589) rfl ?_
  refine J_callV (as := []) (kc2 := kc) (ks2 := ks) (F1 := (335, some (.int v), σ2)) dL_law_1589 mRL_200 rt310 (tX10_image rt310 e2) rfl (Nat.le_of_ble_eq_true rfl) (Nat.le_of_ble_eq_true rfl) (Nat.le_of_ble_eq_true rfl) (by omega) (by omega) (Nat.le_refl _) (fun h => h) (Or.inl rfl) (q := 1592) rfl (fun _ => ?_)
  exact J_icmp_eq (tgt := 1635) dL_law_1592 (by decide) (q := 1595) rfl (fun _ => hk) (fun c => absurd rfl c)
set_option maxRecDepth 20000 in
set_option maxHeartbeats 2000000 in
theorem lw_42 (h : ALL t σ) (ht : t ≤ 1000) (hl : 6 * t + 6 ≤ X.1) (hX : X.1 ≤ 3072) : TURN1 X t σ 1597 := by
  obtain ⟨v, σ1, σ2, e1, e2, hA⟩ := A_back h ht
  refine ⟨σ2, hA, fun F kc ks hk => ?_⟩
  unfold LVL
  refine J_aload_n (z := 2) dL_law_1597 rfl rfl (q := 1598) rfl ?_
  refine J_callV (as := []) (kc2 := kc + 1) (ks2 := ks + 6) (F1 := (335, some (.int v), σ1)) dL_law_1598 mRL_201 rt0 (tX9_back rt0 e1) rfl (Nat.le_of_ble_eq_true rfl) (Nat.le_of_ble_eq_true rfl) (Nat.le_of_ble_eq_true rfl) (by omega) (by omega) (Nat.le_refl _) (fun h => h) (Or.inl rfl) (q := 1601) rfl (fun _ => ?_)
  refine J_aload_n (z := 3) dL_law_1601 rfl rfl (q := 1602) rfl ?_
  refine J_callV (as := []) (kc2 := kc) (ks2 := ks) (F1 := (335, some (.int v), σ2)) dL_law_1602 mRL_204 rt310 (tX10_back rt310 e2) rfl (Nat.le_of_ble_eq_true rfl) (Nat.le_of_ble_eq_true rfl) (Nat.le_of_ble_eq_true rfl) (by omega) (by omega) (Nat.le_refl _) (fun h => h) (Or.inl rfl) (q := 1605) rfl (fun _ => ?_)
  exact J_icmp_eq (tgt := 1635) dL_law_1605 (by decide) (q := 1608) rfl (fun _ => hk) (fun c => absurd rfl c)
set_option maxRecDepth 20000 in
set_option maxHeartbeats 2000000 in
theorem lw_43 (h : ALL t σ) (ht : t ≤ 1000) (hl : 6 * t + 6 ≤ X.1) (hX : X.1 ≤ 3072) : TURN1 X t σ 1610 := by
  obtain ⟨v, σ2, e1, e2, hA⟩ := A_count h ht (X.2 (nI (6 * t) + nI 1).toNatClampNeg)
  refine ⟨σ2, hA, fun F kc ks hk => ?_⟩
  unfold LVL
  refine J_aload_n (z := 2) dL_law_1610 rfl rfl (q := 1611) rfl ?_
  refine J_aload_n (z := 1) dL_law_1611 rfl rfl (q := 1612) rfl ?_
  refine J_iload (z := 0) dL_law_1612 rfl (q := 1614) rfl ?_
  refine J_iconst (x := nI 1) dL_law_1614 (by decide) (q := 1615) rfl ?_
  refine J_iadd dL_law_1615 (q := 1616) rfl ?_
  refine J_sld dL_law_1616 (sl_in (k := 1) (by decide) hl hX) (q := 1617) rfl ?_
  refine J_callV (as := [.int (X.2 (nI (6 * t) + nI 1).toNatClampNeg)]) (kc2 := kc + 1) (ks2 := ks + 6) (F1 := (335, some (.int v), σ)) dL_law_1617 mRL_205 rt0 (tX9_count rt0 e1) rfl (Nat.le_of_ble_eq_true rfl) (Nat.le_of_ble_eq_true rfl) (Nat.le_of_ble_eq_true rfl) (by omega) (by omega) (Nat.le_refl _) (fun h => h) (Or.inl rfl) (q := 1620) rfl (fun _ => ?_)
  refine J_aload_n (z := 3) dL_law_1620 rfl rfl (q := 1621) rfl ?_
  refine J_aload_n (z := 1) dL_law_1621 rfl rfl (q := 1622) rfl ?_
  refine J_iload (z := 0) dL_law_1622 rfl (q := 1624) rfl ?_
  refine J_iconst (x := nI 1) dL_law_1624 (by decide) (q := 1625) rfl ?_
  refine J_iadd dL_law_1625 (q := 1626) rfl ?_
  refine J_sld dL_law_1626 (sl_in (k := 1) (by decide) hl hX) (q := 1627) rfl ?_
  refine J_callV (as := [.int (X.2 (nI (6 * t) + nI 1).toNatClampNeg)]) (kc2 := kc) (ks2 := ks) (F1 := (335, some (.int v), σ2)) dL_law_1627 mRL_208 rt310 (tX10_count rt310 e2) rfl (Nat.le_of_ble_eq_true rfl) (Nat.le_of_ble_eq_true rfl) (Nat.le_of_ble_eq_true rfl) (by omega) (by omega) (Nat.le_refl _) (fun h => h) (Or.inl rfl) (q := 1630) rfl (fun _ => ?_)
  exact J_icmp_eq (tgt := 1635) dL_law_1630 (by decide) (q := 1633) rfl (fun _ => hk) (fun c => absurd rfl c)
end LawC
