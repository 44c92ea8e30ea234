set_option maxRecDepth 20000 in
theorem lk_feed {z : xL} (C : CtL z) {cs ss : Nat} (hc : cs ≤ 601024 ∧ ss ≤ 7293034) {M N : xM} {v : Int64} (x4 : Int32) (h1 : vp_in (x4 + 1) (z_L z)) (h2 : vp_in (x4 + 2) (z_L z)) (h3 : vp_in (x4 + 3) (z_L z)) (h4 : vp_in (x4 + 4) (z_L z)) (h5 : vp_in (x4 + 5) (z_L z)) {r : Int32} {M1 : xM} {N1 : xM} (hf : f_X10_feed M (z_x z (x4 + 1).toNatClampNeg) (z_x z (x4 + 2).toNatClampNeg) (z_x z (x4 + 3).toNatClampNeg) (z_x z (x4 + 4).toNatClampNeg) (z_x z (x4 + 5).toNatClampNeg) = some (r, M1)) (hg : f_X11_feed N (z_x z (x4 + 1).toNatClampNeg) (z_x z (x4 + 2).toNatClampNeg) (z_x z (x4 + 3).toNatClampNeg) (z_x z (x4 + 4).toNatClampNeg) (z_x z (x4 + 5).toNatClampNeg) = some (r, N1)) (kk : JL z cs ss M1 N1 v 2130 [(0, .ref (z_b z)), (1, .ref (z_1 z 0)), (2, .ref (z_2 z 0)), (3, .ref (z_o z)), (4, .int x4)] []) : JL z cs ss M N v 260 [(0, .ref (z_b z)), (1, .ref (z_1 z 0)), (2, .ref (z_2 z 0)), (3, .ref (z_o z)), (4, .int x4)] [] := by
  refine l_aload_n C 1 dL_law_260 rfl rfl ?_
  refine l_aload_n C 0 dL_law_261 rfl rfl ?_
  refine l_iload C 4 dL_law_262 rfl ?_
  refine l_iconst (w := 1) C dL_law_264 rfl ?_
  refine l_iadd C dL_law_265 ?_
  refine l_sld C h1 dL_law_266 ?_
  refine l_aload_n C 0 dL_law_267 rfl rfl ?_
  refine l_iload C 4 dL_law_268 rfl ?_
  refine l_iconst (w := 2) C dL_law_270 rfl ?_
  refine l_iadd C dL_law_271 ?_
  refine l_sld C h2 dL_law_272 ?_
  refine l_aload_n C 0 dL_law_273 rfl rfl ?_
  refine l_iload C 4 dL_law_274 rfl ?_
  refine l_iconst (w := 3) C dL_law_276 rfl ?_
  refine l_iadd C dL_law_277 ?_
  refine l_sld C h3 dL_law_278 ?_
  refine l_aload_n C 0 dL_law_279 rfl rfl ?_
  refine l_iload C 4 dL_law_280 rfl ?_
  refine l_iconst (w := 4) C dL_law_282 rfl ?_
  refine l_iadd C dL_law_283 ?_
  refine l_sld C h4 dL_law_284 ?_
  refine l_aload_n C 0 dL_law_285 rfl rfl ?_
  refine l_iload C 4 dL_law_286 rfl ?_
  refine l_iconst (w := 5) C dL_law_288 rfl ?_
  refine l_iadd C dL_law_289 ?_
  refine l_sld C h5 dL_law_290 ?_
  refine l_callC C (As := [.int (z_x z (x4 + 1).toNatClampNeg), .int (z_x z (x4 + 2).toNatClampNeg), .int (z_x z (x4 + 3).toNatClampNeg), .int (z_x z (x4 + 4).toNatClampNeg), .int (z_x z (x4 + 5).toNatClampNeg)]) (nn := 5) (m_X10_feed _ _ _ M (z_x z (x4 + 1).toNatClampNeg) (z_x z (x4 + 2).toNatClampNeg) (z_x z (x4 + 3).toNatClampNeg) (z_x z (x4 + 4).toNatClampNeg) (z_x z (x4 + 5).toNatClampNeg) hf) ⟨kw_345, kw_346, kw_347, kw_1, kw_348⟩ ⟨rfl, by decide +kernel, by decide +kernel, by decide +kernel⟩ ⟨rfl, rfl, Nat.le_of_ble_eq_true rfl, Nat.le_of_ble_eq_true rfl⟩ hc rfl rfl (Nat.le_of_ble_eq_true rfl) dL_law_291 ?_
  refine l_aload_n C 2 dL_law_294 rfl rfl ?_
  refine l_aload_n C 0 dL_law_295 rfl rfl ?_
  refine l_iload C 4 dL_law_296 rfl ?_
  refine l_iconst (w := 1) C dL_law_298 rfl ?_
  refine l_iadd C dL_law_299 ?_
  refine l_sld C h1 dL_law_300 ?_
  refine l_aload_n C 0 dL_law_301 rfl rfl ?_
  refine l_iload C 4 dL_law_302 rfl ?_
  refine l_iconst (w := 2) C dL_law_304 rfl ?_
  refine l_iadd C dL_law_305 ?_
  refine l_sld C h2 dL_law_306 ?_
  refine l_aload_n C 0 dL_law_307 rfl rfl ?_
  refine l_iload C 4 dL_law_308 rfl ?_
  refine l_iconst (w := 3) C dL_law_310 rfl ?_
  refine l_iadd C dL_law_311 ?_
  refine l_sld C h3 dL_law_312 ?_
  refine l_aload_n C 0 dL_law_313 rfl rfl ?_
  refine l_iload C 4 dL_law_314 rfl ?_
  refine l_iconst (w := 4) C dL_law_316 rfl ?_
  refine l_iadd C dL_law_317 ?_
  refine l_sld C h4 dL_law_318 ?_
  refine l_aload_n C 0 dL_law_319 rfl rfl ?_
  refine l_iload C 4 dL_law_320 rfl ?_
  refine l_iconst (w := 5) C dL_law_322 rfl ?_
  refine l_iadd C dL_law_323 ?_
  refine l_sld C h5 dL_law_324 ?_
  refine l_callM C (As := [.int (z_x z (x4 + 1).toNatClampNeg), .int (z_x z (x4 + 2).toNatClampNeg), .int (z_x z (x4 + 3).toNatClampNeg), .int (z_x z (x4 + 4).toNatClampNeg), .int (z_x z (x4 + 5).toNatClampNeg)]) (nn := 5) (m_X11_feed _ _ _ N (z_x z (x4 + 1).toNatClampNeg) (z_x z (x4 + 2).toNatClampNeg) (z_x z (x4 + 3).toNatClampNeg) (z_x z (x4 + 4).toNatClampNeg) (z_x z (x4 + 5).toNatClampNeg) hg) ⟨kw_1346, kw_1347, kw_1348, kw_11, kw_1349⟩ ⟨rfl, by decide +kernel, by decide +kernel, by decide +kernel⟩ ⟨rfl, rfl, Nat.le_of_ble_eq_true rfl, Nat.le_of_ble_eq_true rfl⟩ hc rfl rfl (Nat.le_of_ble_eq_true rfl) dL_law_325 ?_
  exact l_icmp_eq C 2130 dL_law_328 (by decide) (fun _ => kk) (fun q => absurd rfl q)
set_option maxRecDepth 20000 in
theorem lk_end {z : xL} (C : CtL z) {cs ss : Nat} (hc : cs ≤ 601024 ∧ ss ≤ 7293034) {M N : xM} {v : Int64} (x4 : Int32) (h1 : vp_in (x4 + 1) (z_L z)) {r : Int32} {M1 : xM} {N1 : xM} (hf : f_X10_end M (z_x z (x4 + 1).toNatClampNeg) = some (r, M1)) (hg : f_X11_end N (z_x z (x4 + 1).toNatClampNeg) = some (r, N1)) (kk : JL z cs ss M1 N1 v 2130 [(0, .ref (z_b z)), (1, .ref (z_1 z 0)), (2, .ref (z_2 z 0)), (3, .ref (z_o z)), (4, .int x4)] []) : JL z cs ss M N v 333 [(0, .ref (z_b z)), (1, .ref (z_1 z 0)), (2, .ref (z_2 z 0)), (3, .ref (z_o z)), (4, .int x4)] [] := by
  refine l_aload_n C 1 dL_law_333 rfl rfl ?_
  refine l_aload_n C 0 dL_law_334 rfl rfl ?_
  refine l_iload C 4 dL_law_335 rfl ?_
  refine l_iconst (w := 1) C dL_law_337 rfl ?_
  refine l_iadd C dL_law_338 ?_
  refine l_sld C h1 dL_law_339 ?_
  refine l_callC C (As := [.int (z_x z (x4 + 1).toNatClampNeg)]) (nn := 1) (m_X10_end _ _ _ M (z_x z (x4 + 1).toNatClampNeg) hf) ⟨kw_353, kw_354, kw_355, kw_1, kw_356⟩ ⟨rfl, by decide +kernel, by decide +kernel, by decide +kernel⟩ ⟨rfl, rfl, Nat.le_of_ble_eq_true rfl, Nat.le_of_ble_eq_true rfl⟩ hc rfl rfl (Nat.le_of_ble_eq_true rfl) dL_law_340 ?_
  refine l_aload_n C 2 dL_law_343 rfl rfl ?_
  refine l_aload_n C 0 dL_law_344 rfl rfl ?_
  refine l_iload C 4 dL_law_345 rfl ?_
  refine l_iconst (w := 1) C dL_law_347 rfl ?_
  refine l_iadd C dL_law_348 ?_
  refine l_sld C h1 dL_law_349 ?_
  refine l_callM C (As := [.int (z_x z (x4 + 1).toNatClampNeg)]) (nn := 1) (m_X11_end _ _ _ N (z_x z (x4 + 1).toNatClampNeg) hg) ⟨kw_1353, kw_1354, kw_1355, kw_11, kw_1356⟩ ⟨rfl, by decide +kernel, by decide +kernel, by decide +kernel⟩ ⟨rfl, rfl, Nat.le_of_ble_eq_true rfl, Nat.le_of_ble_eq_true rfl⟩ hc rfl rfl (Nat.le_of_ble_eq_true rfl) dL_law_350 ?_
  exact l_icmp_eq C 2130 dL_law_353 (by decide) (fun _ => kk) (fun q => absurd rfl q)
set_option maxRecDepth 20000 in
theorem lk_fault {z : xL} (C : CtL z) {cs ss : Nat} (hc : cs ≤ 601024 ∧ ss ≤ 7293034) {M N : xM} {v : Int64} (x4 : Int32)  {r : Int32} {M1 : xM} {N1 : xM} (hf : f_X10_fault M  = some (r, M1)) (hg : f_X11_fault N  = some (r, N1)) (kk : JL z cs ss M1 N1 v 2130 [(0, .ref (z_b z)), (1, .ref (z_1 z 0)), (2, .ref (z_2 z 0)), (3, .ref (z_o z)), (4, .int x4)] []) : JL z cs ss M N v 358 [(0, .ref (z_b z)), (1, .ref (z_1 z 0)), (2, .ref (z_2 z 0)), (3, .ref (z_o z)), (4, .int x4)] [] := by
  refine l_aload_n C 1 dL_law_358 rfl rfl ?_
  refine l_callC C (As := []) (nn := 0) (m_X10_fault _ _ _ M  hf) ⟨kw_357, kw_358, kw_359, kw_1, kw_360⟩ ⟨rfl, by decide +kernel, by decide +kernel, by decide +kernel⟩ ⟨rfl, rfl, Nat.le_of_ble_eq_true rfl, Nat.le_of_ble_eq_true rfl⟩ hc rfl rfl (Nat.le_of_ble_eq_true rfl) dL_law_359 ?_
  refine l_aload_n C 2 dL_law_362 rfl rfl ?_
  refine l_callM C (As := []) (nn := 0) (m_X11_fault _ _ _ N  hg) ⟨kw_1360, kw_1361, kw_1362, kw_11, kw_1363⟩ ⟨rfl, by decide +kernel, by decide +kernel, by decide +kernel⟩ ⟨rfl, rfl, Nat.le_of_ble_eq_true rfl, Nat.le_of_ble_eq_true rfl⟩ hc rfl rfl (Nat.le_of_ble_eq_true rfl) dL_law_363 ?_
  exact l_icmp_eq C 2130 dL_law_366 (by decide) (fun _ => kk) (fun q => absurd rfl q)
set_option maxRecDepth 20000 in
theorem lk_rules {z : xL} (C : CtL z) {cs ss : Nat} (hc : cs ≤ 601024 ∧ ss ≤ 7293034) {M N : xM} {v : Int64} (x4 : Int32)  {r : Int32} {M1 : xM} {N1 : xM} (hf : f_X10_rules M  = some (r, M1)) (hg : f_X11_rules N  = some (r, N1)) (kk : JL z cs ss M1 N1 v 2130 [(0, .ref (z_b z)), (1, .ref (z_1 z 0)), (2, .ref (z_2 z 0)), (3, .ref (z_o z)), (4, .int x4)] []) : JL z cs ss M N v 371 [(0, .ref (z_b z)), (1, .ref (z_1 z 0)), (2, .ref (z_2 z 0)), (3, .ref (z_o z)), (4, .int x4)] [] := by
  refine l_aload_n C 1 dL_law_371 rfl rfl ?_
  refine l_callC C (As := []) (nn := 0) (m_X10_rules _ _ _ M  hf) ⟨kw_450, kw_451, kw_452, kw_1, kw_453⟩ ⟨rfl, by decide +kernel, by decide +kernel, by decide +kernel⟩ ⟨rfl, rfl, Nat.le_of_ble_eq_true rfl, Nat.le_of_ble_eq_true rfl⟩ hc rfl rfl (Nat.le_of_ble_eq_true rfl) dL_law_372 ?_
  refine l_aload_n C 2 dL_law_375 rfl rfl ?_
  refine l_callM C (As := []) (nn := 0) (m_X11_rules _ _ _ N  hg) ⟨kw_1412, kw_1413, kw_1414, kw_11, kw_1415⟩ ⟨rfl, by decide +kernel, by decide +kernel, by decide +kernel⟩ ⟨rfl, rfl, Nat.le_of_ble_eq_true rfl, Nat.le_of_ble_eq_true rfl⟩ hc rfl rfl (Nat.le_of_ble_eq_true rfl) dL_law_376 ?_
  exact l_icmp_eq C 2130 dL_law_379 (by decide) (fun _ => kk) (fun q => absurd rfl q)
set_option maxRecDepth 20000 in
theorem lk_rule {z : xL} (C : CtL z) {cs ss : Nat} (hc : cs ≤ 601024 ∧ ss ≤ 7293034) {M N : xM} {v : Int64} (x4 : Int32) (h1 : vp_in (x4 + 1) (z_L z)) {r : Int32} {N1 : xM} (hf : f_X10_rule M (z_x z (x4 + 1).toNatClampNeg) = some r) (hg : f_X11_rule N (z_x z (x4 + 1).toNatClampNeg) = some (r, N1)) (kk : JL z cs ss M N1 v 2130 [(0, .ref (z_b z)), (1, .ref (z_1 z 0)), (2, .ref (z_2 z 0)), (3, .ref (z_o z)), (4, .int x4)] []) : JL z cs ss M N v 384 [(0, .ref (z_b z)), (1, .ref (z_1 z 0)), (2, .ref (z_2 z 0)), (3, .ref (z_o z)), (4, .int x4)] [] := by
  refine l_aload_n C 1 dL_law_384 rfl rfl ?_
  refine l_aload_n C 0 dL_law_385 rfl rfl ?_
  refine l_iload C 4 dL_law_386 rfl ?_
  refine l_iconst (w := 1) C dL_law_388 rfl ?_
  refine l_iadd C dL_law_389 ?_
  refine l_sld C h1 dL_law_390 ?_
  refine l_callC C (As := [.int (z_x z (x4 + 1).toNatClampNeg)]) (nn := 1) (m_X10_rule _ _ _ M (z_x z (x4 + 1).toNatClampNeg) hf) ⟨kw_465, kw_466, kw_467, kw_1, kw_468⟩ ⟨rfl, by decide +kernel, by decide +kernel, by decide +kernel⟩ ⟨rfl, rfl, Nat.le_of_ble_eq_true rfl, Nat.le_of_ble_eq_true rfl⟩ hc rfl rfl (Nat.le_of_ble_eq_true rfl) dL_law_391 ?_
  refine l_aload_n C 2 dL_law_394 rfl rfl ?_
  refine l_aload_n C 0 dL_law_395 rfl rfl ?_
  refine l_iload C 4 dL_law_396 rfl ?_
  refine l_iconst (w := 1) C dL_law_398 rfl ?_
  refine l_iadd C dL_law_399 ?_
  refine l_sld C h1 dL_law_400 ?_
  refine l_callM C (As := [.int (z_x z (x4 + 1).toNatClampNeg)]) (nn := 1) (m_X11_rule _ _ _ N (z_x z (x4 + 1).toNatClampNeg) hg) ⟨kw_1416, kw_1417, kw_1418, kw_11, kw_1419⟩ ⟨rfl, by decide +kernel, by decide +kernel, by decide +kernel⟩ ⟨rfl, rfl, Nat.le_of_ble_eq_true rfl, Nat.le_of_ble_eq_true rfl⟩ hc rfl rfl (Nat.le_of_ble_eq_true rfl) dL_law_401 ?_
  exact l_icmp_eq C 2130 dL_law_404 (by decide) (fun _ => kk) (fun q => absurd rfl q)
set_option maxRecDepth 20000 in
theorem lk_guardian {z : xL} (C : CtL z) {cs ss : Nat} (hc : cs ≤ 601024 ∧ ss ≤ 7293034) {M N : xM} {v : Int64} (x4 : Int32) (h1 : vp_in (x4 + 1) (z_L z)) {r : Int32} {M1 : xM} {N1 : xM} (hf : f_X10_guardian M (z_x z (x4 + 1).toNatClampNeg) = some (r, M1)) (hg : f_X11_guardian N (z_x z (x4 + 1).toNatClampNeg) = some (r, N1)) (kk : JL z cs ss M1 N1 v 2130 [(0, .ref (z_b z)), (1, .ref (z_1 z 0)), (2, .ref (z_2 z 0)), (3, .ref (z_o z)), (4, .int x4)] []) : JL z cs ss M N v 409 [(0, .ref (z_b z)), (1, .ref (z_1 z 0)), (2, .ref (z_2 z 0)), (3, .ref (z_o z)), (4, .int x4)] [] := by
  refine l_aload_n C 1 dL_law_409 rfl rfl ?_
  refine l_aload_n C 0 dL_law_410 rfl rfl ?_
  refine l_iload C 4 dL_law_411 rfl ?_
  refine l_iconst (w := 1) C dL_law_413 rfl ?_
  refine l_iadd C dL_law_414 ?_
  refine l_sld C h1 dL_law_415 ?_
  refine l_callC C (As := [.int (z_x z (x4 + 1).toNatClampNeg)]) (nn := 1) (m_X10_guardian _ _ _ M (z_x z (x4 + 1).toNatClampNeg) hf) ⟨kw_470, kw_471, kw_472, kw_1, kw_473⟩ ⟨rfl, by decide +kernel, by decide +kernel, by decide +kernel⟩ ⟨rfl, rfl, Nat.le_of_ble_eq_true rfl, Nat.le_of_ble_eq_true rfl⟩ hc rfl rfl (Nat.le_of_ble_eq_true rfl) dL_law_416 ?_
  refine l_aload_n C 2 dL_law_419 rfl rfl ?_
  refine l_aload_n C 0 dL_law_420 rfl rfl ?_
  refine l_iload C 4 dL_law_421 rfl ?_
  refine l_iconst (w := 1) C dL_law_423 rfl ?_
  refine l_iadd C dL_law_424 ?_
  refine l_sld C h1 dL_law_425 ?_
  refine l_callM C (As := [.int (z_x z (x4 + 1).toNatClampNeg)]) (nn := 1) (m_X11_guardian _ _ _ N (z_x z (x4 + 1).toNatClampNeg) hg) ⟨kw_1421, kw_1422, kw_1423, kw_11, kw_1424⟩ ⟨rfl, by decide +kernel, by decide +kernel, by decide +kernel⟩ ⟨rfl, rfl, Nat.le_of_ble_eq_true rfl, Nat.le_of_ble_eq_true rfl⟩ hc rfl rfl (Nat.le_of_ble_eq_true rfl) dL_law_426 ?_
  exact l_icmp_eq C 2130 dL_law_429 (by decide) (fun _ => kk) (fun q => absurd rfl q)
set_option maxRecDepth 20000 in
theorem lk_bond {z : xL} (C : CtL z) {cs ss : Nat} (hc : cs ≤ 601024 ∧ ss ≤ 7293034) {M N : xM} {v : Int64} (x4 : Int32) (h1 : vp_in (x4 + 1) (z_L z)) (h2 : vp_in (x4 + 2) (z_L z)) {r : Int32} {M1 : xM} {N1 : xM} (hf : f_X10_bond M (z_x z (x4 + 1).toNatClampNeg) (z_x z (x4 + 2).toNatClampNeg) = some (r, M1)) (hg : f_X11_bond N (z_x z (x4 + 1).toNatClampNeg) (z_x z (x4 + 2).toNatClampNeg) = some (r, N1)) (kk : JL z cs ss M1 N1 v 2130 [(0, .ref (z_b z)), (1, .ref (z_1 z 0)), (2, .ref (z_2 z 0)), (3, .ref (z_o z)), (4, .int x4)] []) : JL z cs ss M N v 434 [(0, .ref (z_b z)), (1, .ref (z_1 z 0)), (2, .ref (z_2 z 0)), (3, .ref (z_o z)), (4, .int x4)] [] := by
  refine l_aload_n C 1 dL_law_434 rfl rfl ?_
  refine l_aload_n C 0 dL_law_435 rfl rfl ?_
  refine l_iload C 4 dL_law_436 rfl ?_
  refine l_iconst (w := 1) C dL_law_438 rfl ?_
  refine l_iadd C dL_law_439 ?_
  refine l_sld C h1 dL_law_440 ?_
  refine l_aload_n C 0 dL_law_441 rfl rfl ?_
  refine l_iload C 4 dL_law_442 rfl ?_
  refine l_iconst (w := 2) C dL_law_444 rfl ?_
  refine l_iadd C dL_law_445 ?_
  refine l_sld C h2 dL_law_446 ?_
  refine l_callC C (As := [.int (z_x z (x4 + 1).toNatClampNeg), .int (z_x z (x4 + 2).toNatClampNeg)]) (nn := 2) (m_X10_bond _ _ _ M (z_x z (x4 + 1).toNatClampNeg) (z_x z (x4 + 2).toNatClampNeg) hf) ⟨kw_490, kw_491, kw_492, kw_1, kw_493⟩ ⟨rfl, by decide +kernel, by decide +kernel, by decide +kernel⟩ ⟨rfl, rfl, Nat.le_of_ble_eq_true rfl, Nat.le_of_ble_eq_true rfl⟩ hc rfl rfl (Nat.le_of_ble_eq_true rfl) dL_law_447 ?_
  refine l_aload_n C 2 dL_law_450 rfl rfl ?_
  refine l_aload_n C 0 dL_law_451 rfl rfl ?_
  refine l_iload C 4 dL_law_452 rfl ?_
  refine l_iconst (w := 1) C dL_law_454 rfl ?_
  refine l_iadd C dL_law_455 ?_
  refine l_sld C h1 dL_law_456 ?_
  refine l_aload_n C 0 dL_law_457 rfl rfl ?_
  refine l_iload C 4 dL_law_458 rfl ?_
  refine l_iconst (w := 2) C dL_law_460 rfl ?_
  refine l_iadd C dL_law_461 ?_
  refine l_sld C h2 dL_law_462 ?_
  refine l_callM C (As := [.int (z_x z (x4 + 1).toNatClampNeg), .int (z_x z (x4 + 2).toNatClampNeg)]) (nn := 2) (m_X11_bond _ _ _ N (z_x z (x4 + 1).toNatClampNeg) (z_x z (x4 + 2).toNatClampNeg) hg) ⟨kw_1434, kw_1435, kw_1436, kw_11, kw_1437⟩ ⟨rfl, by decide +kernel, by decide +kernel, by decide +kernel⟩ ⟨rfl, rfl, Nat.le_of_ble_eq_true rfl, Nat.le_of_ble_eq_true rfl⟩ hc rfl rfl (Nat.le_of_ble_eq_true rfl) dL_law_463 ?_
  exact l_icmp_eq C 2130 dL_law_466 (by decide) (fun _ => kk) (fun q => absurd rfl q)
set_option maxRecDepth 20000 in
theorem lk_ward {z : xL} (C : CtL z) {cs ss : Nat} (hc : cs ≤ 601024 ∧ ss ≤ 7293034) {M N : xM} {v : Int64} (x4 : Int32) (h1 : vp_in (x4 + 1) (z_L z)) (h2 : vp_in (x4 + 2) (z_L z)) {r : Int32} {M1 : xM} {N1 : xM} (hf : f_X10_ward M (z_x z (x4 + 1).toNatClampNeg) (z_x z (x4 + 2).toNatClampNeg) = some (r, M1)) (hg : f_X11_ward N (z_x z (x4 + 1).toNatClampNeg) (z_x z (x4 + 2).toNatClampNeg) = some (r, N1)) (kk : JL z cs ss M1 N1 v 2130 [(0, .ref (z_b z)), (1, .ref (z_1 z 0)), (2, .ref (z_2 z 0)), (3, .ref (z_o z)), (4, .int x4)] []) : JL z cs ss M N v 471 [(0, .ref (z_b z)), (1, .ref (z_1 z 0)), (2, .ref (z_2 z 0)), (3, .ref (z_o z)), (4, .int x4)] [] := by
  refine l_aload_n C 1 dL_law_471 rfl rfl ?_
  refine l_aload_n C 0 dL_law_472 rfl rfl ?_
  refine l_iload C 4 dL_law_473 rfl ?_
  refine l_iconst (w := 1) C dL_law_475 rfl ?_
  refine l_iadd C dL_law_476 ?_
  refine l_sld C h1 dL_law_477 ?_
  refine l_aload_n C 0 dL_law_478 rfl rfl ?_
  refine l_iload C 4 dL_law_479 rfl ?_
  refine l_iconst (w := 2) C dL_law_481 rfl ?_
  refine l_iadd C dL_law_482 ?_
  refine l_sld C h2 dL_law_483 ?_
  refine l_callC C (As := [.int (z_x z (x4 + 1).toNatClampNeg), .int (z_x z (x4 + 2).toNatClampNeg)]) (nn := 2) (m_X10_ward _ _ _ M (z_x z (x4 + 1).toNatClampNeg) (z_x z (x4 + 2).toNatClampNeg) hf) ⟨kw_498, kw_499, kw_500, kw_1, kw_501⟩ ⟨rfl, by decide +kernel, by decide +kernel, by decide +kernel⟩ ⟨rfl, rfl, Nat.le_of_ble_eq_true rfl, Nat.le_of_ble_eq_true rfl⟩ hc rfl rfl (Nat.le_of_ble_eq_true rfl) dL_law_484 ?_
  refine l_aload_n C 2 dL_law_487 rfl rfl ?_
  refine l_aload_n C 0 dL_law_488 rfl rfl ?_
  refine l_iload C 4 dL_law_489 rfl ?_
  refine l_iconst (w := 1) C dL_law_491 rfl ?_
  refine l_iadd C dL_law_492 ?_
  refine l_sld C h1 dL_law_493 ?_
  refine l_aload_n C 0 dL_law_494 rfl rfl ?_
  refine l_iload C 4 dL_law_495 rfl ?_
  refine l_iconst (w := 2) C dL_law_497 rfl ?_
  refine l_iadd C dL_law_498 ?_
  refine l_sld C h2 dL_law_499 ?_
  refine l_callM C (As := [.int (z_x z (x4 + 1).toNatClampNeg), .int (z_x z (x4 + 2).toNatClampNeg)]) (nn := 2) (m_X11_ward _ _ _ N (z_x z (x4 + 1).toNatClampNeg) (z_x z (x4 + 2).toNatClampNeg) hg) ⟨kw_1442, kw_1443, kw_1444, kw_11, kw_1445⟩ ⟨rfl, by decide +kernel, by decide +kernel, by decide +kernel⟩ ⟨rfl, rfl, Nat.le_of_ble_eq_true rfl, Nat.le_of_ble_eq_true rfl⟩ hc rfl rfl (Nat.le_of_ble_eq_true rfl) dL_law_500 ?_
  exact l_icmp_eq C 2130 dL_law_503 (by decide) (fun _ => kk) (fun q => absurd rfl q)
set_option maxRecDepth 20000 in
theorem lk_change {z : xL} (C : CtL z) {cs ss : Nat} (hc : cs ≤ 601024 ∧ ss ≤ 7293034) {M N : xM} {v : Int64} (x4 : Int32) (h1 : vp_in (x4 + 1) (z_L z)) (h2 : vp_in (x4 + 2) (z_L z)) (h3 : vp_in (x4 + 3) (z_L z)) {r : Int32} {M1 : xM} {N1 : xM} (hf : f_X10_change M (z_x z (x4 + 1).toNatClampNeg) (z_x z (x4 + 2).toNatClampNeg) (z_x z (x4 + 3).toNatClampNeg) = some (r, M1)) (hg : f_X11_change N (z_x z (x4 + 1).toNatClampNeg) (z_x z (x4 + 2).toNatClampNeg) (z_x z (x4 + 3).toNatClampNeg) = some (r, N1)) (kk : JL z cs ss M1 N1 v 2130 [(0, .ref (z_b z)), (1, .ref (z_1 z 0)), (2, .ref (z_2 z 0)), (3, .ref (z_o z)), (4, .int x4)] []) : JL z cs ss M N v 508 [(0, .ref (z_b z)), (1, .ref (z_1 z 0)), (2, .ref (z_2 z 0)), (3, .ref (z_o z)), (4, .int x4)] [] := by
  refine l_aload_n C 1 dL_law_508 rfl rfl ?_
  refine l_aload_n C 0 dL_law_509 rfl rfl ?_
  refine l_iload C 4 dL_law_510 rfl ?_
  refine l_iconst (w := 1) C dL_law_512 rfl ?_
  refine l_iadd C dL_law_513 ?_
  refine l_sld C h1 dL_law_514 ?_
  refine l_aload_n C 0 dL_law_515 rfl rfl ?_
  refine l_iload C 4 dL_law_516 rfl ?_
  refine l_iconst (w := 2) C dL_law_518 rfl ?_
  refine l_iadd C dL_law_519 ?_
  refine l_sld C h2 dL_law_520 ?_
  refine l_aload_n C 0 dL_law_521 rfl rfl ?_
  refine l_iload C 4 dL_law_522 rfl ?_
  refine l_iconst (w := 3) C dL_law_524 rfl ?_
  refine l_iadd C dL_law_525 ?_
  refine l_sld C h3 dL_law_526 ?_
  refine l_callC C (As := [.int (z_x z (x4 + 1).toNatClampNeg), .int (z_x z (x4 + 2).toNatClampNeg), .int (z_x z (x4 + 3).toNatClampNeg)]) (nn := 3) (m_X10_change _ _ _ M (z_x z (x4 + 1).toNatClampNeg) (z_x z (x4 + 2).toNatClampNeg) (z_x z (x4 + 3).toNatClampNeg) hf) ⟨kw_506, kw_507, kw_508, kw_1, kw_509⟩ ⟨rfl, by decide +kernel, by decide +kernel, by decide +kernel⟩ ⟨rfl, rfl, Nat.le_of_ble_eq_true rfl, Nat.le_of_ble_eq_true rfl⟩ hc rfl rfl (Nat.le_of_ble_eq_true rfl) dL_law_527 ?_
  refine l_aload_n C 2 dL_law_530 rfl rfl ?_
  refine l_aload_n C 0 dL_law_531 rfl rfl ?_
  refine l_iload C 4 dL_law_532 rfl ?_
  refine l_iconst (w := 1) C dL_law_534 rfl ?_
  refine l_iadd C dL_law_535 ?_
  refine l_sld C h1 dL_law_536 ?_
  refine l_aload_n C 0 dL_law_537 rfl rfl ?_
  refine l_iload C 4 dL_law_538 rfl ?_
  refine l_iconst (w := 2) C dL_law_540 rfl ?_
  refine l_iadd C dL_law_541 ?_
  refine l_sld C h2 dL_law_542 ?_
  refine l_aload_n C 0 dL_law_543 rfl rfl ?_
  refine l_iload C 4 dL_law_544 rfl ?_
  refine l_iconst (w := 3) C dL_law_546 rfl ?_
  refine l_iadd C dL_law_547 ?_
  refine l_sld C h3 dL_law_548 ?_
  refine l_callM C (As := [.int (z_x z (x4 + 1).toNatClampNeg), .int (z_x z (x4 + 2).toNatClampNeg), .int (z_x z (x4 + 3).toNatClampNeg)]) (nn := 3) (m_X11_change _ _ _ N (z_x z (x4 + 1).toNatClampNeg) (z_x z (x4 + 2).toNatClampNeg) (z_x z (x4 + 3).toNatClampNeg) hg) ⟨kw_1452, kw_1453, kw_1454, kw_11, kw_1455⟩ ⟨rfl, by decide +kernel, by decide +kernel, by decide +kernel⟩ ⟨rfl, rfl, Nat.le_of_ble_eq_true rfl, Nat.le_of_ble_eq_true rfl⟩ hc rfl rfl (Nat.le_of_ble_eq_true rfl) dL_law_549 ?_
  exact l_icmp_eq C 2130 dL_law_552 (by decide) (fun _ => kk) (fun q => absurd rfl q)
set_option maxRecDepth 20000 in
theorem lk_receive {z : xL} (C : CtL z) {cs ss : Nat} (hc : cs ≤ 601024 ∧ ss ≤ 7293034) {M N : xM} {v : Int64} (x4 : Int32) (h1 : vp_in (x4 + 1) (z_L z)) (h2 : vp_in (x4 + 2) (z_L z)) (h3 : vp_in (x4 + 3) (z_L z)) (h4 : vp_in (x4 + 4) (z_L z)) {r : Int32} {M1 : xM} {N1 : xM} (hf : f_X10_receive M (z_x z (x4 + 1).toNatClampNeg) (z_x z (x4 + 2).toNatClampNeg) (z_x z (x4 + 3).toNatClampNeg) (z_x z (x4 + 4).toNatClampNeg) = some (r, M1)) (hg : f_X11_receive N (z_x z (x4 + 1).toNatClampNeg) (z_x z (x4 + 2).toNatClampNeg) (z_x z (x4 + 3).toNatClampNeg) (z_x z (x4 + 4).toNatClampNeg) = some (r, N1)) (kk : JL z cs ss M1 N1 v 2130 [(0, .ref (z_b z)), (1, .ref (z_1 z 0)), (2, .ref (z_2 z 0)), (3, .ref (z_o z)), (4, .int x4)] []) : JL z cs ss M N v 557 [(0, .ref (z_b z)), (1, .ref (z_1 z 0)), (2, .ref (z_2 z 0)), (3, .ref (z_o z)), (4, .int x4)] [] := by
  refine l_aload_n C 1 dL_law_557 rfl rfl ?_
  refine l_aload_n C 0 dL_law_558 rfl rfl ?_
  refine l_iload C 4 dL_law_559 rfl ?_
  refine l_iconst (w := 1) C dL_law_561 rfl ?_
  refine l_iadd C dL_law_562 ?_
  refine l_sld C h1 dL_law_563 ?_
  refine l_aload_n C 0 dL_law_564 rfl rfl ?_
  refine l_iload C 4 dL_law_565 rfl ?_
  refine l_iconst (w := 2) C dL_law_567 rfl ?_
  refine l_iadd C dL_law_568 ?_
  refine l_sld C h2 dL_law_569 ?_
  refine l_aload_n C 0 dL_law_570 rfl rfl ?_
  refine l_iload C 4 dL_law_571 rfl ?_
  refine l_iconst (w := 3) C dL_law_573 rfl ?_
  refine l_iadd C dL_law_574 ?_
  refine l_sld C h3 dL_law_575 ?_
  refine l_aload_n C 0 dL_law_576 rfl rfl ?_
  refine l_iload C 4 dL_law_577 rfl ?_
  refine l_iconst (w := 4) C dL_law_579 rfl ?_
  refine l_iadd C dL_law_580 ?_
  refine l_sld C h4 dL_law_581 ?_
  refine l_callC C (As := [.int (z_x z (x4 + 1).toNatClampNeg), .int (z_x z (x4 + 2).toNatClampNeg), .int (z_x z (x4 + 3).toNatClampNeg), .int (z_x z (x4 + 4).toNatClampNeg)]) (nn := 4) (m_X10_receive _ _ _ M (z_x z (x4 + 1).toNatClampNeg) (z_x z (x4 + 2).toNatClampNeg) (z_x z (x4 + 3).toNatClampNeg) (z_x z (x4 + 4).toNatClampNeg) hf) ⟨kw_536, kw_537, kw_538, kw_1, kw_539⟩ ⟨rfl, by decide +kernel, by decide +kernel, by decide +kernel⟩ ⟨rfl, rfl, Nat.le_of_ble_eq_true rfl, Nat.le_of_ble_eq_true rfl⟩ hc rfl rfl (Nat.le_of_ble_eq_true rfl) dL_law_582 ?_
  refine l_aload_n C 2 dL_law_585 rfl rfl ?_
  refine l_aload_n C 0 dL_law_586 rfl rfl ?_
  refine l_iload C 4 dL_law_587 rfl ?_
  refine l_iconst (w := 1) C dL_law_589 rfl ?_
  refine l_iadd C dL_law_590 ?_
  refine l_sld C h1 dL_law_591 ?_
  refine l_aload_n C 0 dL_law_592 rfl rfl ?_
  refine l_iload C 4 dL_law_593 rfl ?_
  refine l_iconst (w := 2) C dL_law_595 rfl ?_
  refine l_iadd C dL_law_596 ?_
  refine l_sld C h2 dL_law_597 ?_
  refine l_aload_n C 0 dL_law_598 rfl rfl ?_
  refine l_iload C 4 dL_law_599 rfl ?_
  refine l_iconst (w := 3) C dL_law_601 rfl ?_
  refine l_iadd C dL_law_602 ?_
  refine l_sld C h3 dL_law_603 ?_
  refine l_aload_n C 0 dL_law_604 rfl rfl ?_
  refine l_iload C 4 dL_law_605 rfl ?_
  refine l_iconst (w := 4) C dL_law_607 rfl ?_
  refine l_iadd C dL_law_608 ?_
  refine l_sld C h4 dL_law_609 ?_
  refine l_callM C (As := [.int (z_x z (x4 + 1).toNatClampNeg), .int (z_x z (x4 + 2).toNatClampNeg), .int (z_x z (x4 + 3).toNatClampNeg), .int (z_x z (x4 + 4).toNatClampNeg)]) (nn := 4) (m_X11_receive _ _ _ N (z_x z (x4 + 1).toNatClampNeg) (z_x z (x4 + 2).toNatClampNeg) (z_x z (x4 + 3).toNatClampNeg) (z_x z (x4 + 4).toNatClampNeg) hg) ⟨kw_1475, kw_1476, kw_1477, kw_11, kw_1478⟩ ⟨rfl, by decide +kernel, by decide +kernel, by decide +kernel⟩ ⟨rfl, rfl, Nat.le_of_ble_eq_true rfl, Nat.le_of_ble_eq_true rfl⟩ hc rfl rfl (Nat.le_of_ble_eq_true rfl) dL_law_610 ?_
  exact l_icmp_eq C 2130 dL_law_613 (by decide) (fun _ => kk) (fun q => absurd rfl q)
set_option maxRecDepth 20000 in
theorem lk_pay {z : xL} (C : CtL z) {cs ss : Nat} (hc : cs ≤ 601024 ∧ ss ≤ 7293034) {M N : xM} {v : Int64} (x4 : Int32) (h1 : vp_in (x4 + 1) (z_L z)) (h2 : vp_in (x4 + 2) (z_L z)) (h3 : vp_in (x4 + 3) (z_L z)) (h4 : vp_in (x4 + 4) (z_L z)) (h5 : vp_in (x4 + 5) (z_L z)) {r : Int32} {M1 : xM} {N1 : xM} (hf : f_X10_pay M (z_x z (x4 + 1).toNatClampNeg) (z_x z (x4 + 2).toNatClampNeg) (z_x z (x4 + 3).toNatClampNeg) (z_x z (x4 + 4).toNatClampNeg) (z_x z (x4 + 5).toNatClampNeg) = some (r, M1)) (hg : f_X11_pay N (z_x z (x4 + 1).toNatClampNeg) (z_x z (x4 + 2).toNatClampNeg) (z_x z (x4 + 3).toNatClampNeg) (z_x z (x4 + 4).toNatClampNeg) (z_x z (x4 + 5).toNatClampNeg) = some (r, N1)) (kk : JL z cs ss M1 N1 v 2130 [(0, .ref (z_b z)), (1, .ref (z_1 z 0)), (2, .ref (z_2 z 0)), (3, .ref (z_o z)), (4, .int x4)] []) : JL z cs ss M N v 618 [(0, .ref (z_b z)), (1, .ref (z_1 z 0)), (2, .ref (z_2 z 0)), (3, .ref (z_o z)), (4, .int x4)] [] := by
  refine l_aload_n C 1 dL_law_618 rfl rfl ?_
  refine l_aload_n C 0 dL_law_619 rfl rfl ?_
  refine l_iload C 4 dL_law_620 rfl ?_
  refine l_iconst (w := 1) C dL_law_622 rfl ?_
  refine l_iadd C dL_law_623 ?_
  refine l_sld C h1 dL_law_624 ?_
  refine l_aload_n C 0 dL_law_625 rfl rfl ?_
  refine l_iload C 4 dL_law_626 rfl ?_
  refine l_iconst (w := 2) C dL_law_628 rfl ?_
  refine l_iadd C dL_law_629 ?_
  refine l_sld C h2 dL_law_630 ?_
  refine l_aload_n C 0 dL_law_631 rfl rfl ?_
  refine l_iload C 4 dL_law_632 rfl ?_
  refine l_iconst (w := 3) C dL_law_634 rfl ?_
  refine l_iadd C dL_law_635 ?_
  refine l_sld C h3 dL_law_636 ?_
  refine l_aload_n C 0 dL_law_637 rfl rfl ?_
  refine l_iload C 4 dL_law_638 rfl ?_
  refine l_iconst (w := 4) C dL_law_640 rfl ?_
  refine l_iadd C dL_law_641 ?_
  refine l_sld C h4 dL_law_642 ?_
  refine l_aload_n C 0 dL_law_643 rfl rfl ?_
  refine l_iload C 4 dL_law_644 rfl ?_
  refine l_iconst (w := 5) C dL_law_646 rfl ?_
  refine l_iadd C dL_law_647 ?_
  refine l_sld C h5 dL_law_648 ?_
  refine l_callC C (As := [.int (z_x z (x4 + 1).toNatClampNeg), .int (z_x z (x4 + 2).toNatClampNeg), .int (z_x z (x4 + 3).toNatClampNeg), .int (z_x z (x4 + 4).toNatClampNeg), .int (z_x z (x4 + 5).toNatClampNeg)]) (nn := 5) (m_X10_pay _ _ _ M (z_x z (x4 + 1).toNatClampNeg) (z_x z (x4 + 2).toNatClampNeg) (z_x z (x4 + 3).toNatClampNeg) (z_x z (x4 + 4).toNatClampNeg) (z_x z (x4 + 5).toNatClampNeg) hf) ⟨kw_602, kw_603, kw_604, kw_1, kw_605⟩ ⟨rfl, by decide +kernel, by decide +kernel, by decide +kernel⟩ ⟨rfl, rfl, Nat.le_of_ble_eq_true rfl, Nat.le_of_ble_eq_true rfl⟩ hc rfl rfl (Nat.le_of_ble_eq_true rfl) dL_law_649 ?_
  refine l_aload_n C 2 dL_law_652 rfl rfl ?_
  refine l_aload_n C 0 dL_law_653 rfl rfl ?_
  refine l_iload C 4 dL_law_654 rfl ?_
  refine l_iconst (w := 1) C dL_law_656 rfl ?_
  refine l_iadd C dL_law_657 ?_
  refine l_sld C h1 dL_law_658 ?_
  refine l_aload_n C 0 dL_law_659 rfl rfl ?_
  refine l_iload C 4 dL_law_660 rfl ?_
  refine l_iconst (w := 2) C dL_law_662 rfl ?_
  refine l_iadd C dL_law_663 ?_
  refine l_sld C h2 dL_law_664 ?_
  refine l_aload_n C 0 dL_law_665 rfl rfl ?_
  refine l_iload C 4 dL_law_666 rfl ?_
  refine l_iconst (w := 3) C dL_law_668 rfl ?_
  refine l_iadd C dL_law_669 ?_
  refine l_sld C h3 dL_law_670 ?_
  refine l_aload_n C 0 dL_law_671 rfl rfl ?_
  refine l_iload C 4 dL_law_672 rfl ?_
  refine l_iconst (w := 4) C dL_law_674 rfl ?_
  refine l_iadd C dL_law_675 ?_
  refine l_sld C h4 dL_law_676 ?_
  refine l_aload_n C 0 dL_law_677 rfl rfl ?_
  refine l_iload C 4 dL_law_678 rfl ?_
  refine l_iconst (w := 5) C dL_law_680 rfl ?_
  refine l_iadd C dL_law_681 ?_
  refine l_sld C h5 dL_law_682 ?_
  refine l_callM C (As := [.int (z_x z (x4 + 1).toNatClampNeg), .int (z_x z (x4 + 2).toNatClampNeg), .int (z_x z (x4 + 3).toNatClampNeg), .int (z_x z (x4 + 4).toNatClampNeg), .int (z_x z (x4 + 5).toNatClampNeg)]) (nn := 5) (m_X11_pay _ _ _ N (z_x z (x4 + 1).toNatClampNeg) (z_x z (x4 + 2).toNatClampNeg) (z_x z (x4 + 3).toNatClampNeg) (z_x z (x4 + 4).toNatClampNeg) (z_x z (x4 + 5).toNatClampNeg) hg) ⟨kw_1492, kw_1493, kw_1494, kw_11, kw_1495⟩ ⟨rfl, by decide +kernel, by decide +kernel, by decide +kernel⟩ ⟨rfl, rfl, Nat.le_of_ble_eq_true rfl, Nat.le_of_ble_eq_true rfl⟩ hc rfl rfl (Nat.le_of_ble_eq_true rfl) dL_law_683 ?_
  exact l_icmp_eq C 2130 dL_law_686 (by decide) (fun _ => kk) (fun q => absurd rfl q)
set_option maxRecDepth 20000 in
theorem lk_layOut {z : xL} (C : CtL z) {cs ss : Nat} (hc : cs ≤ 601024 ∧ ss ≤ 7293034) {M N : xM} {v : Int64} (x4 : Int32) (h1 : vp_in (x4 + 1) (z_L z)) (h2 : vp_in (x4 + 2) (z_L z)) (h3 : vp_in (x4 + 3) (z_L z)) {r : Int32} {M1 : xM} {N1 : xM} (hf : f_X10_layOut M (z_x z (x4 + 1).toNatClampNeg) (z_x z (x4 + 2).toNatClampNeg) (z_x z (x4 + 3).toNatClampNeg) = some (r, M1)) (hg : f_X11_layOut N (z_x z (x4 + 1).toNatClampNeg) (z_x z (x4 + 2).toNatClampNeg) (z_x z (x4 + 3).toNatClampNeg) = some (r, N1)) (kk : JL z cs ss M1 N1 v 2130 [(0, .ref (z_b z)), (1, .ref (z_1 z 0)), (2, .ref (z_2 z 0)), (3, .ref (z_o z)), (4, .int x4)] []) : JL z cs ss M N v 691 [(0, .ref (z_b z)), (1, .ref (z_1 z 0)), (2, .ref (z_2 z 0)), (3, .ref (z_o z)), (4, .int x4)] [] := by
  refine l_aload_n C 1 dL_law_691 rfl rfl ?_
  refine l_aload_n C 0 dL_law_692 rfl rfl ?_
  refine l_iload C 4 dL_law_693 rfl ?_
  refine l_iconst (w := 1) C dL_law_695 rfl ?_
  refine l_iadd C dL_law_696 ?_
  refine l_sld C h1 dL_law_697 ?_
  refine l_aload_n C 0 dL_law_698 rfl rfl ?_
  refine l_iload C 4 dL_law_699 rfl ?_
  refine l_iconst (w := 2) C dL_law_701 rfl ?_
  refine l_iadd C dL_law_702 ?_
  refine l_sld C h2 dL_law_703 ?_
  refine l_aload_n C 0 dL_law_704 rfl rfl ?_
  refine l_iload C 4 dL_law_705 rfl ?_
  refine l_iconst (w := 3) C dL_law_707 rfl ?_
  refine l_iadd C dL_law_708 ?_
  refine l_sld C h3 dL_law_709 ?_
  refine l_callC C (As := [.int (z_x z (x4 + 1).toNatClampNeg), .int (z_x z (x4 + 2).toNatClampNeg), .int (z_x z (x4 + 3).toNatClampNeg)]) (nn := 3) (m_X10_layOut _ _ _ M (z_x z (x4 + 1).toNatClampNeg) (z_x z (x4 + 2).toNatClampNeg) (z_x z (x4 + 3).toNatClampNeg) hf) ⟨kw_606, kw_607, kw_608, kw_1, kw_609⟩ ⟨rfl, by decide +kernel, by decide +kernel, by decide +kernel⟩ ⟨rfl, rfl, Nat.le_of_ble_eq_true rfl, Nat.le_of_ble_eq_true rfl⟩ hc rfl rfl (Nat.le_of_ble_eq_true rfl) dL_law_710 ?_
  refine l_aload_n C 2 dL_law_713 rfl rfl ?_
  refine l_aload_n C 0 dL_law_714 rfl rfl ?_
  refine l_iload C 4 dL_law_715 rfl ?_
  refine l_iconst (w := 1) C dL_law_717 rfl ?_
  refine l_iadd C dL_law_718 ?_
  refine l_sld C h1 dL_law_719 ?_
  refine l_aload_n C 0 dL_law_720 rfl rfl ?_
  refine l_iload C 4 dL_law_721 rfl ?_
  refine l_iconst (w := 2) C dL_law_723 rfl ?_
  refine l_iadd C dL_law_724 ?_
  refine l_sld C h2 dL_law_725 ?_
  refine l_aload_n C 0 dL_law_726 rfl rfl ?_
  refine l_iload C 4 dL_law_727 rfl ?_
  refine l_iconst (w := 3) C dL_law_729 rfl ?_
  refine l_iadd C dL_law_730 ?_
  refine l_sld C h3 dL_law_731 ?_
  refine l_callM C (As := [.int (z_x z (x4 + 1).toNatClampNeg), .int (z_x z (x4 + 2).toNatClampNeg), .int (z_x z (x4 + 3).toNatClampNeg)]) (nn := 3) (m_X11_layOut _ _ _ N (z_x z (x4 + 1).toNatClampNeg) (z_x z (x4 + 2).toNatClampNeg) (z_x z (x4 + 3).toNatClampNeg) hg) ⟨kw_1497, kw_1498, kw_1499, kw_11, kw_1500⟩ ⟨rfl, by decide +kernel, by decide +kernel, by decide +kernel⟩ ⟨rfl, rfl, Nat.le_of_ble_eq_true rfl, Nat.le_of_ble_eq_true rfl⟩ hc rfl rfl (Nat.le_of_ble_eq_true rfl) dL_law_732 ?_
  exact l_icmp_eq C 2130 dL_law_735 (by decide) (fun _ => kk) (fun q => absurd rfl q)
set_option maxRecDepth 20000 in
theorem lk_callIn {z : xL} (C : CtL z) {cs ss : Nat} (hc : cs ≤ 601024 ∧ ss ≤ 7293034) {M N : xM} {v : Int64} (x4 : Int32) (h1 : vp_in (x4 + 1) (z_L z)) (h2 : vp_in (x4 + 2) (z_L z)) (h3 : vp_in (x4 + 3) (z_L z)) {r : Int32} {M1 : xM} {N1 : xM} (hf : f_X10_callIn M (z_x z (x4 + 1).toNatClampNeg) (z_x z (x4 + 2).toNatClampNeg) (z_x z (x4 + 3).toNatClampNeg) = some (r, M1)) (hg : f_X11_callIn N (z_x z (x4 + 1).toNatClampNeg) (z_x z (x4 + 2).toNatClampNeg) (z_x z (x4 + 3).toNatClampNeg) = some (r, N1)) (kk : JL z cs ss M1 N1 v 2130 [(0, .ref (z_b z)), (1, .ref (z_1 z 0)), (2, .ref (z_2 z 0)), (3, .ref (z_o z)), (4, .int x4)] []) : JL z cs ss M N v 740 [(0, .ref (z_b z)), (1, .ref (z_1 z 0)), (2, .ref (z_2 z 0)), (3, .ref (z_o z)), (4, .int x4)] [] := by
  refine l_aload_n C 1 dL_law_740 rfl rfl ?_
  refine l_aload_n C 0 dL_law_741 rfl rfl ?_
  refine l_iload C 4 dL_law_742 rfl ?_
  refine l_iconst (w := 1) C dL_law_744 rfl ?_
  refine l_iadd C dL_law_745 ?_
  refine l_sld C h1 dL_law_746 ?_
  refine l_aload_n C 0 dL_law_747 rfl rfl ?_
  refine l_iload C 4 dL_law_748 rfl ?_
  refine l_iconst (w := 2) C dL_law_750 rfl ?_
  refine l_iadd C dL_law_751 ?_
  refine l_sld C h2 dL_law_752 ?_
  refine l_aload_n C 0 dL_law_753 rfl rfl ?_
  refine l_iload C 4 dL_law_754 rfl ?_
  refine l_iconst (w := 3) C dL_law_756 rfl ?_
  refine l_iadd C dL_law_757 ?_
  refine l_sld C h3 dL_law_758 ?_
  refine l_callC C (As := [.int (z_x z (x4 + 1).toNatClampNeg), .int (z_x z (x4 + 2).toNatClampNeg), .int (z_x z (x4 + 3).toNatClampNeg)]) (nn := 3) (m_X10_callIn _ _ _ M (z_x z (x4 + 1).toNatClampNeg) (z_x z (x4 + 2).toNatClampNeg) (z_x z (x4 + 3).toNatClampNeg) hf) ⟨kw_638, kw_639, kw_640, kw_1, kw_641⟩ ⟨rfl, by decide +kernel, by decide +kernel, by decide +kernel⟩ ⟨rfl, rfl, Nat.le_of_ble_eq_true rfl, Nat.le_of_ble_eq_true rfl⟩ hc rfl rfl (Nat.le_of_ble_eq_true rfl) dL_law_759 ?_
  refine l_aload_n C 2 dL_law_762 rfl rfl ?_
  refine l_aload_n C 0 dL_law_763 rfl rfl ?_
  refine l_iload C 4 dL_law_764 rfl ?_
  refine l_iconst (w := 1) C dL_law_766 rfl ?_
  refine l_iadd C dL_law_767 ?_
  refine l_sld C h1 dL_law_768 ?_
  refine l_aload_n C 0 dL_law_769 rfl rfl ?_
  refine l_iload C 4 dL_law_770 rfl ?_
  refine l_iconst (w := 2) C dL_law_772 rfl ?_
  refine l_iadd C dL_law_773 ?_
  refine l_sld C h2 dL_law_774 ?_
  refine l_aload_n C 0 dL_law_775 rfl rfl ?_
  refine l_iload C 4 dL_law_776 rfl ?_
  refine l_iconst (w := 3) C dL_law_778 rfl ?_
  refine l_iadd C dL_law_779 ?_
  refine l_sld C h3 dL_law_780 ?_
  refine l_callM C (As := [.int (z_x z (x4 + 1).toNatClampNeg), .int (z_x z (x4 + 2).toNatClampNeg), .int (z_x z (x4 + 3).toNatClampNeg)]) (nn := 3) (m_X11_callIn _ _ _ N (z_x z (x4 + 1).toNatClampNeg) (z_x z (x4 + 2).toNatClampNeg) (z_x z (x4 + 3).toNatClampNeg) hg) ⟨kw_1561, kw_1562, kw_1563, kw_11, kw_1564⟩ ⟨rfl, by decide +kernel, by decide +kernel, by decide +kernel⟩ ⟨rfl, rfl, Nat.le_of_ble_eq_true rfl, Nat.le_of_ble_eq_true rfl⟩ hc rfl rfl (Nat.le_of_ble_eq_true rfl) dL_law_781 ?_
  exact l_icmp_eq C 2130 dL_law_784 (by decide) (fun _ => kk) (fun q => absurd rfl q)
set_option maxRecDepth 20000 in
theorem lk_order {z : xL} (C : CtL z) {cs ss : Nat} (hc : cs ≤ 601024 ∧ ss ≤ 7293034) {M N : xM} {v : Int64} (x4 : Int32) (h1 : vp_in (x4 + 1) (z_L z)) (h2 : vp_in (x4 + 2) (z_L z)) (h3 : vp_in (x4 + 3) (z_L z)) (h4 : vp_in (x4 + 4) (z_L z)) (h5 : vp_in (x4 + 5) (z_L z)) {r : Int32} {M1 : xM} {N1 : xM} (hf : f_X10_order M (z_x z (x4 + 1).toNatClampNeg) (z_x z (x4 + 2).toNatClampNeg) (z_x z (x4 + 3).toNatClampNeg) (z_x z (x4 + 4).toNatClampNeg) (z_x z (x4 + 5).toNatClampNeg) = some (r, M1)) (hg : f_X11_order N (z_x z (x4 + 1).toNatClampNeg) (z_x z (x4 + 2).toNatClampNeg) (z_x z (x4 + 3).toNatClampNeg) (z_x z (x4 + 4).toNatClampNeg) (z_x z (x4 + 5).toNatClampNeg) = some (r, N1)) (kk : JL z cs ss M1 N1 v 2130 [(0, .ref (z_b z)), (1, .ref (z_1 z 0)), (2, .ref (z_2 z 0)), (3, .ref (z_o z)), (4, .int x4)] []) : JL z cs ss M N v 789 [(0, .ref (z_b z)), (1, .ref (z_1 z 0)), (2, .ref (z_2 z 0)), (3, .ref (z_o z)), (4, .int x4)] [] := by
  refine l_aload_n C 1 dL_law_789 rfl rfl ?_
  refine l_aload_n C 0 dL_law_790 rfl rfl ?_
  refine l_iload C 4 dL_law_791 rfl ?_
  refine l_iconst (w := 1) C dL_law_793 rfl ?_
  refine l_iadd C dL_law_794 ?_
  refine l_sld C h1 dL_law_795 ?_
  refine l_aload_n C 0 dL_law_796 rfl rfl ?_
  refine l_iload C 4 dL_law_797 rfl ?_
  refine l_iconst (w := 2) C dL_law_799 rfl ?_
  refine l_iadd C dL_law_800 ?_
  refine l_sld C h2 dL_law_801 ?_
  refine l_aload_n C 0 dL_law_802 rfl rfl ?_
  refine l_iload C 4 dL_law_803 rfl ?_
  refine l_iconst (w := 3) C dL_law_805 rfl ?_
  refine l_iadd C dL_law_806 ?_
  refine l_sld C h3 dL_law_807 ?_
  refine l_aload_n C 0 dL_law_808 rfl rfl ?_
  refine l_iload C 4 dL_law_809 rfl ?_
  refine l_iconst (w := 4) C dL_law_811 rfl ?_
  refine l_iadd C dL_law_812 ?_
  refine l_sld C h4 dL_law_813 ?_
  refine l_aload_n C 0 dL_law_814 rfl rfl ?_
  refine l_iload C 4 dL_law_815 rfl ?_
  refine l_iconst (w := 5) C dL_law_817 rfl ?_
  refine l_iadd C dL_law_818 ?_
  refine l_sld C h5 dL_law_819 ?_
  refine l_callC C (As := [.int (z_x z (x4 + 1).toNatClampNeg), .int (z_x z (x4 + 2).toNatClampNeg), .int (z_x z (x4 + 3).toNatClampNeg), .int (z_x z (x4 + 4).toNatClampNeg), .int (z_x z (x4 + 5).toNatClampNeg)]) (nn := 5) (m_X10_order _ _ _ M (z_x z (x4 + 1).toNatClampNeg) (z_x z (x4 + 2).toNatClampNeg) (z_x z (x4 + 3).toNatClampNeg) (z_x z (x4 + 4).toNatClampNeg) (z_x z (x4 + 5).toNatClampNeg) hf) ⟨kw_643, kw_644, kw_645, kw_1, kw_646⟩ ⟨rfl, by decide +kernel, by decide +kernel, by decide +kernel⟩ ⟨rfl, rfl, Nat.le_of_ble_eq_true rfl, Nat.le_of_ble_eq_true rfl⟩ hc rfl rfl (Nat.le_of_ble_eq_true rfl) dL_law_820 ?_
  refine l_aload_n C 2 dL_law_823 rfl rfl ?_
  refine l_aload_n C 0 dL_law_824 rfl rfl ?_
  refine l_iload C 4 dL_law_825 rfl ?_
  refine l_iconst (w := 1) C dL_law_827 rfl ?_
  refine l_iadd C dL_law_828 ?_
  refine l_sld C h1 dL_law_829 ?_
  refine l_aload_n C 0 dL_law_830 rfl rfl ?_
  refine l_iload C 4 dL_law_831 rfl ?_
  refine l_iconst (w := 2) C dL_law_833 rfl ?_
  refine l_iadd C dL_law_834 ?_
  refine l_sld C h2 dL_law_835 ?_
  refine l_aload_n C 0 dL_law_836 rfl rfl ?_
  refine l_iload C 4 dL_law_837 rfl ?_
  refine l_iconst (w := 3) C dL_law_839 rfl ?_
  refine l_iadd C dL_law_840 ?_
  refine l_sld C h3 dL_law_841 ?_
  refine l_aload_n C 0 dL_law_842 rfl rfl ?_
  refine l_iload C 4 dL_law_843 rfl ?_
  refine l_iconst (w := 4) C dL_law_845 rfl ?_
  refine l_iadd C dL_law_846 ?_
  refine l_sld C h4 dL_law_847 ?_
  refine l_aload_n C 0 dL_law_848 rfl rfl ?_
  refine l_iload C 4 dL_law_849 rfl ?_
  refine l_iconst (w := 5) C dL_law_851 rfl ?_
  refine l_iadd C dL_law_852 ?_
  refine l_sld C h5 dL_law_853 ?_
  refine l_callM C (As := [.int (z_x z (x4 + 1).toNatClampNeg), .int (z_x z (x4 + 2).toNatClampNeg), .int (z_x z (x4 + 3).toNatClampNeg), .int (z_x z (x4 + 4).toNatClampNeg), .int (z_x z (x4 + 5).toNatClampNeg)]) (nn := 5) (m_X11_order _ _ _ N (z_x z (x4 + 1).toNatClampNeg) (z_x z (x4 + 2).toNatClampNeg) (z_x z (x4 + 3).toNatClampNeg) (z_x z (x4 + 4).toNatClampNeg) (z_x z (x4 + 5).toNatClampNeg) hg) ⟨kw_1569, kw_1570, kw_1571, kw_11, kw_1572⟩ ⟨rfl, by decide +kernel, by decide +kernel, by decide +kernel⟩ ⟨rfl, rfl, Nat.le_of_ble_eq_true rfl, Nat.le_of_ble_eq_true rfl⟩ hc rfl rfl (Nat.le_of_ble_eq_true rfl) dL_law_854 ?_
  exact l_icmp_eq C 2130 dL_law_857 (by decide) (fun _ => kk) (fun q => absurd rfl q)
set_option maxRecDepth 20000 in
theorem lk_ratify {z : xL} (C : CtL z) {cs ss : Nat} (hc : cs ≤ 601024 ∧ ss ≤ 7293034) {M N : xM} {v : Int64} (x4 : Int32) (h1 : vp_in (x4 + 1) (z_L z)) {r : Int32} {M1 : xM} {N1 : xM} (hf : f_X10_ratify M (z_x z (x4 + 1).toNatClampNeg) = some (r, M1)) (hg : f_X11_ratify N (z_x z (x4 + 1).toNatClampNeg) = some (r, N1)) (kk : JL z cs ss M1 N1 v 2130 [(0, .ref (z_b z)), (1, .ref (z_1 z 0)), (2, .ref (z_2 z 0)), (3, .ref (z_o z)), (4, .int x4)] []) : JL z cs ss M N v 862 [(0, .ref (z_b z)), (1, .ref (z_1 z 0)), (2, .ref (z_2 z 0)), (3, .ref (z_o z)), (4, .int x4)] [] := by
  refine l_aload_n C 1 dL_law_862 rfl rfl ?_
  refine l_aload_n C 0 dL_law_863 rfl rfl ?_
  refine l_iload C 4 dL_law_864 rfl ?_
  refine l_iconst (w := 1) C dL_law_866 rfl ?_
  refine l_iadd C dL_law_867 ?_
  refine l_sld C h1 dL_law_868 ?_
  refine l_callC C (As := [.int (z_x z (x4 + 1).toNatClampNeg)]) (nn := 1) (m_X10_ratify _ _ _ M (z_x z (x4 + 1).toNatClampNeg) hf) ⟨kw_651, kw_652, kw_653, kw_1, kw_654⟩ ⟨rfl, by decide +kernel, by decide +kernel, by decide +kernel⟩ ⟨rfl, rfl, Nat.le_of_ble_eq_true rfl, Nat.le_of_ble_eq_true rfl⟩ hc rfl rfl (Nat.le_of_ble_eq_true rfl) dL_law_869 ?_
  refine l_aload_n C 2 dL_law_872 rfl rfl ?_
  refine l_aload_n C 0 dL_law_873 rfl rfl ?_
  refine l_iload C 4 dL_law_874 rfl ?_
  refine l_iconst (w := 1) C dL_law_876 rfl ?_
  refine l_iadd C dL_law_877 ?_
  refine l_sld C h1 dL_law_878 ?_
  refine l_callM C (As := [.int (z_x z (x4 + 1).toNatClampNeg)]) (nn := 1) (m_X11_ratify _ _ _ N (z_x z (x4 + 1).toNatClampNeg) hg) ⟨kw_1573, kw_1574, kw_1575, kw_11, kw_1576⟩ ⟨rfl, by decide +kernel, by decide +kernel, by decide +kernel⟩ ⟨rfl, rfl, Nat.le_of_ble_eq_true rfl, Nat.le_of_ble_eq_true rfl⟩ hc rfl rfl (Nat.le_of_ble_eq_true rfl) dL_law_879 ?_
  exact l_icmp_eq C 2130 dL_law_882 (by decide) (fun _ => kk) (fun q => absurd rfl q)
set_option maxRecDepth 20000 in
theorem lk_close {z : xL} (C : CtL z) {cs ss : Nat} (hc : cs ≤ 601024 ∧ ss ≤ 7293034) {M N : xM} {v : Int64} (x4 : Int32) (h1 : vp_in (x4 + 1) (z_L z)) {r : Int32} {M1 : xM} {N1 : xM} (hf : f_X10_close M (z_x z (x4 + 1).toNatClampNeg) = some (r, M1)) (hg : f_X11_close N (z_x z (x4 + 1).toNatClampNeg) = some (r, N1)) (kk : JL z cs ss M1 N1 v 2130 [(0, .ref (z_b z)), (1, .ref (z_1 z 0)), (2, .ref (z_2 z 0)), (3, .ref (z_o z)), (4, .int x4)] []) : JL z cs ss M N v 887 [(0, .ref (z_b z)), (1, .ref (z_1 z 0)), (2, .ref (z_2 z 0)), (3, .ref (z_o z)), (4, .int x4)] [] := by
  refine l_aload_n C 1 dL_law_887 rfl rfl ?_
  refine l_aload_n C 0 dL_law_888 rfl rfl ?_
  refine l_iload C 4 dL_law_889 rfl ?_
  refine l_iconst (w := 1) C dL_law_891 rfl ?_
  refine l_iadd C dL_law_892 ?_
  refine l_sld C h1 dL_law_893 ?_
  refine l_callC C (As := [.int (z_x z (x4 + 1).toNatClampNeg)]) (nn := 1) (m_X10_close _ _ _ M (z_x z (x4 + 1).toNatClampNeg) hf) ⟨kw_660, kw_661, kw_662, kw_1, kw_663⟩ ⟨rfl, by decide +kernel, by decide +kernel, by decide +kernel⟩ ⟨rfl, rfl, Nat.le_of_ble_eq_true rfl, Nat.le_of_ble_eq_true rfl⟩ hc rfl rfl (Nat.le_of_ble_eq_true rfl) dL_law_894 ?_
  refine l_aload_n C 2 dL_law_897 rfl rfl ?_
  refine l_aload_n C 0 dL_law_898 rfl rfl ?_
  refine l_iload C 4 dL_law_899 rfl ?_
  refine l_iconst (w := 1) C dL_law_901 rfl ?_
  refine l_iadd C dL_law_902 ?_
  refine l_sld C h1 dL_law_903 ?_
  refine l_callM C (As := [.int (z_x z (x4 + 1).toNatClampNeg)]) (nn := 1) (m_X11_close _ _ _ N (z_x z (x4 + 1).toNatClampNeg) hg) ⟨kw_1585, kw_1586, kw_1587, kw_11, kw_1588⟩ ⟨rfl, by decide +kernel, by decide +kernel, by decide +kernel⟩ ⟨rfl, rfl, Nat.le_of_ble_eq_true rfl, Nat.le_of_ble_eq_true rfl⟩ hc rfl rfl (Nat.le_of_ble_eq_true rfl) dL_law_904 ?_
  exact l_icmp_eq C 2130 dL_law_907 (by decide) (fun _ => kk) (fun q => absurd rfl q)
set_option maxRecDepth 20000 in
theorem lk_settle {z : xL} (C : CtL z) {cs ss : Nat} (hc : cs ≤ 601024 ∧ ss ≤ 7293034) {M N : xM} {v : Int64} (x4 : Int32) (h1 : vp_in (x4 + 1) (z_L z)) {r : Int32} {M1 : xM} {N1 : xM} (hf : f_X10_settle M (z_x z (x4 + 1).toNatClampNeg) = some (r, M1)) (hg : f_X11_settle N (z_x z (x4 + 1).toNatClampNeg) = some (r, N1)) (kk : JL z cs ss M1 N1 v 2130 [(0, .ref (z_b z)), (1, .ref (z_1 z 0)), (2, .ref (z_2 z 0)), (3, .ref (z_o z)), (4, .int x4)] []) : JL z cs ss M N v 912 [(0, .ref (z_b z)), (1, .ref (z_1 z 0)), (2, .ref (z_2 z 0)), (3, .ref (z_o z)), (4, .int x4)] [] := by
  refine l_aload_n C 1 dL_law_912 rfl rfl ?_
  refine l_aload_n C 0 dL_law_913 rfl rfl ?_
  refine l_iload C 4 dL_law_914 rfl ?_
  refine l_iconst (w := 1) C dL_law_916 rfl ?_
  refine l_iadd C dL_law_917 ?_
  refine l_sld C h1 dL_law_918 ?_
  refine l_callC C (As := [.int (z_x z (x4 + 1).toNatClampNeg)]) (nn := 1) (m_X10_settle _ _ _ M (z_x z (x4 + 1).toNatClampNeg) hf) ⟨kw_711, kw_712, kw_713, kw_1, kw_714⟩ ⟨rfl, by decide +kernel, by decide +kernel, by decide +kernel⟩ ⟨rfl, rfl, Nat.le_of_ble_eq_true rfl, Nat.le_of_ble_eq_true rfl⟩ hc rfl rfl (Nat.le_of_ble_eq_true rfl) dL_law_919 ?_
  refine l_aload_n C 2 dL_law_922 rfl rfl ?_
  refine l_aload_n C 0 dL_law_923 rfl rfl ?_
  refine l_iload C 4 dL_law_924 rfl ?_
  refine l_iconst (w := 1) C dL_law_926 rfl ?_
  refine l_iadd C dL_law_927 ?_
  refine l_sld C h1 dL_law_928 ?_
  refine l_callM C (As := [.int (z_x z (x4 + 1).toNatClampNeg)]) (nn := 1) (m_X11_settle _ _ _ N (z_x z (x4 + 1).toNatClampNeg) hg) ⟨kw_1615, kw_1616, kw_1617, kw_11, kw_1618⟩ ⟨rfl, by decide +kernel, by decide +kernel, by decide +kernel⟩ ⟨rfl, rfl, Nat.le_of_ble_eq_true rfl, Nat.le_of_ble_eq_true rfl⟩ hc rfl rfl (Nat.le_of_ble_eq_true rfl) dL_law_929 ?_
  exact l_icmp_eq C 2130 dL_law_932 (by decide) (fun _ => kk) (fun q => absurd rfl q)
set_option maxRecDepth 20000 in
theorem lk_money {z : xL} (C : CtL z) {cs ss : Nat} (hc : cs ≤ 601024 ∧ ss ≤ 7293034) {M N : xM} {v : Int64} (x4 : Int32) (h1 : vp_in (x4 + 1) (z_L z)) (h2 : vp_in (x4 + 2) (z_L z)) {r : Int32} {N1 : xM} (hf : f_X10_money M (z_x z (x4 + 1).toNatClampNeg) (z_x z (x4 + 2).toNatClampNeg) = some r) (hg : f_X11_money N (z_x z (x4 + 1).toNatClampNeg) (z_x z (x4 + 2).toNatClampNeg) = some (r, N1)) (kk : JL z cs ss M N1 v 2130 [(0, .ref (z_b z)), (1, .ref (z_1 z 0)), (2, .ref (z_2 z 0)), (3, .ref (z_o z)), (4, .int x4)] []) : JL z cs ss M N v 937 [(0, .ref (z_b z)), (1, .ref (z_1 z 0)), (2, .ref (z_2 z 0)), (3, .ref (z_o z)), (4, .int x4)] [] := by
  refine l_aload_n C 1 dL_law_937 rfl rfl ?_
  refine l_aload_n C 0 dL_law_938 rfl rfl ?_
  refine l_iload C 4 dL_law_939 rfl ?_
  refine l_iconst (w := 1) C dL_law_941 rfl ?_
  refine l_iadd C dL_law_942 ?_
  refine l_sld C h1 dL_law_943 ?_
  refine l_aload_n C 0 dL_law_944 rfl rfl ?_
  refine l_iload C 4 dL_law_945 rfl ?_
  refine l_iconst (w := 2) C dL_law_947 rfl ?_
  refine l_iadd C dL_law_948 ?_
  refine l_sld C h2 dL_law_949 ?_
  refine l_callC C (As := [.int (z_x z (x4 + 1).toNatClampNeg), .int (z_x z (x4 + 2).toNatClampNeg)]) (nn := 2) (m_X10_money _ _ _ M (z_x z (x4 + 1).toNatClampNeg) (z_x z (x4 + 2).toNatClampNeg) hf) ⟨kw_725, kw_726, kw_727, kw_1, kw_728⟩ ⟨rfl, by decide +kernel, by decide +kernel, by decide +kernel⟩ ⟨rfl, rfl, Nat.le_of_ble_eq_true rfl, Nat.le_of_ble_eq_true rfl⟩ hc rfl rfl (Nat.le_of_ble_eq_true rfl) dL_law_950 ?_
  refine l_aload_n C 2 dL_law_953 rfl rfl ?_
  refine l_aload_n C 0 dL_law_954 rfl rfl ?_
  refine l_iload C 4 dL_law_955 rfl ?_
  refine l_iconst (w := 1) C dL_law_957 rfl ?_
  refine l_iadd C dL_law_958 ?_
  refine l_sld C h1 dL_law_959 ?_
  refine l_aload_n C 0 dL_law_960 rfl rfl ?_
  refine l_iload C 4 dL_law_961 rfl ?_
  refine l_iconst (w := 2) C dL_law_963 rfl ?_
  refine l_iadd C dL_law_964 ?_
  refine l_sld C h2 dL_law_965 ?_
  refine l_callM C (As := [.int (z_x z (x4 + 1).toNatClampNeg), .int (z_x z (x4 + 2).toNatClampNeg)]) (nn := 2) (m_X11_money _ _ _ N (z_x z (x4 + 1).toNatClampNeg) (z_x z (x4 + 2).toNatClampNeg) hg) ⟨kw_1627, kw_1628, kw_1629, kw_11, kw_1630⟩ ⟨rfl, by decide +kernel, by decide +kernel, by decide +kernel⟩ ⟨rfl, rfl, Nat.le_of_ble_eq_true rfl, Nat.le_of_ble_eq_true rfl⟩ hc rfl rfl (Nat.le_of_ble_eq_true rfl) dL_law_966 ?_
  exact l_icmp_eq C 2130 dL_law_969 (by decide) (fun _ => kk) (fun q => absurd rfl q)
set_option maxRecDepth 20000 in
theorem lk_out {z : xL} (C : CtL z) {cs ss : Nat} (hc : cs ≤ 601024 ∧ ss ≤ 7293034) {M N : xM} {v : Int64} (x4 : Int32) (h1 : vp_in (x4 + 1) (z_L z)) (h2 : vp_in (x4 + 2) (z_L z)) {r : Int32} {N1 : xM} (hf : f_X10_out M (z_x z (x4 + 1).toNatClampNeg) (z_x z (x4 + 2).toNatClampNeg) = some r) (hg : f_X11_out N (z_x z (x4 + 1).toNatClampNeg) (z_x z (x4 + 2).toNatClampNeg) = some (r, N1)) (kk : JL z cs ss M N1 v 2130 [(0, .ref (z_b z)), (1, .ref (z_1 z 0)), (2, .ref (z_2 z 0)), (3, .ref (z_o z)), (4, .int x4)] []) : JL z cs ss M N v 974 [(0, .ref (z_b z)), (1, .ref (z_1 z 0)), (2, .ref (z_2 z 0)), (3, .ref (z_o z)), (4, .int x4)] [] := by
  refine l_aload_n C 1 dL_law_974 rfl rfl ?_
  refine l_aload_n C 0 dL_law_975 rfl rfl ?_
  refine l_iload C 4 dL_law_976 rfl ?_
  refine l_iconst (w := 1) C dL_law_978 rfl ?_
  refine l_iadd C dL_law_979 ?_
  refine l_sld C h1 dL_law_980 ?_
  refine l_aload_n C 0 dL_law_981 rfl rfl ?_
  refine l_iload C 4 dL_law_982 rfl ?_
  refine l_iconst (w := 2) C dL_law_984 rfl ?_
  refine l_iadd C dL_law_985 ?_
  refine l_sld C h2 dL_law_986 ?_
  refine l_callC C (As := [.int (z_x z (x4 + 1).toNatClampNeg), .int (z_x z (x4 + 2).toNatClampNeg)]) (nn := 2) (m_X10_out _ _ _ M (z_x z (x4 + 1).toNatClampNeg) (z_x z (x4 + 2).toNatClampNeg) hf) ⟨kw_730, kw_731, kw_732, kw_1, kw_733⟩ ⟨rfl, by decide +kernel, by decide +kernel, by decide +kernel⟩ ⟨rfl, rfl, Nat.le_of_ble_eq_true rfl, Nat.le_of_ble_eq_true rfl⟩ hc rfl rfl (Nat.le_of_ble_eq_true rfl) dL_law_987 ?_
  refine l_aload_n C 2 dL_law_990 rfl rfl ?_
  refine l_aload_n C 0 dL_law_991 rfl rfl ?_
  refine l_iload C 4 dL_law_992 rfl ?_
  refine l_iconst (w := 1) C dL_law_994 rfl ?_
  refine l_iadd C dL_law_995 ?_
  refine l_sld C h1 dL_law_996 ?_
  refine l_aload_n C 0 dL_law_997 rfl rfl ?_
  refine l_iload C 4 dL_law_998 rfl ?_
  refine l_iconst (w := 2) C dL_law_1000 rfl ?_
  refine l_iadd C dL_law_1001 ?_
  refine l_sld C h2 dL_law_1002 ?_
  refine l_callM C (As := [.int (z_x z (x4 + 1).toNatClampNeg), .int (z_x z (x4 + 2).toNatClampNeg)]) (nn := 2) (m_X11_out _ _ _ N (z_x z (x4 + 1).toNatClampNeg) (z_x z (x4 + 2).toNatClampNeg) hg) ⟨kw_1632, kw_1633, kw_1634, kw_11, kw_1635⟩ ⟨rfl, by decide +kernel, by decide +kernel, by decide +kernel⟩ ⟨rfl, rfl, Nat.le_of_ble_eq_true rfl, Nat.le_of_ble_eq_true rfl⟩ hc rfl rfl (Nat.le_of_ble_eq_true rfl) dL_law_1003 ?_
  exact l_icmp_eq C 2130 dL_law_1006 (by decide) (fun _ => kk) (fun q => absurd rfl q)
set_option maxRecDepth 20000 in
theorem lk_idle {z : xL} (C : CtL z) {cs ss : Nat} (hc : cs ≤ 601024 ∧ ss ≤ 7293034) {M N : xM} {v : Int64} (x4 : Int32) (h1 : vp_in (x4 + 1) (z_L z)) (h2 : vp_in (x4 + 2) (z_L z)) {r : Int32} {M1 : xM} {N1 : xM} (hf : f_X10_idle M (z_x z (x4 + 1).toNatClampNeg) (z_x z (x4 + 2).toNatClampNeg) = some (r, M1)) (hg : f_X11_idle N (z_x z (x4 + 1).toNatClampNeg) (z_x z (x4 + 2).toNatClampNeg) = some (r, N1)) (kk : JL z cs ss M1 N1 v 2130 [(0, .ref (z_b z)), (1, .ref (z_1 z 0)), (2, .ref (z_2 z 0)), (3, .ref (z_o z)), (4, .int x4)] []) : JL z cs ss M N v 1011 [(0, .ref (z_b z)), (1, .ref (z_1 z 0)), (2, .ref (z_2 z 0)), (3, .ref (z_o z)), (4, .int x4)] [] := by
  refine l_aload_n C 1 dL_law_1011 rfl rfl ?_
  refine l_aload_n C 0 dL_law_1012 rfl rfl ?_
  refine l_iload C 4 dL_law_1013 rfl ?_
  refine l_iconst (w := 1) C dL_law_1015 rfl ?_
  refine l_iadd C dL_law_1016 ?_
  refine l_sld C h1 dL_law_1017 ?_
  refine l_aload_n C 0 dL_law_1018 rfl rfl ?_
  refine l_iload C 4 dL_law_1019 rfl ?_
  refine l_iconst (w := 2) C dL_law_1021 rfl ?_
  refine l_iadd C dL_law_1022 ?_
  refine l_sld C h2 dL_law_1023 ?_
  refine l_callC C (As := [.int (z_x z (x4 + 1).toNatClampNeg), .int (z_x z (x4 + 2).toNatClampNeg)]) (nn := 2) (m_X10_idle _ _ _ M (z_x z (x4 + 1).toNatClampNeg) (z_x z (x4 + 2).toNatClampNeg) hf) ⟨kw_734, kw_735, kw_736, kw_1, kw_737⟩ ⟨rfl, by decide +kernel, by decide +kernel, by decide +kernel⟩ ⟨rfl, rfl, Nat.le_of_ble_eq_true rfl, Nat.le_of_ble_eq_true rfl⟩ hc rfl rfl (Nat.le_of_ble_eq_true rfl) dL_law_1024 ?_
  refine l_aload_n C 2 dL_law_1027 rfl rfl ?_
  refine l_aload_n C 0 dL_law_1028 rfl rfl ?_
  refine l_iload C 4 dL_law_1029 rfl ?_
  refine l_iconst (w := 1) C dL_law_1031 rfl ?_
  refine l_iadd C dL_law_1032 ?_
  refine l_sld C h1 dL_law_1033 ?_
  refine l_aload_n C 0 dL_law_1034 rfl rfl ?_
  refine l_iload C 4 dL_law_1035 rfl ?_
  refine l_iconst (w := 2) C dL_law_1037 rfl ?_
  refine l_iadd C dL_law_1038 ?_
  refine l_sld C h2 dL_law_1039 ?_
  refine l_callM C (As := [.int (z_x z (x4 + 1).toNatClampNeg), .int (z_x z (x4 + 2).toNatClampNeg)]) (nn := 2) (m_X11_idle _ _ _ N (z_x z (x4 + 1).toNatClampNeg) (z_x z (x4 + 2).toNatClampNeg) hg) ⟨kw_1636, kw_1637, kw_1638, kw_11, kw_1639⟩ ⟨rfl, by decide +kernel, by decide +kernel, by decide +kernel⟩ ⟨rfl, rfl, Nat.le_of_ble_eq_true rfl, Nat.le_of_ble_eq_true rfl⟩ hc rfl rfl (Nat.le_of_ble_eq_true rfl) dL_law_1040 ?_
  exact l_icmp_eq C 2130 dL_law_1043 (by decide) (fun _ => kk) (fun q => absurd rfl q)
set_option maxRecDepth 20000 in
theorem lk_charge {z : xL} (C : CtL z) {cs ss : Nat} (hc : cs ≤ 601024 ∧ ss ≤ 7293034) {M N : xM} {v : Int64} (x4 : Int32) (h1 : vp_in (x4 + 1) (z_L z)) (h2 : vp_in (x4 + 2) (z_L z)) {r : Int32} {M1 : xM} {N1 : xM} (hf : f_X10_charge M (z_x z (x4 + 1).toNatClampNeg) (z_x z (x4 + 2).toNatClampNeg) = some (r, M1)) (hg : f_X11_charge N (z_x z (x4 + 1).toNatClampNeg) (z_x z (x4 + 2).toNatClampNeg) = some (r, N1)) (kk : JL z cs ss M1 N1 v 2130 [(0, .ref (z_b z)), (1, .ref (z_1 z 0)), (2, .ref (z_2 z 0)), (3, .ref (z_o z)), (4, .int x4)] []) : JL z cs ss M N v 1048 [(0, .ref (z_b z)), (1, .ref (z_1 z 0)), (2, .ref (z_2 z 0)), (3, .ref (z_o z)), (4, .int x4)] [] := by
  refine l_aload_n C 1 dL_law_1048 rfl rfl ?_
  refine l_aload_n C 0 dL_law_1049 rfl rfl ?_
  refine l_iload C 4 dL_law_1050 rfl ?_
  refine l_iconst (w := 1) C dL_law_1052 rfl ?_
  refine l_iadd C dL_law_1053 ?_
  refine l_sld C h1 dL_law_1054 ?_
  refine l_aload_n C 0 dL_law_1055 rfl rfl ?_
  refine l_iload C 4 dL_law_1056 rfl ?_
  refine l_iconst (w := 2) C dL_law_1058 rfl ?_
  refine l_iadd C dL_law_1059 ?_
  refine l_sld C h2 dL_law_1060 ?_
  refine l_callC C (As := [.int (z_x z (x4 + 1).toNatClampNeg), .int (z_x z (x4 + 2).toNatClampNeg)]) (nn := 2) (m_X10_charge _ _ _ M (z_x z (x4 + 1).toNatClampNeg) (z_x z (x4 + 2).toNatClampNeg) hf) ⟨kw_742, kw_743, kw_744, kw_1, kw_745⟩ ⟨rfl, by decide +kernel, by decide +kernel, by decide +kernel⟩ ⟨rfl, rfl, Nat.le_of_ble_eq_true rfl, Nat.le_of_ble_eq_true rfl⟩ hc rfl rfl (Nat.le_of_ble_eq_true rfl) dL_law_1061 ?_
  refine l_aload_n C 2 dL_law_1064 rfl rfl ?_
  refine l_aload_n C 0 dL_law_1065 rfl rfl ?_
  refine l_iload C 4 dL_law_1066 rfl ?_
  refine l_iconst (w := 1) C dL_law_1068 rfl ?_
  refine l_iadd C dL_law_1069 ?_
  refine l_sld C h1 dL_law_1070 ?_
  refine l_aload_n C 0 dL_law_1071 rfl rfl ?_
  refine l_iload C 4 dL_law_1072 rfl ?_
  refine l_iconst (w := 2) C dL_law_1074 rfl ?_
  refine l_iadd C dL_law_1075 ?_
  refine l_sld C h2 dL_law_1076 ?_
  refine l_callM C (As := [.int (z_x z (x4 + 1).toNatClampNeg), .int (z_x z (x4 + 2).toNatClampNeg)]) (nn := 2) (m_X11_charge _ _ _ N (z_x z (x4 + 1).toNatClampNeg) (z_x z (x4 + 2).toNatClampNeg) hg) ⟨kw_1644, kw_1645, kw_1646, kw_11, kw_1647⟩ ⟨rfl, by decide +kernel, by decide +kernel, by decide +kernel⟩ ⟨rfl, rfl, Nat.le_of_ble_eq_true rfl, Nat.le_of_ble_eq_true rfl⟩ hc rfl rfl (Nat.le_of_ble_eq_true rfl) dL_law_1077 ?_
  exact l_icmp_eq C 2130 dL_law_1080 (by decide) (fun _ => kk) (fun q => absurd rfl q)
set_option maxRecDepth 20000 in
theorem lk_commission {z : xL} (C : CtL z) {cs ss : Nat} (hc : cs ≤ 601024 ∧ ss ≤ 7293034) {M N : xM} {v : Int64} (x4 : Int32) (h1 : vp_in (x4 + 1) (z_L z)) (h2 : vp_in (x4 + 2) (z_L z)) {r : Int32} {N1 : xM} (hf : f_X10_commission M (z_x z (x4 + 1).toNatClampNeg) (z_x z (x4 + 2).toNatClampNeg) = some r) (hg : f_X11_commission N (z_x z (x4 + 1).toNatClampNeg) (z_x z (x4 + 2).toNatClampNeg) = some (r, N1)) (kk : JL z cs ss M N1 v 2130 [(0, .ref (z_b z)), (1, .ref (z_1 z 0)), (2, .ref (z_2 z 0)), (3, .ref (z_o z)), (4, .int x4)] []) : JL z cs ss M N v 1085 [(0, .ref (z_b z)), (1, .ref (z_1 z 0)), (2, .ref (z_2 z 0)), (3, .ref (z_o z)), (4, .int x4)] [] := by
  refine l_aload_n C 1 dL_law_1085 rfl rfl ?_
  refine l_aload_n C 0 dL_law_1086 rfl rfl ?_
  refine l_iload C 4 dL_law_1087 rfl ?_
  refine l_iconst (w := 1) C dL_law_1089 rfl ?_
  refine l_iadd C dL_law_1090 ?_
  refine l_sld C h1 dL_law_1091 ?_
  refine l_aload_n C 0 dL_law_1092 rfl rfl ?_
  refine l_iload C 4 dL_law_1093 rfl ?_
  refine l_iconst (w := 2) C dL_law_1095 rfl ?_
  refine l_iadd C dL_law_1096 ?_
  refine l_sld C h2 dL_law_1097 ?_
  refine l_callC C (As := [.int (z_x z (x4 + 1).toNatClampNeg), .int (z_x z (x4 + 2).toNatClampNeg)]) (nn := 2) (m_X10_commission _ _ _ M (z_x z (x4 + 1).toNatClampNeg) (z_x z (x4 + 2).toNatClampNeg) hf) ⟨kw_749, kw_750, kw_751, kw_1, kw_752⟩ ⟨rfl, by decide +kernel, by decide +kernel, by decide +kernel⟩ ⟨rfl, rfl, Nat.le_of_ble_eq_true rfl, Nat.le_of_ble_eq_true rfl⟩ hc rfl rfl (Nat.le_of_ble_eq_true rfl) dL_law_1098 ?_
  refine l_aload_n C 2 dL_law_1101 rfl rfl ?_
  refine l_aload_n C 0 dL_law_1102 rfl rfl ?_
  refine l_iload C 4 dL_law_1103 rfl ?_
  refine l_iconst (w := 1) C dL_law_1105 rfl ?_
  refine l_iadd C dL_law_1106 ?_
  refine l_sld C h1 dL_law_1107 ?_
  refine l_aload_n C 0 dL_law_1108 rfl rfl ?_
  refine l_iload C 4 dL_law_1109 rfl ?_
  refine l_iconst (w := 2) C dL_law_1111 rfl ?_
  refine l_iadd C dL_law_1112 ?_
  refine l_sld C h2 dL_law_1113 ?_
  refine l_callM C (As := [.int (z_x z (x4 + 1).toNatClampNeg), .int (z_x z (x4 + 2).toNatClampNeg)]) (nn := 2) (m_X11_commission _ _ _ N (z_x z (x4 + 1).toNatClampNeg) (z_x z (x4 + 2).toNatClampNeg) hg) ⟨kw_1652, kw_1653, kw_1654, kw_11, kw_1655⟩ ⟨rfl, by decide +kernel, by decide +kernel, by decide +kernel⟩ ⟨rfl, rfl, Nat.le_of_ble_eq_true rfl, Nat.le_of_ble_eq_true rfl⟩ hc rfl rfl (Nat.le_of_ble_eq_true rfl) dL_law_1114 ?_
  exact l_icmp_eq C 2130 dL_law_1117 (by decide) (fun _ => kk) (fun q => absurd rfl q)
set_option maxRecDepth 20000 in
theorem lk_allowance {z : xL} (C : CtL z) {cs ss : Nat} (hc : cs ≤ 601024 ∧ ss ≤ 7293034) {M N : xM} {v : Int64} (x4 : Int32) (h1 : vp_in (x4 + 1) (z_L z)) (h2 : vp_in (x4 + 2) (z_L z)) (h3 : vp_in (x4 + 3) (z_L z)) {r : Int32} {N1 : xM} (hf : f_X10_allowance M (z_x z (x4 + 1).toNatClampNeg) (z_x z (x4 + 2).toNatClampNeg) (z_x z (x4 + 3).toNatClampNeg) = some r) (hg : f_X11_allowance N (z_x z (x4 + 1).toNatClampNeg) (z_x z (x4 + 2).toNatClampNeg) (z_x z (x4 + 3).toNatClampNeg) = some (r, N1)) (kk : JL z cs ss M N1 v 2130 [(0, .ref (z_b z)), (1, .ref (z_1 z 0)), (2, .ref (z_2 z 0)), (3, .ref (z_o z)), (4, .int x4)] []) : JL z cs ss M N v 1122 [(0, .ref (z_b z)), (1, .ref (z_1 z 0)), (2, .ref (z_2 z 0)), (3, .ref (z_o z)), (4, .int x4)] [] := by
  refine l_aload_n C 1 dL_law_1122 rfl rfl ?_
  refine l_aload_n C 0 dL_law_1123 rfl rfl ?_
  refine l_iload C 4 dL_law_1124 rfl ?_
  refine l_iconst (w := 1) C dL_law_1126 rfl ?_
  refine l_iadd C dL_law_1127 ?_
  refine l_sld C h1 dL_law_1128 ?_
  refine l_aload_n C 0 dL_law_1129 rfl rfl ?_
  refine l_iload C 4 dL_law_1130 rfl ?_
  refine l_iconst (w := 2) C dL_law_1132 rfl ?_
  refine l_iadd C dL_law_1133 ?_
  refine l_sld C h2 dL_law_1134 ?_
  refine l_aload_n C 0 dL_law_1135 rfl rfl ?_
  refine l_iload C 4 dL_law_1136 rfl ?_
  refine l_iconst (w := 3) C dL_law_1138 rfl ?_
  refine l_iadd C dL_law_1139 ?_
  refine l_sld C h3 dL_law_1140 ?_
  refine l_callC C (As := [.int (z_x z (x4 + 1).toNatClampNeg), .int (z_x z (x4 + 2).toNatClampNeg), .int (z_x z (x4 + 3).toNatClampNeg)]) (nn := 3) (m_X10_allowance _ _ _ M (z_x z (x4 + 1).toNatClampNeg) (z_x z (x4 + 2).toNatClampNeg) (z_x z (x4 + 3).toNatClampNeg) hf) ⟨kw_753, kw_754, kw_755, kw_1, kw_756⟩ ⟨rfl, by decide +kernel, by decide +kernel, by decide +kernel⟩ ⟨rfl, rfl, Nat.le_of_ble_eq_true rfl, Nat.le_of_ble_eq_true rfl⟩ hc rfl rfl (Nat.le_of_ble_eq_true rfl) dL_law_1141 ?_
  refine l_aload_n C 2 dL_law_1144 rfl rfl ?_
  refine l_aload_n C 0 dL_law_1145 rfl rfl ?_
  refine l_iload C 4 dL_law_1146 rfl ?_
  refine l_iconst (w := 1) C dL_law_1148 rfl ?_
  refine l_iadd C dL_law_1149 ?_
  refine l_sld C h1 dL_law_1150 ?_
  refine l_aload_n C 0 dL_law_1151 rfl rfl ?_
  refine l_iload C 4 dL_law_1152 rfl ?_
  refine l_iconst (w := 2) C dL_law_1154 rfl ?_
  refine l_iadd C dL_law_1155 ?_
  refine l_sld C h2 dL_law_1156 ?_
  refine l_aload_n C 0 dL_law_1157 rfl rfl ?_
  refine l_iload C 4 dL_law_1158 rfl ?_
  refine l_iconst (w := 3) C dL_law_1160 rfl ?_
  refine l_iadd C dL_law_1161 ?_
  refine l_sld C h3 dL_law_1162 ?_
  refine l_callM C (As := [.int (z_x z (x4 + 1).toNatClampNeg), .int (z_x z (x4 + 2).toNatClampNeg), .int (z_x z (x4 + 3).toNatClampNeg)]) (nn := 3) (m_X11_allowance _ _ _ N (z_x z (x4 + 1).toNatClampNeg) (z_x z (x4 + 2).toNatClampNeg) (z_x z (x4 + 3).toNatClampNeg) hg) ⟨kw_1656, kw_1657, kw_1658, kw_11, kw_1659⟩ ⟨rfl, by decide +kernel, by decide +kernel, by decide +kernel⟩ ⟨rfl, rfl, Nat.le_of_ble_eq_true rfl, Nat.le_of_ble_eq_true rfl⟩ hc rfl rfl (Nat.le_of_ble_eq_true rfl) dL_law_1163 ?_
  exact l_icmp_eq C 2130 dL_law_1166 (by decide) (fun _ => kk) (fun q => absurd rfl q)
set_option maxRecDepth 20000 in
theorem lk_payment {z : xL} (C : CtL z) {cs ss : Nat} (hc : cs ≤ 601024 ∧ ss ≤ 7293034) {M N : xM} {v : Int64} (x4 : Int32) (h1 : vp_in (x4 + 1) (z_L z)) (h2 : vp_in (x4 + 2) (z_L z)) {r : Int32} {N1 : xM} (hf : f_X10_payment M (z_x z (x4 + 1).toNatClampNeg) (z_x z (x4 + 2).toNatClampNeg) = some r) (hg : f_X11_payment N (z_x z (x4 + 1).toNatClampNeg) (z_x z (x4 + 2).toNatClampNeg) = some (r, N1)) (kk : JL z cs ss M N1 v 2130 [(0, .ref (z_b z)), (1, .ref (z_1 z 0)), (2, .ref (z_2 z 0)), (3, .ref (z_o z)), (4, .int x4)] []) : JL z cs ss M N v 1239 [(0, .ref (z_b z)), (1, .ref (z_1 z 0)), (2, .ref (z_2 z 0)), (3, .ref (z_o z)), (4, .int x4)] [] := by
  refine l_aload_n C 1 dL_law_1239 rfl rfl ?_
  refine l_aload_n C 0 dL_law_1240 rfl rfl ?_
  refine l_iload C 4 dL_law_1241 rfl ?_
  refine l_iconst (w := 1) C dL_law_1243 rfl ?_
  refine l_iadd C dL_law_1244 ?_
  refine l_sld C h1 dL_law_1245 ?_
  refine l_aload_n C 0 dL_law_1246 rfl rfl ?_
  refine l_iload C 4 dL_law_1247 rfl ?_
  refine l_iconst (w := 2) C dL_law_1249 rfl ?_
  refine l_iadd C dL_law_1250 ?_
  refine l_sld C h2 dL_law_1251 ?_
  refine l_callC C (As := [.int (z_x z (x4 + 1).toNatClampNeg), .int (z_x z (x4 + 2).toNatClampNeg)]) (nn := 2) (m_X10_payment _ _ _ M (z_x z (x4 + 1).toNatClampNeg) (z_x z (x4 + 2).toNatClampNeg) hf) ⟨kw_761, kw_762, kw_763, kw_1, kw_764⟩ ⟨rfl, by decide +kernel, by decide +kernel, by decide +kernel⟩ ⟨rfl, rfl, Nat.le_of_ble_eq_true rfl, Nat.le_of_ble_eq_true rfl⟩ hc rfl rfl (Nat.le_of_ble_eq_true rfl) dL_law_1252 ?_
  refine l_aload_n C 2 dL_law_1255 rfl rfl ?_
  refine l_aload_n C 0 dL_law_1256 rfl rfl ?_
  refine l_iload C 4 dL_law_1257 rfl ?_
  refine l_iconst (w := 1) C dL_law_1259 rfl ?_
  refine l_iadd C dL_law_1260 ?_
  refine l_sld C h1 dL_law_1261 ?_
  refine l_aload_n C 0 dL_law_1262 rfl rfl ?_
  refine l_iload C 4 dL_law_1263 rfl ?_
  refine l_iconst (w := 2) C dL_law_1265 rfl ?_
  refine l_iadd C dL_law_1266 ?_
  refine l_sld C h2 dL_law_1267 ?_
  refine l_callM C (As := [.int (z_x z (x4 + 1).toNatClampNeg), .int (z_x z (x4 + 2).toNatClampNeg)]) (nn := 2) (m_X11_payment _ _ _ N (z_x z (x4 + 1).toNatClampNeg) (z_x z (x4 + 2).toNatClampNeg) hg) ⟨kw_1665, kw_1666, kw_1667, kw_11, kw_1668⟩ ⟨rfl, by decide +kernel, by decide +kernel, by decide +kernel⟩ ⟨rfl, rfl, Nat.le_of_ble_eq_true rfl, Nat.le_of_ble_eq_true rfl⟩ hc rfl rfl (Nat.le_of_ble_eq_true rfl) dL_law_1268 ?_
  exact l_icmp_eq C 2130 dL_law_1271 (by decide) (fun _ => kk) (fun q => absurd rfl q)
set_option maxRecDepth 20000 in
theorem lk_account {z : xL} (C : CtL z) {cs ss : Nat} (hc : cs ≤ 601024 ∧ ss ≤ 7293034) {M N : xM} {v : Int64} (x4 : Int32) (h1 : vp_in (x4 + 1) (z_L z)) (h2 : vp_in (x4 + 2) (z_L z)) (h3 : vp_in (x4 + 3) (z_L z)) {r : Int32} {M1 : xM} {N1 : xM} (hf : f_X10_account M (z_x z (x4 + 1).toNatClampNeg) (z_x z (x4 + 2).toNatClampNeg) (z_x z (x4 + 3).toNatClampNeg) = some (r, M1)) (hg : f_X11_account N (z_x z (x4 + 1).toNatClampNeg) (z_x z (x4 + 2).toNatClampNeg) (z_x z (x4 + 3).toNatClampNeg) = some (r, N1)) (kk : JL z cs ss M1 N1 v 2130 [(0, .ref (z_b z)), (1, .ref (z_1 z 0)), (2, .ref (z_2 z 0)), (3, .ref (z_o z)), (4, .int x4)] []) : JL z cs ss M N v 1276 [(0, .ref (z_b z)), (1, .ref (z_1 z 0)), (2, .ref (z_2 z 0)), (3, .ref (z_o z)), (4, .int x4)] [] := by
  refine l_aload_n C 1 dL_law_1276 rfl rfl ?_
  refine l_aload_n C 0 dL_law_1277 rfl rfl ?_
  refine l_iload C 4 dL_law_1278 rfl ?_
  refine l_iconst (w := 1) C dL_law_1280 rfl ?_
  refine l_iadd C dL_law_1281 ?_
  refine l_sld C h1 dL_law_1282 ?_
  refine l_aload_n C 0 dL_law_1283 rfl rfl ?_
  refine l_iload C 4 dL_law_1284 rfl ?_
  refine l_iconst (w := 2) C dL_law_1286 rfl ?_
  refine l_iadd C dL_law_1287 ?_
  refine l_sld C h2 dL_law_1288 ?_
  refine l_aload_n C 0 dL_law_1289 rfl rfl ?_
  refine l_iload C 4 dL_law_1290 rfl ?_
  refine l_iconst (w := 3) C dL_law_1292 rfl ?_
  refine l_iadd C dL_law_1293 ?_
  refine l_sld C h3 dL_law_1294 ?_
  refine l_callC C (As := [.int (z_x z (x4 + 1).toNatClampNeg), .int (z_x z (x4 + 2).toNatClampNeg), .int (z_x z (x4 + 3).toNatClampNeg)]) (nn := 3) (m_X10_account _ _ _ M (z_x z (x4 + 1).toNatClampNeg) (z_x z (x4 + 2).toNatClampNeg) (z_x z (x4 + 3).toNatClampNeg) hf) ⟨kw_766, kw_767, kw_768, kw_1, kw_769⟩ ⟨rfl, by decide +kernel, by decide +kernel, by decide +kernel⟩ ⟨rfl, rfl, Nat.le_of_ble_eq_true rfl, Nat.le_of_ble_eq_true rfl⟩ hc rfl rfl (Nat.le_of_ble_eq_true rfl) dL_law_1295 ?_
  refine l_aload_n C 2 dL_law_1298 rfl rfl ?_
  refine l_aload_n C 0 dL_law_1299 rfl rfl ?_
  refine l_iload C 4 dL_law_1300 rfl ?_
  refine l_iconst (w := 1) C dL_law_1302 rfl ?_
  refine l_iadd C dL_law_1303 ?_
  refine l_sld C h1 dL_law_1304 ?_
  refine l_aload_n C 0 dL_law_1305 rfl rfl ?_
  refine l_iload C 4 dL_law_1306 rfl ?_
  refine l_iconst (w := 2) C dL_law_1308 rfl ?_
  refine l_iadd C dL_law_1309 ?_
  refine l_sld C h2 dL_law_1310 ?_
  refine l_aload_n C 0 dL_law_1311 rfl rfl ?_
  refine l_iload C 4 dL_law_1312 rfl ?_
  refine l_iconst (w := 3) C dL_law_1314 rfl ?_
  refine l_iadd C dL_law_1315 ?_
  refine l_sld C h3 dL_law_1316 ?_
  refine l_callM C (As := [.int (z_x z (x4 + 1).toNatClampNeg), .int (z_x z (x4 + 2).toNatClampNeg), .int (z_x z (x4 + 3).toNatClampNeg)]) (nn := 3) (m_X11_account _ _ _ N (z_x z (x4 + 1).toNatClampNeg) (z_x z (x4 + 2).toNatClampNeg) (z_x z (x4 + 3).toNatClampNeg) hg) ⟨kw_1669, kw_1670, kw_1671, kw_11, kw_1672⟩ ⟨rfl, by decide +kernel, by decide +kernel, by decide +kernel⟩ ⟨rfl, rfl, Nat.le_of_ble_eq_true rfl, Nat.le_of_ble_eq_true rfl⟩ hc rfl rfl (Nat.le_of_ble_eq_true rfl) dL_law_1317 ?_
  exact l_icmp_eq C 2130 dL_law_1320 (by decide) (fun _ => kk) (fun q => absurd rfl q)
set_option maxRecDepth 20000 in
theorem lk_month {z : xL} (C : CtL z) {cs ss : Nat} (hc : cs ≤ 601024 ∧ ss ≤ 7293034) {M N : xM} {v : Int64} (x4 : Int32) (h1 : vp_in (x4 + 1) (z_L z)) (h2 : vp_in (x4 + 2) (z_L z)) (h3 : vp_in (x4 + 3) (z_L z)) {r : Int32} {M1 : xM} {N1 : xM} (hf : f_X10_month M (z_x z (x4 + 1).toNatClampNeg) (z_x z (x4 + 2).toNatClampNeg) (z_x z (x4 + 3).toNatClampNeg) = some (r, M1)) (hg : f_X11_month N (z_x z (x4 + 1).toNatClampNeg) (z_x z (x4 + 2).toNatClampNeg) (z_x z (x4 + 3).toNatClampNeg) = some (r, N1)) (kk : JL z cs ss M1 N1 v 2130 [(0, .ref (z_b z)), (1, .ref (z_1 z 0)), (2, .ref (z_2 z 0)), (3, .ref (z_o z)), (4, .int x4)] []) : JL z cs ss M N v 1325 [(0, .ref (z_b z)), (1, .ref (z_1 z 0)), (2, .ref (z_2 z 0)), (3, .ref (z_o z)), (4, .int x4)] [] := by
  refine l_aload_n C 1 dL_law_1325 rfl rfl ?_
  refine l_aload_n C 0 dL_law_1326 rfl rfl ?_
  refine l_iload C 4 dL_law_1327 rfl ?_
  refine l_iconst (w := 1) C dL_law_1329 rfl ?_
  refine l_iadd C dL_law_1330 ?_
  refine l_sld C h1 dL_law_1331 ?_
  refine l_aload_n C 0 dL_law_1332 rfl rfl ?_
  refine l_iload C 4 dL_law_1333 rfl ?_
  refine l_iconst (w := 2) C dL_law_1335 rfl ?_
  refine l_iadd C dL_law_1336 ?_
  refine l_sld C h2 dL_law_1337 ?_
  refine l_aload_n C 0 dL_law_1338 rfl rfl ?_
  refine l_iload C 4 dL_law_1339 rfl ?_
  refine l_iconst (w := 3) C dL_law_1341 rfl ?_
  refine l_iadd C dL_law_1342 ?_
  refine l_sld C h3 dL_law_1343 ?_
  refine l_callC C (As := [.int (z_x z (x4 + 1).toNatClampNeg), .int (z_x z (x4 + 2).toNatClampNeg), .int (z_x z (x4 + 3).toNatClampNeg)]) (nn := 3) (m_X10_month _ _ _ M (z_x z (x4 + 1).toNatClampNeg) (z_x z (x4 + 2).toNatClampNeg) (z_x z (x4 + 3).toNatClampNeg) hf) ⟨kw_774, kw_775, kw_776, kw_1, kw_777⟩ ⟨rfl, by decide +kernel, by decide +kernel, by decide +kernel⟩ ⟨rfl, rfl, Nat.le_of_ble_eq_true rfl, Nat.le_of_ble_eq_true rfl⟩ hc rfl rfl (Nat.le_of_ble_eq_true rfl) dL_law_1344 ?_
  refine l_aload_n C 2 dL_law_1347 rfl rfl ?_
  refine l_aload_n C 0 dL_law_1348 rfl rfl ?_
  refine l_iload C 4 dL_law_1349 rfl ?_
  refine l_iconst (w := 1) C dL_law_1351 rfl ?_
  refine l_iadd C dL_law_1352 ?_
  refine l_sld C h1 dL_law_1353 ?_
  refine l_aload_n C 0 dL_law_1354 rfl rfl ?_
  refine l_iload C 4 dL_law_1355 rfl ?_
  refine l_iconst (w := 2) C dL_law_1357 rfl ?_
  refine l_iadd C dL_law_1358 ?_
  refine l_sld C h2 dL_law_1359 ?_
  refine l_aload_n C 0 dL_law_1360 rfl rfl ?_
  refine l_iload C 4 dL_law_1361 rfl ?_
  refine l_iconst (w := 3) C dL_law_1363 rfl ?_
  refine l_iadd C dL_law_1364 ?_
  refine l_sld C h3 dL_law_1365 ?_
  refine l_callM C (As := [.int (z_x z (x4 + 1).toNatClampNeg), .int (z_x z (x4 + 2).toNatClampNeg), .int (z_x z (x4 + 3).toNatClampNeg)]) (nn := 3) (m_X11_month _ _ _ N (z_x z (x4 + 1).toNatClampNeg) (z_x z (x4 + 2).toNatClampNeg) (z_x z (x4 + 3).toNatClampNeg) hg) ⟨kw_1674, kw_1675, kw_1676, kw_11, kw_1677⟩ ⟨rfl, by decide +kernel, by decide +kernel, by decide +kernel⟩ ⟨rfl, rfl, Nat.le_of_ble_eq_true rfl, Nat.le_of_ble_eq_true rfl⟩ hc rfl rfl (Nat.le_of_ble_eq_true rfl) dL_law_1366 ?_
  exact l_icmp_eq C 2130 dL_law_1369 (by decide) (fun _ => kk) (fun q => absurd rfl q)
set_option maxRecDepth 20000 in
theorem lk_extreme {z : xL} (C : CtL z) {cs ss : Nat} (hc : cs ≤ 601024 ∧ ss ≤ 7293034) {M N : xM} {v : Int64} (x4 : Int32) (h1 : vp_in (x4 + 1) (z_L z)) (h2 : vp_in (x4 + 2) (z_L z)) (h3 : vp_in (x4 + 3) (z_L z)) {r : Int32} {M1 : xM} {N1 : xM} (hf : f_X10_extreme M (z_x z (x4 + 1).toNatClampNeg) (z_x z (x4 + 2).toNatClampNeg) (z_x z (x4 + 3).toNatClampNeg) = some (r, M1)) (hg : f_X11_extreme N (z_x z (x4 + 1).toNatClampNeg) (z_x z (x4 + 2).toNatClampNeg) (z_x z (x4 + 3).toNatClampNeg) = some (r, N1)) (kk : JL z cs ss M1 N1 v 2130 [(0, .ref (z_b z)), (1, .ref (z_1 z 0)), (2, .ref (z_2 z 0)), (3, .ref (z_o z)), (4, .int x4)] []) : JL z cs ss M N v 1374 [(0, .ref (z_b z)), (1, .ref (z_1 z 0)), (2, .ref (z_2 z 0)), (3, .ref (z_o z)), (4, .int x4)] [] := by
  refine l_aload_n C 1 dL_law_1374 rfl rfl ?_
  refine l_aload_n C 0 dL_law_1375 rfl rfl ?_
  refine l_iload C 4 dL_law_1376 rfl ?_
  refine l_iconst (w := 1) C dL_law_1378 rfl ?_
  refine l_iadd C dL_law_1379 ?_
  refine l_sld C h1 dL_law_1380 ?_
  refine l_aload_n C 0 dL_law_1381 rfl rfl ?_
  refine l_iload C 4 dL_law_1382 rfl ?_
  refine l_iconst (w := 2) C dL_law_1384 rfl ?_
  refine l_iadd C dL_law_1385 ?_
  refine l_sld C h2 dL_law_1386 ?_
  refine l_aload_n C 0 dL_law_1387 rfl rfl ?_
  refine l_iload C 4 dL_law_1388 rfl ?_
  refine l_iconst (w := 3) C dL_law_1390 rfl ?_
  refine l_iadd C dL_law_1391 ?_
  refine l_sld C h3 dL_law_1392 ?_
  refine l_callC C (As := [.int (z_x z (x4 + 1).toNatClampNeg), .int (z_x z (x4 + 2).toNatClampNeg), .int (z_x z (x4 + 3).toNatClampNeg)]) (nn := 3) (m_X10_extreme _ _ _ M (z_x z (x4 + 1).toNatClampNeg) (z_x z (x4 + 2).toNatClampNeg) (z_x z (x4 + 3).toNatClampNeg) hf) ⟨kw_787, kw_788, kw_789, kw_1, kw_790⟩ ⟨rfl, by decide +kernel, by decide +kernel, by decide +kernel⟩ ⟨rfl, rfl, Nat.le_of_ble_eq_true rfl, Nat.le_of_ble_eq_true rfl⟩ hc rfl rfl (Nat.le_of_ble_eq_true rfl) dL_law_1393 ?_
  refine l_aload_n C 2 dL_law_1396 rfl rfl ?_
  refine l_aload_n C 0 dL_law_1397 rfl rfl ?_
  refine l_iload C 4 dL_law_1398 rfl ?_
  refine l_iconst (w := 1) C dL_law_1400 rfl ?_
  refine l_iadd C dL_law_1401 ?_
  refine l_sld C h1 dL_law_1402 ?_
  refine l_aload_n C 0 dL_law_1403 rfl rfl ?_
  refine l_iload C 4 dL_law_1404 rfl ?_
  refine l_iconst (w := 2) C dL_law_1406 rfl ?_
  refine l_iadd C dL_law_1407 ?_
  refine l_sld C h2 dL_law_1408 ?_
  refine l_aload_n C 0 dL_law_1409 rfl rfl ?_
  refine l_iload C 4 dL_law_1410 rfl ?_
  refine l_iconst (w := 3) C dL_law_1412 rfl ?_
  refine l_iadd C dL_law_1413 ?_
  refine l_sld C h3 dL_law_1414 ?_
  refine l_callM C (As := [.int (z_x z (x4 + 1).toNatClampNeg), .int (z_x z (x4 + 2).toNatClampNeg), .int (z_x z (x4 + 3).toNatClampNeg)]) (nn := 3) (m_X11_extreme _ _ _ N (z_x z (x4 + 1).toNatClampNeg) (z_x z (x4 + 2).toNatClampNeg) (z_x z (x4 + 3).toNatClampNeg) hg) ⟨kw_1683, kw_1684, kw_1685, kw_11, kw_1686⟩ ⟨rfl, by decide +kernel, by decide +kernel, by decide +kernel⟩ ⟨rfl, rfl, Nat.le_of_ble_eq_true rfl, Nat.le_of_ble_eq_true rfl⟩ hc rfl rfl (Nat.le_of_ble_eq_true rfl) dL_law_1415 ?_
  exact l_icmp_eq C 2130 dL_law_1418 (by decide) (fun _ => kk) (fun q => absurd rfl q)
set_option maxRecDepth 20000 in
theorem lk_mean {z : xL} (C : CtL z) {cs ss : Nat} (hc : cs ≤ 601024 ∧ ss ≤ 7293034) {M N : xM} {v : Int64} (x4 : Int32) (h1 : vp_in (x4 + 1) (z_L z)) {r : Int32} {N1 : xM} (hf : f_X10_mean M (z_x z (x4 + 1).toNatClampNeg) = some r) (hg : f_X11_mean N (z_x z (x4 + 1).toNatClampNeg) = some (r, N1)) (kk : JL z cs ss M N1 v 2130 [(0, .ref (z_b z)), (1, .ref (z_1 z 0)), (2, .ref (z_2 z 0)), (3, .ref (z_o z)), (4, .int x4)] []) : JL z cs ss M N v 1423 [(0, .ref (z_b z)), (1, .ref (z_1 z 0)), (2, .ref (z_2 z 0)), (3, .ref (z_o z)), (4, .int x4)] [] := by
  refine l_aload_n C 1 dL_law_1423 rfl rfl ?_
  refine l_aload_n C 0 dL_law_1424 rfl rfl ?_
  refine l_iload C 4 dL_law_1425 rfl ?_
  refine l_iconst (w := 1) C dL_law_1427 rfl ?_
  refine l_iadd C dL_law_1428 ?_
  refine l_sld C h1 dL_law_1429 ?_
  refine l_callC C (As := [.int (z_x z (x4 + 1).toNatClampNeg)]) (nn := 1) (m_X10_mean _ _ _ M (z_x z (x4 + 1).toNatClampNeg) hf) ⟨kw_799, kw_800, kw_801, kw_1, kw_802⟩ ⟨rfl, by decide +kernel, by decide +kernel, by decide +kernel⟩ ⟨rfl, rfl, Nat.le_of_ble_eq_true rfl, Nat.le_of_ble_eq_true rfl⟩ hc rfl rfl (Nat.le_of_ble_eq_true rfl) dL_law_1430 ?_
  refine l_aload_n C 2 dL_law_1433 rfl rfl ?_
  refine l_aload_n C 0 dL_law_1434 rfl rfl ?_
  refine l_iload C 4 dL_law_1435 rfl ?_
  refine l_iconst (w := 1) C dL_law_1437 rfl ?_
  refine l_iadd C dL_law_1438 ?_
  refine l_sld C h1 dL_law_1439 ?_
  refine l_callM C (As := [.int (z_x z (x4 + 1).toNatClampNeg)]) (nn := 1) (m_X11_mean _ _ _ N (z_x z (x4 + 1).toNatClampNeg) hg) ⟨kw_1687, kw_1688, kw_1689, kw_11, kw_1690⟩ ⟨rfl, by decide +kernel, by decide +kernel, by decide +kernel⟩ ⟨rfl, rfl, Nat.le_of_ble_eq_true rfl, Nat.le_of_ble_eq_true rfl⟩ hc rfl rfl (Nat.le_of_ble_eq_true rfl) dL_law_1440 ?_
  exact l_icmp_eq C 2130 dL_law_1443 (by decide) (fun _ => kk) (fun q => absurd rfl q)
set_option maxRecDepth 20000 in
theorem lk_lasts {z : xL} (C : CtL z) {cs ss : Nat} (hc : cs ≤ 601024 ∧ ss ≤ 7293034) {M N : xM} {v : Int64} (x4 : Int32) (h1 : vp_in (x4 + 1) (z_L z)) (h2 : vp_in (x4 + 2) (z_L z)) {r : Int32} {N1 : xM} (hf : f_X10_lasts M (z_x z (x4 + 1).toNatClampNeg) (z_x z (x4 + 2).toNatClampNeg) = some r) (hg : f_X11_lasts N (z_x z (x4 + 1).toNatClampNeg) (z_x z (x4 + 2).toNatClampNeg) = some (r, N1)) (kk : JL z cs ss M N1 v 2130 [(0, .ref (z_b z)), (1, .ref (z_1 z 0)), (2, .ref (z_2 z 0)), (3, .ref (z_o z)), (4, .int x4)] []) : JL z cs ss M N v 1448 [(0, .ref (z_b z)), (1, .ref (z_1 z 0)), (2, .ref (z_2 z 0)), (3, .ref (z_o z)), (4, .int x4)] [] := by
  refine l_aload_n C 1 dL_law_1448 rfl rfl ?_
  refine l_aload_n C 0 dL_law_1449 rfl rfl ?_
  refine l_iload C 4 dL_law_1450 rfl ?_
  refine l_iconst (w := 1) C dL_law_1452 rfl ?_
  refine l_iadd C dL_law_1453 ?_
  refine l_sld C h1 dL_law_1454 ?_
  refine l_aload_n C 0 dL_law_1455 rfl rfl ?_
  refine l_iload C 4 dL_law_1456 rfl ?_
  refine l_iconst (w := 2) C dL_law_1458 rfl ?_
  refine l_iadd C dL_law_1459 ?_
  refine l_sld C h2 dL_law_1460 ?_
  refine l_callC C (As := [.int (z_x z (x4 + 1).toNatClampNeg), .int (z_x z (x4 + 2).toNatClampNeg)]) (nn := 2) (m_X10_lasts _ _ _ M (z_x z (x4 + 1).toNatClampNeg) (z_x z (x4 + 2).toNatClampNeg) hf) ⟨kw_809, kw_810, kw_811, kw_1, kw_812⟩ ⟨rfl, by decide +kernel, by decide +kernel, by decide +kernel⟩ ⟨rfl, rfl, Nat.le_of_ble_eq_true rfl, Nat.le_of_ble_eq_true rfl⟩ hc rfl rfl (Nat.le_of_ble_eq_true rfl) dL_law_1461 ?_
  refine l_aload_n C 2 dL_law_1464 rfl rfl ?_
  refine l_aload_n C 0 dL_law_1465 rfl rfl ?_
  refine l_iload C 4 dL_law_1466 rfl ?_
  refine l_iconst (w := 1) C dL_law_1468 rfl ?_
  refine l_iadd C dL_law_1469 ?_
  refine l_sld C h1 dL_law_1470 ?_
  refine l_aload_n C 0 dL_law_1471 rfl rfl ?_
  refine l_iload C 4 dL_law_1472 rfl ?_
  refine l_iconst (w := 2) C dL_law_1474 rfl ?_
  refine l_iadd C dL_law_1475 ?_
  refine l_sld C h2 dL_law_1476 ?_
  refine l_callM C (As := [.int (z_x z (x4 + 1).toNatClampNeg), .int (z_x z (x4 + 2).toNatClampNeg)]) (nn := 2) (m_X11_lasts _ _ _ N (z_x z (x4 + 1).toNatClampNeg) (z_x z (x4 + 2).toNatClampNeg) hg) ⟨kw_1695, kw_1696, kw_1697, kw_11, kw_1698⟩ ⟨rfl, by decide +kernel, by decide +kernel, by decide +kernel⟩ ⟨rfl, rfl, Nat.le_of_ble_eq_true rfl, Nat.le_of_ble_eq_true rfl⟩ hc rfl rfl (Nat.le_of_ble_eq_true rfl) dL_law_1477 ?_
  exact l_icmp_eq C 2130 dL_law_1480 (by decide) (fun _ => kk) (fun q => absurd rfl q)
set_option maxRecDepth 20000 in
theorem lk_whose {z : xL} (C : CtL z) {cs ss : Nat} (hc : cs ≤ 601024 ∧ ss ≤ 7293034) {M N : xM} {v : Int64} (x4 : Int32) (h1 : vp_in (x4 + 1) (z_L z)) (h2 : vp_in (x4 + 2) (z_L z)) {r : Int32} {N1 : xM} (hf : f_X10_whose M (z_x z (x4 + 1).toNatClampNeg) (z_x z (x4 + 2).toNatClampNeg) = some r) (hg : f_X11_whose N (z_x z (x4 + 1).toNatClampNeg) (z_x z (x4 + 2).toNatClampNeg) = some (r, N1)) (kk : JL z cs ss M N1 v 2130 [(0, .ref (z_b z)), (1, .ref (z_1 z 0)), (2, .ref (z_2 z 0)), (3, .ref (z_o z)), (4, .int x4)] []) : JL z cs ss M N v 1485 [(0, .ref (z_b z)), (1, .ref (z_1 z 0)), (2, .ref (z_2 z 0)), (3, .ref (z_o z)), (4, .int x4)] [] := by
  refine l_aload_n C 1 dL_law_1485 rfl rfl ?_
  refine l_aload_n C 0 dL_law_1486 rfl rfl ?_
  refine l_iload C 4 dL_law_1487 rfl ?_
  refine l_iconst (w := 1) C dL_law_1489 rfl ?_
  refine l_iadd C dL_law_1490 ?_
  refine l_sld C h1 dL_law_1491 ?_
  refine l_aload_n C 0 dL_law_1492 rfl rfl ?_
  refine l_iload C 4 dL_law_1493 rfl ?_
  refine l_iconst (w := 2) C dL_law_1495 rfl ?_
  refine l_iadd C dL_law_1496 ?_
  refine l_sld C h2 dL_law_1497 ?_
  refine l_callC C (As := [.int (z_x z (x4 + 1).toNatClampNeg), .int (z_x z (x4 + 2).toNatClampNeg)]) (nn := 2) (m_X10_whose _ _ _ M (z_x z (x4 + 1).toNatClampNeg) (z_x z (x4 + 2).toNatClampNeg) hf) ⟨kw_814, kw_815, kw_816, kw_1, kw_817⟩ ⟨rfl, by decide +kernel, by decide +kernel, by decide +kernel⟩ ⟨rfl, rfl, Nat.le_of_ble_eq_true rfl, Nat.le_of_ble_eq_true rfl⟩ hc rfl rfl (Nat.le_of_ble_eq_true rfl) dL_law_1498 ?_
  refine l_aload_n C 2 dL_law_1501 rfl rfl ?_
  refine l_aload_n C 0 dL_law_1502 rfl rfl ?_
  refine l_iload C 4 dL_law_1503 rfl ?_
  refine l_iconst (w := 1) C dL_law_1505 rfl ?_
  refine l_iadd C dL_law_1506 ?_
  refine l_sld C h1 dL_law_1507 ?_
  refine l_aload_n C 0 dL_law_1508 rfl rfl ?_
  refine l_iload C 4 dL_law_1509 rfl ?_
  refine l_iconst (w := 2) C dL_law_1511 rfl ?_
  refine l_iadd C dL_law_1512 ?_
  refine l_sld C h2 dL_law_1513 ?_
  refine l_callM C (As := [.int (z_x z (x4 + 1).toNatClampNeg), .int (z_x z (x4 + 2).toNatClampNeg)]) (nn := 2) (m_X11_whose _ _ _ N (z_x z (x4 + 1).toNatClampNeg) (z_x z (x4 + 2).toNatClampNeg) hg) ⟨kw_1700, kw_1701, kw_1702, kw_11, kw_1703⟩ ⟨rfl, by decide +kernel, by decide +kernel, by decide +kernel⟩ ⟨rfl, rfl, Nat.le_of_ble_eq_true rfl, Nat.le_of_ble_eq_true rfl⟩ hc rfl rfl (Nat.le_of_ble_eq_true rfl) dL_law_1514 ?_
  exact l_icmp_eq C 2130 dL_law_1517 (by decide) (fun _ => kk) (fun q => absurd rfl q)
set_option maxRecDepth 20000 in
theorem lk_bonded {z : xL} (C : CtL z) {cs ss : Nat} (hc : cs ≤ 601024 ∧ ss ≤ 7293034) {M N : xM} {v : Int64} (x4 : Int32) (h1 : vp_in (x4 + 1) (z_L z)) (h2 : vp_in (x4 + 2) (z_L z)) (h3 : vp_in (x4 + 3) (z_L z)) {r : Int32} {M1 : xM} {N1 : xM} (hf : f_X10_bonded M (z_x z (x4 + 1).toNatClampNeg) (z_x z (x4 + 2).toNatClampNeg) (z_x z (x4 + 3).toNatClampNeg) = some (r, M1)) (hg : f_X11_bonded N (z_x z (x4 + 1).toNatClampNeg) (z_x z (x4 + 2).toNatClampNeg) (z_x z (x4 + 3).toNatClampNeg) = some (r, N1)) (kk : JL z cs ss M1 N1 v 2130 [(0, .ref (z_b z)), (1, .ref (z_1 z 0)), (2, .ref (z_2 z 0)), (3, .ref (z_o z)), (4, .int x4)] []) : JL z cs ss M N v 1522 [(0, .ref (z_b z)), (1, .ref (z_1 z 0)), (2, .ref (z_2 z 0)), (3, .ref (z_o z)), (4, .int x4)] [] := by
  refine l_aload_n C 1 dL_law_1522 rfl rfl ?_
  refine l_aload_n C 0 dL_law_1523 rfl rfl ?_
  refine l_iload C 4 dL_law_1524 rfl ?_
  refine l_iconst (w := 1) C dL_law_1526 rfl ?_
  refine l_iadd C dL_law_1527 ?_
  refine l_sld C h1 dL_law_1528 ?_
  refine l_aload_n C 0 dL_law_1529 rfl rfl ?_
  refine l_iload C 4 dL_law_1530 rfl ?_
  refine l_iconst (w := 2) C dL_law_1532 rfl ?_
  refine l_iadd C dL_law_1533 ?_
  refine l_sld C h2 dL_law_1534 ?_
  refine l_aload_n C 0 dL_law_1535 rfl rfl ?_
  refine l_iload C 4 dL_law_1536 rfl ?_
  refine l_iconst (w := 3) C dL_law_1538 rfl ?_
  refine l_iadd C dL_law_1539 ?_
  refine l_sld C h3 dL_law_1540 ?_
  refine l_callC C (As := [.int (z_x z (x4 + 1).toNatClampNeg), .int (z_x z (x4 + 2).toNatClampNeg), .int (z_x z (x4 + 3).toNatClampNeg)]) (nn := 3) (m_X10_bonded _ _ _ M (z_x z (x4 + 1).toNatClampNeg) (z_x z (x4 + 2).toNatClampNeg) (z_x z (x4 + 3).toNatClampNeg) hf) ⟨kw_818, kw_819, kw_820, kw_1, kw_821⟩ ⟨rfl, by decide +kernel, by decide +kernel, by decide +kernel⟩ ⟨rfl, rfl, Nat.le_of_ble_eq_true rfl, Nat.le_of_ble_eq_true rfl⟩ hc rfl rfl (Nat.le_of_ble_eq_true rfl) dL_law_1541 ?_
  refine l_aload_n C 2 dL_law_1544 rfl rfl ?_
  refine l_aload_n C 0 dL_law_1545 rfl rfl ?_
  refine l_iload C 4 dL_law_1546 rfl ?_
  refine l_iconst (w := 1) C dL_law_1548 rfl ?_
  refine l_iadd C dL_law_1549 ?_
  refine l_sld C h1 dL_law_1550 ?_
  refine l_aload_n C 0 dL_law_1551 rfl rfl ?_
  refine l_iload C 4 dL_law_1552 rfl ?_
  refine l_iconst (w := 2) C dL_law_1554 rfl ?_
  refine l_iadd C dL_law_1555 ?_
  refine l_sld C h2 dL_law_1556 ?_
  refine l_aload_n C 0 dL_law_1557 rfl rfl ?_
  refine l_iload C 4 dL_law_1558 rfl ?_
  refine l_iconst (w := 3) C dL_law_1560 rfl ?_
  refine l_iadd C dL_law_1561 ?_
  refine l_sld C h3 dL_law_1562 ?_
  refine l_callM C (As := [.int (z_x z (x4 + 1).toNatClampNeg), .int (z_x z (x4 + 2).toNatClampNeg), .int (z_x z (x4 + 3).toNatClampNeg)]) (nn := 3) (m_X11_bonded _ _ _ N (z_x z (x4 + 1).toNatClampNeg) (z_x z (x4 + 2).toNatClampNeg) (z_x z (x4 + 3).toNatClampNeg) hg) ⟨kw_1704, kw_1705, kw_1706, kw_11, kw_1707⟩ ⟨rfl, by decide +kernel, by decide +kernel, by decide +kernel⟩ ⟨rfl, rfl, Nat.le_of_ble_eq_true rfl, Nat.le_of_ble_eq_true rfl⟩ hc rfl rfl (Nat.le_of_ble_eq_true rfl) dL_law_1563 ?_
  exact l_icmp_eq C 2130 dL_law_1566 (by decide) (fun _ => kk) (fun q => absurd rfl q)
set_option maxRecDepth 20000 in
theorem lk_liable {z : xL} (C : CtL z) {cs ss : Nat} (hc : cs ≤ 601024 ∧ ss ≤ 7293034) {M N : xM} {v : Int64} (x4 : Int32) (h1 : vp_in (x4 + 1) (z_L z)) (h2 : vp_in (x4 + 2) (z_L z)) {r : Int32} {M1 : xM} {N1 : xM} (hf : f_X10_liable M (z_x z (x4 + 1).toNatClampNeg) (z_x z (x4 + 2).toNatClampNeg) = some (r, M1)) (hg : f_X11_liable N (z_x z (x4 + 1).toNatClampNeg) (z_x z (x4 + 2).toNatClampNeg) = some (r, N1)) (kk : JL z cs ss M1 N1 v 2130 [(0, .ref (z_b z)), (1, .ref (z_1 z 0)), (2, .ref (z_2 z 0)), (3, .ref (z_o z)), (4, .int x4)] []) : JL z cs ss M N v 1571 [(0, .ref (z_b z)), (1, .ref (z_1 z 0)), (2, .ref (z_2 z 0)), (3, .ref (z_o z)), (4, .int x4)] [] := by
  refine l_aload_n C 1 dL_law_1571 rfl rfl ?_
  refine l_aload_n C 0 dL_law_1572 rfl rfl ?_
  refine l_iload C 4 dL_law_1573 rfl ?_
  refine l_iconst (w := 1) C dL_law_1575 rfl ?_
  refine l_iadd C dL_law_1576 ?_
  refine l_sld C h1 dL_law_1577 ?_
  refine l_aload_n C 0 dL_law_1578 rfl rfl ?_
  refine l_iload C 4 dL_law_1579 rfl ?_
  refine l_iconst (w := 2) C dL_law_1581 rfl ?_
  refine l_iadd C dL_law_1582 ?_
  refine l_sld C h2 dL_law_1583 ?_
  refine l_callC C (As := [.int (z_x z (x4 + 1).toNatClampNeg), .int (z_x z (x4 + 2).toNatClampNeg)]) (nn := 2) (m_X10_liable _ _ _ M (z_x z (x4 + 1).toNatClampNeg) (z_x z (x4 + 2).toNatClampNeg) hf) ⟨kw_838, kw_839, kw_840, kw_1, kw_841⟩ ⟨rfl, by decide +kernel, by decide +kernel, by decide +kernel⟩ ⟨rfl, rfl, Nat.le_of_ble_eq_true rfl, Nat.le_of_ble_eq_true rfl⟩ hc rfl rfl (Nat.le_of_ble_eq_true rfl) dL_law_1584 ?_
  refine l_aload_n C 2 dL_law_1587 rfl rfl ?_
  refine l_aload_n C 0 dL_law_1588 rfl rfl ?_
  refine l_iload C 4 dL_law_1589 rfl ?_
  refine l_iconst (w := 1) C dL_law_1591 rfl ?_
  refine l_iadd C dL_law_1592 ?_
  refine l_sld C h1 dL_law_1593 ?_
  refine l_aload_n C 0 dL_law_1594 rfl rfl ?_
  refine l_iload C 4 dL_law_1595 rfl ?_
  refine l_iconst (w := 2) C dL_law_1597 rfl ?_
  refine l_iadd C dL_law_1598 ?_
  refine l_sld C h2 dL_law_1599 ?_
  refine l_callM C (As := [.int (z_x z (x4 + 1).toNatClampNeg), .int (z_x z (x4 + 2).toNatClampNeg)]) (nn := 2) (m_X11_liable _ _ _ N (z_x z (x4 + 1).toNatClampNeg) (z_x z (x4 + 2).toNatClampNeg) hg) ⟨kw_1717, kw_1718, kw_1719, kw_11, kw_1720⟩ ⟨rfl, by decide +kernel, by decide +kernel, by decide +kernel⟩ ⟨rfl, rfl, Nat.le_of_ble_eq_true rfl, Nat.le_of_ble_eq_true rfl⟩ hc rfl rfl (Nat.le_of_ble_eq_true rfl) dL_law_1600 ?_
  exact l_icmp_eq C 2130 dL_law_1603 (by decide) (fun _ => kk) (fun q => absurd rfl q)
set_option maxRecDepth 20000 in
theorem lk_dispute {z : xL} (C : CtL z) {cs ss : Nat} (hc : cs ≤ 601024 ∧ ss ≤ 7293034) {M N : xM} {v : Int64} (x4 : Int32) (h1 : vp_in (x4 + 1) (z_L z)) {r : Int32} {M1 : xM} {N1 : xM} (hf : f_X10_dispute M (z_x z (x4 + 1).toNatClampNeg) = some (r, M1)) (hg : f_X11_dispute N (z_x z (x4 + 1).toNatClampNeg) = some (r, N1)) (kk : JL z cs ss M1 N1 v 2130 [(0, .ref (z_b z)), (1, .ref (z_1 z 0)), (2, .ref (z_2 z 0)), (3, .ref (z_o z)), (4, .int x4)] []) : JL z cs ss M N v 1608 [(0, .ref (z_b z)), (1, .ref (z_1 z 0)), (2, .ref (z_2 z 0)), (3, .ref (z_o z)), (4, .int x4)] [] := by
  refine l_aload_n C 1 dL_law_1608 rfl rfl ?_
  refine l_aload_n C 0 dL_law_1609 rfl rfl ?_
  refine l_iload C 4 dL_law_1610 rfl ?_
  refine l_iconst (w := 1) C dL_law_1612 rfl ?_
  refine l_iadd C dL_law_1613 ?_
  refine l_sld C h1 dL_law_1614 ?_
  refine l_callC C (As := [.int (z_x z (x4 + 1).toNatClampNeg)]) (nn := 1) (m_X10_dispute _ _ _ M (z_x z (x4 + 1).toNatClampNeg) hf) ⟨kw_855, kw_856, kw_857, kw_1, kw_858⟩ ⟨rfl, by decide +kernel, by decide +kernel, by decide +kernel⟩ ⟨rfl, rfl, Nat.le_of_ble_eq_true rfl, Nat.le_of_ble_eq_true rfl⟩ hc rfl rfl (Nat.le_of_ble_eq_true rfl) dL_law_1615 ?_
  refine l_aload_n C 2 dL_law_1618 rfl rfl ?_
  refine l_aload_n C 0 dL_law_1619 rfl rfl ?_
  refine l_iload C 4 dL_law_1620 rfl ?_
  refine l_iconst (w := 1) C dL_law_1622 rfl ?_
  refine l_iadd C dL_law_1623 ?_
  refine l_sld C h1 dL_law_1624 ?_
  refine l_callM C (As := [.int (z_x z (x4 + 1).toNatClampNeg)]) (nn := 1) (m_X11_dispute _ _ _ N (z_x z (x4 + 1).toNatClampNeg) hg) ⟨kw_1733, kw_1734, kw_1735, kw_11, kw_1736⟩ ⟨rfl, by decide +kernel, by decide +kernel, by decide +kernel⟩ ⟨rfl, rfl, Nat.le_of_ble_eq_true rfl, Nat.le_of_ble_eq_true rfl⟩ hc rfl rfl (Nat.le_of_ble_eq_true rfl) dL_law_1625 ?_
  exact l_icmp_eq C 2130 dL_law_1628 (by decide) (fun _ => kk) (fun q => absurd rfl q)
set_option maxRecDepth 20000 in
theorem lk_holder {z : xL} (C : CtL z) {cs ss : Nat} (hc : cs ≤ 601024 ∧ ss ≤ 7293034) {M N : xM} {v : Int64} (x4 : Int32) (h1 : vp_in (x4 + 1) (z_L z)) {r : Int32} {N1 : xM} (hf : f_X10_holder M (z_x z (x4 + 1).toNatClampNeg) = some r) (hg : f_X11_holder N (z_x z (x4 + 1).toNatClampNeg) = some (r, N1)) (kk : JL z cs ss M N1 v 2130 [(0, .ref (z_b z)), (1, .ref (z_1 z 0)), (2, .ref (z_2 z 0)), (3, .ref (z_o z)), (4, .int x4)] []) : JL z cs ss M N v 1633 [(0, .ref (z_b z)), (1, .ref (z_1 z 0)), (2, .ref (z_2 z 0)), (3, .ref (z_o z)), (4, .int x4)] [] := by
  refine l_aload_n C 1 dL_law_1633 rfl rfl ?_
  refine l_aload_n C 0 dL_law_1634 rfl rfl ?_
  refine l_iload C 4 dL_law_1635 rfl ?_
  refine l_iconst (w := 1) C dL_law_1637 rfl ?_
  refine l_iadd C dL_law_1638 ?_
  refine l_sld C h1 dL_law_1639 ?_
  refine l_callC C (As := [.int (z_x z (x4 + 1).toNatClampNeg)]) (nn := 1) (m_X10_holder _ _ _ M (z_x z (x4 + 1).toNatClampNeg) hf) ⟨kw_867, kw_868, kw_869, kw_1, kw_870⟩ ⟨rfl, by decide +kernel, by decide +kernel, by decide +kernel⟩ ⟨rfl, rfl, Nat.le_of_ble_eq_true rfl, Nat.le_of_ble_eq_true rfl⟩ hc rfl rfl (Nat.le_of_ble_eq_true rfl) dL_law_1640 ?_
  refine l_aload_n C 2 dL_law_1643 rfl rfl ?_
  refine l_aload_n C 0 dL_law_1644 rfl rfl ?_
  refine l_iload C 4 dL_law_1645 rfl ?_
  refine l_iconst (w := 1) C dL_law_1647 rfl ?_
  refine l_iadd C dL_law_1648 ?_
  refine l_sld C h1 dL_law_1649 ?_
  refine l_callM C (As := [.int (z_x z (x4 + 1).toNatClampNeg)]) (nn := 1) (m_X11_holder _ _ _ N (z_x z (x4 + 1).toNatClampNeg) hg) ⟨kw_1745, kw_1746, kw_1747, kw_11, kw_1748⟩ ⟨rfl, by decide +kernel, by decide +kernel, by decide +kernel⟩ ⟨rfl, rfl, Nat.le_of_ble_eq_true rfl, Nat.le_of_ble_eq_true rfl⟩ hc rfl rfl (Nat.le_of_ble_eq_true rfl) dL_law_1650 ?_
  exact l_icmp_eq C 2130 dL_law_1653 (by decide) (fun _ => kk) (fun q => absurd rfl q)
set_option maxRecDepth 20000 in
theorem lk_again {z : xL} (C : CtL z) {cs ss : Nat} (hc : cs ≤ 601024 ∧ ss ≤ 7293034) {M N : xM} {v : Int64} (x4 : Int32) (h1 : vp_in (x4 + 1) (z_L z)) {r : Int32} {M1 : xM} {N1 : xM} (hf : f_X10_again M (z_x z (x4 + 1).toNatClampNeg) = some (r, M1)) (hg : f_X11_again N (z_x z (x4 + 1).toNatClampNeg) = some (r, N1)) (kk : JL z cs ss M1 N1 v 2130 [(0, .ref (z_b z)), (1, .ref (z_1 z 0)), (2, .ref (z_2 z 0)), (3, .ref (z_o z)), (4, .int x4)] []) : JL z cs ss M N v 1658 [(0, .ref (z_b z)), (1, .ref (z_1 z 0)), (2, .ref (z_2 z 0)), (3, .ref (z_o z)), (4, .int x4)] [] := by
  refine l_aload_n C 1 dL_law_1658 rfl rfl ?_
  refine l_aload_n C 0 dL_law_1659 rfl rfl ?_
  refine l_iload C 4 dL_law_1660 rfl ?_
  refine l_iconst (w := 1) C dL_law_1662 rfl ?_
  refine l_iadd C dL_law_1663 ?_
  refine l_sld C h1 dL_law_1664 ?_
  refine l_callC C (As := [.int (z_x z (x4 + 1).toNatClampNeg)]) (nn := 1) (m_X10_again _ _ _ M (z_x z (x4 + 1).toNatClampNeg) hf) ⟨kw_871, kw_872, kw_873, kw_1, kw_874⟩ ⟨rfl, by decide +kernel, by decide +kernel, by decide +kernel⟩ ⟨rfl, rfl, Nat.le_of_ble_eq_true rfl, Nat.le_of_ble_eq_true rfl⟩ hc rfl rfl (Nat.le_of_ble_eq_true rfl) dL_law_1665 ?_
  refine l_aload_n C 2 dL_law_1668 rfl rfl ?_
  refine l_aload_n C 0 dL_law_1669 rfl rfl ?_
  refine l_iload C 4 dL_law_1670 rfl ?_
  refine l_iconst (w := 1) C dL_law_1672 rfl ?_
  refine l_iadd C dL_law_1673 ?_
  refine l_sld C h1 dL_law_1674 ?_
  refine l_callM C (As := [.int (z_x z (x4 + 1).toNatClampNeg)]) (nn := 1) (m_X11_again _ _ _ N (z_x z (x4 + 1).toNatClampNeg) hg) ⟨kw_1749, kw_1750, kw_1751, kw_11, kw_1752⟩ ⟨rfl, by decide +kernel, by decide +kernel, by decide +kernel⟩ ⟨rfl, rfl, Nat.le_of_ble_eq_true rfl, Nat.le_of_ble_eq_true rfl⟩ hc rfl rfl (Nat.le_of_ble_eq_true rfl) dL_law_1675 ?_
  exact l_icmp_eq C 2130 dL_law_1678 (by decide) (fun _ => kk) (fun q => absurd rfl q)
set_option maxRecDepth 20000 in
theorem lk_needed {z : xL} (C : CtL z) {cs ss : Nat} (hc : cs ≤ 601024 ∧ ss ≤ 7293034) {M N : xM} {v : Int64} (x4 : Int32) (h1 : vp_in (x4 + 1) (z_L z)) (h2 : vp_in (x4 + 2) (z_L z)) {r : Int32} {M1 : xM} {N1 : xM} (hf : f_X10_needed M (z_x z (x4 + 1).toNatClampNeg) (z_x z (x4 + 2).toNatClampNeg) = some (r, M1)) (hg : f_X11_needed N (z_x z (x4 + 1).toNatClampNeg) (z_x z (x4 + 2).toNatClampNeg) = some (r, N1)) (kk : JL z cs ss M1 N1 v 2130 [(0, .ref (z_b z)), (1, .ref (z_1 z 0)), (2, .ref (z_2 z 0)), (3, .ref (z_o z)), (4, .int x4)] []) : JL z cs ss M N v 1683 [(0, .ref (z_b z)), (1, .ref (z_1 z 0)), (2, .ref (z_2 z 0)), (3, .ref (z_o z)), (4, .int x4)] [] := by
  refine l_aload_n C 1 dL_law_1683 rfl rfl ?_
  refine l_aload_n C 0 dL_law_1684 rfl rfl ?_
  refine l_iload C 4 dL_law_1685 rfl ?_
  refine l_iconst (w := 1) C dL_law_1687 rfl ?_
  refine l_iadd C dL_law_1688 ?_
  refine l_sld C h1 dL_law_1689 ?_
  refine l_aload_n C 0 dL_law_1690 rfl rfl ?_
  refine l_iload C 4 dL_law_1691 rfl ?_
  refine l_iconst (w := 2) C dL_law_1693 rfl ?_
  refine l_iadd C dL_law_1694 ?_
  refine l_sld C h2 dL_law_1695 ?_
  refine l_callC C (As := [.int (z_x z (x4 + 1).toNatClampNeg), .int (z_x z (x4 + 2).toNatClampNeg)]) (nn := 2) (m_X10_needed _ _ _ M (z_x z (x4 + 1).toNatClampNeg) (z_x z (x4 + 2).toNatClampNeg) hf) ⟨kw_883, kw_884, kw_885, kw_1, kw_886⟩ ⟨rfl, by decide +kernel, by decide +kernel, by decide +kernel⟩ ⟨rfl, rfl, Nat.le_of_ble_eq_true rfl, Nat.le_of_ble_eq_true rfl⟩ hc rfl rfl (Nat.le_of_ble_eq_true rfl) dL_law_1696 ?_
  refine l_aload_n C 2 dL_law_1699 rfl rfl ?_
  refine l_aload_n C 0 dL_law_1700 rfl rfl ?_
  refine l_iload C 4 dL_law_1701 rfl ?_
  refine l_iconst (w := 1) C dL_law_1703 rfl ?_
  refine l_iadd C dL_law_1704 ?_
  refine l_sld C h1 dL_law_1705 ?_
  refine l_aload_n C 0 dL_law_1706 rfl rfl ?_
  refine l_iload C 4 dL_law_1707 rfl ?_
  refine l_iconst (w := 2) C dL_law_1709 rfl ?_
  refine l_iadd C dL_law_1710 ?_
  refine l_sld C h2 dL_law_1711 ?_
  refine l_callM C (As := [.int (z_x z (x4 + 1).toNatClampNeg), .int (z_x z (x4 + 2).toNatClampNeg)]) (nn := 2) (m_X11_needed _ _ _ N (z_x z (x4 + 1).toNatClampNeg) (z_x z (x4 + 2).toNatClampNeg) hg) ⟨kw_1753, kw_1754, kw_1755, kw_11, kw_1756⟩ ⟨rfl, by decide +kernel, by decide +kernel, by decide +kernel⟩ ⟨rfl, rfl, Nat.le_of_ble_eq_true rfl, Nat.le_of_ble_eq_true rfl⟩ hc rfl rfl (Nat.le_of_ble_eq_true rfl) dL_law_1712 ?_
  exact l_icmp_eq C 2130 dL_law_1715 (by decide) (fun _ => kk) (fun q => absurd rfl q)
set_option maxRecDepth 20000 in
theorem lk_ranked {z : xL} (C : CtL z) {cs ss : Nat} (hc : cs ≤ 601024 ∧ ss ≤ 7293034) {M N : xM} {v : Int64} (x4 : Int32) (h1 : vp_in (x4 + 1) (z_L z)) (h2 : vp_in (x4 + 2) (z_L z)) {r : Int32} {M1 : xM} {N1 : xM} (hf : f_X10_ranked M (z_x z (x4 + 1).toNatClampNeg) (z_x z (x4 + 2).toNatClampNeg) = some (r, M1)) (hg : f_X11_ranked N (z_x z (x4 + 1).toNatClampNeg) (z_x z (x4 + 2).toNatClampNeg) = some (r, N1)) (kk : JL z cs ss M1 N1 v 2130 [(0, .ref (z_b z)), (1, .ref (z_1 z 0)), (2, .ref (z_2 z 0)), (3, .ref (z_o z)), (4, .int x4)] []) : JL z cs ss M N v 1720 [(0, .ref (z_b z)), (1, .ref (z_1 z 0)), (2, .ref (z_2 z 0)), (3, .ref (z_o z)), (4, .int x4)] [] := by
  refine l_aload_n C 1 dL_law_1720 rfl rfl ?_
  refine l_aload_n C 0 dL_law_1721 rfl rfl ?_
  refine l_iload C 4 dL_law_1722 rfl ?_
  refine l_iconst (w := 1) C dL_law_1724 rfl ?_
  refine l_iadd C dL_law_1725 ?_
  refine l_sld C h1 dL_law_1726 ?_
  refine l_aload_n C 0 dL_law_1727 rfl rfl ?_
  refine l_iload C 4 dL_law_1728 rfl ?_
  refine l_iconst (w := 2) C dL_law_1730 rfl ?_
  refine l_iadd C dL_law_1731 ?_
  refine l_sld C h2 dL_law_1732 ?_
  refine l_callC C (As := [.int (z_x z (x4 + 1).toNatClampNeg), .int (z_x z (x4 + 2).toNatClampNeg)]) (nn := 2) (m_X10_ranked _ _ _ M (z_x z (x4 + 1).toNatClampNeg) (z_x z (x4 + 2).toNatClampNeg) hf) ⟨kw_888, kw_889, kw_890, kw_1, kw_891⟩ ⟨rfl, by decide +kernel, by decide +kernel, by decide +kernel⟩ ⟨rfl, rfl, Nat.le_of_ble_eq_true rfl, Nat.le_of_ble_eq_true rfl⟩ hc rfl rfl (Nat.le_of_ble_eq_true rfl) dL_law_1733 ?_
  refine l_aload_n C 2 dL_law_1736 rfl rfl ?_
  refine l_aload_n C 0 dL_law_1737 rfl rfl ?_
  refine l_iload C 4 dL_law_1738 rfl ?_
  refine l_iconst (w := 1) C dL_law_1740 rfl ?_
  refine l_iadd C dL_law_1741 ?_
  refine l_sld C h1 dL_law_1742 ?_
  refine l_aload_n C 0 dL_law_1743 rfl rfl ?_
  refine l_iload C 4 dL_law_1744 rfl ?_
  refine l_iconst (w := 2) C dL_law_1746 rfl ?_
  refine l_iadd C dL_law_1747 ?_
  refine l_sld C h2 dL_law_1748 ?_
  refine l_callM C (As := [.int (z_x z (x4 + 1).toNatClampNeg), .int (z_x z (x4 + 2).toNatClampNeg)]) (nn := 2) (m_X11_ranked _ _ _ N (z_x z (x4 + 1).toNatClampNeg) (z_x z (x4 + 2).toNatClampNeg) hg) ⟨kw_1758, kw_1759, kw_1760, kw_11, kw_1761⟩ ⟨rfl, by decide +kernel, by decide +kernel, by decide +kernel⟩ ⟨rfl, rfl, Nat.le_of_ble_eq_true rfl, Nat.le_of_ble_eq_true rfl⟩ hc rfl rfl (Nat.le_of_ble_eq_true rfl) dL_law_1749 ?_
  exact l_icmp_eq C 2130 dL_law_1752 (by decide) (fun _ => kk) (fun q => absurd rfl q)
set_option maxRecDepth 20000 in
theorem lk_missing {z : xL} (C : CtL z) {cs ss : Nat} (hc : cs ≤ 601024 ∧ ss ≤ 7293034) {M N : xM} {v : Int64} (x4 : Int32) (h1 : vp_in (x4 + 1) (z_L z)) {r : Int32} {M1 : xM} {N1 : xM} (hf : f_X10_missing M (z_x z (x4 + 1).toNatClampNeg) = some (r, M1)) (hg : f_X11_missing N (z_x z (x4 + 1).toNatClampNeg) = some (r, N1)) (kk : JL z cs ss M1 N1 v 2130 [(0, .ref (z_b z)), (1, .ref (z_1 z 0)), (2, .ref (z_2 z 0)), (3, .ref (z_o z)), (4, .int x4)] []) : JL z cs ss M N v 1757 [(0, .ref (z_b z)), (1, .ref (z_1 z 0)), (2, .ref (z_2 z 0)), (3, .ref (z_o z)), (4, .int x4)] [] := by
  refine l_aload_n C 1 dL_law_1757 rfl rfl ?_
  refine l_aload_n C 0 dL_law_1758 rfl rfl ?_
  refine l_iload C 4 dL_law_1759 rfl ?_
  refine l_iconst (w := 1) C dL_law_1761 rfl ?_
  refine l_iadd C dL_law_1762 ?_
  refine l_sld C h1 dL_law_1763 ?_
  refine l_callC C (As := [.int (z_x z (x4 + 1).toNatClampNeg)]) (nn := 1) (m_X10_missing _ _ _ M (z_x z (x4 + 1).toNatClampNeg) hf) ⟨kw_896, kw_897, kw_898, kw_1, kw_899⟩ ⟨rfl, by decide +kernel, by decide +kernel, by decide +kernel⟩ ⟨rfl, rfl, Nat.le_of_ble_eq_true rfl, Nat.le_of_ble_eq_true rfl⟩ hc rfl rfl (Nat.le_of_ble_eq_true rfl) dL_law_1764 ?_
  refine l_aload_n C 2 dL_law_1767 rfl rfl ?_
  refine l_aload_n C 0 dL_law_1768 rfl rfl ?_
  refine l_iload C 4 dL_law_1769 rfl ?_
  refine l_iconst (w := 1) C dL_law_1771 rfl ?_
  refine l_iadd C dL_law_1772 ?_
  refine l_sld C h1 dL_law_1773 ?_
  refine l_callM C (As := [.int (z_x z (x4 + 1).toNatClampNeg)]) (nn := 1) (m_X11_missing _ _ _ N (z_x z (x4 + 1).toNatClampNeg) hg) ⟨kw_1770, kw_1771, kw_1772, kw_11, kw_1773⟩ ⟨rfl, by decide +kernel, by decide +kernel, by decide +kernel⟩ ⟨rfl, rfl, Nat.le_of_ble_eq_true rfl, Nat.le_of_ble_eq_true rfl⟩ hc rfl rfl (Nat.le_of_ble_eq_true rfl) dL_law_1774 ?_
  exact l_icmp_eq C 2130 dL_law_1777 (by decide) (fun _ => kk) (fun q => absurd rfl q)
set_option maxRecDepth 20000 in
theorem lk_saved {z : xL} (C : CtL z) {cs ss : Nat} (hc : cs ≤ 601024 ∧ ss ≤ 7293034) {M N : xM} {v : Int64} (x4 : Int32) (h1 : vp_in (x4 + 1) (z_L z)) (h2 : vp_in (x4 + 2) (z_L z)) (h3 : vp_in (x4 + 3) (z_L z)) {r : Int32} {M1 : xM} {N1 : xM} (hf : f_X10_saved M (z_x z (x4 + 1).toNatClampNeg) (z_x z (x4 + 2).toNatClampNeg) (z_x z (x4 + 3).toNatClampNeg) = some (r, M1)) (hg : f_X11_saved N (z_x z (x4 + 1).toNatClampNeg) (z_x z (x4 + 2).toNatClampNeg) (z_x z (x4 + 3).toNatClampNeg) = some (r, N1)) (kk : JL z cs ss M1 N1 v 2130 [(0, .ref (z_b z)), (1, .ref (z_1 z 0)), (2, .ref (z_2 z 0)), (3, .ref (z_o z)), (4, .int x4)] []) : JL z cs ss M N v 1782 [(0, .ref (z_b z)), (1, .ref (z_1 z 0)), (2, .ref (z_2 z 0)), (3, .ref (z_o z)), (4, .int x4)] [] := by
  refine l_aload_n C 1 dL_law_1782 rfl rfl ?_
  refine l_aload_n C 0 dL_law_1783 rfl rfl ?_
  refine l_iload C 4 dL_law_1784 rfl ?_
  refine l_iconst (w := 1) C dL_law_1786 rfl ?_
  refine l_iadd C dL_law_1787 ?_
  refine l_sld C h1 dL_law_1788 ?_
  refine l_aload_n C 0 dL_law_1789 rfl rfl ?_
  refine l_iload C 4 dL_law_1790 rfl ?_
  refine l_iconst (w := 2) C dL_law_1792 rfl ?_
  refine l_iadd C dL_law_1793 ?_
  refine l_sld C h2 dL_law_1794 ?_
  refine l_aload_n C 0 dL_law_1795 rfl rfl ?_
  refine l_iload C 4 dL_law_1796 rfl ?_
  refine l_iconst (w := 3) C dL_law_1798 rfl ?_
  refine l_iadd C dL_law_1799 ?_
  refine l_sld C h3 dL_law_1800 ?_
  refine l_callC C (As := [.int (z_x z (x4 + 1).toNatClampNeg), .int (z_x z (x4 + 2).toNatClampNeg), .int (z_x z (x4 + 3).toNatClampNeg)]) (nn := 3) (m_X10_saved _ _ _ M (z_x z (x4 + 1).toNatClampNeg) (z_x z (x4 + 2).toNatClampNeg) (z_x z (x4 + 3).toNatClampNeg) hf) ⟨kw_904, kw_905, kw_906, kw_1, kw_907⟩ ⟨rfl, by decide +kernel, by decide +kernel, by decide +kernel⟩ ⟨rfl, rfl, Nat.le_of_ble_eq_true rfl, Nat.le_of_ble_eq_true rfl⟩ hc rfl rfl (Nat.le_of_ble_eq_true rfl) dL_law_1801 ?_
  refine l_aload_n C 2 dL_law_1804 rfl rfl ?_
  refine l_aload_n C 0 dL_law_1805 rfl rfl ?_
  refine l_iload C 4 dL_law_1806 rfl ?_
  refine l_iconst (w := 1) C dL_law_1808 rfl ?_
  refine l_iadd C dL_law_1809 ?_
  refine l_sld C h1 dL_law_1810 ?_
  refine l_aload_n C 0 dL_law_1811 rfl rfl ?_
  refine l_iload C 4 dL_law_1812 rfl ?_
  refine l_iconst (w := 2) C dL_law_1814 rfl ?_
  refine l_iadd C dL_law_1815 ?_
  refine l_sld C h2 dL_law_1816 ?_
  refine l_aload_n C 0 dL_law_1817 rfl rfl ?_
  refine l_iload C 4 dL_law_1818 rfl ?_
  refine l_iconst (w := 3) C dL_law_1820 rfl ?_
  refine l_iadd C dL_law_1821 ?_
  refine l_sld C h3 dL_law_1822 ?_
  refine l_callM C (As := [.int (z_x z (x4 + 1).toNatClampNeg), .int (z_x z (x4 + 2).toNatClampNeg), .int (z_x z (x4 + 3).toNatClampNeg)]) (nn := 3) (m_X11_saved _ _ _ N (z_x z (x4 + 1).toNatClampNeg) (z_x z (x4 + 2).toNatClampNeg) (z_x z (x4 + 3).toNatClampNeg) hg) ⟨kw_1775, kw_1776, kw_1777, kw_11, kw_1778⟩ ⟨rfl, by decide +kernel, by decide +kernel, by decide +kernel⟩ ⟨rfl, rfl, Nat.le_of_ble_eq_true rfl, Nat.le_of_ble_eq_true rfl⟩ hc rfl rfl (Nat.le_of_ble_eq_true rfl) dL_law_1823 ?_
  exact l_icmp_eq C 2130 dL_law_1826 (by decide) (fun _ => kk) (fun q => absurd rfl q)
set_option maxRecDepth 20000 in
theorem lk_bestDay {z : xL} (C : CtL z) {cs ss : Nat} (hc : cs ≤ 601024 ∧ ss ≤ 7293034) {M N : xM} {v : Int64} (x4 : Int32) (h1 : vp_in (x4 + 1) (z_L z)) (h2 : vp_in (x4 + 2) (z_L z)) (h3 : vp_in (x4 + 3) (z_L z)) (h4 : vp_in (x4 + 4) (z_L z)) {r : Int32} {M1 : xM} {N1 : xM} (hf : f_X10_bestDay M (z_x z (x4 + 1).toNatClampNeg) (z_x z (x4 + 2).toNatClampNeg) (z_x z (x4 + 3).toNatClampNeg) (z_x z (x4 + 4).toNatClampNeg) = some (r, M1)) (hg : f_X11_bestDay N (z_x z (x4 + 1).toNatClampNeg) (z_x z (x4 + 2).toNatClampNeg) (z_x z (x4 + 3).toNatClampNeg) (z_x z (x4 + 4).toNatClampNeg) = some (r, N1)) (kk : JL z cs ss M1 N1 v 2130 [(0, .ref (z_b z)), (1, .ref (z_1 z 0)), (2, .ref (z_2 z 0)), (3, .ref (z_o z)), (4, .int x4)] []) : JL z cs ss M N v 1831 [(0, .ref (z_b z)), (1, .ref (z_1 z 0)), (2, .ref (z_2 z 0)), (3, .ref (z_o z)), (4, .int x4)] [] := by
  refine l_aload_n C 1 dL_law_1831 rfl rfl ?_
  refine l_aload_n C 0 dL_law_1832 rfl rfl ?_
  refine l_iload C 4 dL_law_1833 rfl ?_
  refine l_iconst (w := 1) C dL_law_1835 rfl ?_
  refine l_iadd C dL_law_1836 ?_
  refine l_sld C h1 dL_law_1837 ?_
  refine l_aload_n C 0 dL_law_1838 rfl rfl ?_
  refine l_iload C 4 dL_law_1839 rfl ?_
  refine l_iconst (w := 2) C dL_law_1841 rfl ?_
  refine l_iadd C dL_law_1842 ?_
  refine l_sld C h2 dL_law_1843 ?_
  refine l_aload_n C 0 dL_law_1844 rfl rfl ?_
  refine l_iload C 4 dL_law_1845 rfl ?_
  refine l_iconst (w := 3) C dL_law_1847 rfl ?_
  refine l_iadd C dL_law_1848 ?_
  refine l_sld C h3 dL_law_1849 ?_
  refine l_aload_n C 0 dL_law_1850 rfl rfl ?_
  refine l_iload C 4 dL_law_1851 rfl ?_
  refine l_iconst (w := 4) C dL_law_1853 rfl ?_
  refine l_iadd C dL_law_1854 ?_
  refine l_sld C h4 dL_law_1855 ?_
  refine l_callC C (As := [.int (z_x z (x4 + 1).toNatClampNeg), .int (z_x z (x4 + 2).toNatClampNeg), .int (z_x z (x4 + 3).toNatClampNeg), .int (z_x z (x4 + 4).toNatClampNeg)]) (nn := 4) (m_X10_bestDay _ _ _ M (z_x z (x4 + 1).toNatClampNeg) (z_x z (x4 + 2).toNatClampNeg) (z_x z (x4 + 3).toNatClampNeg) (z_x z (x4 + 4).toNatClampNeg) hf) ⟨kw_913, kw_914, kw_915, kw_1, kw_916⟩ ⟨rfl, by decide +kernel, by decide +kernel, by decide +kernel⟩ ⟨rfl, rfl, Nat.le_of_ble_eq_true rfl, Nat.le_of_ble_eq_true rfl⟩ hc rfl rfl (Nat.le_of_ble_eq_true rfl) dL_law_1856 ?_
  refine l_aload_n C 2 dL_law_1859 rfl rfl ?_
  refine l_aload_n C 0 dL_law_1860 rfl rfl ?_
  refine l_iload C 4 dL_law_1861 rfl ?_
  refine l_iconst (w := 1) C dL_law_1863 rfl ?_
  refine l_iadd C dL_law_1864 ?_
  refine l_sld C h1 dL_law_1865 ?_
  refine l_aload_n C 0 dL_law_1866 rfl rfl ?_
  refine l_iload C 4 dL_law_1867 rfl ?_
  refine l_iconst (w := 2) C dL_law_1869 rfl ?_
  refine l_iadd C dL_law_1870 ?_
  refine l_sld C h2 dL_law_1871 ?_
  refine l_aload_n C 0 dL_law_1872 rfl rfl ?_
  refine l_iload C 4 dL_law_1873 rfl ?_
  refine l_iconst (w := 3) C dL_law_1875 rfl ?_
  refine l_iadd C dL_law_1876 ?_
  refine l_sld C h3 dL_law_1877 ?_
  refine l_aload_n C 0 dL_law_1878 rfl rfl ?_
  refine l_iload C 4 dL_law_1879 rfl ?_
  refine l_iconst (w := 4) C dL_law_1881 rfl ?_
  refine l_iadd C dL_law_1882 ?_
  refine l_sld C h4 dL_law_1883 ?_
  refine l_callM C (As := [.int (z_x z (x4 + 1).toNatClampNeg), .int (z_x z (x4 + 2).toNatClampNeg), .int (z_x z (x4 + 3).toNatClampNeg), .int (z_x z (x4 + 4).toNatClampNeg)]) (nn := 4) (m_X11_bestDay _ _ _ N (z_x z (x4 + 1).toNatClampNeg) (z_x z (x4 + 2).toNatClampNeg) (z_x z (x4 + 3).toNatClampNeg) (z_x z (x4 + 4).toNatClampNeg) hg) ⟨kw_1783, kw_1784, kw_1785, kw_11, kw_1786⟩ ⟨rfl, by decide +kernel, by decide +kernel, by decide +kernel⟩ ⟨rfl, rfl, Nat.le_of_ble_eq_true rfl, Nat.le_of_ble_eq_true rfl⟩ hc rfl rfl (Nat.le_of_ble_eq_true rfl) dL_law_1884 ?_
  exact l_icmp_eq C 2130 dL_law_1887 (by decide) (fun _ => kk) (fun q => absurd rfl q)
set_option maxRecDepth 20000 in
theorem lk_ofAge {z : xL} (C : CtL z) {cs ss : Nat} (hc : cs ≤ 601024 ∧ ss ≤ 7293034) {M N : xM} {v : Int64} (x4 : Int32) (h1 : vp_in (x4 + 1) (z_L z)) {r : Int32} {N1 : xM} (hf : f_X10_ofAge M (z_x z (x4 + 1).toNatClampNeg) = some r) (hg : f_X11_ofAge N (z_x z (x4 + 1).toNatClampNeg) = some (r, N1)) (kk : JL z cs ss M N1 v 2130 [(0, .ref (z_b z)), (1, .ref (z_1 z 0)), (2, .ref (z_2 z 0)), (3, .ref (z_o z)), (4, .int x4)] []) : JL z cs ss M N v 1892 [(0, .ref (z_b z)), (1, .ref (z_1 z 0)), (2, .ref (z_2 z 0)), (3, .ref (z_o z)), (4, .int x4)] [] := by
  refine l_aload_n C 1 dL_law_1892 rfl rfl ?_
  refine l_aload_n C 0 dL_law_1893 rfl rfl ?_
  refine l_iload C 4 dL_law_1894 rfl ?_
  refine l_iconst (w := 1) C dL_law_1896 rfl ?_
  refine l_iadd C dL_law_1897 ?_
  refine l_sld C h1 dL_law_1898 ?_
  refine l_callC C (As := [.int (z_x z (x4 + 1).toNatClampNeg)]) (nn := 1) (m_X10_ofAge _ _ _ M (z_x z (x4 + 1).toNatClampNeg) hf) ⟨kw_917, kw_918, kw_919, kw_1, kw_920⟩ ⟨rfl, by decide +kernel, by decide +kernel, by decide +kernel⟩ ⟨rfl, rfl, Nat.le_of_ble_eq_true rfl, Nat.le_of_ble_eq_true rfl⟩ hc rfl rfl (Nat.le_of_ble_eq_true rfl) dL_law_1899 ?_
  refine l_aload_n C 2 dL_law_1902 rfl rfl ?_
  refine l_aload_n C 0 dL_law_1903 rfl rfl ?_
  refine l_iload C 4 dL_law_1904 rfl ?_
  refine l_iconst (w := 1) C dL_law_1906 rfl ?_
  refine l_iadd C dL_law_1907 ?_
  refine l_sld C h1 dL_law_1908 ?_
  refine l_callM C (As := [.int (z_x z (x4 + 1).toNatClampNeg)]) (nn := 1) (m_X11_ofAge _ _ _ N (z_x z (x4 + 1).toNatClampNeg) hg) ⟨kw_1787, kw_1788, kw_1789, kw_11, kw_1790⟩ ⟨rfl, by decide +kernel, by decide +kernel, by decide +kernel⟩ ⟨rfl, rfl, Nat.le_of_ble_eq_true rfl, Nat.le_of_ble_eq_true rfl⟩ hc rfl rfl (Nat.le_of_ble_eq_true rfl) dL_law_1909 ?_
  exact l_icmp_eq C 2130 dL_law_1912 (by decide) (fun _ => kk) (fun q => absurd rfl q)
set_option maxRecDepth 20000 in
theorem lk_due {z : xL} (C : CtL z) {cs ss : Nat} (hc : cs ≤ 601024 ∧ ss ≤ 7293034) {M N : xM} {v : Int64} (x4 : Int32) (h1 : vp_in (x4 + 1) (z_L z)) {r : Int32} {N1 : xM} (hf : f_X10_due M (z_x z (x4 + 1).toNatClampNeg) = some r) (hg : f_X11_due N (z_x z (x4 + 1).toNatClampNeg) = some (r, N1)) (kk : JL z cs ss M N1 v 2130 [(0, .ref (z_b z)), (1, .ref (z_1 z 0)), (2, .ref (z_2 z 0)), (3, .ref (z_o z)), (4, .int x4)] []) : JL z cs ss M N v 1917 [(0, .ref (z_b z)), (1, .ref (z_1 z 0)), (2, .ref (z_2 z 0)), (3, .ref (z_o z)), (4, .int x4)] [] := by
  refine l_aload_n C 1 dL_law_1917 rfl rfl ?_
  refine l_aload_n C 0 dL_law_1918 rfl rfl ?_
  refine l_iload C 4 dL_law_1919 rfl ?_
  refine l_iconst (w := 1) C dL_law_1921 rfl ?_
  refine l_iadd C dL_law_1922 ?_
  refine l_sld C h1 dL_law_1923 ?_
  refine l_callC C (As := [.int (z_x z (x4 + 1).toNatClampNeg)]) (nn := 1) (m_X10_due _ _ _ M (z_x z (x4 + 1).toNatClampNeg) hf) ⟨kw_922, kw_923, kw_924, kw_1, kw_925⟩ ⟨rfl, by decide +kernel, by decide +kernel, by decide +kernel⟩ ⟨rfl, rfl, Nat.le_of_ble_eq_true rfl, Nat.le_of_ble_eq_true rfl⟩ hc rfl rfl (Nat.le_of_ble_eq_true rfl) dL_law_1924 ?_
  refine l_aload_n C 2 dL_law_1927 rfl rfl ?_
  refine l_aload_n C 0 dL_law_1928 rfl rfl ?_
  refine l_iload C 4 dL_law_1929 rfl ?_
  refine l_iconst (w := 1) C dL_law_1931 rfl ?_
  refine l_iadd C dL_law_1932 ?_
  refine l_sld C h1 dL_law_1933 ?_
  refine l_callM C (As := [.int (z_x z (x4 + 1).toNatClampNeg)]) (nn := 1) (m_X11_due _ _ _ N (z_x z (x4 + 1).toNatClampNeg) hg) ⟨kw_1791, kw_1792, kw_1793, kw_11, kw_1794⟩ ⟨rfl, by decide +kernel, by decide +kernel, by decide +kernel⟩ ⟨rfl, rfl, Nat.le_of_ble_eq_true rfl, Nat.le_of_ble_eq_true rfl⟩ hc rfl rfl (Nat.le_of_ble_eq_true rfl) dL_law_1934 ?_
  exact l_icmp_eq C 2130 dL_law_1937 (by decide) (fun _ => kk) (fun q => absurd rfl q)
set_option maxRecDepth 20000 in
theorem lk_wardOf {z : xL} (C : CtL z) {cs ss : Nat} (hc : cs ≤ 601024 ∧ ss ≤ 7293034) {M N : xM} {v : Int64} (x4 : Int32) (h1 : vp_in (x4 + 1) (z_L z)) (h2 : vp_in (x4 + 2) (z_L z)) {r : Int32} {N1 : xM} (hf : f_X10_wardOf M (z_x z (x4 + 1).toNatClampNeg) (z_x z (x4 + 2).toNatClampNeg) = some r) (hg : f_X11_wardOf N (z_x z (x4 + 1).toNatClampNeg) (z_x z (x4 + 2).toNatClampNeg) = some (r, N1)) (kk : JL z cs ss M N1 v 2130 [(0, .ref (z_b z)), (1, .ref (z_1 z 0)), (2, .ref (z_2 z 0)), (3, .ref (z_o z)), (4, .int x4)] []) : JL z cs ss M N v 1942 [(0, .ref (z_b z)), (1, .ref (z_1 z 0)), (2, .ref (z_2 z 0)), (3, .ref (z_o z)), (4, .int x4)] [] := by
  refine l_aload_n C 1 dL_law_1942 rfl rfl ?_
  refine l_aload_n C 0 dL_law_1943 rfl rfl ?_
  refine l_iload C 4 dL_law_1944 rfl ?_
  refine l_iconst (w := 1) C dL_law_1946 rfl ?_
  refine l_iadd C dL_law_1947 ?_
  refine l_sld C h1 dL_law_1948 ?_
  refine l_aload_n C 0 dL_law_1949 rfl rfl ?_
  refine l_iload C 4 dL_law_1950 rfl ?_
  refine l_iconst (w := 2) C dL_law_1952 rfl ?_
  refine l_iadd C dL_law_1953 ?_
  refine l_sld C h2 dL_law_1954 ?_
  refine l_callC C (As := [.int (z_x z (x4 + 1).toNatClampNeg), .int (z_x z (x4 + 2).toNatClampNeg)]) (nn := 2) (m_X10_wardOf _ _ _ M (z_x z (x4 + 1).toNatClampNeg) (z_x z (x4 + 2).toNatClampNeg) hf) ⟨kw_926, kw_927, kw_928, kw_1, kw_929⟩ ⟨rfl, by decide +kernel, by decide +kernel, by decide +kernel⟩ ⟨rfl, rfl, Nat.le_of_ble_eq_true rfl, Nat.le_of_ble_eq_true rfl⟩ hc rfl rfl (Nat.le_of_ble_eq_true rfl) dL_law_1955 ?_
  refine l_aload_n C 2 dL_law_1958 rfl rfl ?_
  refine l_aload_n C 0 dL_law_1959 rfl rfl ?_
  refine l_iload C 4 dL_law_1960 rfl ?_
  refine l_iconst (w := 1) C dL_law_1962 rfl ?_
  refine l_iadd C dL_law_1963 ?_
  refine l_sld C h1 dL_law_1964 ?_
  refine l_aload_n C 0 dL_law_1965 rfl rfl ?_
  refine l_iload C 4 dL_law_1966 rfl ?_
  refine l_iconst (w := 2) C dL_law_1968 rfl ?_
  refine l_iadd C dL_law_1969 ?_
  refine l_sld C h2 dL_law_1970 ?_
  refine l_callM C (As := [.int (z_x z (x4 + 1).toNatClampNeg), .int (z_x z (x4 + 2).toNatClampNeg)]) (nn := 2) (m_X11_wardOf _ _ _ N (z_x z (x4 + 1).toNatClampNeg) (z_x z (x4 + 2).toNatClampNeg) hg) ⟨kw_1795, kw_1796, kw_1797, kw_11, kw_1798⟩ ⟨rfl, by decide +kernel, by decide +kernel, by decide +kernel⟩ ⟨rfl, rfl, Nat.le_of_ble_eq_true rfl, Nat.le_of_ble_eq_true rfl⟩ hc rfl rfl (Nat.le_of_ble_eq_true rfl) dL_law_1971 ?_
  exact l_icmp_eq C 2130 dL_law_1974 (by decide) (fun _ => kk) (fun q => absurd rfl q)
set_option maxRecDepth 20000 in
theorem lk_undo {z : xL} (C : CtL z) {cs ss : Nat} (hc : cs ≤ 601024 ∧ ss ≤ 7293034) {M N : xM} {v : Int64} (x4 : Int32)  {r : Int32} {M1 : xM} {N1 : xM} (hf : f_X10_undo M  = some (r, M1)) (hg : f_X11_undo N  = some (r, N1)) (kk : JL z cs ss M1 N1 v 2130 [(0, .ref (z_b z)), (1, .ref (z_1 z 0)), (2, .ref (z_2 z 0)), (3, .ref (z_o z)), (4, .int x4)] []) : JL z cs ss M N v 2004 [(0, .ref (z_b z)), (1, .ref (z_1 z 0)), (2, .ref (z_2 z 0)), (3, .ref (z_o z)), (4, .int x4)] [] := by
  refine l_aload_n C 1 dL_law_2004 rfl rfl ?_
  refine l_callC C (As := []) (nn := 0) (m_X10_undo _ _ _ M  hf) ⟨kw_1118, kw_1119, kw_1120, kw_1, kw_1121⟩ ⟨rfl, by decide +kernel, by decide +kernel, by decide +kernel⟩ ⟨rfl, rfl, Nat.le_of_ble_eq_true rfl, Nat.le_of_ble_eq_true rfl⟩ hc rfl rfl (Nat.le_of_ble_eq_true rfl) dL_law_2005 ?_
  refine l_aload_n C 2 dL_law_2008 rfl rfl ?_
  refine l_callM C (As := []) (nn := 0) (m_X11_undo _ _ _ N  hg) ⟨kw_1811, kw_1812, kw_1813, kw_11, kw_1814⟩ ⟨rfl, by decide +kernel, by decide +kernel, by decide +kernel⟩ ⟨rfl, rfl, Nat.le_of_ble_eq_true rfl, Nat.le_of_ble_eq_true rfl⟩ hc rfl rfl (Nat.le_of_ble_eq_true rfl) dL_law_2009 ?_
  exact l_icmp_eq C 2130 dL_law_2012 (by decide) (fun _ => kk) (fun q => absurd rfl q)
set_option maxRecDepth 20000 in
theorem lk_image {z : xL} (C : CtL z) {cs ss : Nat} (hc : cs ≤ 601024 ∧ ss ≤ 7293034) {M N : xM} {v : Int64} (x4 : Int32)  {r : Int32} {M1 : xM} {N1 : xM} (hf : f_X10_image M  = some (r, M1)) (hg : f_X11_image N  = some (r, N1)) (kk : JL z cs ss M1 N1 v 2130 [(0, .ref (z_b z)), (1, .ref (z_1 z 0)), (2, .ref (z_2 z 0)), (3, .ref (z_o z)), (4, .int x4)] []) : JL z cs ss M N v 2017 [(0, .ref (z_b z)), (1, .ref (z_1 z 0)), (2, .ref (z_2 z 0)), (3, .ref (z_o z)), (4, .int x4)] [] := by
  refine l_aload_n C 1 dL_law_2017 rfl rfl ?_
  refine l_callC C (As := []) (nn := 0) (m_X10_image _ _ _ M  hf) ⟨kw_1126, kw_1127, kw_1128, kw_1, kw_1129⟩ ⟨rfl, by decide +kernel, by decide +kernel, by decide +kernel⟩ ⟨rfl, rfl, Nat.le_of_ble_eq_true rfl, Nat.le_of_ble_eq_true rfl⟩ hc rfl rfl (Nat.le_of_ble_eq_true rfl) dL_law_2018 ?_
  refine l_aload_n C 2 dL_law_2021 rfl rfl ?_
  refine l_callM C (As := []) (nn := 0) (m_X11_image _ _ _ N  hg) ⟨kw_1815, kw_1816, kw_1817, kw_11, kw_1818⟩ ⟨rfl, by decide +kernel, by decide +kernel, by decide +kernel⟩ ⟨rfl, rfl, Nat.le_of_ble_eq_true rfl, Nat.le_of_ble_eq_true rfl⟩ hc rfl rfl (Nat.le_of_ble_eq_true rfl) dL_law_2022 ?_
  exact l_icmp_eq C 2130 dL_law_2025 (by decide) (fun _ => kk) (fun q => absurd rfl q)
set_option maxRecDepth 20000 in
theorem lk_back {z : xL} (C : CtL z) {cs ss : Nat} (hc : cs ≤ 601024 ∧ ss ≤ 7293034) {M N : xM} {v : Int64} (x4 : Int32)  {r : Int32} {M1 : xM} {N1 : xM} (hf : f_X10_back M  = some (r, M1)) (hg : f_X11_back N  = some (r, N1)) (kk : JL z cs ss M1 N1 v 2130 [(0, .ref (z_b z)), (1, .ref (z_1 z 0)), (2, .ref (z_2 z 0)), (3, .ref (z_o z)), (4, .int x4)] []) : JL z cs ss M N v 2030 [(0, .ref (z_b z)), (1, .ref (z_1 z 0)), (2, .ref (z_2 z 0)), (3, .ref (z_o z)), (4, .int x4)] [] := by
  refine l_aload_n C 1 dL_law_2030 rfl rfl ?_
  refine l_callC C (As := []) (nn := 0) (m_X10_back _ _ _ M  hf) ⟨kw_1146, kw_1147, kw_1148, kw_1, kw_1149⟩ ⟨rfl, by decide +kernel, by decide +kernel, by decide +kernel⟩ ⟨rfl, rfl, Nat.le_of_ble_eq_true rfl, Nat.le_of_ble_eq_true rfl⟩ hc rfl rfl (Nat.le_of_ble_eq_true rfl) dL_law_2031 ?_
  refine l_aload_n C 2 dL_law_2034 rfl rfl ?_
  refine l_callM C (As := []) (nn := 0) (m_X11_back _ _ _ N  hg) ⟨kw_1819, kw_1820, kw_1821, kw_11, kw_1822⟩ ⟨rfl, by decide +kernel, by decide +kernel, by decide +kernel⟩ ⟨rfl, rfl, Nat.le_of_ble_eq_true rfl, Nat.le_of_ble_eq_true rfl⟩ hc rfl rfl (Nat.le_of_ble_eq_true rfl) dL_law_2035 ?_
  exact l_icmp_eq C 2130 dL_law_2038 (by decide) (fun _ => kk) (fun q => absurd rfl q)
set_option maxRecDepth 20000 in
theorem lk_status {z : xL} (C : CtL z) {cs ss : Nat} (hc : cs ≤ 601024 ∧ ss ≤ 7293034) {M N : xM} {v : Int64} (x4 : Int32) (h1 : vp_in (x4 + 1) (z_L z)) {r : Int32} {N1 : xM} (hf : f_X10_status M (z_x z (x4 + 1).toNatClampNeg) = some r) (hg : f_X11_status N (z_x z (x4 + 1).toNatClampNeg) = some (r, N1)) (kk : JL z cs ss M N1 v 2130 [(0, .ref (z_b z)), (1, .ref (z_1 z 0)), (2, .ref (z_2 z 0)), (3, .ref (z_o z)), (4, .int x4)] []) : JL z cs ss M N v 2043 [(0, .ref (z_b z)), (1, .ref (z_1 z 0)), (2, .ref (z_2 z 0)), (3, .ref (z_o z)), (4, .int x4)] [] := by
  refine l_aload_n C 1 dL_law_2043 rfl rfl ?_
  refine l_aload_n C 0 dL_law_2044 rfl rfl ?_
  refine l_iload C 4 dL_law_2045 rfl ?_
  refine l_iconst (w := 1) C dL_law_2047 rfl ?_
  refine l_iadd C dL_law_2048 ?_
  refine l_sld C h1 dL_law_2049 ?_
  refine l_callC C (As := [.int (z_x z (x4 + 1).toNatClampNeg)]) (nn := 1) (m_X10_status _ _ _ M (z_x z (x4 + 1).toNatClampNeg) hf) ⟨kw_1150, kw_1151, kw_1152, kw_1, kw_1153⟩ ⟨rfl, by decide +kernel, by decide +kernel, by decide +kernel⟩ ⟨rfl, rfl, Nat.le_of_ble_eq_true rfl, Nat.le_of_ble_eq_true rfl⟩ hc rfl rfl (Nat.le_of_ble_eq_true rfl) dL_law_2050 ?_
  refine l_aload_n C 2 dL_law_2053 rfl rfl ?_
  refine l_aload_n C 0 dL_law_2054 rfl rfl ?_
  refine l_iload C 4 dL_law_2055 rfl ?_
  refine l_iconst (w := 1) C dL_law_2057 rfl ?_
  refine l_iadd C dL_law_2058 ?_
  refine l_sld C h1 dL_law_2059 ?_
  refine l_callM C (As := [.int (z_x z (x4 + 1).toNatClampNeg)]) (nn := 1) (m_X11_status _ _ _ N (z_x z (x4 + 1).toNatClampNeg) hg) ⟨kw_1823, kw_1824, kw_1825, kw_11, kw_1826⟩ ⟨rfl, by decide +kernel, by decide +kernel, by decide +kernel⟩ ⟨rfl, rfl, Nat.le_of_ble_eq_true rfl, Nat.le_of_ble_eq_true rfl⟩ hc rfl rfl (Nat.le_of_ble_eq_true rfl) dL_law_2060 ?_
  exact l_icmp_eq C 2130 dL_law_2063 (by decide) (fun _ => kk) (fun q => absurd rfl q)
set_option maxRecDepth 20000 in
theorem lk_most {z : xL} (C : CtL z) {cs ss : Nat} (hc : cs ≤ 601024 ∧ ss ≤ 7293034) {M N : xM} {v : Int64} (x4 : Int32) (h1 : vp_in (x4 + 1) (z_L z)) (h2 : vp_in (x4 + 2) (z_L z)) {r : Int32} {M1 : xM} {N1 : xM} (hf : f_X10_most M (z_x z (x4 + 1).toNatClampNeg) (z_x z (x4 + 2).toNatClampNeg) = some (r, M1)) (hg : f_X11_most N (z_x z (x4 + 1).toNatClampNeg) (z_x z (x4 + 2).toNatClampNeg) = some (r, N1)) (kk : JL z cs ss M1 N1 v 2130 [(0, .ref (z_b z)), (1, .ref (z_1 z 0)), (2, .ref (z_2 z 0)), (3, .ref (z_o z)), (4, .int x4)] []) : JL z cs ss M N v 2068 [(0, .ref (z_b z)), (1, .ref (z_1 z 0)), (2, .ref (z_2 z 0)), (3, .ref (z_o z)), (4, .int x4)] [] := by
  refine l_aload_n C 1 dL_law_2068 rfl rfl ?_
  refine l_aload_n C 0 dL_law_2069 rfl rfl ?_
  refine l_iload C 4 dL_law_2070 rfl ?_
  refine l_iconst (w := 1) C dL_law_2072 rfl ?_
  refine l_iadd C dL_law_2073 ?_
  refine l_sld C h1 dL_law_2074 ?_
  refine l_aload_n C 0 dL_law_2075 rfl rfl ?_
  refine l_iload C 4 dL_law_2076 rfl ?_
  refine l_iconst (w := 2) C dL_law_2078 rfl ?_
  refine l_iadd C dL_law_2079 ?_
  refine l_sld C h2 dL_law_2080 ?_
  refine l_callC C (As := [.int (z_x z (x4 + 1).toNatClampNeg), .int (z_x z (x4 + 2).toNatClampNeg)]) (nn := 2) (m_X10_most _ _ _ M (z_x z (x4 + 1).toNatClampNeg) (z_x z (x4 + 2).toNatClampNeg) hf) ⟨kw_1154, kw_1155, kw_1156, kw_1, kw_1157⟩ ⟨rfl, by decide +kernel, by decide +kernel, by decide +kernel⟩ ⟨rfl, rfl, Nat.le_of_ble_eq_true rfl, Nat.le_of_ble_eq_true rfl⟩ hc rfl rfl (Nat.le_of_ble_eq_true rfl) dL_law_2081 ?_
  refine l_aload_n C 2 dL_law_2084 rfl rfl ?_
  refine l_aload_n C 0 dL_law_2085 rfl rfl ?_
  refine l_iload C 4 dL_law_2086 rfl ?_
  refine l_iconst (w := 1) C dL_law_2088 rfl ?_
  refine l_iadd C dL_law_2089 ?_
  refine l_sld C h1 dL_law_2090 ?_
  refine l_aload_n C 0 dL_law_2091 rfl rfl ?_
  refine l_iload C 4 dL_law_2092 rfl ?_
  refine l_iconst (w := 2) C dL_law_2094 rfl ?_
  refine l_iadd C dL_law_2095 ?_
  refine l_sld C h2 dL_law_2096 ?_
  refine l_callM C (As := [.int (z_x z (x4 + 1).toNatClampNeg), .int (z_x z (x4 + 2).toNatClampNeg)]) (nn := 2) (m_X11_most _ _ _ N (z_x z (x4 + 1).toNatClampNeg) (z_x z (x4 + 2).toNatClampNeg) hg) ⟨kw_1828, kw_1829, kw_1830, kw_11, kw_1831⟩ ⟨rfl, by decide +kernel, by decide +kernel, by decide +kernel⟩ ⟨rfl, rfl, Nat.le_of_ble_eq_true rfl, Nat.le_of_ble_eq_true rfl⟩ hc rfl rfl (Nat.le_of_ble_eq_true rfl) dL_law_2097 ?_
  exact l_icmp_eq C 2130 dL_law_2100 (by decide) (fun _ => kk) (fun q => absurd rfl q)
set_option maxRecDepth 20000 in
theorem lk_count {z : xL} (C : CtL z) {cs ss : Nat} (hc : cs ≤ 601024 ∧ ss ≤ 7293034) {M N : xM} {v : Int64} (x4 : Int32) (h1 : vp_in (x4 + 1) (z_L z)) {r : Int32} {N1 : xM} (hf : f_X10_count M (z_x z (x4 + 1).toNatClampNeg) = some r) (hg : f_X11_count N (z_x z (x4 + 1).toNatClampNeg) = some (r, N1)) (kk : JL z cs ss M N1 v 2130 [(0, .ref (z_b z)), (1, .ref (z_1 z 0)), (2, .ref (z_2 z 0)), (3, .ref (z_o z)), (4, .int x4)] []) : JL z cs ss M N v 2105 [(0, .ref (z_b z)), (1, .ref (z_1 z 0)), (2, .ref (z_2 z 0)), (3, .ref (z_o z)), (4, .int x4)] [] := by
  refine l_aload_n C 1 dL_law_2105 rfl rfl ?_
  refine l_aload_n C 0 dL_law_2106 rfl rfl ?_
  refine l_iload C 4 dL_law_2107 rfl ?_
  refine l_iconst (w := 1) C dL_law_2109 rfl ?_
  refine l_iadd C dL_law_2110 ?_
  refine l_sld C h1 dL_law_2111 ?_
  refine l_callC C (As := [.int (z_x z (x4 + 1).toNatClampNeg)]) (nn := 1) (m_X10_count _ _ _ M (z_x z (x4 + 1).toNatClampNeg) hf) ⟨kw_1162, kw_1163, kw_1164, kw_1, kw_1165⟩ ⟨rfl, by decide +kernel, by decide +kernel, by decide +kernel⟩ ⟨rfl, rfl, Nat.le_of_ble_eq_true rfl, Nat.le_of_ble_eq_true rfl⟩ hc rfl rfl (Nat.le_of_ble_eq_true rfl) dL_law_2112 ?_
  refine l_aload_n C 2 dL_law_2115 rfl rfl ?_
  refine l_aload_n C 0 dL_law_2116 rfl rfl ?_
  refine l_iload C 4 dL_law_2117 rfl ?_
  refine l_iconst (w := 1) C dL_law_2119 rfl ?_
  refine l_iadd C dL_law_2120 ?_
  refine l_sld C h1 dL_law_2121 ?_
  refine l_callM C (As := [.int (z_x z (x4 + 1).toNatClampNeg)]) (nn := 1) (m_X11_count _ _ _ N (z_x z (x4 + 1).toNatClampNeg) hg) ⟨kw_1836, kw_1837, kw_1838, kw_11, kw_1839⟩ ⟨rfl, by decide +kernel, by decide +kernel, by decide +kernel⟩ ⟨rfl, rfl, Nat.le_of_ble_eq_true rfl, Nat.le_of_ble_eq_true rfl⟩ hc rfl rfl (Nat.le_of_ble_eq_true rfl) dL_law_2122 ?_
  exact l_icmp_eq C 2130 dL_law_2125 (by decide) (fun _ => kk) (fun q => absurd rfl q)
