/-! ===== the law's loop (printed by genlaw.py) ===== -/
theorem nI_k1 (i : Nat) : nI i + 1 = nI (i + 1) := nI_1 i
theorem nI_k2 (i : Nat) : nI i + 2 = nI (i + 2) := nI_add i 2
theorem nI_k3 (i : Nat) : nI i + 3 = nI (i + 3) := nI_add i 3
theorem nI_k4 (i : Nat) : nI i + 4 = nI (i + 4) := nI_add i 4
theorem nI_k5 (i : Nat) : nI i + 5 = nI (i + 5) := nI_add i 5
theorem rc_x {h : aH} {M : Nat} (hM : mK M = 6) {n : Int32} (h0 : oHt h n) : rcv h (mK M) (.ref 0) = true := by
  unfold oHt at h0
  simp only [rcv, h0, hM]
  decide
theorem rc_y {h : aH} {M : Nat} (hM : mK M = 7) {u ln sm a b c d e f : Int32} (h0 : oMod h u ln sm a b c d e f) : rcv h (mK M) (.ref 73) = true := by
  unfold oMod at h0
  simp only [rcv, h0, hM]
  decide
theorem law_c0 {X : aX} {d i : Nat} {hE h h1 h2 : aH} {r : Int32} (hL : X.1 ≤ 2560) (hi : i + 5 ≤ X.1) (rc1 : rcv h (mK m_Ht_write) (.ref 0) = true) (rc2 : rcv h1 (mK m_Mod_write) (.ref 73) = true) (e1 : aEv X d m_Ht_write (.ref 0 :: [.int (X.2 (i + 1))]) h (some (.int r)) h1) (e2 : aEv X d m_Mod_write (.ref 73 :: [.int (X.2 (i + 1))]) h1 (some (.int r)) h2) (kk : aRun (aEv X d) X mLaw (some (.int 1), hE) 18 [.float 3, .ref 0, .ref 73, .int (nI (i + 5))] [] h2) : aRun (aEv X d) X mLaw (some (.int 1), hE) 184 [.float 3, .ref 0, .ref 73, .int (nI i)] [] h := by
  rw [x_law_184]
  rw [x_law_185f]
  rw [x_law_186]
  rw [x_law_187]
  rw [x_law_188, nI_k1]
  rw [x_law_189k kA_3]
  refine ⟨vp_in_nI (by omega) (by omega), ?_⟩
  rw [nI_clamp (by omega)]
  rw [x_law_190]
  refine ⟨rc1, Nat.le_of_ble_eq_true rfl, _, _, e1, ?_⟩
  show aRun _ _ _ _ 193 _ [.int r] h1
  rw [x_law_193]
  rw [x_law_194f]
  rw [x_law_195]
  rw [x_law_196]
  rw [x_law_197, nI_k1]
  rw [x_law_198k kA_3]
  refine ⟨vp_in_nI (by omega) (by omega), ?_⟩
  rw [nI_clamp (by omega)]
  rw [x_law_199]
  refine ⟨rc2, Nat.le_of_ble_eq_true rfl, _, _, e2, ?_⟩
  show aRun _ _ _ _ 202 _ [.int r, .int r] h2
  rw [x_law_202, if_pos rfl]
  rw [x_law_1076, nI_k5]
  rw [x_law_1079]
  exact kk
theorem law_c1 {X : aX} {d i : Nat} {hE h h1 h2 : aH} {r : Int32} (hL : X.1 ≤ 2560) (hi : i + 5 ≤ X.1) (rc1 : rcv h (mK m_Ht_erase) (.ref 0) = true) (rc2 : rcv h1 (mK m_Mod_erase) (.ref 73) = true) (e1 : aEv X d m_Ht_erase (.ref 0 :: []) h (some (.int r)) h1) (e2 : aEv X d m_Mod_erase (.ref 73 :: []) h1 (some (.int r)) h2) (kk : aRun (aEv X d) X mLaw (some (.int 1), hE) 18 [.float 3, .ref 0, .ref 73, .int (nI (i + 5))] [] h2) : aRun (aEv X d) X mLaw (some (.int 1), hE) 207 [.float 3, .ref 0, .ref 73, .int (nI i)] [] h := by
  rw [x_law_207]
  rw [x_law_208]
  refine ⟨rc1, Nat.le_of_ble_eq_true rfl, _, _, e1, ?_⟩
  show aRun _ _ _ _ 211 _ [.int r] h1
  rw [x_law_211]
  rw [x_law_212]
  refine ⟨rc2, Nat.le_of_ble_eq_true rfl, _, _, e2, ?_⟩
  show aRun _ _ _ _ 215 _ [.int r, .int r] h2
  rw [x_law_215, if_pos rfl]
  rw [x_law_1076, nI_k5]
  rw [x_law_1079]
  exact kk
theorem law_c2 {X : aX} {d i : Nat} {hE h h1 h2 : aH} {r : Int32} (hL : X.1 ≤ 2560) (hi : i + 5 ≤ X.1) (rc1 : rcv h (mK m_Ht_fault) (.ref 0) = true) (rc2 : rcv h1 (mK m_Mod_fault) (.ref 73) = true) (e1 : aEv X d m_Ht_fault (.ref 0 :: []) h (some (.int r)) h1) (e2 : aEv X d m_Mod_fault (.ref 73 :: []) h1 (some (.int r)) h2) (kk : aRun (aEv X d) X mLaw (some (.int 1), hE) 18 [.float 3, .ref 0, .ref 73, .int (nI (i + 5))] [] h2) : aRun (aEv X d) X mLaw (some (.int 1), hE) 220 [.float 3, .ref 0, .ref 73, .int (nI i)] [] h := by
  rw [x_law_220]
  rw [x_law_221]
  refine ⟨rc1, Nat.le_of_ble_eq_true rfl, _, _, e1, ?_⟩
  show aRun _ _ _ _ 224 _ [.int r] h1
  rw [x_law_224]
  rw [x_law_225]
  refine ⟨rc2, Nat.le_of_ble_eq_true rfl, _, _, e2, ?_⟩
  show aRun _ _ _ _ 228 _ [.int r, .int r] h2
  rw [x_law_228, if_pos rfl]
  rw [x_law_1076, nI_k5]
  rw [x_law_1079]
  exact kk
theorem law_c3 {X : aX} {d i : Nat} {hE h h1 h2 : aH} {r : Int32} (hL : X.1 ≤ 2560) (hi : i + 5 ≤ X.1) (rc1 : rcv h (mK m_Ht_commons) (.ref 0) = true) (rc2 : rcv h1 (mK m_Mod_commons) (.ref 73) = true) (e1 : aEv X d m_Ht_commons (.ref 0 :: []) h (some (.int r)) h1) (e2 : aEv X d m_Mod_commons (.ref 73 :: []) h1 (some (.int r)) h2) (kk : aRun (aEv X d) X mLaw (some (.int 1), hE) 18 [.float 3, .ref 0, .ref 73, .int (nI (i + 5))] [] h2) : aRun (aEv X d) X mLaw (some (.int 1), hE) 233 [.float 3, .ref 0, .ref 73, .int (nI i)] [] h := by
  rw [x_law_233]
  rw [x_law_234]
  refine ⟨rc1, Nat.le_of_ble_eq_true rfl, _, _, e1, ?_⟩
  show aRun _ _ _ _ 237 _ [.int r] h1
  rw [x_law_237]
  rw [x_law_238]
  refine ⟨rc2, Nat.le_of_ble_eq_true rfl, _, _, e2, ?_⟩
  show aRun _ _ _ _ 241 _ [.int r, .int r] h2
  rw [x_law_241, if_pos rfl]
  rw [x_law_1076, nI_k5]
  rw [x_law_1079]
  exact kk
theorem law_c4 {X : aX} {d i : Nat} {hE h h1 h2 : aH} {r : Int32} (hL : X.1 ≤ 2560) (hi : i + 5 ≤ X.1) (rc1 : rcv h (mK m_Ht_house) (.ref 0) = true) (rc2 : rcv h1 (mK m_Mod_house) (.ref 73) = true) (e1 : aEv X d m_Ht_house (.ref 0 :: [.int (X.2 (i + 1)), .int (X.2 (i + 2))]) h (some (.int r)) h1) (e2 : aEv X d m_Mod_house (.ref 73 :: [.int (X.2 (i + 1)), .int (X.2 (i + 2))]) h1 (some (.int r)) h2) (kk : aRun (aEv X d) X mLaw (some (.int 1), hE) 18 [.float 3, .ref 0, .ref 73, .int (nI (i + 5))] [] h2) : aRun (aEv X d) X mLaw (some (.int 1), hE) 246 [.float 3, .ref 0, .ref 73, .int (nI i)] [] h := by
  rw [x_law_246]
  rw [x_law_247f]
  rw [x_law_248]
  rw [x_law_249]
  rw [x_law_250, nI_k1]
  rw [x_law_251k kA_3]
  refine ⟨vp_in_nI (by omega) (by omega), ?_⟩
  rw [nI_clamp (by omega)]
  rw [x_law_252f]
  rw [x_law_253]
  rw [x_law_254]
  rw [x_law_255, nI_k2]
  rw [x_law_256k kA_3]
  refine ⟨vp_in_nI (by omega) (by omega), ?_⟩
  rw [nI_clamp (by omega)]
  rw [x_law_257]
  refine ⟨rc1, Nat.le_of_ble_eq_true rfl, _, _, e1, ?_⟩
  show aRun _ _ _ _ 260 _ [.int r] h1
  rw [x_law_260]
  rw [x_law_261f]
  rw [x_law_262]
  rw [x_law_263]
  rw [x_law_264, nI_k1]
  rw [x_law_265k kA_3]
  refine ⟨vp_in_nI (by omega) (by omega), ?_⟩
  rw [nI_clamp (by omega)]
  rw [x_law_266f]
  rw [x_law_267]
  rw [x_law_268]
  rw [x_law_269, nI_k2]
  rw [x_law_270k kA_3]
  refine ⟨vp_in_nI (by omega) (by omega), ?_⟩
  rw [nI_clamp (by omega)]
  rw [x_law_271]
  refine ⟨rc2, Nat.le_of_ble_eq_true rfl, _, _, e2, ?_⟩
  show aRun _ _ _ _ 274 _ [.int r, .int r] h2
  rw [x_law_274, if_pos rfl]
  rw [x_law_1076, nI_k5]
  rw [x_law_1079]
  exact kk
theorem law_c5 {X : aX} {d i : Nat} {hE h h1 h2 : aH} {r : Int32} (hL : X.1 ≤ 2560) (hi : i + 5 ≤ X.1) (rc1 : rcv h (mK m_Ht_thing) (.ref 0) = true) (rc2 : rcv h1 (mK m_Mod_thing) (.ref 73) = true) (e1 : aEv X d m_Ht_thing (.ref 0 :: [.int (X.2 (i + 1)), .int (X.2 (i + 2))]) h (some (.int r)) h1) (e2 : aEv X d m_Mod_thing (.ref 73 :: [.int (X.2 (i + 1)), .int (X.2 (i + 2))]) h1 (some (.int r)) h2) (kk : aRun (aEv X d) X mLaw (some (.int 1), hE) 18 [.float 3, .ref 0, .ref 73, .int (nI (i + 5))] [] h2) : aRun (aEv X d) X mLaw (some (.int 1), hE) 279 [.float 3, .ref 0, .ref 73, .int (nI i)] [] h := by
  rw [x_law_279]
  rw [x_law_280f]
  rw [x_law_281]
  rw [x_law_282]
  rw [x_law_283, nI_k1]
  rw [x_law_284k kA_3]
  refine ⟨vp_in_nI (by omega) (by omega), ?_⟩
  rw [nI_clamp (by omega)]
  rw [x_law_285f]
  rw [x_law_286]
  rw [x_law_287]
  rw [x_law_288, nI_k2]
  rw [x_law_289k kA_3]
  refine ⟨vp_in_nI (by omega) (by omega), ?_⟩
  rw [nI_clamp (by omega)]
  rw [x_law_290]
  refine ⟨rc1, Nat.le_of_ble_eq_true rfl, _, _, e1, ?_⟩
  show aRun _ _ _ _ 293 _ [.int r] h1
  rw [x_law_293]
  rw [x_law_294f]
  rw [x_law_295]
  rw [x_law_296]
  rw [x_law_297, nI_k1]
  rw [x_law_298k kA_3]
  refine ⟨vp_in_nI (by omega) (by omega), ?_⟩
  rw [nI_clamp (by omega)]
  rw [x_law_299f]
  rw [x_law_300]
  rw [x_law_301]
  rw [x_law_302, nI_k2]
  rw [x_law_303k kA_3]
  refine ⟨vp_in_nI (by omega) (by omega), ?_⟩
  rw [nI_clamp (by omega)]
  rw [x_law_304]
  refine ⟨rc2, Nat.le_of_ble_eq_true rfl, _, _, e2, ?_⟩
  show aRun _ _ _ _ 307 _ [.int r, .int r] h2
  rw [x_law_307, if_pos rfl]
  rw [x_law_1076, nI_k5]
  rw [x_law_1079]
  exact kk
theorem law_c6 {X : aX} {d i : Nat} {hE h h1 h2 : aH} {r : Int32} (hL : X.1 ≤ 2560) (hi : i + 5 ≤ X.1) (rc1 : rcv h (mK m_Ht_as) (.ref 0) = true) (rc2 : rcv h1 (mK m_Mod_as) (.ref 73) = true) (e1 : aEv X d m_Ht_as (.ref 0 :: [.int (X.2 (i + 1)), .int (X.2 (i + 2))]) h (some (.int r)) h1) (e2 : aEv X d m_Mod_as (.ref 73 :: [.int (X.2 (i + 1)), .int (X.2 (i + 2))]) h1 (some (.int r)) h2) (kk : aRun (aEv X d) X mLaw (some (.int 1), hE) 18 [.float 3, .ref 0, .ref 73, .int (nI (i + 5))] [] h2) : aRun (aEv X d) X mLaw (some (.int 1), hE) 312 [.float 3, .ref 0, .ref 73, .int (nI i)] [] h := by
  rw [x_law_312]
  rw [x_law_313f]
  rw [x_law_314]
  rw [x_law_315]
  rw [x_law_316, nI_k1]
  rw [x_law_317k kA_3]
  refine ⟨vp_in_nI (by omega) (by omega), ?_⟩
  rw [nI_clamp (by omega)]
  rw [x_law_318f]
  rw [x_law_319]
  rw [x_law_320]
  rw [x_law_321, nI_k2]
  rw [x_law_322k kA_3]
  refine ⟨vp_in_nI (by omega) (by omega), ?_⟩
  rw [nI_clamp (by omega)]
  rw [x_law_323]
  refine ⟨rc1, Nat.le_of_ble_eq_true rfl, _, _, e1, ?_⟩
  show aRun _ _ _ _ 326 _ [.int r] h1
  rw [x_law_326]
  rw [x_law_327f]
  rw [x_law_328]
  rw [x_law_329]
  rw [x_law_330, nI_k1]
  rw [x_law_331k kA_3]
  refine ⟨vp_in_nI (by omega) (by omega), ?_⟩
  rw [nI_clamp (by omega)]
  rw [x_law_332f]
  rw [x_law_333]
  rw [x_law_334]
  rw [x_law_335, nI_k2]
  rw [x_law_336k kA_3]
  refine ⟨vp_in_nI (by omega) (by omega), ?_⟩
  rw [nI_clamp (by omega)]
  rw [x_law_337]
  refine ⟨rc2, Nat.le_of_ble_eq_true rfl, _, _, e2, ?_⟩
  show aRun _ _ _ _ 340 _ [.int r, .int r] h2
  rw [x_law_340, if_pos rfl]
  rw [x_law_1076, nI_k5]
  rw [x_law_1079]
  exact kk
theorem law_c7 {X : aX} {d i : Nat} {hE h h1 h2 : aH} {r : Int32} (hL : X.1 ≤ 2560) (hi : i + 5 ≤ X.1) (rc1 : rcv h (mK m_Ht_want) (.ref 0) = true) (rc2 : rcv h1 (mK m_Mod_want) (.ref 73) = true) (e1 : aEv X d m_Ht_want (.ref 0 :: [.int (X.2 (i + 1)), .int (X.2 (i + 2))]) h (some (.int r)) h1) (e2 : aEv X d m_Mod_want (.ref 73 :: [.int (X.2 (i + 1)), .int (X.2 (i + 2))]) h1 (some (.int r)) h2) (kk : aRun (aEv X d) X mLaw (some (.int 1), hE) 18 [.float 3, .ref 0, .ref 73, .int (nI (i + 5))] [] h2) : aRun (aEv X d) X mLaw (some (.int 1), hE) 345 [.float 3, .ref 0, .ref 73, .int (nI i)] [] h := by
  rw [x_law_345]
  rw [x_law_346f]
  rw [x_law_347]
  rw [x_law_348]
  rw [x_law_349, nI_k1]
  rw [x_law_350k kA_3]
  refine ⟨vp_in_nI (by omega) (by omega), ?_⟩
  rw [nI_clamp (by omega)]
  rw [x_law_351f]
  rw [x_law_352]
  rw [x_law_353]
  rw [x_law_354, nI_k2]
  rw [x_law_355k kA_3]
  refine ⟨vp_in_nI (by omega) (by omega), ?_⟩
  rw [nI_clamp (by omega)]
  rw [x_law_356]
  refine ⟨rc1, Nat.le_of_ble_eq_true rfl, _, _, e1, ?_⟩
  show aRun _ _ _ _ 359 _ [.int r] h1
  rw [x_law_359]
  rw [x_law_360f]
  rw [x_law_361]
  rw [x_law_362]
  rw [x_law_363, nI_k1]
  rw [x_law_364k kA_3]
  refine ⟨vp_in_nI (by omega) (by omega), ?_⟩
  rw [nI_clamp (by omega)]
  rw [x_law_365f]
  rw [x_law_366]
  rw [x_law_367]
  rw [x_law_368, nI_k2]
  rw [x_law_369k kA_3]
  refine ⟨vp_in_nI (by omega) (by omega), ?_⟩
  rw [nI_clamp (by omega)]
  rw [x_law_370]
  refine ⟨rc2, Nat.le_of_ble_eq_true rfl, _, _, e2, ?_⟩
  show aRun _ _ _ _ 373 _ [.int r, .int r] h2
  rw [x_law_373, if_pos rfl]
  rw [x_law_1076, nI_k5]
  rw [x_law_1079]
  exact kk
theorem law_c8 {X : aX} {d i : Nat} {hE h h1 h2 : aH} {r : Int32} (hL : X.1 ≤ 2560) (hi : i + 5 ≤ X.1) (rc1 : rcv h (mK m_Ht_year) (.ref 0) = true) (rc2 : rcv h1 (mK m_Mod_year) (.ref 73) = true) (e1 : aEv X d m_Ht_year (.ref 0 :: [.int (X.2 (i + 1))]) h (some (.int r)) h1) (e2 : aEv X d m_Mod_year (.ref 73 :: [.int (X.2 (i + 1))]) h1 (some (.int r)) h2) (kk : aRun (aEv X d) X mLaw (some (.int 1), hE) 18 [.float 3, .ref 0, .ref 73, .int (nI (i + 5))] [] h2) : aRun (aEv X d) X mLaw (some (.int 1), hE) 378 [.float 3, .ref 0, .ref 73, .int (nI i)] [] h := by
  rw [x_law_378]
  rw [x_law_379f]
  rw [x_law_380]
  rw [x_law_381]
  rw [x_law_382, nI_k1]
  rw [x_law_383k kA_3]
  refine ⟨vp_in_nI (by omega) (by omega), ?_⟩
  rw [nI_clamp (by omega)]
  rw [x_law_384]
  refine ⟨rc1, Nat.le_of_ble_eq_true rfl, _, _, e1, ?_⟩
  show aRun _ _ _ _ 387 _ [.int r] h1
  rw [x_law_387]
  rw [x_law_388f]
  rw [x_law_389]
  rw [x_law_390]
  rw [x_law_391, nI_k1]
  rw [x_law_392k kA_3]
  refine ⟨vp_in_nI (by omega) (by omega), ?_⟩
  rw [nI_clamp (by omega)]
  rw [x_law_393]
  refine ⟨rc2, Nat.le_of_ble_eq_true rfl, _, _, e2, ?_⟩
  show aRun _ _ _ _ 396 _ [.int r, .int r] h2
  rw [x_law_396, if_pos rfl]
  rw [x_law_1076, nI_k5]
  rw [x_law_1079]
  exact kk
theorem law_c9 {X : aX} {d i : Nat} {hE h h1 h2 : aH} {r : Int32} (hL : X.1 ≤ 2560) (hi : i + 5 ≤ X.1) (rc1 : rcv h (mK m_Ht_send) (.ref 0) = true) (rc2 : rcv h1 (mK m_Mod_send) (.ref 73) = true) (e1 : aEv X d m_Ht_send (.ref 0 :: [.int (X.2 (i + 1)), .int (X.2 (i + 2))]) h (some (.int r)) h1) (e2 : aEv X d m_Mod_send (.ref 73 :: [.int (X.2 (i + 1)), .int (X.2 (i + 2))]) h1 (some (.int r)) h2) (kk : aRun (aEv X d) X mLaw (some (.int 1), hE) 18 [.float 3, .ref 0, .ref 73, .int (nI (i + 5))] [] h2) : aRun (aEv X d) X mLaw (some (.int 1), hE) 401 [.float 3, .ref 0, .ref 73, .int (nI i)] [] h := by
  rw [x_law_401]
  rw [x_law_402f]
  rw [x_law_403]
  rw [x_law_404]
  rw [x_law_405, nI_k1]
  rw [x_law_406k kA_3]
  refine ⟨vp_in_nI (by omega) (by omega), ?_⟩
  rw [nI_clamp (by omega)]
  rw [x_law_407f]
  rw [x_law_408]
  rw [x_law_409]
  rw [x_law_410, nI_k2]
  rw [x_law_411k kA_3]
  refine ⟨vp_in_nI (by omega) (by omega), ?_⟩
  rw [nI_clamp (by omega)]
  rw [x_law_412]
  refine ⟨rc1, Nat.le_of_ble_eq_true rfl, _, _, e1, ?_⟩
  show aRun _ _ _ _ 415 _ [.int r] h1
  rw [x_law_415]
  rw [x_law_416f]
  rw [x_law_417]
  rw [x_law_418]
  rw [x_law_419, nI_k1]
  rw [x_law_420k kA_3]
  refine ⟨vp_in_nI (by omega) (by omega), ?_⟩
  rw [nI_clamp (by omega)]
  rw [x_law_421f]
  rw [x_law_422]
  rw [x_law_423]
  rw [x_law_424, nI_k2]
  rw [x_law_425k kA_3]
  refine ⟨vp_in_nI (by omega) (by omega), ?_⟩
  rw [nI_clamp (by omega)]
  rw [x_law_426]
  refine ⟨rc2, Nat.le_of_ble_eq_true rfl, _, _, e2, ?_⟩
  show aRun _ _ _ _ 429 _ [.int r, .int r] h2
  rw [x_law_429, if_pos rfl]
  rw [x_law_1076, nI_k5]
  rw [x_law_1079]
  exact kk
theorem law_c10 {X : aX} {d i : Nat} {hE h h1 h2 : aH} {r : Int32} (hL : X.1 ≤ 2560) (hi : i + 5 ≤ X.1) (rc1 : rcv h (mK m_Ht_patch) (.ref 0) = true) (rc2 : rcv h1 (mK m_Mod_patch) (.ref 73) = true) (e1 : aEv X d m_Ht_patch (.ref 0 :: [.int (X.2 (i + 1)), .int (X.2 (i + 2))]) h (some (.int r)) h1) (e2 : aEv X d m_Mod_patch (.ref 73 :: [.int (X.2 (i + 1)), .int (X.2 (i + 2))]) h1 (some (.int r)) h2) (kk : aRun (aEv X d) X mLaw (some (.int 1), hE) 18 [.float 3, .ref 0, .ref 73, .int (nI (i + 5))] [] h2) : aRun (aEv X d) X mLaw (some (.int 1), hE) 434 [.float 3, .ref 0, .ref 73, .int (nI i)] [] h := by
  rw [x_law_434]
  rw [x_law_435f]
  rw [x_law_436]
  rw [x_law_437]
  rw [x_law_438, nI_k1]
  rw [x_law_439k kA_3]
  refine ⟨vp_in_nI (by omega) (by omega), ?_⟩
  rw [nI_clamp (by omega)]
  rw [x_law_440f]
  rw [x_law_441]
  rw [x_law_442]
  rw [x_law_443, nI_k2]
  rw [x_law_444k kA_3]
  refine ⟨vp_in_nI (by omega) (by omega), ?_⟩
  rw [nI_clamp (by omega)]
  rw [x_law_445]
  refine ⟨rc1, Nat.le_of_ble_eq_true rfl, _, _, e1, ?_⟩
  show aRun _ _ _ _ 448 _ [.int r] h1
  rw [x_law_448]
  rw [x_law_449f]
  rw [x_law_450]
  rw [x_law_451]
  rw [x_law_452, nI_k1]
  rw [x_law_453k kA_3]
  refine ⟨vp_in_nI (by omega) (by omega), ?_⟩
  rw [nI_clamp (by omega)]
  rw [x_law_454f]
  rw [x_law_455]
  rw [x_law_456]
  rw [x_law_457, nI_k2]
  rw [x_law_458k kA_3]
  refine ⟨vp_in_nI (by omega) (by omega), ?_⟩
  rw [nI_clamp (by omega)]
  rw [x_law_459]
  refine ⟨rc2, Nat.le_of_ble_eq_true rfl, _, _, e2, ?_⟩
  show aRun _ _ _ _ 462 _ [.int r, .int r] h2
  rw [x_law_462, if_pos rfl]
  rw [x_law_1076, nI_k5]
  rw [x_law_1079]
  exact kk
theorem law_c11 {X : aX} {d i : Nat} {hE h h1 h2 : aH} {r : Int32} (hL : X.1 ≤ 2560) (hi : i + 5 ≤ X.1) (rc1 : rcv h (mK m_Ht_trade) (.ref 0) = true) (rc2 : rcv h1 (mK m_Mod_trade) (.ref 73) = true) (e1 : aEv X d m_Ht_trade (.ref 0 :: []) h (some (.int r)) h1) (e2 : aEv X d m_Mod_trade (.ref 73 :: []) h1 (some (.int r)) h2) (kk : aRun (aEv X d) X mLaw (some (.int 1), hE) 18 [.float 3, .ref 0, .ref 73, .int (nI (i + 5))] [] h2) : aRun (aEv X d) X mLaw (some (.int 1), hE) 467 [.float 3, .ref 0, .ref 73, .int (nI i)] [] h := by
  rw [x_law_467]
  rw [x_law_468]
  refine ⟨rc1, Nat.le_of_ble_eq_true rfl, _, _, e1, ?_⟩
  show aRun _ _ _ _ 471 _ [.int r] h1
  rw [x_law_471]
  rw [x_law_472]
  refine ⟨rc2, Nat.le_of_ble_eq_true rfl, _, _, e2, ?_⟩
  show aRun _ _ _ _ 475 _ [.int r, .int r] h2
  rw [x_law_475, if_pos rfl]
  rw [x_law_1076, nI_k5]
  rw [x_law_1079]
  exact kk
theorem law_c12 {X : aX} {d i : Nat} {hE h h1 h2 : aH} {r : Int32} (hL : X.1 ≤ 2560) (hi : i + 5 ≤ X.1) (rc1 : rcv h (mK m_Ht_undo) (.ref 0) = true) (rc2 : rcv h1 (mK m_Mod_undo) (.ref 73) = true) (e1 : aEv X d m_Ht_undo (.ref 0 :: []) h (some (.int r)) h1) (e2 : aEv X d m_Mod_undo (.ref 73 :: []) h1 (some (.int r)) h2) (kk : aRun (aEv X d) X mLaw (some (.int 1), hE) 18 [.float 3, .ref 0, .ref 73, .int (nI (i + 5))] [] h2) : aRun (aEv X d) X mLaw (some (.int 1), hE) 480 [.float 3, .ref 0, .ref 73, .int (nI i)] [] h := by
  rw [x_law_480]
  rw [x_law_481]
  refine ⟨rc1, Nat.le_of_ble_eq_true rfl, _, _, e1, ?_⟩
  show aRun _ _ _ _ 484 _ [.int r] h1
  rw [x_law_484]
  rw [x_law_485]
  refine ⟨rc2, Nat.le_of_ble_eq_true rfl, _, _, e2, ?_⟩
  show aRun _ _ _ _ 488 _ [.int r, .int r] h2
  rw [x_law_488, if_pos rfl]
  rw [x_law_1076, nI_k5]
  rw [x_law_1079]
  exact kk
theorem law_c13 {X : aX} {d i : Nat} {hE h h1 h2 : aH} {r : Int32} (hL : X.1 ≤ 2560) (hi : i + 5 ≤ X.1) (rc1 : rcv h (mK m_Ht_keep) (.ref 0) = true) (rc2 : rcv h1 (mK m_Mod_keep) (.ref 73) = true) (e1 : aEv X d m_Ht_keep (.ref 0 :: [.int (X.2 (i + 1))]) h (some (.int r)) h1) (e2 : aEv X d m_Mod_keep (.ref 73 :: [.int (X.2 (i + 1))]) h1 (some (.int r)) h2) (kk : aRun (aEv X d) X mLaw (some (.int 1), hE) 18 [.float 3, .ref 0, .ref 73, .int (nI (i + 5))] [] h2) : aRun (aEv X d) X mLaw (some (.int 1), hE) 493 [.float 3, .ref 0, .ref 73, .int (nI i)] [] h := by
  rw [x_law_493]
  rw [x_law_494f]
  rw [x_law_495]
  rw [x_law_496]
  rw [x_law_497, nI_k1]
  rw [x_law_498k kA_3]
  refine ⟨vp_in_nI (by omega) (by omega), ?_⟩
  rw [nI_clamp (by omega)]
  rw [x_law_499]
  refine ⟨rc1, Nat.le_of_ble_eq_true rfl, _, _, e1, ?_⟩
  show aRun _ _ _ _ 502 _ [.int r] h1
  rw [x_law_502]
  rw [x_law_503f]
  rw [x_law_504]
  rw [x_law_505]
  rw [x_law_506, nI_k1]
  rw [x_law_507k kA_3]
  refine ⟨vp_in_nI (by omega) (by omega), ?_⟩
  rw [nI_clamp (by omega)]
  rw [x_law_508]
  refine ⟨rc2, Nat.le_of_ble_eq_true rfl, _, _, e2, ?_⟩
  show aRun _ _ _ _ 511 _ [.int r, .int r] h2
  rw [x_law_511, if_pos rfl]
  rw [x_law_1076, nI_k5]
  rw [x_law_1079]
  exact kk
theorem law_c14 {X : aX} {d i : Nat} {hE h h1 h2 : aH} {r : Int32} (hL : X.1 ≤ 2560) (hi : i + 5 ≤ X.1) (rc1 : rcv h (mK m_Ht_back) (.ref 0) = true) (rc2 : rcv h1 (mK m_Mod_back) (.ref 73) = true) (e1 : aEv X d m_Ht_back (.ref 0 :: [.int (X.2 (i + 1))]) h (some (.int r)) h1) (e2 : aEv X d m_Mod_back (.ref 73 :: [.int (X.2 (i + 1))]) h1 (some (.int r)) h2) (kk : aRun (aEv X d) X mLaw (some (.int 1), hE) 18 [.float 3, .ref 0, .ref 73, .int (nI (i + 5))] [] h2) : aRun (aEv X d) X mLaw (some (.int 1), hE) 516 [.float 3, .ref 0, .ref 73, .int (nI i)] [] h := by
  rw [x_law_516]
  rw [x_law_517f]
  rw [x_law_518]
  rw [x_law_519]
  rw [x_law_520, nI_k1]
  rw [x_law_521k kA_3]
  refine ⟨vp_in_nI (by omega) (by omega), ?_⟩
  rw [nI_clamp (by omega)]
  rw [x_law_522]
  refine ⟨rc1, Nat.le_of_ble_eq_true rfl, _, _, e1, ?_⟩
  show aRun _ _ _ _ 525 _ [.int r] h1
  rw [x_law_525]
  rw [x_law_526f]
  rw [x_law_527]
  rw [x_law_528]
  rw [x_law_529, nI_k1]
  rw [x_law_530k kA_3]
  refine ⟨vp_in_nI (by omega) (by omega), ?_⟩
  rw [nI_clamp (by omega)]
  rw [x_law_531]
  refine ⟨rc2, Nat.le_of_ble_eq_true rfl, _, _, e2, ?_⟩
  show aRun _ _ _ _ 534 _ [.int r, .int r] h2
  rw [x_law_534, if_pos rfl]
  rw [x_law_1076, nI_k5]
  rw [x_law_1079]
  exact kk
theorem law_c15 {X : aX} {d i : Nat} {hE h h1 h2 : aH} {r : Int32} (hL : X.1 ≤ 2560) (hi : i + 5 ≤ X.1) (rc1 : rcv h (mK m_Ht_behind) (.ref 0) = true) (rc2 : rcv h1 (mK m_Mod_behind) (.ref 73) = true) (e1 : aEv X d m_Ht_behind (.ref 0 :: [.int (X.2 (i + 1)), .int (X.2 (i + 2)), .int (X.2 (i + 3))]) h (some (.int r)) h1) (e2 : aEv X d m_Mod_behind (.ref 73 :: [.int (X.2 (i + 1)), .int (X.2 (i + 2)), .int (X.2 (i + 3))]) h1 (some (.int r)) h2) (kk : aRun (aEv X d) X mLaw (some (.int 1), hE) 18 [.float 3, .ref 0, .ref 73, .int (nI (i + 5))] [] h2) : aRun (aEv X d) X mLaw (some (.int 1), hE) 539 [.float 3, .ref 0, .ref 73, .int (nI i)] [] h := by
  rw [x_law_539]
  rw [x_law_540f]
  rw [x_law_541]
  rw [x_law_542]
  rw [x_law_543, nI_k1]
  rw [x_law_544k kA_3]
  refine ⟨vp_in_nI (by omega) (by omega), ?_⟩
  rw [nI_clamp (by omega)]
  rw [x_law_545f]
  rw [x_law_546]
  rw [x_law_547]
  rw [x_law_548, nI_k2]
  rw [x_law_549k kA_3]
  refine ⟨vp_in_nI (by omega) (by omega), ?_⟩
  rw [nI_clamp (by omega)]
  rw [x_law_550f]
  rw [x_law_551]
  rw [x_law_552]
  rw [x_law_553, nI_k3]
  rw [x_law_554k kA_3]
  refine ⟨vp_in_nI (by omega) (by omega), ?_⟩
  rw [nI_clamp (by omega)]
  rw [x_law_555]
  refine ⟨rc1, Nat.le_of_ble_eq_true rfl, _, _, e1, ?_⟩
  show aRun _ _ _ _ 558 _ [.int r] h1
  rw [x_law_558]
  rw [x_law_559f]
  rw [x_law_560]
  rw [x_law_561]
  rw [x_law_562, nI_k1]
  rw [x_law_563k kA_3]
  refine ⟨vp_in_nI (by omega) (by omega), ?_⟩
  rw [nI_clamp (by omega)]
  rw [x_law_564f]
  rw [x_law_565]
  rw [x_law_566]
  rw [x_law_567, nI_k2]
  rw [x_law_568k kA_3]
  refine ⟨vp_in_nI (by omega) (by omega), ?_⟩
  rw [nI_clamp (by omega)]
  rw [x_law_569f]
  rw [x_law_570]
  rw [x_law_571]
  rw [x_law_572, nI_k3]
  rw [x_law_573k kA_3]
  refine ⟨vp_in_nI (by omega) (by omega), ?_⟩
  rw [nI_clamp (by omega)]
  rw [x_law_574]
  refine ⟨rc2, Nat.le_of_ble_eq_true rfl, _, _, e2, ?_⟩
  show aRun _ _ _ _ 577 _ [.int r, .int r] h2
  rw [x_law_577, if_pos rfl]
  rw [x_law_1076, nI_k5]
  rw [x_law_1079]
  exact kk
theorem law_c16 {X : aX} {d i : Nat} {hE h h1 h2 : aH} {r : Int32} (hL : X.1 ≤ 2560) (hi : i + 5 ≤ X.1) (rc1 : rcv h (mK m_Ht_leaves) (.ref 0) = true) (rc2 : rcv h1 (mK m_Mod_leaves) (.ref 73) = true) (e1 : aEv X d m_Ht_leaves (.ref 0 :: [.int (X.2 (i + 1))]) h (some (.int r)) h1) (e2 : aEv X d m_Mod_leaves (.ref 73 :: [.int (X.2 (i + 1))]) h1 (some (.int r)) h2) (kk : aRun (aEv X d) X mLaw (some (.int 1), hE) 18 [.float 3, .ref 0, .ref 73, .int (nI (i + 5))] [] h2) : aRun (aEv X d) X mLaw (some (.int 1), hE) 582 [.float 3, .ref 0, .ref 73, .int (nI i)] [] h := by
  rw [x_law_582]
  rw [x_law_583f]
  rw [x_law_584]
  rw [x_law_585]
  rw [x_law_586, nI_k1]
  rw [x_law_587k kA_3]
  refine ⟨vp_in_nI (by omega) (by omega), ?_⟩
  rw [nI_clamp (by omega)]
  rw [x_law_588]
  refine ⟨rc1, Nat.le_of_ble_eq_true rfl, _, _, e1, ?_⟩
  show aRun _ _ _ _ 591 _ [.int r] h1
  rw [x_law_591]
  rw [x_law_592f]
  rw [x_law_593]
  rw [x_law_594]
  rw [x_law_595, nI_k1]
  rw [x_law_596k kA_3]
  refine ⟨vp_in_nI (by omega) (by omega), ?_⟩
  rw [nI_clamp (by omega)]
  rw [x_law_597]
  refine ⟨rc2, Nat.le_of_ble_eq_true rfl, _, _, e2, ?_⟩
  show aRun _ _ _ _ 600 _ [.int r, .int r] h2
  rw [x_law_600, if_pos rfl]
  rw [x_law_1076, nI_k5]
  rw [x_law_1079]
  exact kk
theorem law_c17 {X : aX} {d i : Nat} {hE h h1 h2 : aH} {r : Int32} (hL : X.1 ≤ 2560) (hi : i + 5 ≤ X.1) (rc1 : rcv h (mK m_Ht_rings) (.ref 0) = true) (rc2 : rcv h1 (mK m_Mod_rings) (.ref 73) = true) (e1 : aEv X d m_Ht_rings (.ref 0 :: []) h (some (.int r)) h1) (e2 : aEv X d m_Mod_rings (.ref 73 :: []) h1 (some (.int r)) h2) (kk : aRun (aEv X d) X mLaw (some (.int 1), hE) 18 [.float 3, .ref 0, .ref 73, .int (nI (i + 5))] [] h2) : aRun (aEv X d) X mLaw (some (.int 1), hE) 605 [.float 3, .ref 0, .ref 73, .int (nI i)] [] h := by
  rw [x_law_605]
  rw [x_law_606]
  refine ⟨rc1, Nat.le_of_ble_eq_true rfl, _, _, e1, ?_⟩
  show aRun _ _ _ _ 609 _ [.int r] h1
  rw [x_law_609]
  rw [x_law_610]
  refine ⟨rc2, Nat.le_of_ble_eq_true rfl, _, _, e2, ?_⟩
  show aRun _ _ _ _ 613 _ [.int r, .int r] h2
  rw [x_law_613, if_pos rfl]
  rw [x_law_1076, nI_k5]
  rw [x_law_1079]
  exact kk
theorem law_c18 {X : aX} {d i : Nat} {hE h h1 h2 : aH} {r : Int32} (hL : X.1 ≤ 2560) (hi : i + 5 ≤ X.1) (rc1 : rcv h (mK m_Ht_pieces) (.ref 0) = true) (rc2 : rcv h1 (mK m_Mod_pieces) (.ref 73) = true) (e1 : aEv X d m_Ht_pieces (.ref 0 :: [.int (X.2 (i + 1))]) h (some (.int r)) h1) (e2 : aEv X d m_Mod_pieces (.ref 73 :: [.int (X.2 (i + 1))]) h1 (some (.int r)) h2) (kk : aRun (aEv X d) X mLaw (some (.int 1), hE) 18 [.float 3, .ref 0, .ref 73, .int (nI (i + 5))] [] h2) : aRun (aEv X d) X mLaw (some (.int 1), hE) 618 [.float 3, .ref 0, .ref 73, .int (nI i)] [] h := by
  rw [x_law_618]
  rw [x_law_619f]
  rw [x_law_620]
  rw [x_law_621]
  rw [x_law_622, nI_k1]
  rw [x_law_623k kA_3]
  refine ⟨vp_in_nI (by omega) (by omega), ?_⟩
  rw [nI_clamp (by omega)]
  rw [x_law_624]
  refine ⟨rc1, Nat.le_of_ble_eq_true rfl, _, _, e1, ?_⟩
  show aRun _ _ _ _ 627 _ [.int r] h1
  rw [x_law_627]
  rw [x_law_628f]
  rw [x_law_629]
  rw [x_law_630]
  rw [x_law_631, nI_k1]
  rw [x_law_632k kA_3]
  refine ⟨vp_in_nI (by omega) (by omega), ?_⟩
  rw [nI_clamp (by omega)]
  rw [x_law_633]
  refine ⟨rc2, Nat.le_of_ble_eq_true rfl, _, _, e2, ?_⟩
  show aRun _ _ _ _ 636 _ [.int r, .int r] h2
  rw [x_law_636, if_pos rfl]
  rw [x_law_1076, nI_k5]
  rw [x_law_1079]
  exact kk
theorem law_c19 {X : aX} {d i : Nat} {hE h h1 h2 : aH} {r : Int32} (hL : X.1 ≤ 2560) (hi : i + 5 ≤ X.1) (rc1 : rcv h (mK m_Ht_hangs) (.ref 0) = true) (rc2 : rcv h1 (mK m_Mod_hangs) (.ref 73) = true) (e1 : aEv X d m_Ht_hangs (.ref 0 :: []) h (some (.int r)) h1) (e2 : aEv X d m_Mod_hangs (.ref 73 :: []) h1 (some (.int r)) h2) (kk : aRun (aEv X d) X mLaw (some (.int 1), hE) 18 [.float 3, .ref 0, .ref 73, .int (nI (i + 5))] [] h2) : aRun (aEv X d) X mLaw (some (.int 1), hE) 641 [.float 3, .ref 0, .ref 73, .int (nI i)] [] h := by
  rw [x_law_641]
  rw [x_law_642]
  refine ⟨rc1, Nat.le_of_ble_eq_true rfl, _, _, e1, ?_⟩
  show aRun _ _ _ _ 645 _ [.int r] h1
  rw [x_law_645]
  rw [x_law_646]
  refine ⟨rc2, Nat.le_of_ble_eq_true rfl, _, _, e2, ?_⟩
  show aRun _ _ _ _ 649 _ [.int r, .int r] h2
  rw [x_law_649, if_pos rfl]
  rw [x_law_1076, nI_k5]
  rw [x_law_1079]
  exact kk
theorem law_c20 {X : aX} {d i : Nat} {hE h h1 h2 : aH} {r : Int32} (hL : X.1 ≤ 2560) (hi : i + 5 ≤ X.1) (rc1 : rcv h (mK m_Ht_way) (.ref 0) = true) (rc2 : rcv h1 (mK m_Mod_way) (.ref 73) = true) (e1 : aEv X d m_Ht_way (.ref 0 :: [.int (X.2 (i + 1)), .int (X.2 (i + 2))]) h (some (.int r)) h1) (e2 : aEv X d m_Mod_way (.ref 73 :: [.int (X.2 (i + 1)), .int (X.2 (i + 2))]) h1 (some (.int r)) h2) (kk : aRun (aEv X d) X mLaw (some (.int 1), hE) 18 [.float 3, .ref 0, .ref 73, .int (nI (i + 5))] [] h2) : aRun (aEv X d) X mLaw (some (.int 1), hE) 654 [.float 3, .ref 0, .ref 73, .int (nI i)] [] h := by
  rw [x_law_654]
  rw [x_law_655f]
  rw [x_law_656]
  rw [x_law_657]
  rw [x_law_658, nI_k1]
  rw [x_law_659k kA_3]
  refine ⟨vp_in_nI (by omega) (by omega), ?_⟩
  rw [nI_clamp (by omega)]
  rw [x_law_660f]
  rw [x_law_661]
  rw [x_law_662]
  rw [x_law_663, nI_k2]
  rw [x_law_664k kA_3]
  refine ⟨vp_in_nI (by omega) (by omega), ?_⟩
  rw [nI_clamp (by omega)]
  rw [x_law_665]
  refine ⟨rc1, Nat.le_of_ble_eq_true rfl, _, _, e1, ?_⟩
  show aRun _ _ _ _ 668 _ [.int r] h1
  rw [x_law_668]
  rw [x_law_669f]
  rw [x_law_670]
  rw [x_law_671]
  rw [x_law_672, nI_k1]
  rw [x_law_673k kA_3]
  refine ⟨vp_in_nI (by omega) (by omega), ?_⟩
  rw [nI_clamp (by omega)]
  rw [x_law_674f]
  rw [x_law_675]
  rw [x_law_676]
  rw [x_law_677, nI_k2]
  rw [x_law_678k kA_3]
  refine ⟨vp_in_nI (by omega) (by omega), ?_⟩
  rw [nI_clamp (by omega)]
  rw [x_law_679]
  refine ⟨rc2, Nat.le_of_ble_eq_true rfl, _, _, e2, ?_⟩
  show aRun _ _ _ _ 682 _ [.int r, .int r] h2
  rw [x_law_682, if_pos rfl]
  rw [x_law_1076, nI_k5]
  rw [x_law_1079]
  exact kk
theorem law_c21 {X : aX} {d i : Nat} {hE h h1 h2 : aH} {r : Int32} (hL : X.1 ≤ 2560) (hi : i + 5 ≤ X.1) (rc1 : rcv h (mK m_Ht_knit) (.ref 0) = true) (rc2 : rcv h1 (mK m_Mod_knit) (.ref 73) = true) (e1 : aEv X d m_Ht_knit (.ref 0 :: [.int (X.2 (i + 1))]) h (some (.int r)) h1) (e2 : aEv X d m_Mod_knit (.ref 73 :: [.int (X.2 (i + 1))]) h1 (some (.int r)) h2) (kk : aRun (aEv X d) X mLaw (some (.int 1), hE) 18 [.float 3, .ref 0, .ref 73, .int (nI (i + 5))] [] h2) : aRun (aEv X d) X mLaw (some (.int 1), hE) 687 [.float 3, .ref 0, .ref 73, .int (nI i)] [] h := by
  rw [x_law_687]
  rw [x_law_688f]
  rw [x_law_689]
  rw [x_law_690]
  rw [x_law_691, nI_k1]
  rw [x_law_692k kA_3]
  refine ⟨vp_in_nI (by omega) (by omega), ?_⟩
  rw [nI_clamp (by omega)]
  rw [x_law_693]
  refine ⟨rc1, Nat.le_of_ble_eq_true rfl, _, _, e1, ?_⟩
  show aRun _ _ _ _ 696 _ [.int r] h1
  rw [x_law_696]
  rw [x_law_697f]
  rw [x_law_698]
  rw [x_law_699]
  rw [x_law_700, nI_k1]
  rw [x_law_701k kA_3]
  refine ⟨vp_in_nI (by omega) (by omega), ?_⟩
  rw [nI_clamp (by omega)]
  rw [x_law_702]
  refine ⟨rc2, Nat.le_of_ble_eq_true rfl, _, _, e2, ?_⟩
  show aRun _ _ _ _ 705 _ [.int r, .int r] h2
  rw [x_law_705, if_pos rfl]
  rw [x_law_1076, nI_k5]
  rw [x_law_1079]
  exact kk
theorem law_c22 {X : aX} {d i : Nat} {hE h h1 h2 : aH} {r : Int32} (hL : X.1 ≤ 2560) (hi : i + 5 ≤ X.1) (rc1 : rcv h (mK m_Ht_whole) (.ref 0) = true) (rc2 : rcv h1 (mK m_Mod_whole) (.ref 73) = true) (e1 : aEv X d m_Ht_whole (.ref 0 :: [.int (X.2 (i + 1)), .int (X.2 (i + 2))]) h (some (.int r)) h1) (e2 : aEv X d m_Mod_whole (.ref 73 :: [.int (X.2 (i + 1)), .int (X.2 (i + 2))]) h1 (some (.int r)) h2) (kk : aRun (aEv X d) X mLaw (some (.int 1), hE) 18 [.float 3, .ref 0, .ref 73, .int (nI (i + 5))] [] h2) : aRun (aEv X d) X mLaw (some (.int 1), hE) 710 [.float 3, .ref 0, .ref 73, .int (nI i)] [] h := by
  rw [x_law_710]
  rw [x_law_711f]
  rw [x_law_712]
  rw [x_law_713]
  rw [x_law_714, nI_k1]
  rw [x_law_715k kA_3]
  refine ⟨vp_in_nI (by omega) (by omega), ?_⟩
  rw [nI_clamp (by omega)]
  rw [x_law_716f]
  rw [x_law_717]
  rw [x_law_718]
  rw [x_law_719, nI_k2]
  rw [x_law_720k kA_3]
  refine ⟨vp_in_nI (by omega) (by omega), ?_⟩
  rw [nI_clamp (by omega)]
  rw [x_law_721]
  refine ⟨rc1, Nat.le_of_ble_eq_true rfl, _, _, e1, ?_⟩
  show aRun _ _ _ _ 724 _ [.int r] h1
  rw [x_law_724]
  rw [x_law_725f]
  rw [x_law_726]
  rw [x_law_727]
  rw [x_law_728, nI_k1]
  rw [x_law_729k kA_3]
  refine ⟨vp_in_nI (by omega) (by omega), ?_⟩
  rw [nI_clamp (by omega)]
  rw [x_law_730f]
  rw [x_law_731]
  rw [x_law_732]
  rw [x_law_733, nI_k2]
  rw [x_law_734k kA_3]
  refine ⟨vp_in_nI (by omega) (by omega), ?_⟩
  rw [nI_clamp (by omega)]
  rw [x_law_735]
  refine ⟨rc2, Nat.le_of_ble_eq_true rfl, _, _, e2, ?_⟩
  show aRun _ _ _ _ 738 _ [.int r, .int r] h2
  rw [x_law_738, if_pos rfl]
  rw [x_law_1076, nI_k5]
  rw [x_law_1079]
  exact kk
theorem law_c23 {X : aX} {d i : Nat} {hE h h1 h2 : aH} {r : Int32} (hL : X.1 ≤ 2560) (hi : i + 5 ≤ X.1) (rc1 : rcv h (mK m_Ht_seen) (.ref 0) = true) (rc2 : rcv h1 (mK m_Mod_seen) (.ref 73) = true) (e1 : aEv X d m_Ht_seen (.ref 0 :: [.int (X.2 (i + 1)), .int (X.2 (i + 2)), .int (X.2 (i + 3))]) h (some (.int r)) h1) (e2 : aEv X d m_Mod_seen (.ref 73 :: [.int (X.2 (i + 1)), .int (X.2 (i + 2)), .int (X.2 (i + 3))]) h1 (some (.int r)) h2) (kk : aRun (aEv X d) X mLaw (some (.int 1), hE) 18 [.float 3, .ref 0, .ref 73, .int (nI (i + 5))] [] h2) : aRun (aEv X d) X mLaw (some (.int 1), hE) 743 [.float 3, .ref 0, .ref 73, .int (nI i)] [] h := by
  rw [x_law_743]
  rw [x_law_744f]
  rw [x_law_745]
  rw [x_law_746]
  rw [x_law_747, nI_k1]
  rw [x_law_748k kA_3]
  refine ⟨vp_in_nI (by omega) (by omega), ?_⟩
  rw [nI_clamp (by omega)]
  rw [x_law_749f]
  rw [x_law_750]
  rw [x_law_751]
  rw [x_law_752, nI_k2]
  rw [x_law_753k kA_3]
  refine ⟨vp_in_nI (by omega) (by omega), ?_⟩
  rw [nI_clamp (by omega)]
  rw [x_law_754f]
  rw [x_law_755]
  rw [x_law_756]
  rw [x_law_757, nI_k3]
  rw [x_law_758k kA_3]
  refine ⟨vp_in_nI (by omega) (by omega), ?_⟩
  rw [nI_clamp (by omega)]
  rw [x_law_759]
  refine ⟨rc1, Nat.le_of_ble_eq_true rfl, _, _, e1, ?_⟩
  show aRun _ _ _ _ 762 _ [.int r] h1
  rw [x_law_762]
  rw [x_law_763f]
  rw [x_law_764]
  rw [x_law_765]
  rw [x_law_766, nI_k1]
  rw [x_law_767k kA_3]
  refine ⟨vp_in_nI (by omega) (by omega), ?_⟩
  rw [nI_clamp (by omega)]
  rw [x_law_768f]
  rw [x_law_769]
  rw [x_law_770]
  rw [x_law_771, nI_k2]
  rw [x_law_772k kA_3]
  refine ⟨vp_in_nI (by omega) (by omega), ?_⟩
  rw [nI_clamp (by omega)]
  rw [x_law_773f]
  rw [x_law_774]
  rw [x_law_775]
  rw [x_law_776, nI_k3]
  rw [x_law_777k kA_3]
  refine ⟨vp_in_nI (by omega) (by omega), ?_⟩
  rw [nI_clamp (by omega)]
  rw [x_law_778]
  refine ⟨rc2, Nat.le_of_ble_eq_true rfl, _, _, e2, ?_⟩
  show aRun _ _ _ _ 781 _ [.int r, .int r] h2
  rw [x_law_781, if_pos rfl]
  rw [x_law_1076, nI_k5]
  rw [x_law_1079]
  exact kk
theorem law_c24 {X : aX} {d i : Nat} {hE h h1 h2 : aH} {r : Int32} (hL : X.1 ≤ 2560) (hi : i + 5 ≤ X.1) (rc1 : rcv h (mK m_Ht_forget) (.ref 0) = true) (rc2 : rcv h1 (mK m_Mod_forget) (.ref 73) = true) (e1 : aEv X d m_Ht_forget (.ref 0 :: []) h (some (.int r)) h1) (e2 : aEv X d m_Mod_forget (.ref 73 :: []) h1 (some (.int r)) h2) (kk : aRun (aEv X d) X mLaw (some (.int 1), hE) 18 [.float 3, .ref 0, .ref 73, .int (nI (i + 5))] [] h2) : aRun (aEv X d) X mLaw (some (.int 1), hE) 786 [.float 3, .ref 0, .ref 73, .int (nI i)] [] h := by
  rw [x_law_786]
  rw [x_law_787]
  refine ⟨rc1, Nat.le_of_ble_eq_true rfl, _, _, e1, ?_⟩
  show aRun _ _ _ _ 790 _ [.int r] h1
  rw [x_law_790]
  rw [x_law_791]
  refine ⟨rc2, Nat.le_of_ble_eq_true rfl, _, _, e2, ?_⟩
  show aRun _ _ _ _ 794 _ [.int r, .int r] h2
  rw [x_law_794, if_pos rfl]
  rw [x_law_1076, nI_k5]
  rw [x_law_1079]
  exact kk
theorem law_c25 {X : aX} {d i : Nat} {hE h h1 h2 : aH} {r : Int32} (hL : X.1 ≤ 2560) (hi : i + 5 ≤ X.1) (rc1 : rcv h (mK m_Ht_kinds) (.ref 0) = true) (rc2 : rcv h1 (mK m_Mod_kinds) (.ref 73) = true) (e1 : aEv X d m_Ht_kinds (.ref 0 :: []) h (some (.int r)) h1) (e2 : aEv X d m_Mod_kinds (.ref 73 :: []) h1 (some (.int r)) h2) (kk : aRun (aEv X d) X mLaw (some (.int 1), hE) 18 [.float 3, .ref 0, .ref 73, .int (nI (i + 5))] [] h2) : aRun (aEv X d) X mLaw (some (.int 1), hE) 799 [.float 3, .ref 0, .ref 73, .int (nI i)] [] h := by
  rw [x_law_799]
  rw [x_law_800]
  refine ⟨rc1, Nat.le_of_ble_eq_true rfl, _, _, e1, ?_⟩
  show aRun _ _ _ _ 803 _ [.int r] h1
  rw [x_law_803]
  rw [x_law_804]
  refine ⟨rc2, Nat.le_of_ble_eq_true rfl, _, _, e2, ?_⟩
  show aRun _ _ _ _ 807 _ [.int r, .int r] h2
  rw [x_law_807, if_pos rfl]
  rw [x_law_1076, nI_k5]
  rw [x_law_1079]
  exact kk
theorem law_c26 {X : aX} {d i : Nat} {hE h h1 h2 : aH} {r : Int32} (hL : X.1 ≤ 2560) (hi : i + 5 ≤ X.1) (rc1 : rcv h (mK m_Ht_ask) (.ref 0) = true) (rc2 : rcv h1 (mK m_Mod_ask) (.ref 73) = true) (e1 : aEv X d m_Ht_ask (.ref 0 :: []) h (some (.int r)) h1) (e2 : aEv X d m_Mod_ask (.ref 73 :: []) h1 (some (.int r)) h2) (kk : aRun (aEv X d) X mLaw (some (.int 1), hE) 18 [.float 3, .ref 0, .ref 73, .int (nI (i + 5))] [] h2) : aRun (aEv X d) X mLaw (some (.int 1), hE) 812 [.float 3, .ref 0, .ref 73, .int (nI i)] [] h := by
  rw [x_law_812]
  rw [x_law_813]
  refine ⟨rc1, Nat.le_of_ble_eq_true rfl, _, _, e1, ?_⟩
  show aRun _ _ _ _ 816 _ [.int r] h1
  rw [x_law_816]
  rw [x_law_817]
  refine ⟨rc2, Nat.le_of_ble_eq_true rfl, _, _, e2, ?_⟩
  show aRun _ _ _ _ 820 _ [.int r, .int r] h2
  rw [x_law_820, if_pos rfl]
  rw [x_law_1076, nI_k5]
  rw [x_law_1079]
  exact kk
theorem law_c27 {X : aX} {d i : Nat} {hE h h1 h2 : aH} {r : Int32} (hL : X.1 ≤ 2560) (hi : i + 5 ≤ X.1) (rc1 : rcv h (mK m_Ht_hooks) (.ref 0) = true) (rc2 : rcv h1 (mK m_Mod_hooks) (.ref 73) = true) (e1 : aEv X d m_Ht_hooks (.ref 0 :: [.int (X.2 (i + 1)), .int (X.2 (i + 2))]) h (some (.int r)) h1) (e2 : aEv X d m_Mod_hooks (.ref 73 :: [.int (X.2 (i + 1)), .int (X.2 (i + 2))]) h1 (some (.int r)) h2) (kk : aRun (aEv X d) X mLaw (some (.int 1), hE) 18 [.float 3, .ref 0, .ref 73, .int (nI (i + 5))] [] h2) : aRun (aEv X d) X mLaw (some (.int 1), hE) 825 [.float 3, .ref 0, .ref 73, .int (nI i)] [] h := by
  rw [x_law_825]
  rw [x_law_826f]
  rw [x_law_827]
  rw [x_law_828]
  rw [x_law_829, nI_k1]
  rw [x_law_830k kA_3]
  refine ⟨vp_in_nI (by omega) (by omega), ?_⟩
  rw [nI_clamp (by omega)]
  rw [x_law_831f]
  rw [x_law_832]
  rw [x_law_833]
  rw [x_law_834, nI_k2]
  rw [x_law_835k kA_3]
  refine ⟨vp_in_nI (by omega) (by omega), ?_⟩
  rw [nI_clamp (by omega)]
  rw [x_law_836]
  refine ⟨rc1, Nat.le_of_ble_eq_true rfl, _, _, e1, ?_⟩
  show aRun _ _ _ _ 839 _ [.int r] h1
  rw [x_law_839]
  rw [x_law_840f]
  rw [x_law_841]
  rw [x_law_842]
  rw [x_law_843, nI_k1]
  rw [x_law_844k kA_3]
  refine ⟨vp_in_nI (by omega) (by omega), ?_⟩
  rw [nI_clamp (by omega)]
  rw [x_law_845f]
  rw [x_law_846]
  rw [x_law_847]
  rw [x_law_848, nI_k2]
  rw [x_law_849k kA_3]
  refine ⟨vp_in_nI (by omega) (by omega), ?_⟩
  rw [nI_clamp (by omega)]
  rw [x_law_850]
  refine ⟨rc2, Nat.le_of_ble_eq_true rfl, _, _, e2, ?_⟩
  show aRun _ _ _ _ 853 _ [.int r, .int r] h2
  rw [x_law_853, if_pos rfl]
  rw [x_law_1076, nI_k5]
  rw [x_law_1079]
  exact kk
theorem law_c28 {X : aX} {d i : Nat} {hE h h1 h2 : aH} {r : Int32} (hL : X.1 ≤ 2560) (hi : i + 5 ≤ X.1) (rc1 : rcv h (mK m_Ht_hang) (.ref 0) = true) (rc2 : rcv h1 (mK m_Mod_hang) (.ref 73) = true) (e1 : aEv X d m_Ht_hang (.ref 0 :: [.int (X.2 (i + 1)), .int (X.2 (i + 2)), .int (X.2 (i + 3)), .int (X.2 (i + 4))]) h (some (.int r)) h1) (e2 : aEv X d m_Mod_hang (.ref 73 :: [.int (X.2 (i + 1)), .int (X.2 (i + 2)), .int (X.2 (i + 3)), .int (X.2 (i + 4))]) h1 (some (.int r)) h2) (kk : aRun (aEv X d) X mLaw (some (.int 1), hE) 18 [.float 3, .ref 0, .ref 73, .int (nI (i + 5))] [] h2) : aRun (aEv X d) X mLaw (some (.int 1), hE) 858 [.float 3, .ref 0, .ref 73, .int (nI i)] [] h := by
  rw [x_law_858]
  rw [x_law_859f]
  rw [x_law_860]
  rw [x_law_861]
  rw [x_law_862, nI_k1]
  rw [x_law_863k kA_3]
  refine ⟨vp_in_nI (by omega) (by omega), ?_⟩
  rw [nI_clamp (by omega)]
  rw [x_law_864f]
  rw [x_law_865]
  rw [x_law_866]
  rw [x_law_867, nI_k2]
  rw [x_law_868k kA_3]
  refine ⟨vp_in_nI (by omega) (by omega), ?_⟩
  rw [nI_clamp (by omega)]
  rw [x_law_869f]
  rw [x_law_870]
  rw [x_law_871]
  rw [x_law_872, nI_k3]
  rw [x_law_873k kA_3]
  refine ⟨vp_in_nI (by omega) (by omega), ?_⟩
  rw [nI_clamp (by omega)]
  rw [x_law_874f]
  rw [x_law_875]
  rw [x_law_876]
  rw [x_law_877, nI_k4]
  rw [x_law_878k kA_3]
  refine ⟨vp_in_nI (by omega) (by omega), ?_⟩
  rw [nI_clamp (by omega)]
  rw [x_law_879]
  refine ⟨rc1, Nat.le_of_ble_eq_true rfl, _, _, e1, ?_⟩
  show aRun _ _ _ _ 882 _ [.int r] h1
  rw [x_law_882]
  rw [x_law_883f]
  rw [x_law_884]
  rw [x_law_885]
  rw [x_law_886, nI_k1]
  rw [x_law_887k kA_3]
  refine ⟨vp_in_nI (by omega) (by omega), ?_⟩
  rw [nI_clamp (by omega)]
  rw [x_law_888f]
  rw [x_law_889]
  rw [x_law_890]
  rw [x_law_891, nI_k2]
  rw [x_law_892k kA_3]
  refine ⟨vp_in_nI (by omega) (by omega), ?_⟩
  rw [nI_clamp (by omega)]
  rw [x_law_893f]
  rw [x_law_894]
  rw [x_law_895]
  rw [x_law_896, nI_k3]
  rw [x_law_897k kA_3]
  refine ⟨vp_in_nI (by omega) (by omega), ?_⟩
  rw [nI_clamp (by omega)]
  rw [x_law_898f]
  rw [x_law_899]
  rw [x_law_900]
  rw [x_law_901, nI_k4]
  rw [x_law_902k kA_3]
  refine ⟨vp_in_nI (by omega) (by omega), ?_⟩
  rw [nI_clamp (by omega)]
  rw [x_law_903]
  refine ⟨rc2, Nat.le_of_ble_eq_true rfl, _, _, e2, ?_⟩
  show aRun _ _ _ _ 906 _ [.int r, .int r] h2
  rw [x_law_906, if_pos rfl]
  rw [x_law_1076, nI_k5]
  rw [x_law_1079]
  exact kk
theorem law_c29 {X : aX} {d i : Nat} {hE h h1 h2 : aH} {r : Int32} (hL : X.1 ≤ 2560) (hi : i + 5 ≤ X.1) (rc1 : rcv h (mK m_Ht_unhang) (.ref 0) = true) (rc2 : rcv h1 (mK m_Mod_unhang) (.ref 73) = true) (e1 : aEv X d m_Ht_unhang (.ref 0 :: [.int (X.2 (i + 1)), .int (X.2 (i + 2)), .int (X.2 (i + 3))]) h (some (.int r)) h1) (e2 : aEv X d m_Mod_unhang (.ref 73 :: [.int (X.2 (i + 1)), .int (X.2 (i + 2)), .int (X.2 (i + 3))]) h1 (some (.int r)) h2) (kk : aRun (aEv X d) X mLaw (some (.int 1), hE) 18 [.float 3, .ref 0, .ref 73, .int (nI (i + 5))] [] h2) : aRun (aEv X d) X mLaw (some (.int 1), hE) 911 [.float 3, .ref 0, .ref 73, .int (nI i)] [] h := by
  rw [x_law_911]
  rw [x_law_912f]
  rw [x_law_913]
  rw [x_law_914]
  rw [x_law_915, nI_k1]
  rw [x_law_916k kA_3]
  refine ⟨vp_in_nI (by omega) (by omega), ?_⟩
  rw [nI_clamp (by omega)]
  rw [x_law_917f]
  rw [x_law_918]
  rw [x_law_919]
  rw [x_law_920, nI_k2]
  rw [x_law_921k kA_3]
  refine ⟨vp_in_nI (by omega) (by omega), ?_⟩
  rw [nI_clamp (by omega)]
  rw [x_law_922f]
  rw [x_law_923]
  rw [x_law_924]
  rw [x_law_925, nI_k3]
  rw [x_law_926k kA_3]
  refine ⟨vp_in_nI (by omega) (by omega), ?_⟩
  rw [nI_clamp (by omega)]
  rw [x_law_927]
  refine ⟨rc1, Nat.le_of_ble_eq_true rfl, _, _, e1, ?_⟩
  show aRun _ _ _ _ 930 _ [.int r] h1
  rw [x_law_930]
  rw [x_law_931f]
  rw [x_law_932]
  rw [x_law_933]
  rw [x_law_934, nI_k1]
  rw [x_law_935k kA_3]
  refine ⟨vp_in_nI (by omega) (by omega), ?_⟩
  rw [nI_clamp (by omega)]
  rw [x_law_936f]
  rw [x_law_937]
  rw [x_law_938]
  rw [x_law_939, nI_k2]
  rw [x_law_940k kA_3]
  refine ⟨vp_in_nI (by omega) (by omega), ?_⟩
  rw [nI_clamp (by omega)]
  rw [x_law_941f]
  rw [x_law_942]
  rw [x_law_943]
  rw [x_law_944, nI_k3]
  rw [x_law_945k kA_3]
  refine ⟨vp_in_nI (by omega) (by omega), ?_⟩
  rw [nI_clamp (by omega)]
  rw [x_law_946]
  refine ⟨rc2, Nat.le_of_ble_eq_true rfl, _, _, e2, ?_⟩
  show aRun _ _ _ _ 949 _ [.int r, .int r] h2
  rw [x_law_949, if_pos rfl]
  rw [x_law_1076, nI_k5]
  rw [x_law_1079]
  exact kk
theorem law_c30 {X : aX} {d i : Nat} {hE h h1 h2 : aH} {r : Int32} (hL : X.1 ≤ 2560) (hi : i + 5 ≤ X.1) (rc1 : rcv h (mK m_Ht_find) (.ref 0) = true) (rc2 : rcv h1 (mK m_Mod_find) (.ref 73) = true) (e1 : aEv X d m_Ht_find (.ref 0 :: [.int (X.2 (i + 1)), .int (X.2 (i + 2)), .int (X.2 (i + 3))]) h (some (.int r)) h1) (e2 : aEv X d m_Mod_find (.ref 73 :: [.int (X.2 (i + 1)), .int (X.2 (i + 2)), .int (X.2 (i + 3))]) h1 (some (.int r)) h2) (kk : aRun (aEv X d) X mLaw (some (.int 1), hE) 18 [.float 3, .ref 0, .ref 73, .int (nI (i + 5))] [] h2) : aRun (aEv X d) X mLaw (some (.int 1), hE) 954 [.float 3, .ref 0, .ref 73, .int (nI i)] [] h := by
  rw [x_law_954]
  rw [x_law_955f]
  rw [x_law_956]
  rw [x_law_957]
  rw [x_law_958, nI_k1]
  rw [x_law_959k kA_3]
  refine ⟨vp_in_nI (by omega) (by omega), ?_⟩
  rw [nI_clamp (by omega)]
  rw [x_law_960f]
  rw [x_law_961]
  rw [x_law_962]
  rw [x_law_963, nI_k2]
  rw [x_law_964k kA_3]
  refine ⟨vp_in_nI (by omega) (by omega), ?_⟩
  rw [nI_clamp (by omega)]
  rw [x_law_965f]
  rw [x_law_966]
  rw [x_law_967]
  rw [x_law_968, nI_k3]
  rw [x_law_969k kA_3]
  refine ⟨vp_in_nI (by omega) (by omega), ?_⟩
  rw [nI_clamp (by omega)]
  rw [x_law_970]
  refine ⟨rc1, Nat.le_of_ble_eq_true rfl, _, _, e1, ?_⟩
  show aRun _ _ _ _ 973 _ [.int r] h1
  rw [x_law_973]
  rw [x_law_974f]
  rw [x_law_975]
  rw [x_law_976]
  rw [x_law_977, nI_k1]
  rw [x_law_978k kA_3]
  refine ⟨vp_in_nI (by omega) (by omega), ?_⟩
  rw [nI_clamp (by omega)]
  rw [x_law_979f]
  rw [x_law_980]
  rw [x_law_981]
  rw [x_law_982, nI_k2]
  rw [x_law_983k kA_3]
  refine ⟨vp_in_nI (by omega) (by omega), ?_⟩
  rw [nI_clamp (by omega)]
  rw [x_law_984f]
  rw [x_law_985]
  rw [x_law_986]
  rw [x_law_987, nI_k3]
  rw [x_law_988k kA_3]
  refine ⟨vp_in_nI (by omega) (by omega), ?_⟩
  rw [nI_clamp (by omega)]
  rw [x_law_989]
  refine ⟨rc2, Nat.le_of_ble_eq_true rfl, _, _, e2, ?_⟩
  show aRun _ _ _ _ 992 _ [.int r, .int r] h2
  rw [x_law_992, if_pos rfl]
  rw [x_law_1076, nI_k5]
  rw [x_law_1079]
  exact kk
theorem law_c31 {X : aX} {d i : Nat} {hE h h1 h2 : aH} {r : Int32} (hL : X.1 ≤ 2560) (hi : i + 5 ≤ X.1) (rc1 : rcv h (mK m_Ht_join) (.ref 0) = true) (rc2 : rcv h1 (mK m_Mod_join) (.ref 73) = true) (e1 : aEv X d m_Ht_join (.ref 0 :: [.int (X.2 (i + 1)), .int (X.2 (i + 2))]) h (some (.int r)) h1) (e2 : aEv X d m_Mod_join (.ref 73 :: [.int (X.2 (i + 1)), .int (X.2 (i + 2))]) h1 (some (.int r)) h2) (kk : aRun (aEv X d) X mLaw (some (.int 1), hE) 18 [.float 3, .ref 0, .ref 73, .int (nI (i + 5))] [] h2) : aRun (aEv X d) X mLaw (some (.int 1), hE) 997 [.float 3, .ref 0, .ref 73, .int (nI i)] [] h := by
  rw [x_law_997]
  rw [x_law_998f]
  rw [x_law_999]
  rw [x_law_1000]
  rw [x_law_1001, nI_k1]
  rw [x_law_1002k kA_3]
  refine ⟨vp_in_nI (by omega) (by omega), ?_⟩
  rw [nI_clamp (by omega)]
  rw [x_law_1003f]
  rw [x_law_1004]
  rw [x_law_1005]
  rw [x_law_1006, nI_k2]
  rw [x_law_1007k kA_3]
  refine ⟨vp_in_nI (by omega) (by omega), ?_⟩
  rw [nI_clamp (by omega)]
  rw [x_law_1008]
  refine ⟨rc1, Nat.le_of_ble_eq_true rfl, _, _, e1, ?_⟩
  show aRun _ _ _ _ 1011 _ [.int r] h1
  rw [x_law_1011]
  rw [x_law_1012f]
  rw [x_law_1013]
  rw [x_law_1014]
  rw [x_law_1015, nI_k1]
  rw [x_law_1016k kA_3]
  refine ⟨vp_in_nI (by omega) (by omega), ?_⟩
  rw [nI_clamp (by omega)]
  rw [x_law_1017f]
  rw [x_law_1018]
  rw [x_law_1019]
  rw [x_law_1020, nI_k2]
  rw [x_law_1021k kA_3]
  refine ⟨vp_in_nI (by omega) (by omega), ?_⟩
  rw [nI_clamp (by omega)]
  rw [x_law_1022]
  refine ⟨rc2, Nat.le_of_ble_eq_true rfl, _, _, e2, ?_⟩
  show aRun _ _ _ _ 1025 _ [.int r, .int r] h2
  rw [x_law_1025, if_pos rfl]
  rw [x_law_1076, nI_k5]
  rw [x_law_1079]
  exact kk
theorem law_c32 {X : aX} {d i : Nat} {hE h h1 h2 : aH} {r : Int32} (hL : X.1 ≤ 2560) (hi : i + 5 ≤ X.1) (rc1 : rcv h (mK m_Ht_drop) (.ref 0) = true) (rc2 : rcv h1 (mK m_Mod_drop) (.ref 73) = true) (e1 : aEv X d m_Ht_drop (.ref 0 :: [.int (X.2 (i + 1))]) h (some (.int r)) h1) (e2 : aEv X d m_Mod_drop (.ref 73 :: [.int (X.2 (i + 1))]) h1 (some (.int r)) h2) (kk : aRun (aEv X d) X mLaw (some (.int 1), hE) 18 [.float 3, .ref 0, .ref 73, .int (nI (i + 5))] [] h2) : aRun (aEv X d) X mLaw (some (.int 1), hE) 1030 [.float 3, .ref 0, .ref 73, .int (nI i)] [] h := by
  rw [x_law_1030]
  rw [x_law_1031f]
  rw [x_law_1032]
  rw [x_law_1033]
  rw [x_law_1034, nI_k1]
  rw [x_law_1035k kA_3]
  refine ⟨vp_in_nI (by omega) (by omega), ?_⟩
  rw [nI_clamp (by omega)]
  rw [x_law_1036]
  refine ⟨rc1, Nat.le_of_ble_eq_true rfl, _, _, e1, ?_⟩
  show aRun _ _ _ _ 1039 _ [.int r] h1
  rw [x_law_1039]
  rw [x_law_1040f]
  rw [x_law_1041]
  rw [x_law_1042]
  rw [x_law_1043, nI_k1]
  rw [x_law_1044k kA_3]
  refine ⟨vp_in_nI (by omega) (by omega), ?_⟩
  rw [nI_clamp (by omega)]
  rw [x_law_1045]
  refine ⟨rc2, Nat.le_of_ble_eq_true rfl, _, _, e2, ?_⟩
  show aRun _ _ _ _ 1048 _ [.int r, .int r] h2
  rw [x_law_1048, if_pos rfl]
  rw [x_law_1076, nI_k5]
  rw [x_law_1079]
  exact kk
theorem law_c33 {X : aX} {d i : Nat} {hE h h1 h2 : aH} {r : Int32} (hL : X.1 ≤ 2560) (hi : i + 5 ≤ X.1) (rc1 : rcv h (mK m_Ht_count) (.ref 0) = true) (rc2 : rcv h1 (mK m_Mod_count) (.ref 73) = true) (e1 : aEv X d m_Ht_count (.ref 0 :: [.int (X.2 (i + 1))]) h (some (.int r)) h1) (e2 : aEv X d m_Mod_count (.ref 73 :: [.int (X.2 (i + 1))]) h1 (some (.int r)) h2) (kk : aRun (aEv X d) X mLaw (some (.int 1), hE) 18 [.float 3, .ref 0, .ref 73, .int (nI (i + 5))] [] h2) : aRun (aEv X d) X mLaw (some (.int 1), hE) 1053 [.float 3, .ref 0, .ref 73, .int (nI i)] [] h := by
  rw [x_law_1053]
  rw [x_law_1054f]
  rw [x_law_1055]
  rw [x_law_1056]
  rw [x_law_1057, nI_k1]
  rw [x_law_1058k kA_3]
  refine ⟨vp_in_nI (by omega) (by omega), ?_⟩
  rw [nI_clamp (by omega)]
  rw [x_law_1059]
  refine ⟨rc1, Nat.le_of_ble_eq_true rfl, _, _, e1, ?_⟩
  show aRun _ _ _ _ 1062 _ [.int r] h1
  rw [x_law_1062]
  rw [x_law_1063f]
  rw [x_law_1064]
  rw [x_law_1065]
  rw [x_law_1066, nI_k1]
  rw [x_law_1067k kA_3]
  refine ⟨vp_in_nI (by omega) (by omega), ?_⟩
  rw [nI_clamp (by omega)]
  rw [x_law_1068]
  refine ⟨rc2, Nat.le_of_ble_eq_true rfl, _, _, e2, ?_⟩
  show aRun _ _ _ _ 1071 _ [.int r, .int r] h2
  rw [x_law_1071, if_pos rfl]
  rw [x_law_1076, nI_k5]
  rw [x_law_1079]
  exact kk
/-- all 34 calls -/
def CallsOK : Prop := CallOK m_Ht_write m_Mod_write 1 ∧ CallOK m_Ht_erase m_Mod_erase 0 ∧ CallOK m_Ht_fault m_Mod_fault 0 ∧ CallOK m_Ht_commons m_Mod_commons 0 ∧ CallOK m_Ht_house m_Mod_house 2 ∧ CallOK m_Ht_thing m_Mod_thing 2 ∧ CallOK m_Ht_as m_Mod_as 2 ∧ CallOK m_Ht_want m_Mod_want 2 ∧ CallOK m_Ht_year m_Mod_year 1 ∧ CallOK m_Ht_send m_Mod_send 2 ∧ CallOK m_Ht_patch m_Mod_patch 2 ∧ CallOK m_Ht_trade m_Mod_trade 0 ∧ CallOK m_Ht_undo m_Mod_undo 0 ∧ CallOK m_Ht_keep m_Mod_keep 1 ∧ CallOK m_Ht_back m_Mod_back 1 ∧ CallOK m_Ht_behind m_Mod_behind 3 ∧ CallOK m_Ht_leaves m_Mod_leaves 1 ∧ CallOK m_Ht_rings m_Mod_rings 0 ∧ CallOK m_Ht_pieces m_Mod_pieces 1 ∧ CallOK m_Ht_hangs m_Mod_hangs 0 ∧ CallOK m_Ht_way m_Mod_way 2 ∧ CallOK m_Ht_knit m_Mod_knit 1 ∧ CallOK m_Ht_whole m_Mod_whole 2 ∧ CallOK m_Ht_seen m_Mod_seen 3 ∧ CallOK m_Ht_forget m_Mod_forget 0 ∧ CallOK m_Ht_kinds m_Mod_kinds 0 ∧ CallOK m_Ht_ask m_Mod_ask 0 ∧ CallOK m_Ht_hooks m_Mod_hooks 2 ∧ CallOK m_Ht_hang m_Mod_hang 4 ∧ CallOK m_Ht_unhang m_Mod_unhang 3 ∧ CallOK m_Ht_find m_Mod_find 3 ∧ CallOK m_Ht_join m_Mod_join 2 ∧ CallOK m_Ht_drop m_Mod_drop 1 ∧ CallOK m_Ht_count m_Mod_count 1
theorem inv_x {h : aH} (hv : Inv h) : ∃ n, oHt h n := by
  obtain ⟨x, y, hx, -⟩ := hv
  exact ⟨_, hx.1⟩
theorem tsw_at {x : Int32} {K : Nat → Prop} {dflt : Nat} {ts : List Nat} {k t : Nat} (hl : ts.length < 1000) (hk : ts[k]? = some t) (hx : x = nI k) (hK : K t) : tsw x K dflt 0 ts := (tsw_spec ts 0 (by omega)).mpr (Or.inl ⟨k, t, hk, by rw [Nat.zero_add]; exact hx, hK⟩)
theorem tsw_no {x : Int32} {K : Nat → Prop} {dflt : Nat} {ts : List Nat} (hl : ts.length < 1000) (hx : ∀ j, j < ts.length → x ≠ nI j) (hK : K dflt) : tsw x K dflt 0 ts := (tsw_spec ts 0 (by omega)).mpr (Or.inr ⟨fun j hj => by rw [Nat.zero_add]; exact hx j hj, hK⟩)
theorem law_cmp {L i : Nat} (hL : L ≤ 2560) (hi : i ≤ 3000) : (Int32.ofNat L - 5 < nI i) ↔ L < i + 5 := by
  show (nI L - 5 < nI i) ↔ _
  have e : (nI L - 5).toInt = (L : Int) - 5 := pk_sub_toInt (a := L) (b := 5) (by omega) (by omega)
  rw [Int32.lt_iff_toInt_lt, e, nI_toInt (by omega)]
  omega
theorem law_end {X : aX} {d i : Nat} {h : aH} (hL : X.1 ≤ 2560) (hi : X.1 < i + 5) (h2 : i ≤ 3000) : aRun (aEv X d) X mLaw (some (.int 1), h) 18 [.float 3, .ref 0, .ref 73, .int (nI i)] [] h := by
  rw [x_law_18, x_law_19f, x_law_20k kA_3, x_law_21, x_law_22, x_law_23]
  rw [if_pos ((law_cmp hL h2).mpr hi), x_law_1082, x_law_1083]
  exact ⟨nb1, rfl⟩
theorem law_head {X : aX} {d i : Nat} {hE h : aH} (hL : X.1 ≤ 2560) (hi : i + 5 ≤ X.1) (k : tsw (X.2 i &&& 63) (fun t => aRun (aEv X d) X mLaw (some (.int 1), hE) t [.float 3, .ref 0, .ref 73, .int (nI i)] [] h) 1076 0 [184, 207, 220, 233, 246, 279, 312, 345, 378, 401, 434, 467, 480, 493, 516, 539, 582, 605, 618, 641, 654, 687, 710, 743, 786, 799, 812, 825, 858, 911, 954, 997, 1030, 1053]) : aRun (aEv X d) X mLaw (some (.int 1), hE) 18 [.float 3, .ref 0, .ref 73, .int (nI i)] [] h := by
  rw [x_law_18, x_law_19f, x_law_20k kA_3, x_law_21, x_law_22, x_law_23]
  rw [if_neg (fun q => by have := (law_cmp hL (by omega)).mp q; omega), x_law_26f, x_law_27, x_law_28k kA_3]
  refine ⟨vp_in_nI (by omega) (by omega), ?_⟩
  rw [nI_clamp (by omega), x_law_29, x_law_31, x_law_32]
  exact k
theorem law_loop (HC : CallsOK) {X : aX} {d : Nat} (hL : X.1 ≤ 2560) : ∀ (n i : Nat) (h : aH), X.1 < i + 5 * n → i ≤ X.1 + 5 → Inv h → ∃ hE, hn hE ≤ 600000 ∧ hz hE ≤ 7302250 ∧ aRun (aEv X (d + 40)) X mLaw (some (.int 1), hE) 18 [.float 3, .ref 0, .ref 73, .int (nI i)] [] h := by
  intro n
  induction n with
  | zero =>
    intro i h hi h5 hv
    obtain ⟨x, y, -, -, -, hn1, hz1⟩ := hv
    exact ⟨h, by omega, by omega, law_end hL (by omega) (by omega)⟩
  | succ n ih =>
    intro i h hi h5 hv
    by_cases hend : X.1 < i + 5
    · obtain ⟨x, y, -, -, -, hn1, hz1⟩ := hv
      exact ⟨h, by omega, by omega, law_end hL hend (by omega)⟩
    have hle : i + 5 ≤ X.1 := by omega
    by_cases hj : ∃ j, j < 34 ∧ X.2 i &&& 63 = nI j
    · obtain ⟨j, hj1, hj2⟩ := hj
      obtain ⟨n0, hx0⟩ := inv_x hv
      obtain ⟨c0, c1, c2, c3, c4, c5, c6, c7, c8, c9, c10, c11, c12, c13, c14, c15, c16, c17, c18, c19, c20, c21, c22, c23, c24, c25, c26, c27, c28, c29, c30, c31, c32, c33⟩ := HC
      match j, hj1, hj2 with
      | 0, _, hj2 =>
        obtain ⟨r, h1, h2, e1, e2, hv2, u, ln, sm, a, b, c, d9, e, f, hm⟩ := c0 X d h [.int (X.2 (i + 1))] rfl (by intro v hv; simp only [List.mem_cons, List.not_mem_nil, or_false] at hv; first | exact hv.elim | (rcases hv with rfl | rfl | rfl | rfl <;> exact ⟨_, rfl⟩) | (rcases hv with rfl | rfl | rfl <;> exact ⟨_, rfl⟩) | (rcases hv with rfl | rfl <;> exact ⟨_, rfl⟩) | (subst hv; exact ⟨_, rfl⟩)) hv
        obtain ⟨hE, b1, b2, kk⟩ := ih (i + 5) h2 (by omega) (by omega) hv2
        exact ⟨hE, b1, b2, law_head hL hle (tsw_at (by decide) rfl hj2 (law_c0 hL hle (rc_x (by decide +kernel) hx0) (rc_y (by decide +kernel) hm) e1 e2 kk))⟩
      | 1, _, hj2 =>
        obtain ⟨r, h1, h2, e1, e2, hv2, u, ln, sm, a, b, c, d9, e, f, hm⟩ := c1 X d h [] rfl (fun v hv => absurd hv List.not_mem_nil) hv
        obtain ⟨hE, b1, b2, kk⟩ := ih (i + 5) h2 (by omega) (by omega) hv2
        exact ⟨hE, b1, b2, law_head hL hle (tsw_at (by decide) rfl hj2 (law_c1 hL hle (rc_x (by decide +kernel) hx0) (rc_y (by decide +kernel) hm) e1 e2 kk))⟩
      | 2, _, hj2 =>
        obtain ⟨r, h1, h2, e1, e2, hv2, u, ln, sm, a, b, c, d9, e, f, hm⟩ := c2 X d h [] rfl (fun v hv => absurd hv List.not_mem_nil) hv
        obtain ⟨hE, b1, b2, kk⟩ := ih (i + 5) h2 (by omega) (by omega) hv2
        exact ⟨hE, b1, b2, law_head hL hle (tsw_at (by decide) rfl hj2 (law_c2 hL hle (rc_x (by decide +kernel) hx0) (rc_y (by decide +kernel) hm) e1 e2 kk))⟩
      | 3, _, hj2 =>
        obtain ⟨r, h1, h2, e1, e2, hv2, u, ln, sm, a, b, c, d9, e, f, hm⟩ := c3 X d h [] rfl (fun v hv => absurd hv List.not_mem_nil) hv
        obtain ⟨hE, b1, b2, kk⟩ := ih (i + 5) h2 (by omega) (by omega) hv2
        exact ⟨hE, b1, b2, law_head hL hle (tsw_at (by decide) rfl hj2 (law_c3 hL hle (rc_x (by decide +kernel) hx0) (rc_y (by decide +kernel) hm) e1 e2 kk))⟩
      | 4, _, hj2 =>
        obtain ⟨r, h1, h2, e1, e2, hv2, u, ln, sm, a, b, c, d9, e, f, hm⟩ := c4 X d h [.int (X.2 (i + 1)), .int (X.2 (i + 2))] rfl (by intro v hv; simp only [List.mem_cons, List.not_mem_nil, or_false] at hv; first | exact hv.elim | (rcases hv with rfl | rfl | rfl | rfl <;> exact ⟨_, rfl⟩) | (rcases hv with rfl | rfl | rfl <;> exact ⟨_, rfl⟩) | (rcases hv with rfl | rfl <;> exact ⟨_, rfl⟩) | (subst hv; exact ⟨_, rfl⟩)) hv
        obtain ⟨hE, b1, b2, kk⟩ := ih (i + 5) h2 (by omega) (by omega) hv2
        exact ⟨hE, b1, b2, law_head hL hle (tsw_at (by decide) rfl hj2 (law_c4 hL hle (rc_x (by decide +kernel) hx0) (rc_y (by decide +kernel) hm) e1 e2 kk))⟩
      | 5, _, hj2 =>
        obtain ⟨r, h1, h2, e1, e2, hv2, u, ln, sm, a, b, c, d9, e, f, hm⟩ := c5 X d h [.int (X.2 (i + 1)), .int (X.2 (i + 2))] rfl (by intro v hv; simp only [List.mem_cons, List.not_mem_nil, or_false] at hv; first | exact hv.elim | (rcases hv with rfl | rfl | rfl | rfl <;> exact ⟨_, rfl⟩) | (rcases hv with rfl | rfl | rfl <;> exact ⟨_, rfl⟩) | (rcases hv with rfl | rfl <;> exact ⟨_, rfl⟩) | (subst hv; exact ⟨_, rfl⟩)) hv
        obtain ⟨hE, b1, b2, kk⟩ := ih (i + 5) h2 (by omega) (by omega) hv2
        exact ⟨hE, b1, b2, law_head hL hle (tsw_at (by decide) rfl hj2 (law_c5 hL hle (rc_x (by decide +kernel) hx0) (rc_y (by decide +kernel) hm) e1 e2 kk))⟩
      | 6, _, hj2 =>
        obtain ⟨r, h1, h2, e1, e2, hv2, u, ln, sm, a, b, c, d9, e, f, hm⟩ := c6 X d h [.int (X.2 (i + 1)), .int (X.2 (i + 2))] rfl (by intro v hv; simp only [List.mem_cons, List.not_mem_nil, or_false] at hv; first | exact hv.elim | (rcases hv with rfl | rfl | rfl | rfl <;> exact ⟨_, rfl⟩) | (rcases hv with rfl | rfl | rfl <;> exact ⟨_, rfl⟩) | (rcases hv with rfl | rfl <;> exact ⟨_, rfl⟩) | (subst hv; exact ⟨_, rfl⟩)) hv
        obtain ⟨hE, b1, b2, kk⟩ := ih (i + 5) h2 (by omega) (by omega) hv2
        exact ⟨hE, b1, b2, law_head hL hle (tsw_at (by decide) rfl hj2 (law_c6 hL hle (rc_x (by decide +kernel) hx0) (rc_y (by decide +kernel) hm) e1 e2 kk))⟩
      | 7, _, hj2 =>
        obtain ⟨r, h1, h2, e1, e2, hv2, u, ln, sm, a, b, c, d9, e, f, hm⟩ := c7 X d h [.int (X.2 (i + 1)), .int (X.2 (i + 2))] rfl (by intro v hv; simp only [List.mem_cons, List.not_mem_nil, or_false] at hv; first | exact hv.elim | (rcases hv with rfl | rfl | rfl | rfl <;> exact ⟨_, rfl⟩) | (rcases hv with rfl | rfl | rfl <;> exact ⟨_, rfl⟩) | (rcases hv with rfl | rfl <;> exact ⟨_, rfl⟩) | (subst hv; exact ⟨_, rfl⟩)) hv
        obtain ⟨hE, b1, b2, kk⟩ := ih (i + 5) h2 (by omega) (by omega) hv2
        exact ⟨hE, b1, b2, law_head hL hle (tsw_at (by decide) rfl hj2 (law_c7 hL hle (rc_x (by decide +kernel) hx0) (rc_y (by decide +kernel) hm) e1 e2 kk))⟩
      | 8, _, hj2 =>
        obtain ⟨r, h1, h2, e1, e2, hv2, u, ln, sm, a, b, c, d9, e, f, hm⟩ := c8 X d h [.int (X.2 (i + 1))] rfl (by intro v hv; simp only [List.mem_cons, List.not_mem_nil, or_false] at hv; first | exact hv.elim | (rcases hv with rfl | rfl | rfl | rfl <;> exact ⟨_, rfl⟩) | (rcases hv with rfl | rfl | rfl <;> exact ⟨_, rfl⟩) | (rcases hv with rfl | rfl <;> exact ⟨_, rfl⟩) | (subst hv; exact ⟨_, rfl⟩)) hv
        obtain ⟨hE, b1, b2, kk⟩ := ih (i + 5) h2 (by omega) (by omega) hv2
        exact ⟨hE, b1, b2, law_head hL hle (tsw_at (by decide) rfl hj2 (law_c8 hL hle (rc_x (by decide +kernel) hx0) (rc_y (by decide +kernel) hm) e1 e2 kk))⟩
      | 9, _, hj2 =>
        obtain ⟨r, h1, h2, e1, e2, hv2, u, ln, sm, a, b, c, d9, e, f, hm⟩ := c9 X d h [.int (X.2 (i + 1)), .int (X.2 (i + 2))] rfl (by intro v hv; simp only [List.mem_cons, List.not_mem_nil, or_false] at hv; first | exact hv.elim | (rcases hv with rfl | rfl | rfl | rfl <;> exact ⟨_, rfl⟩) | (rcases hv with rfl | rfl | rfl <;> exact ⟨_, rfl⟩) | (rcases hv with rfl | rfl <;> exact ⟨_, rfl⟩) | (subst hv; exact ⟨_, rfl⟩)) hv
        obtain ⟨hE, b1, b2, kk⟩ := ih (i + 5) h2 (by omega) (by omega) hv2
        exact ⟨hE, b1, b2, law_head hL hle (tsw_at (by decide) rfl hj2 (law_c9 hL hle (rc_x (by decide +kernel) hx0) (rc_y (by decide +kernel) hm) e1 e2 kk))⟩
      | 10, _, hj2 =>
        obtain ⟨r, h1, h2, e1, e2, hv2, u, ln, sm, a, b, c, d9, e, f, hm⟩ := c10 X d h [.int (X.2 (i + 1)), .int (X.2 (i + 2))] rfl (by intro v hv; simp only [List.mem_cons, List.not_mem_nil, or_false] at hv; first | exact hv.elim | (rcases hv with rfl | rfl | rfl | rfl <;> exact ⟨_, rfl⟩) | (rcases hv with rfl | rfl | rfl <;> exact ⟨_, rfl⟩) | (rcases hv with rfl | rfl <;> exact ⟨_, rfl⟩) | (subst hv; exact ⟨_, rfl⟩)) hv
        obtain ⟨hE, b1, b2, kk⟩ := ih (i + 5) h2 (by omega) (by omega) hv2
        exact ⟨hE, b1, b2, law_head hL hle (tsw_at (by decide) rfl hj2 (law_c10 hL hle (rc_x (by decide +kernel) hx0) (rc_y (by decide +kernel) hm) e1 e2 kk))⟩
      | 11, _, hj2 =>
        obtain ⟨r, h1, h2, e1, e2, hv2, u, ln, sm, a, b, c, d9, e, f, hm⟩ := c11 X d h [] rfl (fun v hv => absurd hv List.not_mem_nil) hv
        obtain ⟨hE, b1, b2, kk⟩ := ih (i + 5) h2 (by omega) (by omega) hv2
        exact ⟨hE, b1, b2, law_head hL hle (tsw_at (by decide) rfl hj2 (law_c11 hL hle (rc_x (by decide +kernel) hx0) (rc_y (by decide +kernel) hm) e1 e2 kk))⟩
      | 12, _, hj2 =>
        obtain ⟨r, h1, h2, e1, e2, hv2, u, ln, sm, a, b, c, d9, e, f, hm⟩ := c12 X d h [] rfl (fun v hv => absurd hv List.not_mem_nil) hv
        obtain ⟨hE, b1, b2, kk⟩ := ih (i + 5) h2 (by omega) (by omega) hv2
        exact ⟨hE, b1, b2, law_head hL hle (tsw_at (by decide) rfl hj2 (law_c12 hL hle (rc_x (by decide +kernel) hx0) (rc_y (by decide +kernel) hm) e1 e2 kk))⟩
      | 13, _, hj2 =>
        obtain ⟨r, h1, h2, e1, e2, hv2, u, ln, sm, a, b, c, d9, e, f, hm⟩ := c13 X d h [.int (X.2 (i + 1))] rfl (by intro v hv; simp only [List.mem_cons, List.not_mem_nil, or_false] at hv; first | exact hv.elim | (rcases hv with rfl | rfl | rfl | rfl <;> exact ⟨_, rfl⟩) | (rcases hv with rfl | rfl | rfl <;> exact ⟨_, rfl⟩) | (rcases hv with rfl | rfl <;> exact ⟨_, rfl⟩) | (subst hv; exact ⟨_, rfl⟩)) hv
        obtain ⟨hE, b1, b2, kk⟩ := ih (i + 5) h2 (by omega) (by omega) hv2
        exact ⟨hE, b1, b2, law_head hL hle (tsw_at (by decide) rfl hj2 (law_c13 hL hle (rc_x (by decide +kernel) hx0) (rc_y (by decide +kernel) hm) e1 e2 kk))⟩
      | 14, _, hj2 =>
        obtain ⟨r, h1, h2, e1, e2, hv2, u, ln, sm, a, b, c, d9, e, f, hm⟩ := c14 X d h [.int (X.2 (i + 1))] rfl (by intro v hv; simp only [List.mem_cons, List.not_mem_nil, or_false] at hv; first | exact hv.elim | (rcases hv with rfl | rfl | rfl | rfl <;> exact ⟨_, rfl⟩) | (rcases hv with rfl | rfl | rfl <;> exact ⟨_, rfl⟩) | (rcases hv with rfl | rfl <;> exact ⟨_, rfl⟩) | (subst hv; exact ⟨_, rfl⟩)) hv
        obtain ⟨hE, b1, b2, kk⟩ := ih (i + 5) h2 (by omega) (by omega) hv2
        exact ⟨hE, b1, b2, law_head hL hle (tsw_at (by decide) rfl hj2 (law_c14 hL hle (rc_x (by decide +kernel) hx0) (rc_y (by decide +kernel) hm) e1 e2 kk))⟩
      | 15, _, hj2 =>
        obtain ⟨r, h1, h2, e1, e2, hv2, u, ln, sm, a, b, c, d9, e, f, hm⟩ := c15 X d h [.int (X.2 (i + 1)), .int (X.2 (i + 2)), .int (X.2 (i + 3))] rfl (by intro v hv; simp only [List.mem_cons, List.not_mem_nil, or_false] at hv; first | exact hv.elim | (rcases hv with rfl | rfl | rfl | rfl <;> exact ⟨_, rfl⟩) | (rcases hv with rfl | rfl | rfl <;> exact ⟨_, rfl⟩) | (rcases hv with rfl | rfl <;> exact ⟨_, rfl⟩) | (subst hv; exact ⟨_, rfl⟩)) hv
        obtain ⟨hE, b1, b2, kk⟩ := ih (i + 5) h2 (by omega) (by omega) hv2
        exact ⟨hE, b1, b2, law_head hL hle (tsw_at (by decide) rfl hj2 (law_c15 hL hle (rc_x (by decide +kernel) hx0) (rc_y (by decide +kernel) hm) e1 e2 kk))⟩
      | 16, _, hj2 =>
        obtain ⟨r, h1, h2, e1, e2, hv2, u, ln, sm, a, b, c, d9, e, f, hm⟩ := c16 X d h [.int (X.2 (i + 1))] rfl (by intro v hv; simp only [List.mem_cons, List.not_mem_nil, or_false] at hv; first | exact hv.elim | (rcases hv with rfl | rfl | rfl | rfl <;> exact ⟨_, rfl⟩) | (rcases hv with rfl | rfl | rfl <;> exact ⟨_, rfl⟩) | (rcases hv with rfl | rfl <;> exact ⟨_, rfl⟩) | (subst hv; exact ⟨_, rfl⟩)) hv
        obtain ⟨hE, b1, b2, kk⟩ := ih (i + 5) h2 (by omega) (by omega) hv2
        exact ⟨hE, b1, b2, law_head hL hle (tsw_at (by decide) rfl hj2 (law_c16 hL hle (rc_x (by decide +kernel) hx0) (rc_y (by decide +kernel) hm) e1 e2 kk))⟩
      | 17, _, hj2 =>
        obtain ⟨r, h1, h2, e1, e2, hv2, u, ln, sm, a, b, c, d9, e, f, hm⟩ := c17 X d h [] rfl (fun v hv => absurd hv List.not_mem_nil) hv
        obtain ⟨hE, b1, b2, kk⟩ := ih (i + 5) h2 (by omega) (by omega) hv2
        exact ⟨hE, b1, b2, law_head hL hle (tsw_at (by decide) rfl hj2 (law_c17 hL hle (rc_x (by decide +kernel) hx0) (rc_y (by decide +kernel) hm) e1 e2 kk))⟩
      | 18, _, hj2 =>
        obtain ⟨r, h1, h2, e1, e2, hv2, u, ln, sm, a, b, c, d9, e, f, hm⟩ := c18 X d h [.int (X.2 (i + 1))] rfl (by intro v hv; simp only [List.mem_cons, List.not_mem_nil, or_false] at hv; first | exact hv.elim | (rcases hv with rfl | rfl | rfl | rfl <;> exact ⟨_, rfl⟩) | (rcases hv with rfl | rfl | rfl <;> exact ⟨_, rfl⟩) | (rcases hv with rfl | rfl <;> exact ⟨_, rfl⟩) | (subst hv; exact ⟨_, rfl⟩)) hv
        obtain ⟨hE, b1, b2, kk⟩ := ih (i + 5) h2 (by omega) (by omega) hv2
        exact ⟨hE, b1, b2, law_head hL hle (tsw_at (by decide) rfl hj2 (law_c18 hL hle (rc_x (by decide +kernel) hx0) (rc_y (by decide +kernel) hm) e1 e2 kk))⟩
      | 19, _, hj2 =>
        obtain ⟨r, h1, h2, e1, e2, hv2, u, ln, sm, a, b, c, d9, e, f, hm⟩ := c19 X d h [] rfl (fun v hv => absurd hv List.not_mem_nil) hv
        obtain ⟨hE, b1, b2, kk⟩ := ih (i + 5) h2 (by omega) (by omega) hv2
        exact ⟨hE, b1, b2, law_head hL hle (tsw_at (by decide) rfl hj2 (law_c19 hL hle (rc_x (by decide +kernel) hx0) (rc_y (by decide +kernel) hm) e1 e2 kk))⟩
      | 20, _, hj2 =>
        obtain ⟨r, h1, h2, e1, e2, hv2, u, ln, sm, a, b, c, d9, e, f, hm⟩ := c20 X d h [.int (X.2 (i + 1)), .int (X.2 (i + 2))] rfl (by intro v hv; simp only [List.mem_cons, List.not_mem_nil, or_false] at hv; first | exact hv.elim | (rcases hv with rfl | rfl | rfl | rfl <;> exact ⟨_, rfl⟩) | (rcases hv with rfl | rfl | rfl <;> exact ⟨_, rfl⟩) | (rcases hv with rfl | rfl <;> exact ⟨_, rfl⟩) | (subst hv; exact ⟨_, rfl⟩)) hv
        obtain ⟨hE, b1, b2, kk⟩ := ih (i + 5) h2 (by omega) (by omega) hv2
        exact ⟨hE, b1, b2, law_head hL hle (tsw_at (by decide) rfl hj2 (law_c20 hL hle (rc_x (by decide +kernel) hx0) (rc_y (by decide +kernel) hm) e1 e2 kk))⟩
      | 21, _, hj2 =>
        obtain ⟨r, h1, h2, e1, e2, hv2, u, ln, sm, a, b, c, d9, e, f, hm⟩ := c21 X d h [.int (X.2 (i + 1))] rfl (by intro v hv; simp only [List.mem_cons, List.not_mem_nil, or_false] at hv; first | exact hv.elim | (rcases hv with rfl | rfl | rfl | rfl <;> exact ⟨_, rfl⟩) | (rcases hv with rfl | rfl | rfl <;> exact ⟨_, rfl⟩) | (rcases hv with rfl | rfl <;> exact ⟨_, rfl⟩) | (subst hv; exact ⟨_, rfl⟩)) hv
        obtain ⟨hE, b1, b2, kk⟩ := ih (i + 5) h2 (by omega) (by omega) hv2
        exact ⟨hE, b1, b2, law_head hL hle (tsw_at (by decide) rfl hj2 (law_c21 hL hle (rc_x (by decide +kernel) hx0) (rc_y (by decide +kernel) hm) e1 e2 kk))⟩
      | 22, _, hj2 =>
        obtain ⟨r, h1, h2, e1, e2, hv2, u, ln, sm, a, b, c, d9, e, f, hm⟩ := c22 X d h [.int (X.2 (i + 1)), .int (X.2 (i + 2))] rfl (by intro v hv; simp only [List.mem_cons, List.not_mem_nil, or_false] at hv; first | exact hv.elim | (rcases hv with rfl | rfl | rfl | rfl <;> exact ⟨_, rfl⟩) | (rcases hv with rfl | rfl | rfl <;> exact ⟨_, rfl⟩) | (rcases hv with rfl | rfl <;> exact ⟨_, rfl⟩) | (subst hv; exact ⟨_, rfl⟩)) hv
        obtain ⟨hE, b1, b2, kk⟩ := ih (i + 5) h2 (by omega) (by omega) hv2
        exact ⟨hE, b1, b2, law_head hL hle (tsw_at (by decide) rfl hj2 (law_c22 hL hle (rc_x (by decide +kernel) hx0) (rc_y (by decide +kernel) hm) e1 e2 kk))⟩
      | 23, _, hj2 =>
        obtain ⟨r, h1, h2, e1, e2, hv2, u, ln, sm, a, b, c, d9, e, f, hm⟩ := c23 X d h [.int (X.2 (i + 1)), .int (X.2 (i + 2)), .int (X.2 (i + 3))] rfl (by intro v hv; simp only [List.mem_cons, List.not_mem_nil, or_false] at hv; first | exact hv.elim | (rcases hv with rfl | rfl | rfl | rfl <;> exact ⟨_, rfl⟩) | (rcases hv with rfl | rfl | rfl <;> exact ⟨_, rfl⟩) | (rcases hv with rfl | rfl <;> exact ⟨_, rfl⟩) | (subst hv; exact ⟨_, rfl⟩)) hv
        obtain ⟨hE, b1, b2, kk⟩ := ih (i + 5) h2 (by omega) (by omega) hv2
        exact ⟨hE, b1, b2, law_head hL hle (tsw_at (by decide) rfl hj2 (law_c23 hL hle (rc_x (by decide +kernel) hx0) (rc_y (by decide +kernel) hm) e1 e2 kk))⟩
      | 24, _, hj2 =>
        obtain ⟨r, h1, h2, e1, e2, hv2, u, ln, sm, a, b, c, d9, e, f, hm⟩ := c24 X d h [] rfl (fun v hv => absurd hv List.not_mem_nil) hv
        obtain ⟨hE, b1, b2, kk⟩ := ih (i + 5) h2 (by omega) (by omega) hv2
        exact ⟨hE, b1, b2, law_head hL hle (tsw_at (by decide) rfl hj2 (law_c24 hL hle (rc_x (by decide +kernel) hx0) (rc_y (by decide +kernel) hm) e1 e2 kk))⟩
      | 25, _, hj2 =>
        obtain ⟨r, h1, h2, e1, e2, hv2, u, ln, sm, a, b, c, d9, e, f, hm⟩ := c25 X d h [] rfl (fun v hv => absurd hv List.not_mem_nil) hv
        obtain ⟨hE, b1, b2, kk⟩ := ih (i + 5) h2 (by omega) (by omega) hv2
        exact ⟨hE, b1, b2, law_head hL hle (tsw_at (by decide) rfl hj2 (law_c25 hL hle (rc_x (by decide +kernel) hx0) (rc_y (by decide +kernel) hm) e1 e2 kk))⟩
      | 26, _, hj2 =>
        obtain ⟨r, h1, h2, e1, e2, hv2, u, ln, sm, a, b, c, d9, e, f, hm⟩ := c26 X d h [] rfl (fun v hv => absurd hv List.not_mem_nil) hv
        obtain ⟨hE, b1, b2, kk⟩ := ih (i + 5) h2 (by omega) (by omega) hv2
        exact ⟨hE, b1, b2, law_head hL hle (tsw_at (by decide) rfl hj2 (law_c26 hL hle (rc_x (by decide +kernel) hx0) (rc_y (by decide +kernel) hm) e1 e2 kk))⟩
      | 27, _, hj2 =>
        obtain ⟨r, h1, h2, e1, e2, hv2, u, ln, sm, a, b, c, d9, e, f, hm⟩ := c27 X d h [.int (X.2 (i + 1)), .int (X.2 (i + 2))] rfl (by intro v hv; simp only [List.mem_cons, List.not_mem_nil, or_false] at hv; first | exact hv.elim | (rcases hv with rfl | rfl | rfl | rfl <;> exact ⟨_, rfl⟩) | (rcases hv with rfl | rfl | rfl <;> exact ⟨_, rfl⟩) | (rcases hv with rfl | rfl <;> exact ⟨_, rfl⟩) | (subst hv; exact ⟨_, rfl⟩)) hv
        obtain ⟨hE, b1, b2, kk⟩ := ih (i + 5) h2 (by omega) (by omega) hv2
        exact ⟨hE, b1, b2, law_head hL hle (tsw_at (by decide) rfl hj2 (law_c27 hL hle (rc_x (by decide +kernel) hx0) (rc_y (by decide +kernel) hm) e1 e2 kk))⟩
      | 28, _, hj2 =>
        obtain ⟨r, h1, h2, e1, e2, hv2, u, ln, sm, a, b, c, d9, e, f, hm⟩ := c28 X d h [.int (X.2 (i + 1)), .int (X.2 (i + 2)), .int (X.2 (i + 3)), .int (X.2 (i + 4))] rfl (by intro v hv; simp only [List.mem_cons, List.not_mem_nil, or_false] at hv; first | exact hv.elim | (rcases hv with rfl | rfl | rfl | rfl <;> exact ⟨_, rfl⟩) | (rcases hv with rfl | rfl | rfl <;> exact ⟨_, rfl⟩) | (rcases hv with rfl | rfl <;> exact ⟨_, rfl⟩) | (subst hv; exact ⟨_, rfl⟩)) hv
        obtain ⟨hE, b1, b2, kk⟩ := ih (i + 5) h2 (by omega) (by omega) hv2
        exact ⟨hE, b1, b2, law_head hL hle (tsw_at (by decide) rfl hj2 (law_c28 hL hle (rc_x (by decide +kernel) hx0) (rc_y (by decide +kernel) hm) e1 e2 kk))⟩
      | 29, _, hj2 =>
        obtain ⟨r, h1, h2, e1, e2, hv2, u, ln, sm, a, b, c, d9, e, f, hm⟩ := c29 X d h [.int (X.2 (i + 1)), .int (X.2 (i + 2)), .int (X.2 (i + 3))] rfl (by intro v hv; simp only [List.mem_cons, List.not_mem_nil, or_false] at hv; first | exact hv.elim | (rcases hv with rfl | rfl | rfl | rfl <;> exact ⟨_, rfl⟩) | (rcases hv with rfl | rfl | rfl <;> exact ⟨_, rfl⟩) | (rcases hv with rfl | rfl <;> exact ⟨_, rfl⟩) | (subst hv; exact ⟨_, rfl⟩)) hv
        obtain ⟨hE, b1, b2, kk⟩ := ih (i + 5) h2 (by omega) (by omega) hv2
        exact ⟨hE, b1, b2, law_head hL hle (tsw_at (by decide) rfl hj2 (law_c29 hL hle (rc_x (by decide +kernel) hx0) (rc_y (by decide +kernel) hm) e1 e2 kk))⟩
      | 30, _, hj2 =>
        obtain ⟨r, h1, h2, e1, e2, hv2, u, ln, sm, a, b, c, d9, e, f, hm⟩ := c30 X d h [.int (X.2 (i + 1)), .int (X.2 (i + 2)), .int (X.2 (i + 3))] rfl (by intro v hv; simp only [List.mem_cons, List.not_mem_nil, or_false] at hv; first | exact hv.elim | (rcases hv with rfl | rfl | rfl | rfl <;> exact ⟨_, rfl⟩) | (rcases hv with rfl | rfl | rfl <;> exact ⟨_, rfl⟩) | (rcases hv with rfl | rfl <;> exact ⟨_, rfl⟩) | (subst hv; exact ⟨_, rfl⟩)) hv
        obtain ⟨hE, b1, b2, kk⟩ := ih (i + 5) h2 (by omega) (by omega) hv2
        exact ⟨hE, b1, b2, law_head hL hle (tsw_at (by decide) rfl hj2 (law_c30 hL hle (rc_x (by decide +kernel) hx0) (rc_y (by decide +kernel) hm) e1 e2 kk))⟩
      | 31, _, hj2 =>
        obtain ⟨r, h1, h2, e1, e2, hv2, u, ln, sm, a, b, c, d9, e, f, hm⟩ := c31 X d h [.int (X.2 (i + 1)), .int (X.2 (i + 2))] rfl (by intro v hv; simp only [List.mem_cons, List.not_mem_nil, or_false] at hv; first | exact hv.elim | (rcases hv with rfl | rfl | rfl | rfl <;> exact ⟨_, rfl⟩) | (rcases hv with rfl | rfl | rfl <;> exact ⟨_, rfl⟩) | (rcases hv with rfl | rfl <;> exact ⟨_, rfl⟩) | (subst hv; exact ⟨_, rfl⟩)) hv
        obtain ⟨hE, b1, b2, kk⟩ := ih (i + 5) h2 (by omega) (by omega) hv2
        exact ⟨hE, b1, b2, law_head hL hle (tsw_at (by decide) rfl hj2 (law_c31 hL hle (rc_x (by decide +kernel) hx0) (rc_y (by decide +kernel) hm) e1 e2 kk))⟩
      | 32, _, hj2 =>
        obtain ⟨r, h1, h2, e1, e2, hv2, u, ln, sm, a, b, c, d9, e, f, hm⟩ := c32 X d h [.int (X.2 (i + 1))] rfl (by intro v hv; simp only [List.mem_cons, List.not_mem_nil, or_false] at hv; first | exact hv.elim | (rcases hv with rfl | rfl | rfl | rfl <;> exact ⟨_, rfl⟩) | (rcases hv with rfl | rfl | rfl <;> exact ⟨_, rfl⟩) | (rcases hv with rfl | rfl <;> exact ⟨_, rfl⟩) | (subst hv; exact ⟨_, rfl⟩)) hv
        obtain ⟨hE, b1, b2, kk⟩ := ih (i + 5) h2 (by omega) (by omega) hv2
        exact ⟨hE, b1, b2, law_head hL hle (tsw_at (by decide) rfl hj2 (law_c32 hL hle (rc_x (by decide +kernel) hx0) (rc_y (by decide +kernel) hm) e1 e2 kk))⟩
      | 33, _, hj2 =>
        obtain ⟨r, h1, h2, e1, e2, hv2, u, ln, sm, a, b, c, d9, e, f, hm⟩ := c33 X d h [.int (X.2 (i + 1))] rfl (by intro v hv; simp only [List.mem_cons, List.not_mem_nil, or_false] at hv; first | exact hv.elim | (rcases hv with rfl | rfl | rfl | rfl <;> exact ⟨_, rfl⟩) | (rcases hv with rfl | rfl | rfl <;> exact ⟨_, rfl⟩) | (rcases hv with rfl | rfl <;> exact ⟨_, rfl⟩) | (subst hv; exact ⟨_, rfl⟩)) hv
        obtain ⟨hE, b1, b2, kk⟩ := ih (i + 5) h2 (by omega) (by omega) hv2
        exact ⟨hE, b1, b2, law_head hL hle (tsw_at (by decide) rfl hj2 (law_c33 hL hle (rc_x (by decide +kernel) hx0) (rc_y (by decide +kernel) hm) e1 e2 kk))⟩
      | j + 34, hj1, _ => exact absurd hj1 (by omega)
    · obtain ⟨hE, b1, b2, kk⟩ := ih (i + 5) h (by omega) (by omega) hv
      refine ⟨hE, b1, b2, law_head hL hle (tsw_no (by decide) (fun j hj1 e => hj ⟨j, hj1, e⟩) ?_)⟩
      show aRun _ _ _ _ 1076 _ _ _
      rw [x_law_1076, nI_k5, x_law_1079]
      exact kk

