-- THE LAW: each call of both sides answers alike
section LC
variable {X b L i : Nat} {xs : Nat → Int32} {s : ts_S} {M : am_M} {K : Option am_V → am_M → Prop}
theorem lc_2 (n : Nat) : nI n + 2 = nI (n + 2) := nI_add n 2
theorem lc_3 (n : Nat) : nI n + 3 = nI (n + 3) := nI_add n 3
theorem lc_ok {M : am_M} {k : Nat} (hl : am_L M = L) (hk : k < L) (hL : L ≤ 2048) : am_ok (nI k) (am_L M) = true := by
  rw [hl]
  exact am_ok_nI hk (by omega)
theorem lz_clear (h : lJ X b L xs i s M) (hb : b < X) (hL : 4 * i + 4 ≤ L) (hL2 : L ≤ 2048) (hN : ∀ s' M', lJ X b L xs (i + 1) s' M' → am_wp yL_law 1129 [.inr (.inl (15, some b)), .inr (.inl (1, some X)), .inr (.inl (4, some (X + 5))), .inl (nI (4 * i))] [] M' K) : am_wp yL_law 164 [.inr (.inl (15, some b)), .inr (.inl (1, some X)), .inr (.inl (4, some (X + 5))), .inl (nI (4 * i))] [] M K := by
  obtain ⟨⟨ad, hc⟩, hm, hs, ht, hz, hz2, -, hl, hx⟩ := id h
  have ht2 : ts_t s + 20 < 2 ^ 30 := by omega
  simp only [wL_law_164, wL_law_165]
  refine cX_clear hc (fun M1 h1 f0 => ?_)
  have f1 : fx_n (cxR X) M M1 := fx_n_of f0
  obtain ⟨hm1, hl1, hx1⟩ := lJ_mid h hb f1
  simp only [true_or, or_true, Option.toList_some, Option.toList_none, List.cons_append, List.nil_append, wL_law_168, wL_law_169]
  refine mM_clear hm1 (fun M2 h2 f2 => ?_)
  simp only [true_or, or_true, Option.toList_some, Option.toList_none, List.cons_append, List.nil_append, wL_law_172]
  exact hN _ M2 (lJ_next h hb h1 f1 h2 f2 (ok_clear s))
theorem lz_thing (h : lJ X b L xs i s M) (hb : b < X) (hL : 4 * i + 4 ≤ L) (hL2 : L ≤ 2048) (hN : ∀ s' M', lJ X b L xs (i + 1) s' M' → am_wp yL_law 1129 [.inr (.inl (15, some b)), .inr (.inl (1, some X)), .inr (.inl (4, some (X + 5))), .inl (nI (4 * i))] [] M' K) : am_wp yL_law 175 [.inr (.inl (15, some b)), .inr (.inl (1, some X)), .inr (.inl (4, some (X + 5))), .inl (nI (4 * i))] [] M K := by
  obtain ⟨⟨ad, hc⟩, hm, hs, ht, hz, hz2, -, hl, hx⟩ := id h
  have ht2 : ts_t s + 20 < 2 ^ 30 := by omega
  have k1 : (nI (4 * i + 1)).toNatClampNeg = 4 * i + 1 := nI_clamp (by omega)
  have k2 : (nI (4 * i + 2)).toNatClampNeg = 4 * i + 2 := nI_clamp (by omega)
  have k3 : (nI (4 * i + 3)).toNatClampNeg = 4 * i + 3 := nI_clamp (by omega)
  simp only [wL_law_175, wL_law_176, wL_law_177, wL_law_178, wL_law_179, wL_law_180 (lc_ok hl (show 4 * i + 1 < L by omega) hL2), wL_law_181, wL_law_182, wL_law_183, wL_law_184, wL_law_185 (lc_ok hl (show 4 * i + 2 < L by omega) hL2), wL_law_186, nI_1, lc_2, lc_3, k1, k2, k3, hx]
  refine cX_thing hc hs hz (xs (4 * i + 1)) (xs (4 * i + 2)) (fun ad' M1 h1 f1 => ?_)
  obtain ⟨hm1, hl1, hx1⟩ := lJ_mid h hb f1
  simp only [true_or, or_true, Option.toList_some, Option.toList_none, List.cons_append, List.nil_append, wL_law_189, wL_law_190, wL_law_191, wL_law_192, wL_law_193, wL_law_194 (lc_ok hl1 (show 4 * i + 1 < L by omega) hL2), wL_law_195, wL_law_196, wL_law_197, wL_law_198, wL_law_199 (lc_ok hl1 (show 4 * i + 2 < L by omega) hL2), wL_law_200, nI_1, lc_2, lc_3, k1, k2, k3, hx1]
  refine mM_thing hm1 hs (xs (4 * i + 1)) (xs (4 * i + 2)) (fun M2 h2 f2 => ?_)
  simp only [true_or, or_true, Option.toList_some, Option.toList_none, List.cons_append, List.nil_append, wL_law_203, if_true]
  exact hN _ _ (lJ_next h hb h1 f1 h2 f2 (ok_thing hs (xs (4 * i + 1)) (xs (4 * i + 2))))
theorem lz_move (h : lJ X b L xs i s M) (hb : b < X) (hL : 4 * i + 4 ≤ L) (hL2 : L ≤ 2048) (hN : ∀ s' M', lJ X b L xs (i + 1) s' M' → am_wp yL_law 1129 [.inr (.inl (15, some b)), .inr (.inl (1, some X)), .inr (.inl (4, some (X + 5))), .inl (nI (4 * i))] [] M' K) : am_wp yL_law 208 [.inr (.inl (15, some b)), .inr (.inl (1, some X)), .inr (.inl (4, some (X + 5))), .inl (nI (4 * i))] [] M K := by
  obtain ⟨⟨ad, hc⟩, hm, hs, ht, hz, hz2, -, hl, hx⟩ := id h
  have ht2 : ts_t s + 20 < 2 ^ 30 := by omega
  have k1 : (nI (4 * i + 1)).toNatClampNeg = 4 * i + 1 := nI_clamp (by omega)
  have k2 : (nI (4 * i + 2)).toNatClampNeg = 4 * i + 2 := nI_clamp (by omega)
  have k3 : (nI (4 * i + 3)).toNatClampNeg = 4 * i + 3 := nI_clamp (by omega)
  simp only [wL_law_208, wL_law_209, wL_law_210, wL_law_211, wL_law_212, wL_law_213 (lc_ok hl (show 4 * i + 1 < L by omega) hL2), wL_law_214, wL_law_215, wL_law_216, wL_law_217, wL_law_218 (lc_ok hl (show 4 * i + 2 < L by omega) hL2), wL_law_219, wL_law_220, wL_law_221, wL_law_222, wL_law_223 (lc_ok hl (show 4 * i + 3 < L by omega) hL2), wL_law_224, nI_1, lc_2, lc_3, k1, k2, k3, hx]
  refine cX_move hc hs (by omega) (xs (4 * i + 1)) (xs (4 * i + 2)) (xs (4 * i + 3)) (fun M1 h1 f0 => ?_)
  have f1 : fx_n (cxR X) M M1 := fx_n_of f0
  obtain ⟨hm1, hl1, hx1⟩ := lJ_mid h hb f1
  simp only [true_or, or_true, Option.toList_some, Option.toList_none, List.cons_append, List.nil_append, wL_law_227, wL_law_228, wL_law_229, wL_law_230, wL_law_231, wL_law_232 (lc_ok hl1 (show 4 * i + 1 < L by omega) hL2), wL_law_233, wL_law_234, wL_law_235, wL_law_236, wL_law_237 (lc_ok hl1 (show 4 * i + 2 < L by omega) hL2), wL_law_238, wL_law_239, wL_law_240, wL_law_241, wL_law_242 (lc_ok hl1 (show 4 * i + 3 < L by omega) hL2), wL_law_243, nI_1, lc_2, lc_3, k1, k2, k3, hx1]
  refine mM_move hm1 hs (by omega) (xs (4 * i + 1)) (xs (4 * i + 2)) (xs (4 * i + 3)) (fun M2 h2 f2 => ?_)
  simp only [true_or, or_true, Option.toList_some, Option.toList_none, List.cons_append, List.nil_append, wL_law_246, if_true]
  exact hN _ _ (lJ_next h hb h1 f1 h2 f2 (ok_move hs (xs (4 * i + 1)) (xs (4 * i + 2)) (xs (4 * i + 3))))
theorem lz_part (h : lJ X b L xs i s M) (hb : b < X) (hL : 4 * i + 4 ≤ L) (hL2 : L ≤ 2048) (hN : ∀ s' M', lJ X b L xs (i + 1) s' M' → am_wp yL_law 1129 [.inr (.inl (15, some b)), .inr (.inl (1, some X)), .inr (.inl (4, some (X + 5))), .inl (nI (4 * i))] [] M' K) : am_wp yL_law 251 [.inr (.inl (15, some b)), .inr (.inl (1, some X)), .inr (.inl (4, some (X + 5))), .inl (nI (4 * i))] [] M K := by
  obtain ⟨⟨ad, hc⟩, hm, hs, ht, hz, hz2, -, hl, hx⟩ := id h
  have ht2 : ts_t s + 20 < 2 ^ 30 := by omega
  have k1 : (nI (4 * i + 1)).toNatClampNeg = 4 * i + 1 := nI_clamp (by omega)
  have k2 : (nI (4 * i + 2)).toNatClampNeg = 4 * i + 2 := nI_clamp (by omega)
  have k3 : (nI (4 * i + 3)).toNatClampNeg = 4 * i + 3 := nI_clamp (by omega)
  simp only [wL_law_251, wL_law_252, wL_law_253, wL_law_254, wL_law_255, wL_law_256 (lc_ok hl (show 4 * i + 1 < L by omega) hL2), wL_law_257, wL_law_258, wL_law_259, wL_law_260, wL_law_261 (lc_ok hl (show 4 * i + 2 < L by omega) hL2), wL_law_262, nI_1, lc_2, lc_3, k1, k2, k3, hx]
  refine cX_part hc hs (by omega) (xs (4 * i + 1)) (xs (4 * i + 2)) (fun M1 h1 f0 => ?_)
  have f1 : fx_n (cxR X) M M1 := fx_n_of f0
  obtain ⟨hm1, hl1, hx1⟩ := lJ_mid h hb f1
  simp only [true_or, or_true, Option.toList_some, Option.toList_none, List.cons_append, List.nil_append, wL_law_265, wL_law_266, wL_law_267, wL_law_268, wL_law_269, wL_law_270 (lc_ok hl1 (show 4 * i + 1 < L by omega) hL2), wL_law_271, wL_law_272, wL_law_273, wL_law_274, wL_law_275 (lc_ok hl1 (show 4 * i + 2 < L by omega) hL2), wL_law_276, nI_1, lc_2, lc_3, k1, k2, k3, hx1]
  refine mM_part hm1 hs (by omega) (xs (4 * i + 1)) (xs (4 * i + 2)) (fun M2 h2 f2 => ?_)
  simp only [true_or, or_true, Option.toList_some, Option.toList_none, List.cons_append, List.nil_append, wL_law_279, if_true]
  exact hN _ _ (lJ_next h hb h1 f1 h2 f2 (ok_part hs (xs (4 * i + 1)) (xs (4 * i + 2))))
theorem lz_open (h : lJ X b L xs i s M) (hb : b < X) (hL : 4 * i + 4 ≤ L) (hL2 : L ≤ 2048) (hN : ∀ s' M', lJ X b L xs (i + 1) s' M' → am_wp yL_law 1129 [.inr (.inl (15, some b)), .inr (.inl (1, some X)), .inr (.inl (4, some (X + 5))), .inl (nI (4 * i))] [] M' K) : am_wp yL_law 284 [.inr (.inl (15, some b)), .inr (.inl (1, some X)), .inr (.inl (4, some (X + 5))), .inl (nI (4 * i))] [] M K := by
  obtain ⟨⟨ad, hc⟩, hm, hs, ht, hz, hz2, -, hl, hx⟩ := id h
  have ht2 : ts_t s + 20 < 2 ^ 30 := by omega
  have k1 : (nI (4 * i + 1)).toNatClampNeg = 4 * i + 1 := nI_clamp (by omega)
  have k2 : (nI (4 * i + 2)).toNatClampNeg = 4 * i + 2 := nI_clamp (by omega)
  have k3 : (nI (4 * i + 3)).toNatClampNeg = 4 * i + 3 := nI_clamp (by omega)
  by_cases c : xs (4 * i + 2) = 0
  · simp only [wL_law_284, wL_law_285, wL_law_286, wL_law_287, wL_law_288, wL_law_289 (lc_ok hl (show 4 * i + 1 < L by omega) hL2), wL_law_290, wL_law_291, wL_law_292, wL_law_293, wL_law_294 (lc_ok hl (show 4 * i + 2 < L by omega) hL2), wL_law_295, wL_law_298, wL_law_299, wL_law_302, wL_law_303, nI_1, lc_2, lc_3, k1, k2, k3, hx, c, if_true]
    refine cX_open hc hs (xs (4 * i + 1)) false (fun M1 h1 f0 => ?_)
    have f1 : fx_n (cxR X) M M1 := fx_n_of f0
    obtain ⟨hm1, hl1, hx1⟩ := lJ_mid h hb f1
    simp only [true_or, or_true, Option.toList_some, Option.toList_none, List.cons_append, List.nil_append, wL_law_306, wL_law_307, wL_law_308, wL_law_309, wL_law_310, wL_law_311 (lc_ok hl1 (show 4 * i + 1 < L by omega) hL2), wL_law_312, wL_law_313, wL_law_314, wL_law_315, wL_law_316 (lc_ok hl1 (show 4 * i + 2 < L by omega) hL2), wL_law_317, wL_law_320, wL_law_321, wL_law_324, wL_law_325, nI_1, lc_2, lc_3, k1, k2, k3, hx1, c, if_true]
    refine mM_open hm1 hs (xs (4 * i + 1)) false (fun M2 h2 f2 => ?_)
    simp only [true_or, or_true, Option.toList_some, Option.toList_none, List.cons_append, List.nil_append, wL_law_328, if_true]
    exact hN _ _ (lJ_next h hb h1 f1 h2 f2 (ok_open hs (xs (4 * i + 1)) false))
  · simp only [wL_law_284, wL_law_285, wL_law_286, wL_law_287, wL_law_288, wL_law_289 (lc_ok hl (show 4 * i + 1 < L by omega) hL2), wL_law_290, wL_law_291, wL_law_292, wL_law_293, wL_law_294 (lc_ok hl (show 4 * i + 2 < L by omega) hL2), wL_law_295, wL_law_298, wL_law_299, wL_law_302, wL_law_303, nI_1, lc_2, lc_3, k1, k2, k3, hx, c, if_false]
    refine cX_open hc hs (xs (4 * i + 1)) true (fun M1 h1 f0 => ?_)
    have f1 : fx_n (cxR X) M M1 := fx_n_of f0
    obtain ⟨hm1, hl1, hx1⟩ := lJ_mid h hb f1
    simp only [true_or, or_true, Option.toList_some, Option.toList_none, List.cons_append, List.nil_append, wL_law_306, wL_law_307, wL_law_308, wL_law_309, wL_law_310, wL_law_311 (lc_ok hl1 (show 4 * i + 1 < L by omega) hL2), wL_law_312, wL_law_313, wL_law_314, wL_law_315, wL_law_316 (lc_ok hl1 (show 4 * i + 2 < L by omega) hL2), wL_law_317, wL_law_320, wL_law_321, wL_law_324, wL_law_325, nI_1, lc_2, lc_3, k1, k2, k3, hx1, c, if_false]
    refine mM_open hm1 hs (xs (4 * i + 1)) true (fun M2 h2 f2 => ?_)
    simp only [true_or, or_true, Option.toList_some, Option.toList_none, List.cons_append, List.nil_append, wL_law_328, if_true]
    exact hN _ _ (lJ_next h hb h1 f1 h2 f2 (ok_open hs (xs (4 * i + 1)) true))
theorem lz_clears (h : lJ X b L xs i s M) (hb : b < X) (hL : 4 * i + 4 ≤ L) (hL2 : L ≤ 2048) (hN : ∀ s' M', lJ X b L xs (i + 1) s' M' → am_wp yL_law 1129 [.inr (.inl (15, some b)), .inr (.inl (1, some X)), .inr (.inl (4, some (X + 5))), .inl (nI (4 * i))] [] M' K) : am_wp yL_law 333 [.inr (.inl (15, some b)), .inr (.inl (1, some X)), .inr (.inl (4, some (X + 5))), .inl (nI (4 * i))] [] M K := by
  obtain ⟨⟨ad, hc⟩, hm, hs, ht, hz, hz2, -, hl, hx⟩ := id h
  have ht2 : ts_t s + 20 < 2 ^ 30 := by omega
  have k1 : (nI (4 * i + 1)).toNatClampNeg = 4 * i + 1 := nI_clamp (by omega)
  have k2 : (nI (4 * i + 2)).toNatClampNeg = 4 * i + 2 := nI_clamp (by omega)
  have k3 : (nI (4 * i + 3)).toNatClampNeg = 4 * i + 3 := nI_clamp (by omega)
  by_cases c : xs (4 * i + 2) = 0
  · simp only [wL_law_333, wL_law_334, wL_law_335, wL_law_336, wL_law_337, wL_law_338 (lc_ok hl (show 4 * i + 1 < L by omega) hL2), wL_law_339, wL_law_340, wL_law_341, wL_law_342, wL_law_343 (lc_ok hl (show 4 * i + 2 < L by omega) hL2), wL_law_344, wL_law_347, wL_law_348, wL_law_351, wL_law_352, nI_1, lc_2, lc_3, k1, k2, k3, hx, c, if_true]
    refine cX_clears hc hs (xs (4 * i + 1)) false (fun M1 h1 f0 => ?_)
    have f1 : fx_n (cxR X) M M1 := fx_n_of f0
    obtain ⟨hm1, hl1, hx1⟩ := lJ_mid h hb f1
    simp only [true_or, or_true, Option.toList_some, Option.toList_none, List.cons_append, List.nil_append, wL_law_355, wL_law_356, wL_law_357, wL_law_358, wL_law_359, wL_law_360 (lc_ok hl1 (show 4 * i + 1 < L by omega) hL2), wL_law_361, wL_law_362, wL_law_363, wL_law_364, wL_law_365 (lc_ok hl1 (show 4 * i + 2 < L by omega) hL2), wL_law_366, wL_law_369, wL_law_370, wL_law_373, wL_law_374, nI_1, lc_2, lc_3, k1, k2, k3, hx1, c, if_true]
    refine mM_clears hm1 hs (xs (4 * i + 1)) false (fun M2 h2 f2 => ?_)
    simp only [true_or, or_true, Option.toList_some, Option.toList_none, List.cons_append, List.nil_append, wL_law_377, if_true]
    exact hN _ _ (lJ_next h hb h1 f1 h2 f2 (ok_clears hs (xs (4 * i + 1)) false))
  · simp only [wL_law_333, wL_law_334, wL_law_335, wL_law_336, wL_law_337, wL_law_338 (lc_ok hl (show 4 * i + 1 < L by omega) hL2), wL_law_339, wL_law_340, wL_law_341, wL_law_342, wL_law_343 (lc_ok hl (show 4 * i + 2 < L by omega) hL2), wL_law_344, wL_law_347, wL_law_348, wL_law_351, wL_law_352, nI_1, lc_2, lc_3, k1, k2, k3, hx, c, if_false]
    refine cX_clears hc hs (xs (4 * i + 1)) true (fun M1 h1 f0 => ?_)
    have f1 : fx_n (cxR X) M M1 := fx_n_of f0
    obtain ⟨hm1, hl1, hx1⟩ := lJ_mid h hb f1
    simp only [true_or, or_true, Option.toList_some, Option.toList_none, List.cons_append, List.nil_append, wL_law_355, wL_law_356, wL_law_357, wL_law_358, wL_law_359, wL_law_360 (lc_ok hl1 (show 4 * i + 1 < L by omega) hL2), wL_law_361, wL_law_362, wL_law_363, wL_law_364, wL_law_365 (lc_ok hl1 (show 4 * i + 2 < L by omega) hL2), wL_law_366, wL_law_369, wL_law_370, wL_law_373, wL_law_374, nI_1, lc_2, lc_3, k1, k2, k3, hx1, c, if_false]
    refine mM_clears hm1 hs (xs (4 * i + 1)) true (fun M2 h2 f2 => ?_)
    simp only [true_or, or_true, Option.toList_some, Option.toList_none, List.cons_append, List.nil_append, wL_law_377, if_true]
    exact hN _ _ (lJ_next h hb h1 f1 h2 f2 (ok_clears hs (xs (4 * i + 1)) true))
theorem lz_lit (h : lJ X b L xs i s M) (hb : b < X) (hL : 4 * i + 4 ≤ L) (hL2 : L ≤ 2048) (hN : ∀ s' M', lJ X b L xs (i + 1) s' M' → am_wp yL_law 1129 [.inr (.inl (15, some b)), .inr (.inl (1, some X)), .inr (.inl (4, some (X + 5))), .inl (nI (4 * i))] [] M' K) : am_wp yL_law 382 [.inr (.inl (15, some b)), .inr (.inl (1, some X)), .inr (.inl (4, some (X + 5))), .inl (nI (4 * i))] [] M K := by
  obtain ⟨⟨ad, hc⟩, hm, hs, ht, hz, hz2, -, hl, hx⟩ := id h
  have ht2 : ts_t s + 20 < 2 ^ 30 := by omega
  have k1 : (nI (4 * i + 1)).toNatClampNeg = 4 * i + 1 := nI_clamp (by omega)
  have k2 : (nI (4 * i + 2)).toNatClampNeg = 4 * i + 2 := nI_clamp (by omega)
  have k3 : (nI (4 * i + 3)).toNatClampNeg = 4 * i + 3 := nI_clamp (by omega)
  by_cases c : xs (4 * i + 2) = 0
  · simp only [wL_law_382, wL_law_383, wL_law_384, wL_law_385, wL_law_386, wL_law_387 (lc_ok hl (show 4 * i + 1 < L by omega) hL2), wL_law_388, wL_law_389, wL_law_390, wL_law_391, wL_law_392 (lc_ok hl (show 4 * i + 2 < L by omega) hL2), wL_law_393, wL_law_396, wL_law_397, wL_law_400, wL_law_401, nI_1, lc_2, lc_3, k1, k2, k3, hx, c, if_true]
    refine cX_lit hc hs (xs (4 * i + 1)) false (fun M1 h1 f0 => ?_)
    have f1 : fx_n (cxR X) M M1 := fx_n_of f0
    obtain ⟨hm1, hl1, hx1⟩ := lJ_mid h hb f1
    simp only [true_or, or_true, Option.toList_some, Option.toList_none, List.cons_append, List.nil_append, wL_law_404, wL_law_405, wL_law_406, wL_law_407, wL_law_408, wL_law_409 (lc_ok hl1 (show 4 * i + 1 < L by omega) hL2), wL_law_410, wL_law_411, wL_law_412, wL_law_413, wL_law_414 (lc_ok hl1 (show 4 * i + 2 < L by omega) hL2), wL_law_415, wL_law_418, wL_law_419, wL_law_422, wL_law_423, nI_1, lc_2, lc_3, k1, k2, k3, hx1, c, if_true]
    refine mM_lit hm1 hs (xs (4 * i + 1)) false (fun M2 h2 f2 => ?_)
    simp only [true_or, or_true, Option.toList_some, Option.toList_none, List.cons_append, List.nil_append, wL_law_426, if_true]
    exact hN _ _ (lJ_next h hb h1 f1 h2 f2 (ok_lit hs (xs (4 * i + 1)) false))
  · simp only [wL_law_382, wL_law_383, wL_law_384, wL_law_385, wL_law_386, wL_law_387 (lc_ok hl (show 4 * i + 1 < L by omega) hL2), wL_law_388, wL_law_389, wL_law_390, wL_law_391, wL_law_392 (lc_ok hl (show 4 * i + 2 < L by omega) hL2), wL_law_393, wL_law_396, wL_law_397, wL_law_400, wL_law_401, nI_1, lc_2, lc_3, k1, k2, k3, hx, c, if_false]
    refine cX_lit hc hs (xs (4 * i + 1)) true (fun M1 h1 f0 => ?_)
    have f1 : fx_n (cxR X) M M1 := fx_n_of f0
    obtain ⟨hm1, hl1, hx1⟩ := lJ_mid h hb f1
    simp only [true_or, or_true, Option.toList_some, Option.toList_none, List.cons_append, List.nil_append, wL_law_404, wL_law_405, wL_law_406, wL_law_407, wL_law_408, wL_law_409 (lc_ok hl1 (show 4 * i + 1 < L by omega) hL2), wL_law_410, wL_law_411, wL_law_412, wL_law_413, wL_law_414 (lc_ok hl1 (show 4 * i + 2 < L by omega) hL2), wL_law_415, wL_law_418, wL_law_419, wL_law_422, wL_law_423, nI_1, lc_2, lc_3, k1, k2, k3, hx1, c, if_false]
    refine mM_lit hm1 hs (xs (4 * i + 1)) true (fun M2 h2 f2 => ?_)
    simp only [true_or, or_true, Option.toList_some, Option.toList_none, List.cons_append, List.nil_append, wL_law_426, if_true]
    exact hN _ _ (lJ_next h hb h1 f1 h2 f2 (ok_lit hs (xs (4 * i + 1)) true))
theorem lz_glows (h : lJ X b L xs i s M) (hb : b < X) (hL : 4 * i + 4 ≤ L) (hL2 : L ≤ 2048) (hN : ∀ s' M', lJ X b L xs (i + 1) s' M' → am_wp yL_law 1129 [.inr (.inl (15, some b)), .inr (.inl (1, some X)), .inr (.inl (4, some (X + 5))), .inl (nI (4 * i))] [] M' K) : am_wp yL_law 431 [.inr (.inl (15, some b)), .inr (.inl (1, some X)), .inr (.inl (4, some (X + 5))), .inl (nI (4 * i))] [] M K := by
  obtain ⟨⟨ad, hc⟩, hm, hs, ht, hz, hz2, -, hl, hx⟩ := id h
  have ht2 : ts_t s + 20 < 2 ^ 30 := by omega
  have k1 : (nI (4 * i + 1)).toNatClampNeg = 4 * i + 1 := nI_clamp (by omega)
  have k2 : (nI (4 * i + 2)).toNatClampNeg = 4 * i + 2 := nI_clamp (by omega)
  have k3 : (nI (4 * i + 3)).toNatClampNeg = 4 * i + 3 := nI_clamp (by omega)
  by_cases c : xs (4 * i + 2) = 0
  · simp only [wL_law_431, wL_law_432, wL_law_433, wL_law_434, wL_law_435, wL_law_436 (lc_ok hl (show 4 * i + 1 < L by omega) hL2), wL_law_437, wL_law_438, wL_law_439, wL_law_440, wL_law_441 (lc_ok hl (show 4 * i + 2 < L by omega) hL2), wL_law_442, wL_law_445, wL_law_446, wL_law_449, wL_law_450, nI_1, lc_2, lc_3, k1, k2, k3, hx, c, if_true]
    refine cX_glows hc hs (xs (4 * i + 1)) false (fun M1 h1 f0 => ?_)
    have f1 : fx_n (cxR X) M M1 := fx_n_of f0
    obtain ⟨hm1, hl1, hx1⟩ := lJ_mid h hb f1
    simp only [true_or, or_true, Option.toList_some, Option.toList_none, List.cons_append, List.nil_append, wL_law_453, wL_law_454, wL_law_455, wL_law_456, wL_law_457, wL_law_458 (lc_ok hl1 (show 4 * i + 1 < L by omega) hL2), wL_law_459, wL_law_460, wL_law_461, wL_law_462, wL_law_463 (lc_ok hl1 (show 4 * i + 2 < L by omega) hL2), wL_law_464, wL_law_467, wL_law_468, wL_law_471, wL_law_472, nI_1, lc_2, lc_3, k1, k2, k3, hx1, c, if_true]
    refine mM_glows hm1 hs (xs (4 * i + 1)) false (fun M2 h2 f2 => ?_)
    simp only [true_or, or_true, Option.toList_some, Option.toList_none, List.cons_append, List.nil_append, wL_law_475, if_true]
    exact hN _ _ (lJ_next h hb h1 f1 h2 f2 (ok_glows hs (xs (4 * i + 1)) false))
  · simp only [wL_law_431, wL_law_432, wL_law_433, wL_law_434, wL_law_435, wL_law_436 (lc_ok hl (show 4 * i + 1 < L by omega) hL2), wL_law_437, wL_law_438, wL_law_439, wL_law_440, wL_law_441 (lc_ok hl (show 4 * i + 2 < L by omega) hL2), wL_law_442, wL_law_445, wL_law_446, wL_law_449, wL_law_450, nI_1, lc_2, lc_3, k1, k2, k3, hx, c, if_false]
    refine cX_glows hc hs (xs (4 * i + 1)) true (fun M1 h1 f0 => ?_)
    have f1 : fx_n (cxR X) M M1 := fx_n_of f0
    obtain ⟨hm1, hl1, hx1⟩ := lJ_mid h hb f1
    simp only [true_or, or_true, Option.toList_some, Option.toList_none, List.cons_append, List.nil_append, wL_law_453, wL_law_454, wL_law_455, wL_law_456, wL_law_457, wL_law_458 (lc_ok hl1 (show 4 * i + 1 < L by omega) hL2), wL_law_459, wL_law_460, wL_law_461, wL_law_462, wL_law_463 (lc_ok hl1 (show 4 * i + 2 < L by omega) hL2), wL_law_464, wL_law_467, wL_law_468, wL_law_471, wL_law_472, nI_1, lc_2, lc_3, k1, k2, k3, hx1, c, if_false]
    refine mM_glows hm1 hs (xs (4 * i + 1)) true (fun M2 h2 f2 => ?_)
    simp only [true_or, or_true, Option.toList_some, Option.toList_none, List.cons_append, List.nil_append, wL_law_475, if_true]
    exact hN _ _ (lJ_next h hb h1 f1 h2 f2 (ok_glows hs (xs (4 * i + 1)) true))
theorem lz_spread (h : lJ X b L xs i s M) (hb : b < X) (hL : 4 * i + 4 ≤ L) (hL2 : L ≤ 2048) (hN : ∀ s' M', lJ X b L xs (i + 1) s' M' → am_wp yL_law 1129 [.inr (.inl (15, some b)), .inr (.inl (1, some X)), .inr (.inl (4, some (X + 5))), .inl (nI (4 * i))] [] M' K) : am_wp yL_law 480 [.inr (.inl (15, some b)), .inr (.inl (1, some X)), .inr (.inl (4, some (X + 5))), .inl (nI (4 * i))] [] M K := by
  obtain ⟨⟨ad, hc⟩, hm, hs, ht, hz, hz2, -, hl, hx⟩ := id h
  have ht2 : ts_t s + 20 < 2 ^ 30 := by omega
  have k1 : (nI (4 * i + 1)).toNatClampNeg = 4 * i + 1 := nI_clamp (by omega)
  have k2 : (nI (4 * i + 2)).toNatClampNeg = 4 * i + 2 := nI_clamp (by omega)
  have k3 : (nI (4 * i + 3)).toNatClampNeg = 4 * i + 3 := nI_clamp (by omega)
  by_cases c : xs (4 * i + 3) = 0
  · simp only [wL_law_480, wL_law_481, wL_law_482, wL_law_483, wL_law_484, wL_law_485 (lc_ok hl (show 4 * i + 1 < L by omega) hL2), wL_law_486, wL_law_487, wL_law_488, wL_law_489, wL_law_490 (lc_ok hl (show 4 * i + 2 < L by omega) hL2), wL_law_491, wL_law_492, wL_law_493, wL_law_494, wL_law_495 (lc_ok hl (show 4 * i + 3 < L by omega) hL2), wL_law_496, wL_law_499, wL_law_500, wL_law_503, wL_law_504, nI_1, lc_2, lc_3, k1, k2, k3, hx, c, if_true]
    refine cX_spread hc hs (xs (4 * i + 1)) (xs (4 * i + 2)) false (fun M1 h1 f0 => ?_)
    have f1 : fx_n (cxR X) M M1 := fx_n_of f0
    obtain ⟨hm1, hl1, hx1⟩ := lJ_mid h hb f1
    simp only [true_or, or_true, Option.toList_some, Option.toList_none, List.cons_append, List.nil_append, wL_law_507, wL_law_508, wL_law_509, wL_law_510, wL_law_511, wL_law_512 (lc_ok hl1 (show 4 * i + 1 < L by omega) hL2), wL_law_513, wL_law_514, wL_law_515, wL_law_516, wL_law_517 (lc_ok hl1 (show 4 * i + 2 < L by omega) hL2), wL_law_518, wL_law_519, wL_law_520, wL_law_521, wL_law_522 (lc_ok hl1 (show 4 * i + 3 < L by omega) hL2), wL_law_523, wL_law_526, wL_law_527, wL_law_530, wL_law_531, nI_1, lc_2, lc_3, k1, k2, k3, hx1, c, if_true]
    refine mM_spread hm1 hs (xs (4 * i + 1)) (xs (4 * i + 2)) false (fun M2 h2 f2 => ?_)
    simp only [true_or, or_true, Option.toList_some, Option.toList_none, List.cons_append, List.nil_append, wL_law_534, if_true]
    exact hN _ _ (lJ_next h hb h1 f1 h2 f2 (ok_spread hs (xs (4 * i + 1)) (xs (4 * i + 2)) false))
  · simp only [wL_law_480, wL_law_481, wL_law_482, wL_law_483, wL_law_484, wL_law_485 (lc_ok hl (show 4 * i + 1 < L by omega) hL2), wL_law_486, wL_law_487, wL_law_488, wL_law_489, wL_law_490 (lc_ok hl (show 4 * i + 2 < L by omega) hL2), wL_law_491, wL_law_492, wL_law_493, wL_law_494, wL_law_495 (lc_ok hl (show 4 * i + 3 < L by omega) hL2), wL_law_496, wL_law_499, wL_law_500, wL_law_503, wL_law_504, nI_1, lc_2, lc_3, k1, k2, k3, hx, c, if_false]
    refine cX_spread hc hs (xs (4 * i + 1)) (xs (4 * i + 2)) true (fun M1 h1 f0 => ?_)
    have f1 : fx_n (cxR X) M M1 := fx_n_of f0
    obtain ⟨hm1, hl1, hx1⟩ := lJ_mid h hb f1
    simp only [true_or, or_true, Option.toList_some, Option.toList_none, List.cons_append, List.nil_append, wL_law_507, wL_law_508, wL_law_509, wL_law_510, wL_law_511, wL_law_512 (lc_ok hl1 (show 4 * i + 1 < L by omega) hL2), wL_law_513, wL_law_514, wL_law_515, wL_law_516, wL_law_517 (lc_ok hl1 (show 4 * i + 2 < L by omega) hL2), wL_law_518, wL_law_519, wL_law_520, wL_law_521, wL_law_522 (lc_ok hl1 (show 4 * i + 3 < L by omega) hL2), wL_law_523, wL_law_526, wL_law_527, wL_law_530, wL_law_531, nI_1, lc_2, lc_3, k1, k2, k3, hx1, c, if_false]
    refine mM_spread hm1 hs (xs (4 * i + 1)) (xs (4 * i + 2)) true (fun M2 h2 f2 => ?_)
    simp only [true_or, or_true, Option.toList_some, Option.toList_none, List.cons_append, List.nil_append, wL_law_534, if_true]
    exact hN _ _ (lJ_next h hb h1 f1 h2 f2 (ok_spread hs (xs (4 * i + 1)) (xs (4 * i + 2)) true))
theorem lz_take (h : lJ X b L xs i s M) (hb : b < X) (hL : 4 * i + 4 ≤ L) (hL2 : L ≤ 2048) (hN : ∀ s' M', lJ X b L xs (i + 1) s' M' → am_wp yL_law 1129 [.inr (.inl (15, some b)), .inr (.inl (1, some X)), .inr (.inl (4, some (X + 5))), .inl (nI (4 * i))] [] M' K) : am_wp yL_law 539 [.inr (.inl (15, some b)), .inr (.inl (1, some X)), .inr (.inl (4, some (X + 5))), .inl (nI (4 * i))] [] M K := by
  obtain ⟨⟨ad, hc⟩, hm, hs, ht, hz, hz2, -, hl, hx⟩ := id h
  have ht2 : ts_t s + 20 < 2 ^ 30 := by omega
  have k1 : (nI (4 * i + 1)).toNatClampNeg = 4 * i + 1 := nI_clamp (by omega)
  have k2 : (nI (4 * i + 2)).toNatClampNeg = 4 * i + 2 := nI_clamp (by omega)
  have k3 : (nI (4 * i + 3)).toNatClampNeg = 4 * i + 3 := nI_clamp (by omega)
  simp only [wL_law_539, wL_law_540, wL_law_541, wL_law_542, wL_law_543, wL_law_544 (lc_ok hl (show 4 * i + 1 < L by omega) hL2), wL_law_545, wL_law_546, wL_law_547, wL_law_548, wL_law_549 (lc_ok hl (show 4 * i + 2 < L by omega) hL2), wL_law_550, nI_1, lc_2, lc_3, k1, k2, k3, hx]
  refine cX_take hc hs (by omega) (xs (4 * i + 1)) (xs (4 * i + 2)) (fun M1 h1 f0 => ?_)
  have f1 : fx_n (cxR X) M M1 := fx_n_of f0
  obtain ⟨hm1, hl1, hx1⟩ := lJ_mid h hb f1
  simp only [true_or, or_true, Option.toList_some, Option.toList_none, List.cons_append, List.nil_append, wL_law_553, wL_law_554, wL_law_555, wL_law_556, wL_law_557, wL_law_558 (lc_ok hl1 (show 4 * i + 1 < L by omega) hL2), wL_law_559, wL_law_560, wL_law_561, wL_law_562, wL_law_563 (lc_ok hl1 (show 4 * i + 2 < L by omega) hL2), wL_law_564, nI_1, lc_2, lc_3, k1, k2, k3, hx1]
  refine mM_take hm1 hs (by omega) (xs (4 * i + 1)) (xs (4 * i + 2)) (fun M2 h2 f2 => ?_)
  simp only [true_or, or_true, Option.toList_some, Option.toList_none, List.cons_append, List.nil_append, wL_law_567, if_true]
  exact hN _ _ (lJ_next h hb h1 f1 h2 f2 (ok_take hs (xs (4 * i + 1)) (xs (4 * i + 2))))
theorem lz_drop (h : lJ X b L xs i s M) (hb : b < X) (hL : 4 * i + 4 ≤ L) (hL2 : L ≤ 2048) (hN : ∀ s' M', lJ X b L xs (i + 1) s' M' → am_wp yL_law 1129 [.inr (.inl (15, some b)), .inr (.inl (1, some X)), .inr (.inl (4, some (X + 5))), .inl (nI (4 * i))] [] M' K) : am_wp yL_law 572 [.inr (.inl (15, some b)), .inr (.inl (1, some X)), .inr (.inl (4, some (X + 5))), .inl (nI (4 * i))] [] M K := by
  obtain ⟨⟨ad, hc⟩, hm, hs, ht, hz, hz2, -, hl, hx⟩ := id h
  have ht2 : ts_t s + 20 < 2 ^ 30 := by omega
  have k1 : (nI (4 * i + 1)).toNatClampNeg = 4 * i + 1 := nI_clamp (by omega)
  have k2 : (nI (4 * i + 2)).toNatClampNeg = 4 * i + 2 := nI_clamp (by omega)
  have k3 : (nI (4 * i + 3)).toNatClampNeg = 4 * i + 3 := nI_clamp (by omega)
  simp only [wL_law_572, wL_law_573, wL_law_574, wL_law_575, wL_law_576, wL_law_577 (lc_ok hl (show 4 * i + 1 < L by omega) hL2), wL_law_578, wL_law_579, wL_law_580, wL_law_581, wL_law_582 (lc_ok hl (show 4 * i + 2 < L by omega) hL2), wL_law_583, nI_1, lc_2, lc_3, k1, k2, k3, hx]
  refine cX_drop hc hs (by omega) (xs (4 * i + 1)) (xs (4 * i + 2)) (fun M1 h1 f0 => ?_)
  have f1 : fx_n (cxR X) M M1 := fx_n_of f0
  obtain ⟨hm1, hl1, hx1⟩ := lJ_mid h hb f1
  simp only [true_or, or_true, Option.toList_some, Option.toList_none, List.cons_append, List.nil_append, wL_law_586, wL_law_587, wL_law_588, wL_law_589, wL_law_590, wL_law_591 (lc_ok hl1 (show 4 * i + 1 < L by omega) hL2), wL_law_592, wL_law_593, wL_law_594, wL_law_595, wL_law_596 (lc_ok hl1 (show 4 * i + 2 < L by omega) hL2), wL_law_597, nI_1, lc_2, lc_3, k1, k2, k3, hx1]
  refine mM_drop hm1 hs (by omega) (xs (4 * i + 1)) (xs (4 * i + 2)) (fun M2 h2 f2 => ?_)
  simp only [true_or, or_true, Option.toList_some, Option.toList_none, List.cons_append, List.nil_append, wL_law_600, if_true]
  exact hN _ _ (lJ_next h hb h1 f1 h2 f2 (ok_drop hs (xs (4 * i + 1)) (xs (4 * i + 2))))
theorem lz_put (h : lJ X b L xs i s M) (hb : b < X) (hL : 4 * i + 4 ≤ L) (hL2 : L ≤ 2048) (hN : ∀ s' M', lJ X b L xs (i + 1) s' M' → am_wp yL_law 1129 [.inr (.inl (15, some b)), .inr (.inl (1, some X)), .inr (.inl (4, some (X + 5))), .inl (nI (4 * i))] [] M' K) : am_wp yL_law 605 [.inr (.inl (15, some b)), .inr (.inl (1, some X)), .inr (.inl (4, some (X + 5))), .inl (nI (4 * i))] [] M K := by
  obtain ⟨⟨ad, hc⟩, hm, hs, ht, hz, hz2, -, hl, hx⟩ := id h
  have ht2 : ts_t s + 20 < 2 ^ 30 := by omega
  have k1 : (nI (4 * i + 1)).toNatClampNeg = 4 * i + 1 := nI_clamp (by omega)
  have k2 : (nI (4 * i + 2)).toNatClampNeg = 4 * i + 2 := nI_clamp (by omega)
  have k3 : (nI (4 * i + 3)).toNatClampNeg = 4 * i + 3 := nI_clamp (by omega)
  simp only [wL_law_605, wL_law_606, wL_law_607, wL_law_608, wL_law_609, wL_law_610 (lc_ok hl (show 4 * i + 1 < L by omega) hL2), wL_law_611, wL_law_612, wL_law_613, wL_law_614, wL_law_615 (lc_ok hl (show 4 * i + 2 < L by omega) hL2), wL_law_616, wL_law_617, wL_law_618, wL_law_619, wL_law_620 (lc_ok hl (show 4 * i + 3 < L by omega) hL2), wL_law_621, nI_1, lc_2, lc_3, k1, k2, k3, hx]
  refine cX_put hc hs (by omega) (xs (4 * i + 1)) (xs (4 * i + 2)) (xs (4 * i + 3)) (fun M1 h1 f0 => ?_)
  have f1 : fx_n (cxR X) M M1 := fx_n_of f0
  obtain ⟨hm1, hl1, hx1⟩ := lJ_mid h hb f1
  simp only [true_or, or_true, Option.toList_some, Option.toList_none, List.cons_append, List.nil_append, wL_law_624, wL_law_625, wL_law_626, wL_law_627, wL_law_628, wL_law_629 (lc_ok hl1 (show 4 * i + 1 < L by omega) hL2), wL_law_630, wL_law_631, wL_law_632, wL_law_633, wL_law_634 (lc_ok hl1 (show 4 * i + 2 < L by omega) hL2), wL_law_635, wL_law_636, wL_law_637, wL_law_638, wL_law_639 (lc_ok hl1 (show 4 * i + 3 < L by omega) hL2), wL_law_640, nI_1, lc_2, lc_3, k1, k2, k3, hx1]
  refine mM_put hm1 hs (by omega) (xs (4 * i + 1)) (xs (4 * i + 2)) (xs (4 * i + 3)) (fun M2 h2 f2 => ?_)
  simp only [true_or, or_true, Option.toList_some, Option.toList_none, List.cons_append, List.nil_append, wL_law_643, if_true]
  exact hN _ _ (lJ_next h hb h1 f1 h2 f2 (ok_put hs (xs (4 * i + 1)) (xs (4 * i + 2)) (xs (4 * i + 3))))
theorem lz_wear (h : lJ X b L xs i s M) (hb : b < X) (hL : 4 * i + 4 ≤ L) (hL2 : L ≤ 2048) (hN : ∀ s' M', lJ X b L xs (i + 1) s' M' → am_wp yL_law 1129 [.inr (.inl (15, some b)), .inr (.inl (1, some X)), .inr (.inl (4, some (X + 5))), .inl (nI (4 * i))] [] M' K) : am_wp yL_law 648 [.inr (.inl (15, some b)), .inr (.inl (1, some X)), .inr (.inl (4, some (X + 5))), .inl (nI (4 * i))] [] M K := by
  obtain ⟨⟨ad, hc⟩, hm, hs, ht, hz, hz2, -, hl, hx⟩ := id h
  have ht2 : ts_t s + 20 < 2 ^ 30 := by omega
  have k1 : (nI (4 * i + 1)).toNatClampNeg = 4 * i + 1 := nI_clamp (by omega)
  have k2 : (nI (4 * i + 2)).toNatClampNeg = 4 * i + 2 := nI_clamp (by omega)
  have k3 : (nI (4 * i + 3)).toNatClampNeg = 4 * i + 3 := nI_clamp (by omega)
  simp only [wL_law_648, wL_law_649, wL_law_650, wL_law_651, wL_law_652, wL_law_653 (lc_ok hl (show 4 * i + 1 < L by omega) hL2), wL_law_654, wL_law_655, wL_law_656, wL_law_657, wL_law_658 (lc_ok hl (show 4 * i + 2 < L by omega) hL2), wL_law_659, nI_1, lc_2, lc_3, k1, k2, k3, hx]
  refine cX_wear hc hs (by omega) (xs (4 * i + 1)) (xs (4 * i + 2)) (fun M1 h1 f0 => ?_)
  have f1 : fx_n (cxR X) M M1 := fx_n_of f0
  obtain ⟨hm1, hl1, hx1⟩ := lJ_mid h hb f1
  simp only [true_or, or_true, Option.toList_some, Option.toList_none, List.cons_append, List.nil_append, wL_law_662, wL_law_663, wL_law_664, wL_law_665, wL_law_666, wL_law_667 (lc_ok hl1 (show 4 * i + 1 < L by omega) hL2), wL_law_668, wL_law_669, wL_law_670, wL_law_671, wL_law_672 (lc_ok hl1 (show 4 * i + 2 < L by omega) hL2), wL_law_673, nI_1, lc_2, lc_3, k1, k2, k3, hx1]
  refine mM_wear hm1 hs (by omega) (xs (4 * i + 1)) (xs (4 * i + 2)) (fun M2 h2 f2 => ?_)
  simp only [true_or, or_true, Option.toList_some, Option.toList_none, List.cons_append, List.nil_append, wL_law_676, if_true]
  exact hN _ _ (lJ_next h hb h1 f1 h2 f2 (ok_wear hs (xs (4 * i + 1)) (xs (4 * i + 2))))
theorem lz_enter (h : lJ X b L xs i s M) (hb : b < X) (hL : 4 * i + 4 ≤ L) (hL2 : L ≤ 2048) (hN : ∀ s' M', lJ X b L xs (i + 1) s' M' → am_wp yL_law 1129 [.inr (.inl (15, some b)), .inr (.inl (1, some X)), .inr (.inl (4, some (X + 5))), .inl (nI (4 * i))] [] M' K) : am_wp yL_law 681 [.inr (.inl (15, some b)), .inr (.inl (1, some X)), .inr (.inl (4, some (X + 5))), .inl (nI (4 * i))] [] M K := by
  obtain ⟨⟨ad, hc⟩, hm, hs, ht, hz, hz2, -, hl, hx⟩ := id h
  have ht2 : ts_t s + 20 < 2 ^ 30 := by omega
  have k1 : (nI (4 * i + 1)).toNatClampNeg = 4 * i + 1 := nI_clamp (by omega)
  have k2 : (nI (4 * i + 2)).toNatClampNeg = 4 * i + 2 := nI_clamp (by omega)
  have k3 : (nI (4 * i + 3)).toNatClampNeg = 4 * i + 3 := nI_clamp (by omega)
  simp only [wL_law_681, wL_law_682, wL_law_683, wL_law_684, wL_law_685, wL_law_686 (lc_ok hl (show 4 * i + 1 < L by omega) hL2), wL_law_687, wL_law_688, wL_law_689, wL_law_690, wL_law_691 (lc_ok hl (show 4 * i + 2 < L by omega) hL2), wL_law_692, nI_1, lc_2, lc_3, k1, k2, k3, hx]
  refine cX_enter hc hs (by omega) (xs (4 * i + 1)) (xs (4 * i + 2)) (fun M1 h1 f0 => ?_)
  have f1 : fx_n (cxR X) M M1 := fx_n_of f0
  obtain ⟨hm1, hl1, hx1⟩ := lJ_mid h hb f1
  simp only [true_or, or_true, Option.toList_some, Option.toList_none, List.cons_append, List.nil_append, wL_law_695, wL_law_696, wL_law_697, wL_law_698, wL_law_699, wL_law_700 (lc_ok hl1 (show 4 * i + 1 < L by omega) hL2), wL_law_701, wL_law_702, wL_law_703, wL_law_704, wL_law_705 (lc_ok hl1 (show 4 * i + 2 < L by omega) hL2), wL_law_706, nI_1, lc_2, lc_3, k1, k2, k3, hx1]
  refine mM_enter hm1 hs (by omega) (xs (4 * i + 1)) (xs (4 * i + 2)) (fun M2 h2 f2 => ?_)
  simp only [true_or, or_true, Option.toList_some, Option.toList_none, List.cons_append, List.nil_append, wL_law_709, if_true]
  exact hN _ _ (lJ_next h hb h1 f1 h2 f2 (ok_enter hs (xs (4 * i + 1)) (xs (4 * i + 2))))
theorem lz_leave (h : lJ X b L xs i s M) (hb : b < X) (hL : 4 * i + 4 ≤ L) (hL2 : L ≤ 2048) (hN : ∀ s' M', lJ X b L xs (i + 1) s' M' → am_wp yL_law 1129 [.inr (.inl (15, some b)), .inr (.inl (1, some X)), .inr (.inl (4, some (X + 5))), .inl (nI (4 * i))] [] M' K) : am_wp yL_law 714 [.inr (.inl (15, some b)), .inr (.inl (1, some X)), .inr (.inl (4, some (X + 5))), .inl (nI (4 * i))] [] M K := by
  obtain ⟨⟨ad, hc⟩, hm, hs, ht, hz, hz2, -, hl, hx⟩ := id h
  have ht2 : ts_t s + 20 < 2 ^ 30 := by omega
  have k1 : (nI (4 * i + 1)).toNatClampNeg = 4 * i + 1 := nI_clamp (by omega)
  have k2 : (nI (4 * i + 2)).toNatClampNeg = 4 * i + 2 := nI_clamp (by omega)
  have k3 : (nI (4 * i + 3)).toNatClampNeg = 4 * i + 3 := nI_clamp (by omega)
  simp only [wL_law_714, wL_law_715, wL_law_716, wL_law_717, wL_law_718, wL_law_719 (lc_ok hl (show 4 * i + 1 < L by omega) hL2), wL_law_720, nI_1, lc_2, lc_3, k1, k2, k3, hx]
  refine cX_leave hc hs (by omega) (xs (4 * i + 1)) (fun M1 h1 f0 => ?_)
  have f1 : fx_n (cxR X) M M1 := fx_n_of f0
  obtain ⟨hm1, hl1, hx1⟩ := lJ_mid h hb f1
  simp only [true_or, or_true, Option.toList_some, Option.toList_none, List.cons_append, List.nil_append, wL_law_723, wL_law_724, wL_law_725, wL_law_726, wL_law_727, wL_law_728 (lc_ok hl1 (show 4 * i + 1 < L by omega) hL2), wL_law_729, nI_1, lc_2, lc_3, k1, k2, k3, hx1]
  refine mM_leave hm1 hs (by omega) (xs (4 * i + 1)) (fun M2 h2 f2 => ?_)
  simp only [true_or, or_true, Option.toList_some, Option.toList_none, List.cons_append, List.nil_append, wL_law_732, if_true]
  exact hN _ _ (lJ_next h hb h1 f1 h2 f2 (ok_leave hs (xs (4 * i + 1))))
theorem lz_go (h : lJ X b L xs i s M) (hb : b < X) (hL : 4 * i + 4 ≤ L) (hL2 : L ≤ 2048) (hN : ∀ s' M', lJ X b L xs (i + 1) s' M' → am_wp yL_law 1129 [.inr (.inl (15, some b)), .inr (.inl (1, some X)), .inr (.inl (4, some (X + 5))), .inl (nI (4 * i))] [] M' K) : am_wp yL_law 737 [.inr (.inl (15, some b)), .inr (.inl (1, some X)), .inr (.inl (4, some (X + 5))), .inl (nI (4 * i))] [] M K := by
  obtain ⟨⟨ad, hc⟩, hm, hs, ht, hz, hz2, -, hl, hx⟩ := id h
  have ht2 : ts_t s + 20 < 2 ^ 30 := by omega
  have k1 : (nI (4 * i + 1)).toNatClampNeg = 4 * i + 1 := nI_clamp (by omega)
  have k2 : (nI (4 * i + 2)).toNatClampNeg = 4 * i + 2 := nI_clamp (by omega)
  have k3 : (nI (4 * i + 3)).toNatClampNeg = 4 * i + 3 := nI_clamp (by omega)
  simp only [wL_law_737, wL_law_738, wL_law_739, wL_law_740, wL_law_741, wL_law_742 (lc_ok hl (show 4 * i + 1 < L by omega) hL2), wL_law_743, wL_law_744, wL_law_745, wL_law_746, wL_law_747 (lc_ok hl (show 4 * i + 2 < L by omega) hL2), wL_law_748, nI_1, lc_2, lc_3, k1, k2, k3, hx]
  refine cX_go hc hs (by omega) (xs (4 * i + 1)) (xs (4 * i + 2)) (fun M1 h1 f0 => ?_)
  have f1 : fx_n (cxR X) M M1 := fx_n_of f0
  obtain ⟨hm1, hl1, hx1⟩ := lJ_mid h hb f1
  simp only [true_or, or_true, Option.toList_some, Option.toList_none, List.cons_append, List.nil_append, wL_law_751, wL_law_752, wL_law_753, wL_law_754, wL_law_755, wL_law_756 (lc_ok hl1 (show 4 * i + 1 < L by omega) hL2), wL_law_757, wL_law_758, wL_law_759, wL_law_760, wL_law_761 (lc_ok hl1 (show 4 * i + 2 < L by omega) hL2), wL_law_762, nI_1, lc_2, lc_3, k1, k2, k3, hx1]
  refine mM_go hm1 hs (by omega) (xs (4 * i + 1)) (xs (4 * i + 2)) (fun M2 h2 f2 => ?_)
  simp only [true_or, or_true, Option.toList_some, Option.toList_none, List.cons_append, List.nil_append, wL_law_765, if_true]
  exact hN _ _ (lJ_next h hb h1 f1 h2 f2 (ok_go hs (xs (4 * i + 1)) (xs (4 * i + 2))))
theorem lz_lose (h : lJ X b L xs i s M) (hb : b < X) (hL : 4 * i + 4 ≤ L) (hL2 : L ≤ 2048) (hN : ∀ s' M', lJ X b L xs (i + 1) s' M' → am_wp yL_law 1129 [.inr (.inl (15, some b)), .inr (.inl (1, some X)), .inr (.inl (4, some (X + 5))), .inl (nI (4 * i))] [] M' K) : am_wp yL_law 770 [.inr (.inl (15, some b)), .inr (.inl (1, some X)), .inr (.inl (4, some (X + 5))), .inl (nI (4 * i))] [] M K := by
  obtain ⟨⟨ad, hc⟩, hm, hs, ht, hz, hz2, -, hl, hx⟩ := id h
  have ht2 : ts_t s + 20 < 2 ^ 30 := by omega
  have k1 : (nI (4 * i + 1)).toNatClampNeg = 4 * i + 1 := nI_clamp (by omega)
  have k2 : (nI (4 * i + 2)).toNatClampNeg = 4 * i + 2 := nI_clamp (by omega)
  have k3 : (nI (4 * i + 3)).toNatClampNeg = 4 * i + 3 := nI_clamp (by omega)
  simp only [wL_law_770, wL_law_771, wL_law_772, wL_law_773, wL_law_774, wL_law_775 (lc_ok hl (show 4 * i + 1 < L by omega) hL2), wL_law_776, nI_1, lc_2, lc_3, k1, k2, k3, hx]
  refine cX_lose hc hs ht2 (xs (4 * i + 1)) (fun ad' M1 h1 f0 => ?_)
  have f1 : fx_n (cxR X) M M1 := fx_n_of f0
  obtain ⟨hm1, hl1, hx1⟩ := lJ_mid h hb f1
  simp only [true_or, or_true, Option.toList_some, Option.toList_none, List.cons_append, List.nil_append, wL_law_779, wL_law_780, wL_law_781, wL_law_782, wL_law_783, wL_law_784 (lc_ok hl1 (show 4 * i + 1 < L by omega) hL2), wL_law_785, nI_1, lc_2, lc_3, k1, k2, k3, hx1]
  refine mM_lose hm1 hs (by omega) (xs (4 * i + 1)) (fun M2 h2 f2 => ?_)
  simp only [true_or, or_true, Option.toList_some, Option.toList_none, List.cons_append, List.nil_append, wL_law_788, if_true]
  exact hN _ _ (lJ_next h hb h1 f1 h2 f2 (ok_lose hs (xs (4 * i + 1))))
theorem lz_touches (h : lJ X b L xs i s M) (hb : b < X) (hL : 4 * i + 4 ≤ L) (hL2 : L ≤ 2048) (hN : ∀ s' M', lJ X b L xs (i + 1) s' M' → am_wp yL_law 1129 [.inr (.inl (15, some b)), .inr (.inl (1, some X)), .inr (.inl (4, some (X + 5))), .inl (nI (4 * i))] [] M' K) : am_wp yL_law 793 [.inr (.inl (15, some b)), .inr (.inl (1, some X)), .inr (.inl (4, some (X + 5))), .inl (nI (4 * i))] [] M K := by
  obtain ⟨⟨ad, hc⟩, hm, hs, ht, hz, hz2, -, hl, hx⟩ := id h
  have ht2 : ts_t s + 20 < 2 ^ 30 := by omega
  have k1 : (nI (4 * i + 1)).toNatClampNeg = 4 * i + 1 := nI_clamp (by omega)
  have k2 : (nI (4 * i + 2)).toNatClampNeg = 4 * i + 2 := nI_clamp (by omega)
  have k3 : (nI (4 * i + 3)).toNatClampNeg = 4 * i + 3 := nI_clamp (by omega)
  simp only [wL_law_793, wL_law_794, wL_law_795, wL_law_796, wL_law_797, wL_law_798 (lc_ok hl (show 4 * i + 1 < L by omega) hL2), wL_law_799, wL_law_800, wL_law_801, wL_law_802, wL_law_803 (lc_ok hl (show 4 * i + 2 < L by omega) hL2), wL_law_804, nI_1, lc_2, lc_3, k1, k2, k3, hx]
  rw [cX_touches hc hs (xs (4 * i + 1)) (xs (4 * i + 2))]
  have h1 := hc
  have f1 : fx_n (cxR X) M M := fx_n_of (fx_f_rf M)
  obtain ⟨hm1, hl1, hx1⟩ := lJ_mid h hb f1
  simp only [true_or, or_true, Option.toList_some, Option.toList_none, List.cons_append, List.nil_append, wL_law_807, wL_law_808, wL_law_809, wL_law_810, wL_law_811, wL_law_812 (lc_ok hl1 (show 4 * i + 1 < L by omega) hL2), wL_law_813, wL_law_814, wL_law_815, wL_law_816, wL_law_817 (lc_ok hl1 (show 4 * i + 2 < L by omega) hL2), wL_law_818, nI_1, lc_2, lc_3, k1, k2, k3, hx1]
  refine mM_touches hm1 hs (xs (4 * i + 1)) (xs (4 * i + 2)) (fun M2 h2 f2 => ?_)
  simp only [true_or, or_true, Option.toList_some, Option.toList_none, List.cons_append, List.nil_append, wL_law_821, if_true]
  exact hN _ _ (lJ_next h hb h1 f1 h2 f2 (tk_rf hs))
theorem lz_sees (h : lJ X b L xs i s M) (hb : b < X) (hL : 4 * i + 4 ≤ L) (hL2 : L ≤ 2048) (hN : ∀ s' M', lJ X b L xs (i + 1) s' M' → am_wp yL_law 1129 [.inr (.inl (15, some b)), .inr (.inl (1, some X)), .inr (.inl (4, some (X + 5))), .inl (nI (4 * i))] [] M' K) : am_wp yL_law 826 [.inr (.inl (15, some b)), .inr (.inl (1, some X)), .inr (.inl (4, some (X + 5))), .inl (nI (4 * i))] [] M K := by
  obtain ⟨⟨ad, hc⟩, hm, hs, ht, hz, hz2, -, hl, hx⟩ := id h
  have ht2 : ts_t s + 20 < 2 ^ 30 := by omega
  have k1 : (nI (4 * i + 1)).toNatClampNeg = 4 * i + 1 := nI_clamp (by omega)
  have k2 : (nI (4 * i + 2)).toNatClampNeg = 4 * i + 2 := nI_clamp (by omega)
  have k3 : (nI (4 * i + 3)).toNatClampNeg = 4 * i + 3 := nI_clamp (by omega)
  simp only [wL_law_826, wL_law_827, wL_law_828, wL_law_829, wL_law_830, wL_law_831 (lc_ok hl (show 4 * i + 1 < L by omega) hL2), wL_law_832, wL_law_833, wL_law_834, wL_law_835, wL_law_836 (lc_ok hl (show 4 * i + 2 < L by omega) hL2), wL_law_837, nI_1, lc_2, lc_3, k1, k2, k3, hx]
  rw [cX_sees hc hs (xs (4 * i + 1)) (xs (4 * i + 2))]
  have h1 := hc
  have f1 : fx_n (cxR X) M M := fx_n_of (fx_f_rf M)
  obtain ⟨hm1, hl1, hx1⟩ := lJ_mid h hb f1
  simp only [true_or, or_true, Option.toList_some, Option.toList_none, List.cons_append, List.nil_append, wL_law_840, wL_law_841, wL_law_842, wL_law_843, wL_law_844, wL_law_845 (lc_ok hl1 (show 4 * i + 1 < L by omega) hL2), wL_law_846, wL_law_847, wL_law_848, wL_law_849, wL_law_850 (lc_ok hl1 (show 4 * i + 2 < L by omega) hL2), wL_law_851, nI_1, lc_2, lc_3, k1, k2, k3, hx1]
  refine mM_sees hm1 hs (xs (4 * i + 1)) (xs (4 * i + 2)) (fun M2 h2 f2 => ?_)
  simp only [true_or, or_true, Option.toList_some, Option.toList_none, List.cons_append, List.nil_append, wL_law_854, if_true]
  exact hN _ _ (lJ_next h hb h1 f1 h2 f2 (tk_rf hs))
theorem lz_light (h : lJ X b L xs i s M) (hb : b < X) (hL : 4 * i + 4 ≤ L) (hL2 : L ≤ 2048) (hN : ∀ s' M', lJ X b L xs (i + 1) s' M' → am_wp yL_law 1129 [.inr (.inl (15, some b)), .inr (.inl (1, some X)), .inr (.inl (4, some (X + 5))), .inl (nI (4 * i))] [] M' K) : am_wp yL_law 859 [.inr (.inl (15, some b)), .inr (.inl (1, some X)), .inr (.inl (4, some (X + 5))), .inl (nI (4 * i))] [] M K := by
  obtain ⟨⟨ad, hc⟩, hm, hs, ht, hz, hz2, -, hl, hx⟩ := id h
  have ht2 : ts_t s + 20 < 2 ^ 30 := by omega
  have k1 : (nI (4 * i + 1)).toNatClampNeg = 4 * i + 1 := nI_clamp (by omega)
  have k2 : (nI (4 * i + 2)).toNatClampNeg = 4 * i + 2 := nI_clamp (by omega)
  have k3 : (nI (4 * i + 3)).toNatClampNeg = 4 * i + 3 := nI_clamp (by omega)
  simp only [wL_law_859, wL_law_860, wL_law_861, wL_law_862, wL_law_863, wL_law_864 (lc_ok hl (show 4 * i + 1 < L by omega) hL2), wL_law_865, nI_1, lc_2, lc_3, k1, k2, k3, hx]
  rw [cX_light hc hs (xs (4 * i + 1))]
  have h1 := hc
  have f1 : fx_n (cxR X) M M := fx_n_of (fx_f_rf M)
  obtain ⟨hm1, hl1, hx1⟩ := lJ_mid h hb f1
  simp only [true_or, or_true, Option.toList_some, Option.toList_none, List.cons_append, List.nil_append, wL_law_868, wL_law_869, wL_law_870, wL_law_871, wL_law_872, wL_law_873 (lc_ok hl1 (show 4 * i + 1 < L by omega) hL2), wL_law_874, nI_1, lc_2, lc_3, k1, k2, k3, hx1]
  refine mM_light hm1 hs (xs (4 * i + 1)) (fun M2 h2 f2 => ?_)
  simp only [true_or, or_true, Option.toList_some, Option.toList_none, List.cons_append, List.nil_append, wL_law_877, if_true]
  exact hN _ _ (lJ_next h hb h1 f1 h2 f2 (tk_rf hs))
theorem lz_holder (h : lJ X b L xs i s M) (hb : b < X) (hL : 4 * i + 4 ≤ L) (hL2 : L ≤ 2048) (hN : ∀ s' M', lJ X b L xs (i + 1) s' M' → am_wp yL_law 1129 [.inr (.inl (15, some b)), .inr (.inl (1, some X)), .inr (.inl (4, some (X + 5))), .inl (nI (4 * i))] [] M' K) : am_wp yL_law 882 [.inr (.inl (15, some b)), .inr (.inl (1, some X)), .inr (.inl (4, some (X + 5))), .inl (nI (4 * i))] [] M K := by
  obtain ⟨⟨ad, hc⟩, hm, hs, ht, hz, hz2, -, hl, hx⟩ := id h
  have ht2 : ts_t s + 20 < 2 ^ 30 := by omega
  have k1 : (nI (4 * i + 1)).toNatClampNeg = 4 * i + 1 := nI_clamp (by omega)
  have k2 : (nI (4 * i + 2)).toNatClampNeg = 4 * i + 2 := nI_clamp (by omega)
  have k3 : (nI (4 * i + 3)).toNatClampNeg = 4 * i + 3 := nI_clamp (by omega)
  simp only [wL_law_882, wL_law_883, wL_law_884, wL_law_885, wL_law_886, wL_law_887 (lc_ok hl (show 4 * i + 1 < L by omega) hL2), wL_law_888, nI_1, lc_2, lc_3, k1, k2, k3, hx]
  rw [cX_holder hc  (xs (4 * i + 1))]
  have h1 := hc
  have f1 : fx_n (cxR X) M M := fx_n_of (fx_f_rf M)
  obtain ⟨hm1, hl1, hx1⟩ := lJ_mid h hb f1
  simp only [true_or, or_true, Option.toList_some, Option.toList_none, List.cons_append, List.nil_append, wL_law_891, wL_law_892, wL_law_893, wL_law_894, wL_law_895, wL_law_896 (lc_ok hl1 (show 4 * i + 1 < L by omega) hL2), wL_law_897, nI_1, lc_2, lc_3, k1, k2, k3, hx1]
  rw [mM_holder hm1 hs (xs (4 * i + 1))]
  have h2 := mp_th hm1
  simp only [true_or, or_true, Option.toList_some, Option.toList_none, List.cons_append, List.nil_append, wL_law_900, if_true]
  exact hN _ _ (lJ_next h hb h1 f1 h2 fx_th0 (tk_rf hs))
theorem lz_way (h : lJ X b L xs i s M) (hb : b < X) (hL : 4 * i + 4 ≤ L) (hL2 : L ≤ 2048) (hN : ∀ s' M', lJ X b L xs (i + 1) s' M' → am_wp yL_law 1129 [.inr (.inl (15, some b)), .inr (.inl (1, some X)), .inr (.inl (4, some (X + 5))), .inl (nI (4 * i))] [] M' K) : am_wp yL_law 905 [.inr (.inl (15, some b)), .inr (.inl (1, some X)), .inr (.inl (4, some (X + 5))), .inl (nI (4 * i))] [] M K := by
  obtain ⟨⟨ad, hc⟩, hm, hs, ht, hz, hz2, -, hl, hx⟩ := id h
  have ht2 : ts_t s + 20 < 2 ^ 30 := by omega
  have k1 : (nI (4 * i + 1)).toNatClampNeg = 4 * i + 1 := nI_clamp (by omega)
  have k2 : (nI (4 * i + 2)).toNatClampNeg = 4 * i + 2 := nI_clamp (by omega)
  have k3 : (nI (4 * i + 3)).toNatClampNeg = 4 * i + 3 := nI_clamp (by omega)
  simp only [wL_law_905, wL_law_906, wL_law_907, wL_law_908, wL_law_909, wL_law_910 (lc_ok hl (show 4 * i + 1 < L by omega) hL2), wL_law_911, nI_1, lc_2, lc_3, k1, k2, k3, hx]
  rw [cX_way hc  (xs (4 * i + 1))]
  have h1 := hc
  have f1 : fx_n (cxR X) M M := fx_n_of (fx_f_rf M)
  obtain ⟨hm1, hl1, hx1⟩ := lJ_mid h hb f1
  simp only [true_or, or_true, Option.toList_some, Option.toList_none, List.cons_append, List.nil_append, wL_law_914, wL_law_915, wL_law_916, wL_law_917, wL_law_918, wL_law_919 (lc_ok hl1 (show 4 * i + 1 < L by omega) hL2), wL_law_920, nI_1, lc_2, lc_3, k1, k2, k3, hx1]
  rw [mM_way hm1 hs (xs (4 * i + 1))]
  have h2 := mp_th hm1
  simp only [true_or, or_true, Option.toList_some, Option.toList_none, List.cons_append, List.nil_append, wL_law_923, if_true]
  exact hN _ _ (lJ_next h hb h1 f1 h2 fx_th0 (tk_rf hs))
theorem lz_child (h : lJ X b L xs i s M) (hb : b < X) (hL : 4 * i + 4 ≤ L) (hL2 : L ≤ 2048) (hN : ∀ s' M', lJ X b L xs (i + 1) s' M' → am_wp yL_law 1129 [.inr (.inl (15, some b)), .inr (.inl (1, some X)), .inr (.inl (4, some (X + 5))), .inl (nI (4 * i))] [] M' K) : am_wp yL_law 928 [.inr (.inl (15, some b)), .inr (.inl (1, some X)), .inr (.inl (4, some (X + 5))), .inl (nI (4 * i))] [] M K := by
  obtain ⟨⟨ad, hc⟩, hm, hs, ht, hz, hz2, -, hl, hx⟩ := id h
  have ht2 : ts_t s + 20 < 2 ^ 30 := by omega
  have k1 : (nI (4 * i + 1)).toNatClampNeg = 4 * i + 1 := nI_clamp (by omega)
  have k2 : (nI (4 * i + 2)).toNatClampNeg = 4 * i + 2 := nI_clamp (by omega)
  have k3 : (nI (4 * i + 3)).toNatClampNeg = 4 * i + 3 := nI_clamp (by omega)
  simp only [wL_law_928, wL_law_929, wL_law_930, wL_law_931, wL_law_932, wL_law_933 (lc_ok hl (show 4 * i + 1 < L by omega) hL2), wL_law_934, wL_law_935, wL_law_936, wL_law_937, wL_law_938 (lc_ok hl (show 4 * i + 2 < L by omega) hL2), wL_law_939, nI_1, lc_2, lc_3, k1, k2, k3, hx]
  rw [cX_child hc hs.1 (xs (4 * i + 1)) (xs (4 * i + 2))]
  have h1 := hc
  have f1 : fx_n (cxR X) M M := fx_n_of (fx_f_rf M)
  obtain ⟨hm1, hl1, hx1⟩ := lJ_mid h hb f1
  simp only [true_or, or_true, Option.toList_some, Option.toList_none, List.cons_append, List.nil_append, wL_law_942, wL_law_943, wL_law_944, wL_law_945, wL_law_946, wL_law_947 (lc_ok hl1 (show 4 * i + 1 < L by omega) hL2), wL_law_948, wL_law_949, wL_law_950, wL_law_951, wL_law_952 (lc_ok hl1 (show 4 * i + 2 < L by omega) hL2), wL_law_953, nI_1, lc_2, lc_3, k1, k2, k3, hx1]
  rw [mM_child hm1 hs (xs (4 * i + 1)) (xs (4 * i + 2))]
  have h2 := mp_th hm1
  simp only [true_or, or_true, Option.toList_some, Option.toList_none, List.cons_append, List.nil_append, wL_law_956, if_true]
  exact hN _ _ (lJ_next h hb h1 f1 h2 fx_th0 (tk_rf hs))
theorem lz_count (h : lJ X b L xs i s M) (hb : b < X) (hL : 4 * i + 4 ≤ L) (hL2 : L ≤ 2048) (hN : ∀ s' M', lJ X b L xs (i + 1) s' M' → am_wp yL_law 1129 [.inr (.inl (15, some b)), .inr (.inl (1, some X)), .inr (.inl (4, some (X + 5))), .inl (nI (4 * i))] [] M' K) : am_wp yL_law 961 [.inr (.inl (15, some b)), .inr (.inl (1, some X)), .inr (.inl (4, some (X + 5))), .inl (nI (4 * i))] [] M K := by
  obtain ⟨⟨ad, hc⟩, hm, hs, ht, hz, hz2, -, hl, hx⟩ := id h
  have ht2 : ts_t s + 20 < 2 ^ 30 := by omega
  have k1 : (nI (4 * i + 1)).toNatClampNeg = 4 * i + 1 := nI_clamp (by omega)
  have k2 : (nI (4 * i + 2)).toNatClampNeg = 4 * i + 2 := nI_clamp (by omega)
  have k3 : (nI (4 * i + 3)).toNatClampNeg = 4 * i + 3 := nI_clamp (by omega)
  simp only [wL_law_961, wL_law_962, wL_law_963, wL_law_964, wL_law_965, wL_law_966 (lc_ok hl (show 4 * i + 1 < L by omega) hL2), wL_law_967, nI_1, lc_2, lc_3, k1, k2, k3, hx]
  refine cX_count hc hs (xs (4 * i + 1)) (fun M1 f0 => ?_)
  have h1 : cp X ad s M1 := cp_fr hc (fun c q => f0.1 c (by omega)) (Nat.le_of_eq f0.2.1.symm)
  have f1 : fx_n (cxR X) M M1 := fx_n_of (fx_f_to f0 (fun c q => by unfold cxR; omega))
  obtain ⟨hm1, hl1, hx1⟩ := lJ_mid h hb f1
  simp only [true_or, or_true, Option.toList_some, Option.toList_none, List.cons_append, List.nil_append, wL_law_970, wL_law_971, wL_law_972, wL_law_973, wL_law_974, wL_law_975 (lc_ok hl1 (show 4 * i + 1 < L by omega) hL2), wL_law_976, nI_1, lc_2, lc_3, k1, k2, k3, hx1]
  rw [mM_count hm1 hs (xs (4 * i + 1))]
  have h2 := mp_th hm1
  simp only [true_or, or_true, Option.toList_some, Option.toList_none, List.cons_append, List.nil_append, wL_law_979, if_true]
  exact hN _ _ (lJ_next h hb h1 f1 h2 fx_th0 (tk_rf hs))
theorem lz_walk (h : lJ X b L xs i s M) (hb : b < X) (hL : 4 * i + 4 ≤ L) (hL2 : L ≤ 2048) (hN : ∀ s' M', lJ X b L xs (i + 1) s' M' → am_wp yL_law 1129 [.inr (.inl (15, some b)), .inr (.inl (1, some X)), .inr (.inl (4, some (X + 5))), .inl (nI (4 * i))] [] M' K) : am_wp yL_law 984 [.inr (.inl (15, some b)), .inr (.inl (1, some X)), .inr (.inl (4, some (X + 5))), .inl (nI (4 * i))] [] M K := by
  obtain ⟨⟨ad, hc⟩, hm, hs, ht, hz, hz2, -, hl, hx⟩ := id h
  have ht2 : ts_t s + 20 < 2 ^ 30 := by omega
  have k1 : (nI (4 * i + 1)).toNatClampNeg = 4 * i + 1 := nI_clamp (by omega)
  have k2 : (nI (4 * i + 2)).toNatClampNeg = 4 * i + 2 := nI_clamp (by omega)
  have k3 : (nI (4 * i + 3)).toNatClampNeg = 4 * i + 3 := nI_clamp (by omega)
  simp only [wL_law_984, wL_law_985, wL_law_986, wL_law_987, wL_law_988, wL_law_989 (lc_ok hl (show 4 * i + 1 < L by omega) hL2), wL_law_990, wL_law_991, wL_law_992, wL_law_993, wL_law_994 (lc_ok hl (show 4 * i + 2 < L by omega) hL2), wL_law_995, nI_1, lc_2, lc_3, k1, k2, k3, hx]
  refine cX_walk hc hs (xs (4 * i + 1)) (xs (4 * i + 2)) (fun M1 f0 => ?_)
  have h1 : cp X ad s M1 := cp_fr hc (fun c q => f0.1 c (by omega)) (Nat.le_of_eq f0.2.1.symm)
  have f1 : fx_n (cxR X) M M1 := fx_n_of (fx_f_to f0 (fun c q => by unfold cxR; omega))
  obtain ⟨hm1, hl1, hx1⟩ := lJ_mid h hb f1
  simp only [true_or, or_true, Option.toList_some, Option.toList_none, List.cons_append, List.nil_append, wL_law_998, wL_law_999, wL_law_1000, wL_law_1001, wL_law_1002, wL_law_1003 (lc_ok hl1 (show 4 * i + 1 < L by omega) hL2), wL_law_1004, wL_law_1005, wL_law_1006, wL_law_1007, wL_law_1008 (lc_ok hl1 (show 4 * i + 2 < L by omega) hL2), wL_law_1009, nI_1, lc_2, lc_3, k1, k2, k3, hx1]
  rw [mM_walk hm1 hs (xs (4 * i + 1)) (xs (4 * i + 2))]
  have h2 := mp_th hm1
  simp only [true_or, or_true, Option.toList_some, Option.toList_none, List.cons_append, List.nil_append, wL_law_1012, if_true]
  exact hN _ _ (lJ_next h hb h1 f1 h2 fx_th0 (tk_rf hs))
theorem lz_root (h : lJ X b L xs i s M) (hb : b < X) (hL : 4 * i + 4 ≤ L) (hL2 : L ≤ 2048) (hN : ∀ s' M', lJ X b L xs (i + 1) s' M' → am_wp yL_law 1129 [.inr (.inl (15, some b)), .inr (.inl (1, some X)), .inr (.inl (4, some (X + 5))), .inl (nI (4 * i))] [] M' K) : am_wp yL_law 1017 [.inr (.inl (15, some b)), .inr (.inl (1, some X)), .inr (.inl (4, some (X + 5))), .inl (nI (4 * i))] [] M K := by
  obtain ⟨⟨ad, hc⟩, hm, hs, ht, hz, hz2, -, hl, hx⟩ := id h
  have ht2 : ts_t s + 20 < 2 ^ 30 := by omega
  have k1 : (nI (4 * i + 1)).toNatClampNeg = 4 * i + 1 := nI_clamp (by omega)
  have k2 : (nI (4 * i + 2)).toNatClampNeg = 4 * i + 2 := nI_clamp (by omega)
  have k3 : (nI (4 * i + 3)).toNatClampNeg = 4 * i + 3 := nI_clamp (by omega)
  simp only [wL_law_1017, wL_law_1018, wL_law_1019, wL_law_1020, wL_law_1021, wL_law_1022 (lc_ok hl (show 4 * i + 1 < L by omega) hL2), wL_law_1023, nI_1, lc_2, lc_3, k1, k2, k3, hx]
  rw [cX_root hc hs.1 (xs (4 * i + 1))]
  have h1 := hc
  have f1 : fx_n (cxR X) M M := fx_n_of (fx_f_rf M)
  obtain ⟨hm1, hl1, hx1⟩ := lJ_mid h hb f1
  simp only [true_or, or_true, Option.toList_some, Option.toList_none, List.cons_append, List.nil_append, wL_law_1026, wL_law_1027, wL_law_1028, wL_law_1029, wL_law_1030, wL_law_1031 (lc_ok hl1 (show 4 * i + 1 < L by omega) hL2), wL_law_1032, nI_1, lc_2, lc_3, k1, k2, k3, hx1]
  rw [mM_root hm1 hs (xs (4 * i + 1))]
  have h2 := mp_th hm1
  simp only [true_or, or_true, Option.toList_some, Option.toList_none, List.cons_append, List.nil_append, wL_law_1035, if_true]
  exact hN _ _ (lJ_next h hb h1 f1 h2 fx_th0 (tk_rf hs))
theorem lz_ring (h : lJ X b L xs i s M) (hb : b < X) (hL : 4 * i + 4 ≤ L) (hL2 : L ≤ 2048) (hN : ∀ s' M', lJ X b L xs (i + 1) s' M' → am_wp yL_law 1129 [.inr (.inl (15, some b)), .inr (.inl (1, some X)), .inr (.inl (4, some (X + 5))), .inl (nI (4 * i))] [] M' K) : am_wp yL_law 1040 [.inr (.inl (15, some b)), .inr (.inl (1, some X)), .inr (.inl (4, some (X + 5))), .inl (nI (4 * i))] [] M K := by
  obtain ⟨⟨ad, hc⟩, hm, hs, ht, hz, hz2, -, hl, hx⟩ := id h
  have ht2 : ts_t s + 20 < 2 ^ 30 := by omega
  have k1 : (nI (4 * i + 1)).toNatClampNeg = 4 * i + 1 := nI_clamp (by omega)
  have k2 : (nI (4 * i + 2)).toNatClampNeg = 4 * i + 2 := nI_clamp (by omega)
  have k3 : (nI (4 * i + 3)).toNatClampNeg = 4 * i + 3 := nI_clamp (by omega)
  simp only [wL_law_1040, wL_law_1041, wL_law_1042, wL_law_1043, wL_law_1044, wL_law_1045 (lc_ok hl (show 4 * i + 1 < L by omega) hL2), wL_law_1046, wL_law_1047, wL_law_1048, wL_law_1049, wL_law_1050 (lc_ok hl (show 4 * i + 2 < L by omega) hL2), wL_law_1051, nI_1, lc_2, lc_3, k1, k2, k3, hx]
  rw [cX_ring hc hs.1 (xs (4 * i + 1)) (xs (4 * i + 2))]
  have h1 := hc
  have f1 : fx_n (cxR X) M M := fx_n_of (fx_f_rf M)
  obtain ⟨hm1, hl1, hx1⟩ := lJ_mid h hb f1
  simp only [true_or, or_true, Option.toList_some, Option.toList_none, List.cons_append, List.nil_append, wL_law_1054, wL_law_1055, wL_law_1056, wL_law_1057, wL_law_1058, wL_law_1059 (lc_ok hl1 (show 4 * i + 1 < L by omega) hL2), wL_law_1060, wL_law_1061, wL_law_1062, wL_law_1063, wL_law_1064 (lc_ok hl1 (show 4 * i + 2 < L by omega) hL2), wL_law_1065, nI_1, lc_2, lc_3, k1, k2, k3, hx1]
  rw [mM_ring hm1 hs (xs (4 * i + 1)) (xs (4 * i + 2))]
  have h2 := mp_th hm1
  simp only [true_or, or_true, Option.toList_some, Option.toList_none, List.cons_append, List.nil_append, wL_law_1068, if_true]
  exact hN _ _ (lJ_next h hb h1 f1 h2 fx_th0 (tk_rf hs))
theorem lz_row (h : lJ X b L xs i s M) (hb : b < X) (hL : 4 * i + 4 ≤ L) (hL2 : L ≤ 2048) (hN : ∀ s' M', lJ X b L xs (i + 1) s' M' → am_wp yL_law 1129 [.inr (.inl (15, some b)), .inr (.inl (1, some X)), .inr (.inl (4, some (X + 5))), .inl (nI (4 * i))] [] M' K) : am_wp yL_law 1073 [.inr (.inl (15, some b)), .inr (.inl (1, some X)), .inr (.inl (4, some (X + 5))), .inl (nI (4 * i))] [] M K := by
  obtain ⟨⟨ad, hc⟩, hm, hs, ht, hz, hz2, -, hl, hx⟩ := id h
  have ht2 : ts_t s + 20 < 2 ^ 30 := by omega
  have k1 : (nI (4 * i + 1)).toNatClampNeg = 4 * i + 1 := nI_clamp (by omega)
  have k2 : (nI (4 * i + 2)).toNatClampNeg = 4 * i + 2 := nI_clamp (by omega)
  have k3 : (nI (4 * i + 3)).toNatClampNeg = 4 * i + 3 := nI_clamp (by omega)
  simp only [wL_law_1073, wL_law_1074, wL_law_1075, wL_law_1076, wL_law_1077, wL_law_1078 (lc_ok hl (show 4 * i + 1 < L by omega) hL2), wL_law_1079, wL_law_1080, wL_law_1081, wL_law_1082, wL_law_1083 (lc_ok hl (show 4 * i + 2 < L by omega) hL2), wL_law_1084, nI_1, lc_2, lc_3, k1, k2, k3, hx]
  rw [cX_row hc (by omega) (xs (4 * i + 1)) (xs (4 * i + 2))]
  have h1 := hc
  have f1 : fx_n (cxR X) M M := fx_n_of (fx_f_rf M)
  obtain ⟨hm1, hl1, hx1⟩ := lJ_mid h hb f1
  simp only [true_or, or_true, Option.toList_some, Option.toList_none, List.cons_append, List.nil_append, wL_law_1087, wL_law_1088, wL_law_1089, wL_law_1090, wL_law_1091, wL_law_1092 (lc_ok hl1 (show 4 * i + 1 < L by omega) hL2), wL_law_1093, wL_law_1094, wL_law_1095, wL_law_1096, wL_law_1097 (lc_ok hl1 (show 4 * i + 2 < L by omega) hL2), wL_law_1098, nI_1, lc_2, lc_3, k1, k2, k3, hx1]
  rw [mM_row hm1 (by omega) (xs (4 * i + 1)) (xs (4 * i + 2))]
  have h2 := mp_th hm1
  simp only [true_or, or_true, Option.toList_some, Option.toList_none, List.cons_append, List.nil_append, wL_law_1101, if_true]
  exact hN _ _ (lJ_next h hb h1 f1 h2 fx_th0 (tk_rf hs))
theorem lz_told (h : lJ X b L xs i s M) (hb : b < X) (hL : 4 * i + 4 ≤ L) (hL2 : L ≤ 2048) (hN : ∀ s' M', lJ X b L xs (i + 1) s' M' → am_wp yL_law 1129 [.inr (.inl (15, some b)), .inr (.inl (1, some X)), .inr (.inl (4, some (X + 5))), .inl (nI (4 * i))] [] M' K) : am_wp yL_law 1106 [.inr (.inl (15, some b)), .inr (.inl (1, some X)), .inr (.inl (4, some (X + 5))), .inl (nI (4 * i))] [] M K := by
  obtain ⟨⟨ad, hc⟩, hm, hs, ht, hz, hz2, -, hl, hx⟩ := id h
  have ht2 : ts_t s + 20 < 2 ^ 30 := by omega
  have k1 : (nI (4 * i + 1)).toNatClampNeg = 4 * i + 1 := nI_clamp (by omega)
  have k2 : (nI (4 * i + 2)).toNatClampNeg = 4 * i + 2 := nI_clamp (by omega)
  have k3 : (nI (4 * i + 3)).toNatClampNeg = 4 * i + 3 := nI_clamp (by omega)
  simp only [wL_law_1106, wL_law_1107, wL_law_1108, wL_law_1109, wL_law_1110, wL_law_1111 (lc_ok hl (show 4 * i + 1 < L by omega) hL2), wL_law_1112, nI_1, lc_2, lc_3, k1, k2, k3, hx]
  rw [cX_told hc hs (xs (4 * i + 1))]
  have h1 := hc
  have f1 : fx_n (cxR X) M M := fx_n_of (fx_f_rf M)
  obtain ⟨hm1, hl1, hx1⟩ := lJ_mid h hb f1
  simp only [true_or, or_true, Option.toList_some, Option.toList_none, List.cons_append, List.nil_append, wL_law_1115, wL_law_1116, wL_law_1117, wL_law_1118, wL_law_1119, wL_law_1120 (lc_ok hl1 (show 4 * i + 1 < L by omega) hL2), wL_law_1121, nI_1, lc_2, lc_3, k1, k2, k3, hx1]
  rw [mM_told hm1 hs (xs (4 * i + 1))]
  have h2 := mp_th hm1
  simp only [true_or, or_true, Option.toList_some, Option.toList_none, List.cons_append, List.nil_append, wL_law_1124, if_true]
  exact hN _ _ (lJ_next h hb h1 f1 h2 fx_th0 (tk_rf hs))
end LC
