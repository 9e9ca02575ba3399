/-! the law: its cases, its loop -/
def oz_i (sc : Int × (Int → Int)) (i : Int) : Prop := 1 ≤ i ∧ i + 5 ≤ sc.1 ∧ sc.1 ≤ 2561 ∧ ∀ k, om_Z (sc.2 k)
abbrev oz_L (i : Int) : List om_V := [om_sc, om_r 0, om_r 101, .inl i]
def oz_N (sc : Int × (Int → Int)) (s : Int) (i : Int) (Q : Option om_V → om_H → Prop) : Prop := ∀ q I, oz_J q I → om_R sc 60 0 687 (oz_L i) [] (om_O s q, I) Q
theorem lw_0 {sc : Int × (Int → Int)} {s i : Int} {q : Nat → Int} {I : Nat → Int → Int} {Q : Option om_V → om_H → Prop} (hs : s = 0 ∨ s = 1) (hi : oz_i sc i) (hJ : oz_J q I) (hN : oz_N sc s i Q) : om_R sc 60 0 124 (oz_L i) [] (om_O s q, I) Q := by
  obtain ⟨i1, i2, i3, i4⟩ := hi
  simp only [x_Lw_law_124, x_Lw_law_125, x_Lw_law_126, x_Lw_law_127, x_Lw_law_128, x_Lw_law_129, x_Lw_law_130, x_Lw_law_131, rO_0, Option.toList_some, Option.toList_none, List.cons_append, List.nil_append, List.length_cons, List.length_nil, Nat.reduceAdd, Nat.zero_add, Nat.reduceLeDiff, true_and]
  refine ⟨⟨by omega, by omega⟩, by omega, ?_⟩
  refine pp_type (K2 := fun v w h' => om_R sc 60 0 144 (oz_L i) (w.toList ++ [.inl v]) h' Q) hs hJ (fun v q' I' h => ?_) (fun v q' I' hJ' => ?_)
  · simp only [x_Lw_law_134, x_Lw_law_135, x_Lw_law_136, x_Lw_law_137, x_Lw_law_138, x_Lw_law_139, x_Lw_law_140, x_Lw_law_141, rO_101, Option.toList_some, Option.toList_none, List.cons_append, List.nil_append, List.length_cons, List.length_nil, Nat.reduceAdd, Nat.zero_add, Nat.reduceLeDiff, true_and]
    exact ⟨⟨by omega, by omega⟩, by omega, h⟩
  · simp only [x_Lw_law_144, Option.toList_some, Option.toList_none, List.cons_append, List.nil_append, List.length_cons, List.length_nil, Nat.reduceAdd, Nat.zero_add, Nat.reduceLeDiff, true_and, if_true]
    exact hN q' I' hJ'
theorem lw_1 {sc : Int × (Int → Int)} {s i : Int} {q : Nat → Int} {I : Nat → Int → Int} {Q : Option om_V → om_H → Prop} (hs : s = 0 ∨ s = 1) (hi : oz_i sc i) (hJ : oz_J q I) (hN : oz_N sc s i Q) : om_R sc 60 0 149 (oz_L i) [] (om_O s q, I) Q := by
  obtain ⟨i1, i2, i3, i4⟩ := hi
  simp only [x_Lw_law_149, x_Lw_law_150, rO_0, Option.toList_some, Option.toList_none, List.cons_append, List.nil_append, List.length_cons, List.length_nil, Nat.reduceAdd, Nat.zero_add, Nat.reduceLeDiff, true_and]
  refine pp_clear (K2 := fun v w h' => om_R sc 60 0 157 (oz_L i) (w.toList ++ [.inl v]) h' Q) hs hJ (fun v q' I' h => ?_) (fun v q' I' hJ' => ?_)
  · simp only [x_Lw_law_153, x_Lw_law_154, rO_101, Option.toList_some, Option.toList_none, List.cons_append, List.nil_append, List.length_cons, List.length_nil, Nat.reduceAdd, Nat.zero_add, Nat.reduceLeDiff, true_and]
    exact h
  · simp only [x_Lw_law_157, Option.toList_some, Option.toList_none, List.cons_append, List.nil_append, List.length_cons, List.length_nil, Nat.reduceAdd, Nat.zero_add, Nat.reduceLeDiff, true_and, if_true]
    exact hN q' I' hJ'
theorem lw_2 {sc : Int × (Int → Int)} {s i : Int} {q : Nat → Int} {I : Nat → Int → Int} {Q : Option om_V → om_H → Prop} (hs : s = 0 ∨ s = 1) (hi : oz_i sc i) (hJ : oz_J q I) (hN : oz_N sc s i Q) : om_R sc 60 0 162 (oz_L i) [] (om_O s q, I) Q := by
  obtain ⟨i1, i2, i3, i4⟩ := hi
  simp only [x_Lw_law_162, x_Lw_law_163, x_Lw_law_164, x_Lw_law_165, x_Lw_law_166, x_Lw_law_167, x_Lw_law_168, rO_0, Option.toList_some, Option.toList_none, List.cons_append, List.nil_append, List.length_cons, List.length_nil, Nat.reduceAdd, Nat.zero_add, Nat.reduceLeDiff, true_and]
  refine ⟨⟨by omega, by omega⟩, by omega, ?_⟩
  refine pp_read (K2 := fun v w h' => om_R sc 60 0 180 (oz_L i) (w.toList ++ [.inl v]) h' Q) hs hJ (fun v q' I' h => ?_) (fun v q' I' hJ' => ?_)
  · simp only [x_Lw_law_171, x_Lw_law_172, x_Lw_law_173, x_Lw_law_174, x_Lw_law_175, x_Lw_law_176, x_Lw_law_177, rO_101, Option.toList_some, Option.toList_none, List.cons_append, List.nil_append, List.length_cons, List.length_nil, Nat.reduceAdd, Nat.zero_add, Nat.reduceLeDiff, true_and]
    exact ⟨⟨by omega, by omega⟩, by omega, h⟩
  · simp only [x_Lw_law_180, Option.toList_some, Option.toList_none, List.cons_append, List.nil_append, List.length_cons, List.length_nil, Nat.reduceAdd, Nat.zero_add, Nat.reduceLeDiff, true_and, if_true]
    exact hN q' I' hJ'
theorem lw_3 {sc : Int × (Int → Int)} {s i : Int} {q : Nat → Int} {I : Nat → Int → Int} {Q : Option om_V → om_H → Prop} (hs : s = 0 ∨ s = 1) (hi : oz_i sc i) (hJ : oz_J q I) (hN : oz_N sc s i Q) : om_R sc 60 0 185 (oz_L i) [] (om_O s q, I) Q := by
  obtain ⟨i1, i2, i3, i4⟩ := hi
  simp only [x_Lw_law_185, x_Lw_law_186, x_Lw_law_187, x_Lw_law_188, x_Lw_law_189, x_Lw_law_190, x_Lw_law_191, rO_0, Option.toList_some, Option.toList_none, List.cons_append, List.nil_append, List.length_cons, List.length_nil, Nat.reduceAdd, Nat.zero_add, Nat.reduceLeDiff, true_and]
  refine ⟨⟨by omega, by omega⟩, by omega, ?_⟩
  refine pp_order (K2 := fun v w h' => om_R sc 60 0 203 (oz_L i) (w.toList ++ [.inl v]) h' Q) hs hJ (fun v q' I' h => ?_) (fun v q' I' hJ' => ?_)
  · simp only [x_Lw_law_194, x_Lw_law_195, x_Lw_law_196, x_Lw_law_197, x_Lw_law_198, x_Lw_law_199, x_Lw_law_200, rO_101, Option.toList_some, Option.toList_none, List.cons_append, List.nil_append, List.length_cons, List.length_nil, Nat.reduceAdd, Nat.zero_add, Nat.reduceLeDiff, true_and]
    exact ⟨⟨by omega, by omega⟩, by omega, h⟩
  · simp only [x_Lw_law_203, Option.toList_some, Option.toList_none, List.cons_append, List.nil_append, List.length_cons, List.length_nil, Nat.reduceAdd, Nat.zero_add, Nat.reduceLeDiff, true_and, if_true]
    exact hN q' I' hJ'
theorem lw_4 {sc : Int × (Int → Int)} {s i : Int} {q : Nat → Int} {I : Nat → Int → Int} {Q : Option om_V → om_H → Prop} (hs : s = 0 ∨ s = 1) (hi : oz_i sc i) (hJ : oz_J q I) (hN : oz_N sc s i Q) : om_R sc 60 0 208 (oz_L i) [] (om_O s q, I) Q := by
  obtain ⟨i1, i2, i3, i4⟩ := hi
  simp only [x_Lw_law_208, x_Lw_law_209, x_Lw_law_210, x_Lw_law_211, x_Lw_law_212, x_Lw_law_213, x_Lw_law_214, x_Lw_law_215, x_Lw_law_216, x_Lw_law_217, x_Lw_law_218, x_Lw_law_219, x_Lw_law_220, x_Lw_law_221, x_Lw_law_222, x_Lw_law_223, x_Lw_law_224, rO_0, Option.toList_some, Option.toList_none, List.cons_append, List.nil_append, List.length_cons, List.length_nil, Nat.reduceAdd, Nat.zero_add, Nat.reduceLeDiff, true_and]
  refine ⟨⟨by omega, by omega⟩, by omega, ⟨by omega, by omega⟩, by omega, ⟨by omega, by omega⟩, by omega, ?_⟩
  refine pp_coefficient (K2 := fun v w h' => om_R sc 60 0 246 (oz_L i) (w.toList ++ [.inl v]) h' Q) hs hJ (fun v q' I' h => ?_) (fun v q' I' hJ' => ?_)
  · simp only [x_Lw_law_227, x_Lw_law_228, x_Lw_law_229, x_Lw_law_230, x_Lw_law_231, x_Lw_law_232, x_Lw_law_233, x_Lw_law_234, x_Lw_law_235, x_Lw_law_236, x_Lw_law_237, x_Lw_law_238, x_Lw_law_239, x_Lw_law_240, x_Lw_law_241, x_Lw_law_242, x_Lw_law_243, rO_101, Option.toList_some, Option.toList_none, List.cons_append, List.nil_append, List.length_cons, List.length_nil, Nat.reduceAdd, Nat.zero_add, Nat.reduceLeDiff, true_and]
    exact ⟨⟨by omega, by omega⟩, by omega, ⟨by omega, by omega⟩, by omega, ⟨by omega, by omega⟩, by omega, h⟩
  · simp only [x_Lw_law_246, Option.toList_some, Option.toList_none, List.cons_append, List.nil_append, List.length_cons, List.length_nil, Nat.reduceAdd, Nat.zero_add, Nat.reduceLeDiff, true_and, if_true]
    exact hN q' I' hJ'
theorem lw_5 {sc : Int × (Int → Int)} {s i : Int} {q : Nat → Int} {I : Nat → Int → Int} {Q : Option om_V → om_H → Prop} (hs : s = 0 ∨ s = 1) (hi : oz_i sc i) (hJ : oz_J q I) (hN : oz_N sc s i Q) : om_R sc 60 0 251 (oz_L i) [] (om_O s q, I) Q := by
  obtain ⟨i1, i2, i3, i4⟩ := hi
  simp only [x_Lw_law_251, x_Lw_law_252, x_Lw_law_253, x_Lw_law_254, x_Lw_law_255, x_Lw_law_256, x_Lw_law_257, x_Lw_law_258, x_Lw_law_259, x_Lw_law_260, x_Lw_law_261, x_Lw_law_262, x_Lw_law_263, x_Lw_law_264, x_Lw_law_265, x_Lw_law_266, x_Lw_law_267, x_Lw_law_268, x_Lw_law_269, x_Lw_law_270, x_Lw_law_271, x_Lw_law_272, rO_0, Option.toList_some, Option.toList_none, List.cons_append, List.nil_append, List.length_cons, List.length_nil, Nat.reduceAdd, Nat.zero_add, Nat.reduceLeDiff, true_and]
  refine ⟨⟨by omega, by omega⟩, by omega, ⟨by omega, by omega⟩, by omega, ⟨by omega, by omega⟩, by omega, ⟨by omega, by omega⟩, by omega, ?_⟩
  refine pp_add (K2 := fun v w h' => om_R sc 60 0 299 (oz_L i) (w.toList ++ [.inl v]) h' Q) hs hJ (fun v q' I' h => ?_) (fun v q' I' hJ' => ?_)
  · simp only [x_Lw_law_275, x_Lw_law_276, x_Lw_law_277, x_Lw_law_278, x_Lw_law_279, x_Lw_law_280, x_Lw_law_281, x_Lw_law_282, x_Lw_law_283, x_Lw_law_284, x_Lw_law_285, x_Lw_law_286, x_Lw_law_287, x_Lw_law_288, x_Lw_law_289, x_Lw_law_290, x_Lw_law_291, x_Lw_law_292, x_Lw_law_293, x_Lw_law_294, x_Lw_law_295, x_Lw_law_296, rO_101, Option.toList_some, Option.toList_none, List.cons_append, List.nil_append, List.length_cons, List.length_nil, Nat.reduceAdd, Nat.zero_add, Nat.reduceLeDiff, true_and]
    exact ⟨⟨by omega, by omega⟩, by omega, ⟨by omega, by omega⟩, by omega, ⟨by omega, by omega⟩, by omega, ⟨by omega, by omega⟩, by omega, h⟩
  · simp only [x_Lw_law_299, Option.toList_some, Option.toList_none, List.cons_append, List.nil_append, List.length_cons, List.length_nil, Nat.reduceAdd, Nat.zero_add, Nat.reduceLeDiff, true_and, if_true]
    exact hN q' I' hJ'
theorem lw_6 {sc : Int × (Int → Int)} {s i : Int} {q : Nat → Int} {I : Nat → Int → Int} {Q : Option om_V → om_H → Prop} (hs : s = 0 ∨ s = 1) (hi : oz_i sc i) (hJ : oz_J q I) (hN : oz_N sc s i Q) : om_R sc 60 0 304 (oz_L i) [] (om_O s q, I) Q := by
  obtain ⟨i1, i2, i3, i4⟩ := hi
  simp only [x_Lw_law_304, x_Lw_law_305, x_Lw_law_306, x_Lw_law_307, x_Lw_law_308, x_Lw_law_309, x_Lw_law_310, x_Lw_law_311, x_Lw_law_312, x_Lw_law_313, x_Lw_law_314, x_Lw_law_315, x_Lw_law_316, x_Lw_law_317, x_Lw_law_318, x_Lw_law_319, x_Lw_law_320, rO_0, Option.toList_some, Option.toList_none, List.cons_append, List.nil_append, List.length_cons, List.length_nil, Nat.reduceAdd, Nat.zero_add, Nat.reduceLeDiff, true_and]
  refine ⟨⟨by omega, by omega⟩, by omega, ⟨by omega, by omega⟩, by omega, ⟨by omega, by omega⟩, by omega, ?_⟩
  refine pp_multiply (K2 := fun v w h' => om_R sc 60 0 342 (oz_L i) (w.toList ++ [.inl v]) h' Q) hs hJ (fun v q' I' h => ?_) (fun v q' I' hJ' => ?_)
  · simp only [x_Lw_law_323, x_Lw_law_324, x_Lw_law_325, x_Lw_law_326, x_Lw_law_327, x_Lw_law_328, x_Lw_law_329, x_Lw_law_330, x_Lw_law_331, x_Lw_law_332, x_Lw_law_333, x_Lw_law_334, x_Lw_law_335, x_Lw_law_336, x_Lw_law_337, x_Lw_law_338, x_Lw_law_339, rO_101, Option.toList_some, Option.toList_none, List.cons_append, List.nil_append, List.length_cons, List.length_nil, Nat.reduceAdd, Nat.zero_add, Nat.reduceLeDiff, true_and]
    exact ⟨⟨by omega, by omega⟩, by omega, ⟨by omega, by omega⟩, by omega, ⟨by omega, by omega⟩, by omega, h⟩
  · simp only [x_Lw_law_342, Option.toList_some, Option.toList_none, List.cons_append, List.nil_append, List.length_cons, List.length_nil, Nat.reduceAdd, Nat.zero_add, Nat.reduceLeDiff, true_and, if_true]
    exact hN q' I' hJ'
theorem lw_7 {sc : Int × (Int → Int)} {s i : Int} {q : Nat → Int} {I : Nat → Int → Int} {Q : Option om_V → om_H → Prop} (hs : s = 0 ∨ s = 1) (hi : oz_i sc i) (hJ : oz_J q I) (hN : oz_N sc s i Q) : om_R sc 60 0 347 (oz_L i) [] (om_O s q, I) Q := by
  obtain ⟨i1, i2, i3, i4⟩ := hi
  simp only [x_Lw_law_347, x_Lw_law_348, x_Lw_law_349, x_Lw_law_350, x_Lw_law_351, x_Lw_law_352, x_Lw_law_353, x_Lw_law_354, x_Lw_law_355, x_Lw_law_356, x_Lw_law_357, x_Lw_law_358, x_Lw_law_359, x_Lw_law_360, x_Lw_law_361, x_Lw_law_362, x_Lw_law_363, rO_0, Option.toList_some, Option.toList_none, List.cons_append, List.nil_append, List.length_cons, List.length_nil, Nat.reduceAdd, Nat.zero_add, Nat.reduceLeDiff, true_and]
  refine ⟨⟨by omega, by omega⟩, by omega, ⟨by omega, by omega⟩, by omega, ⟨by omega, by omega⟩, by omega, ?_⟩
  refine pp_apply (K2 := fun v w h' => om_R sc 60 0 385 (oz_L i) (w.toList ++ [.inl v]) h' Q) hs hJ (fun v q' I' h => ?_) (fun v q' I' hJ' => ?_)
  · simp only [x_Lw_law_366, x_Lw_law_367, x_Lw_law_368, x_Lw_law_369, x_Lw_law_370, x_Lw_law_371, x_Lw_law_372, x_Lw_law_373, x_Lw_law_374, x_Lw_law_375, x_Lw_law_376, x_Lw_law_377, x_Lw_law_378, x_Lw_law_379, x_Lw_law_380, x_Lw_law_381, x_Lw_law_382, rO_101, Option.toList_some, Option.toList_none, List.cons_append, List.nil_append, List.length_cons, List.length_nil, Nat.reduceAdd, Nat.zero_add, Nat.reduceLeDiff, true_and]
    exact ⟨⟨by omega, by omega⟩, by omega, ⟨by omega, by omega⟩, by omega, ⟨by omega, by omega⟩, by omega, h⟩
  · simp only [x_Lw_law_385, Option.toList_some, Option.toList_none, List.cons_append, List.nil_append, List.length_cons, List.length_nil, Nat.reduceAdd, Nat.zero_add, Nat.reduceLeDiff, true_and, if_true]
    exact hN q' I' hJ'
theorem lw_8 {sc : Int × (Int → Int)} {s i : Int} {q : Nat → Int} {I : Nat → Int → Int} {Q : Option om_V → om_H → Prop} (hs : s = 0 ∨ s = 1) (hi : oz_i sc i) (hJ : oz_J q I) (hN : oz_N sc s i Q) : om_R sc 60 0 390 (oz_L i) [] (om_O s q, I) Q := by
  obtain ⟨i1, i2, i3, i4⟩ := hi
  simp only [x_Lw_law_390, x_Lw_law_391, x_Lw_law_392, x_Lw_law_393, x_Lw_law_394, x_Lw_law_395, x_Lw_law_396, x_Lw_law_397, x_Lw_law_398, x_Lw_law_399, x_Lw_law_400, x_Lw_law_401, x_Lw_law_402, x_Lw_law_403, x_Lw_law_404, x_Lw_law_405, x_Lw_law_406, x_Lw_law_407, x_Lw_law_408, x_Lw_law_409, x_Lw_law_410, x_Lw_law_411, rO_0, Option.toList_some, Option.toList_none, List.cons_append, List.nil_append, List.length_cons, List.length_nil, Nat.reduceAdd, Nat.zero_add, Nat.reduceLeDiff, true_and]
  refine ⟨⟨by omega, by omega⟩, by omega, ⟨by omega, by omega⟩, by omega, ⟨by omega, by omega⟩, by omega, ⟨by omega, by omega⟩, by omega, ?_⟩
  refine pp_divide (K2 := fun v w h' => om_R sc 60 0 438 (oz_L i) (w.toList ++ [.inl v]) h' Q) hs hJ (fun v q' I' h => ?_) (fun v q' I' hJ' => ?_)
  · simp only [x_Lw_law_414, x_Lw_law_415, x_Lw_law_416, x_Lw_law_417, x_Lw_law_418, x_Lw_law_419, x_Lw_law_420, x_Lw_law_421, x_Lw_law_422, x_Lw_law_423, x_Lw_law_424, x_Lw_law_425, x_Lw_law_426, x_Lw_law_427, x_Lw_law_428, x_Lw_law_429, x_Lw_law_430, x_Lw_law_431, x_Lw_law_432, x_Lw_law_433, x_Lw_law_434, x_Lw_law_435, rO_101, Option.toList_some, Option.toList_none, List.cons_append, List.nil_append, List.length_cons, List.length_nil, Nat.reduceAdd, Nat.zero_add, Nat.reduceLeDiff, true_and]
    exact ⟨⟨by omega, by omega⟩, by omega, ⟨by omega, by omega⟩, by omega, ⟨by omega, by omega⟩, by omega, ⟨by omega, by omega⟩, by omega, h⟩
  · simp only [x_Lw_law_438, Option.toList_some, Option.toList_none, List.cons_append, List.nil_append, List.length_cons, List.length_nil, Nat.reduceAdd, Nat.zero_add, Nat.reduceLeDiff, true_and, if_true]
    exact hN q' I' hJ'
theorem lw_9 {sc : Int × (Int → Int)} {s i : Int} {q : Nat → Int} {I : Nat → Int → Int} {Q : Option om_V → om_H → Prop} (hs : s = 0 ∨ s = 1) (hi : oz_i sc i) (hJ : oz_J q I) (hN : oz_N sc s i Q) : om_R sc 60 0 443 (oz_L i) [] (om_O s q, I) Q := by
  obtain ⟨i1, i2, i3, i4⟩ := hi
  simp only [x_Lw_law_443, x_Lw_law_444, x_Lw_law_445, x_Lw_law_446, x_Lw_law_447, x_Lw_law_448, x_Lw_law_449, x_Lw_law_450, x_Lw_law_451, x_Lw_law_452, x_Lw_law_453, x_Lw_law_454, x_Lw_law_455, x_Lw_law_456, x_Lw_law_457, x_Lw_law_458, x_Lw_law_459, rO_0, Option.toList_some, Option.toList_none, List.cons_append, List.nil_append, List.length_cons, List.length_nil, Nat.reduceAdd, Nat.zero_add, Nat.reduceLeDiff, true_and]
  refine ⟨⟨by omega, by omega⟩, by omega, ⟨by omega, by omega⟩, by omega, ⟨by omega, by omega⟩, by omega, ?_⟩
  refine pp_over (K2 := fun v w h' => om_R sc 60 0 481 (oz_L i) (w.toList ++ [.inl v]) h' Q) hs hJ (fun v q' I' h => ?_) (fun v q' I' hJ' => ?_)
  · simp only [x_Lw_law_462, x_Lw_law_463, x_Lw_law_464, x_Lw_law_465, x_Lw_law_466, x_Lw_law_467, x_Lw_law_468, x_Lw_law_469, x_Lw_law_470, x_Lw_law_471, x_Lw_law_472, x_Lw_law_473, x_Lw_law_474, x_Lw_law_475, x_Lw_law_476, x_Lw_law_477, x_Lw_law_478, rO_101, Option.toList_some, Option.toList_none, List.cons_append, List.nil_append, List.length_cons, List.length_nil, Nat.reduceAdd, Nat.zero_add, Nat.reduceLeDiff, true_and]
    exact ⟨⟨by omega, by omega⟩, by omega, ⟨by omega, by omega⟩, by omega, ⟨by omega, by omega⟩, by omega, h⟩
  · simp only [x_Lw_law_481, Option.toList_some, Option.toList_none, List.cons_append, List.nil_append, List.length_cons, List.length_nil, Nat.reduceAdd, Nat.zero_add, Nat.reduceLeDiff, true_and, if_true]
    exact hN q' I' hJ'
theorem lw_10 {sc : Int × (Int → Int)} {s i : Int} {q : Nat → Int} {I : Nat → Int → Int} {Q : Option om_V → om_H → Prop} (hs : s = 0 ∨ s = 1) (hi : oz_i sc i) (hJ : oz_J q I) (hN : oz_N sc s i Q) : om_R sc 60 0 486 (oz_L i) [] (om_O s q, I) Q := by
  obtain ⟨i1, i2, i3, i4⟩ := hi
  simp only [x_Lw_law_486, x_Lw_law_487, x_Lw_law_488, x_Lw_law_489, x_Lw_law_490, x_Lw_law_491, x_Lw_law_492, x_Lw_law_493, x_Lw_law_494, x_Lw_law_495, x_Lw_law_496, x_Lw_law_497, x_Lw_law_498, x_Lw_law_499, x_Lw_law_500, x_Lw_law_501, x_Lw_law_502, rO_0, Option.toList_some, Option.toList_none, List.cons_append, List.nil_append, List.length_cons, List.length_nil, Nat.reduceAdd, Nat.zero_add, Nat.reduceLeDiff, true_and]
  refine ⟨⟨by omega, by omega⟩, by omega, ⟨by omega, by omega⟩, by omega, ⟨by omega, by omega⟩, by omega, ?_⟩
  refine pp_solve (K2 := fun v w h' => om_R sc 60 0 524 (oz_L i) (w.toList ++ [.inl v]) h' Q) hs hJ (fun v q' I' h => ?_) (fun v q' I' hJ' => ?_)
  · simp only [x_Lw_law_505, x_Lw_law_506, x_Lw_law_507, x_Lw_law_508, x_Lw_law_509, x_Lw_law_510, x_Lw_law_511, x_Lw_law_512, x_Lw_law_513, x_Lw_law_514, x_Lw_law_515, x_Lw_law_516, x_Lw_law_517, x_Lw_law_518, x_Lw_law_519, x_Lw_law_520, x_Lw_law_521, rO_101, Option.toList_some, Option.toList_none, List.cons_append, List.nil_append, List.length_cons, List.length_nil, Nat.reduceAdd, Nat.zero_add, Nat.reduceLeDiff, true_and]
    exact ⟨⟨by omega, by omega⟩, by omega, ⟨by omega, by omega⟩, by omega, ⟨by omega, by omega⟩, by omega, h⟩
  · simp only [x_Lw_law_524, Option.toList_some, Option.toList_none, List.cons_append, List.nil_append, List.length_cons, List.length_nil, Nat.reduceAdd, Nat.zero_add, Nat.reduceLeDiff, true_and, if_true]
    exact hN q' I' hJ'
theorem lw_11 {sc : Int × (Int → Int)} {s i : Int} {q : Nat → Int} {I : Nat → Int → Int} {Q : Option om_V → om_H → Prop} (hs : s = 0 ∨ s = 1) (hi : oz_i sc i) (hJ : oz_J q I) (hN : oz_N sc s i Q) : om_R sc 60 0 529 (oz_L i) [] (om_O s q, I) Q := by
  obtain ⟨i1, i2, i3, i4⟩ := hi
  simp only [x_Lw_law_529, x_Lw_law_530, x_Lw_law_531, x_Lw_law_532, x_Lw_law_533, x_Lw_law_534, x_Lw_law_535, x_Lw_law_536, x_Lw_law_537, x_Lw_law_538, x_Lw_law_539, x_Lw_law_540, rO_0, Option.toList_some, Option.toList_none, List.cons_append, List.nil_append, List.length_cons, List.length_nil, Nat.reduceAdd, Nat.zero_add, Nat.reduceLeDiff, true_and]
  refine ⟨⟨by omega, by omega⟩, by omega, ⟨by omega, by omega⟩, by omega, ?_⟩
  refine pp_pick (K2 := fun v w h' => om_R sc 60 0 557 (oz_L i) (w.toList ++ [.inl v]) h' Q) hs hJ (fun v q' I' h => ?_) (fun v q' I' hJ' => ?_)
  · simp only [x_Lw_law_543, x_Lw_law_544, x_Lw_law_545, x_Lw_law_546, x_Lw_law_547, x_Lw_law_548, x_Lw_law_549, x_Lw_law_550, x_Lw_law_551, x_Lw_law_552, x_Lw_law_553, x_Lw_law_554, rO_101, Option.toList_some, Option.toList_none, List.cons_append, List.nil_append, List.length_cons, List.length_nil, Nat.reduceAdd, Nat.zero_add, Nat.reduceLeDiff, true_and]
    exact ⟨⟨by omega, by omega⟩, by omega, ⟨by omega, by omega⟩, by omega, h⟩
  · simp only [x_Lw_law_557, Option.toList_some, Option.toList_none, List.cons_append, List.nil_append, List.length_cons, List.length_nil, Nat.reduceAdd, Nat.zero_add, Nat.reduceLeDiff, true_and, if_true]
    exact hN q' I' hJ'
theorem lw_12 {sc : Int × (Int → Int)} {s i : Int} {q : Nat → Int} {I : Nat → Int → Int} {Q : Option om_V → om_H → Prop} (hs : s = 0 ∨ s = 1) (hi : oz_i sc i) (hJ : oz_J q I) (hN : oz_N sc s i Q) : om_R sc 60 0 562 (oz_L i) [] (om_O s q, I) Q := by
  obtain ⟨i1, i2, i3, i4⟩ := hi
  simp only [x_Lw_law_562, x_Lw_law_563, x_Lw_law_564, x_Lw_law_565, x_Lw_law_566, x_Lw_law_567, x_Lw_law_568, rO_0, Option.toList_some, Option.toList_none, List.cons_append, List.nil_append, List.length_cons, List.length_nil, Nat.reduceAdd, Nat.zero_add, Nat.reduceLeDiff, true_and]
  refine ⟨⟨by omega, by omega⟩, by omega, ?_⟩
  refine pp_factor (K2 := fun v w h' => om_R sc 60 0 580 (oz_L i) (w.toList ++ [.inl v]) h' Q) hs hJ (fun v q' I' h => ?_) (fun v q' I' hJ' => ?_)
  · simp only [x_Lw_law_571, x_Lw_law_572, x_Lw_law_573, x_Lw_law_574, x_Lw_law_575, x_Lw_law_576, x_Lw_law_577, rO_101, Option.toList_some, Option.toList_none, List.cons_append, List.nil_append, List.length_cons, List.length_nil, Nat.reduceAdd, Nat.zero_add, Nat.reduceLeDiff, true_and]
    exact ⟨⟨by omega, by omega⟩, by omega, h⟩
  · simp only [x_Lw_law_580, Option.toList_some, Option.toList_none, List.cons_append, List.nil_append, List.length_cons, List.length_nil, Nat.reduceAdd, Nat.zero_add, Nat.reduceLeDiff, true_and, if_true]
    exact hN q' I' hJ'
theorem lw_13 {sc : Int × (Int → Int)} {s i : Int} {q : Nat → Int} {I : Nat → Int → Int} {Q : Option om_V → om_H → Prop} (hs : s = 0 ∨ s = 1) (hi : oz_i sc i) (hJ : oz_J q I) (hN : oz_N sc s i Q) : om_R sc 60 0 585 (oz_L i) [] (om_O s q, I) Q := by
  obtain ⟨i1, i2, i3, i4⟩ := hi
  simp only [x_Lw_law_585, x_Lw_law_586, x_Lw_law_587, x_Lw_law_588, x_Lw_law_589, x_Lw_law_590, x_Lw_law_591, rO_0, Option.toList_some, Option.toList_none, List.cons_append, List.nil_append, List.length_cons, List.length_nil, Nat.reduceAdd, Nat.zero_add, Nat.reduceLeDiff, true_and]
  refine ⟨⟨by omega, by omega⟩, by omega, ?_⟩
  refine pp_line (K2 := fun v w h' => om_R sc 60 0 603 (oz_L i) (w.toList ++ [.inl v]) h' Q) hs (i4 _) hJ (fun v q' I' h => ?_) (fun v q' I' hJ' => ?_)
  · simp only [x_Lw_law_594, x_Lw_law_595, x_Lw_law_596, x_Lw_law_597, x_Lw_law_598, x_Lw_law_599, x_Lw_law_600, rO_101, Option.toList_some, Option.toList_none, List.cons_append, List.nil_append, List.length_cons, List.length_nil, Nat.reduceAdd, Nat.zero_add, Nat.reduceLeDiff, true_and]
    exact ⟨⟨by omega, by omega⟩, by omega, h⟩
  · simp only [x_Lw_law_603, Option.toList_some, Option.toList_none, List.cons_append, List.nil_append, List.length_cons, List.length_nil, Nat.reduceAdd, Nat.zero_add, Nat.reduceLeDiff, true_and, if_true]
    exact hN q' I' hJ'
theorem lw_14 {sc : Int × (Int → Int)} {s i : Int} {q : Nat → Int} {I : Nat → Int → Int} {Q : Option om_V → om_H → Prop} (hs : s = 0 ∨ s = 1) (hi : oz_i sc i) (hJ : oz_J q I) (hN : oz_N sc s i Q) : om_R sc 60 0 608 (oz_L i) [] (om_O s q, I) Q := by
  obtain ⟨i1, i2, i3, i4⟩ := hi
  simp only [x_Lw_law_608, x_Lw_law_609, x_Lw_law_610, x_Lw_law_611, x_Lw_law_612, x_Lw_law_613, x_Lw_law_614, x_Lw_law_615, x_Lw_law_616, x_Lw_law_617, x_Lw_law_618, x_Lw_law_619, rO_0, Option.toList_some, Option.toList_none, List.cons_append, List.nil_append, List.length_cons, List.length_nil, Nat.reduceAdd, Nat.zero_add, Nat.reduceLeDiff, true_and]
  refine ⟨⟨by omega, by omega⟩, by omega, ⟨by omega, by omega⟩, by omega, ?_⟩
  refine pp_same (K2 := fun v w h' => om_R sc 60 0 636 (oz_L i) (w.toList ++ [.inl v]) h' Q) hs hJ (fun v q' I' h => ?_) (fun v q' I' hJ' => ?_)
  · simp only [x_Lw_law_622, x_Lw_law_623, x_Lw_law_624, x_Lw_law_625, x_Lw_law_626, x_Lw_law_627, x_Lw_law_628, x_Lw_law_629, x_Lw_law_630, x_Lw_law_631, x_Lw_law_632, x_Lw_law_633, rO_101, Option.toList_some, Option.toList_none, List.cons_append, List.nil_append, List.length_cons, List.length_nil, Nat.reduceAdd, Nat.zero_add, Nat.reduceLeDiff, true_and]
    exact ⟨⟨by omega, by omega⟩, by omega, ⟨by omega, by omega⟩, by omega, h⟩
  · simp only [x_Lw_law_636, Option.toList_some, Option.toList_none, List.cons_append, List.nil_append, List.length_cons, List.length_nil, Nat.reduceAdd, Nat.zero_add, Nat.reduceLeDiff, true_and, if_true]
    exact hN q' I' hJ'
theorem lw_15 {sc : Int × (Int → Int)} {s i : Int} {q : Nat → Int} {I : Nat → Int → Int} {Q : Option om_V → om_H → Prop} (hs : s = 0 ∨ s = 1) (hi : oz_i sc i) (hJ : oz_J q I) (hN : oz_N sc s i Q) : om_R sc 60 0 641 (oz_L i) [] (om_O s q, I) Q := by
  obtain ⟨i1, i2, i3, i4⟩ := hi
  simp only [x_Lw_law_641, x_Lw_law_642, x_Lw_law_643, x_Lw_law_644, x_Lw_law_645, x_Lw_law_646, x_Lw_law_647, rO_0, Option.toList_some, Option.toList_none, List.cons_append, List.nil_append, List.length_cons, List.length_nil, Nat.reduceAdd, Nat.zero_add, Nat.reduceLeDiff, true_and]
  refine ⟨⟨by omega, by omega⟩, by omega, ?_⟩
  refine pp_show (K2 := fun v w h' => om_R sc 60 0 659 (oz_L i) (w.toList ++ [.inl v]) h' Q) hs hJ (fun v q' I' h => ?_) (fun v q' I' hJ' => ?_)
  · simp only [x_Lw_law_650, x_Lw_law_651, x_Lw_law_652, x_Lw_law_653, x_Lw_law_654, x_Lw_law_655, x_Lw_law_656, rO_101, Option.toList_some, Option.toList_none, List.cons_append, List.nil_append, List.length_cons, List.length_nil, Nat.reduceAdd, Nat.zero_add, Nat.reduceLeDiff, true_and]
    exact ⟨⟨by omega, by omega⟩, by omega, h⟩
  · simp only [x_Lw_law_659, Option.toList_some, Option.toList_none, List.cons_append, List.nil_append, List.length_cons, List.length_nil, Nat.reduceAdd, Nat.zero_add, Nat.reduceLeDiff, true_and, if_true]
    exact hN q' I' hJ'
theorem lw_16 {sc : Int × (Int → Int)} {s i : Int} {q : Nat → Int} {I : Nat → Int → Int} {Q : Option om_V → om_H → Prop} (hs : s = 0 ∨ s = 1) (hi : oz_i sc i) (hJ : oz_J q I) (hN : oz_N sc s i Q) : om_R sc 60 0 664 (oz_L i) [] (om_O s q, I) Q := by
  obtain ⟨i1, i2, i3, i4⟩ := hi
  simp only [x_Lw_law_664, x_Lw_law_665, x_Lw_law_666, x_Lw_law_667, x_Lw_law_668, x_Lw_law_669, x_Lw_law_670, rO_0, Option.toList_some, Option.toList_none, List.cons_append, List.nil_append, List.length_cons, List.length_nil, Nat.reduceAdd, Nat.zero_add, Nat.reduceLeDiff, true_and]
  refine ⟨⟨by omega, by omega⟩, by omega, ?_⟩
  refine pp_at (K2 := fun v w h' => om_R sc 60 0 682 (oz_L i) (w.toList ++ [.inl v]) h' Q) hs hJ (fun v q' I' h => ?_) (fun v q' I' hJ' => ?_)
  · simp only [x_Lw_law_673, x_Lw_law_674, x_Lw_law_675, x_Lw_law_676, x_Lw_law_677, x_Lw_law_678, x_Lw_law_679, rO_101, Option.toList_some, Option.toList_none, List.cons_append, List.nil_append, List.length_cons, List.length_nil, Nat.reduceAdd, Nat.zero_add, Nat.reduceLeDiff, true_and]
    exact ⟨⟨by omega, by omega⟩, by omega, h⟩
  · simp only [x_Lw_law_682, Option.toList_some, Option.toList_none, List.cons_append, List.nil_append, List.length_cons, List.length_nil, Nat.reduceAdd, Nat.zero_add, Nat.reduceLeDiff, true_and, if_true]
    exact hN q' I' hJ'
theorem lw_sw {sc : Int × (Int → Int)} {s i x : Int} {q : Nat → Int} {I : Nat → Int → Int} {Q : Option om_V → om_H → Prop} (hs : s = 0 ∨ s = 1) (hi : oz_i sc i) (hJ : oz_J q I) (hN : oz_N sc s i Q) (hx : 0 ≤ x) : om_R sc 60 0 42 (oz_L i) [.inl x] (om_O s q, I) Q := by
  have e : x = 0 ∨ x = 1 ∨ x = 2 ∨ x = 3 ∨ x = 4 ∨ x = 5 ∨ x = 6 ∨ x = 7 ∨ x = 8 ∨ x = 9 ∨ x = 10 ∨ x = 11 ∨ x = 12 ∨ x = 13 ∨ x = 14 ∨ x = 15 ∨ x = 16 ∨ 16 < x := by omega
  rcases e with e | e | e | e | e | e | e | e | e | e | e | e | e | e | e | e | e | e
  · subst e
    rw [om_q_tsw (t := 124) rfl rfl]
    exact lw_0 hs hi hJ hN
  · subst e
    rw [om_q_tsw (t := 149) rfl rfl]
    exact lw_1 hs hi hJ hN
  · subst e
    rw [om_q_tsw (t := 162) rfl rfl]
    exact lw_2 hs hi hJ hN
  · subst e
    rw [om_q_tsw (t := 185) rfl rfl]
    exact lw_3 hs hi hJ hN
  · subst e
    rw [om_q_tsw (t := 208) rfl rfl]
    exact lw_4 hs hi hJ hN
  · subst e
    rw [om_q_tsw (t := 251) rfl rfl]
    exact lw_5 hs hi hJ hN
  · subst e
    rw [om_q_tsw (t := 304) rfl rfl]
    exact lw_6 hs hi hJ hN
  · subst e
    rw [om_q_tsw (t := 347) rfl rfl]
    exact lw_7 hs hi hJ hN
  · subst e
    rw [om_q_tsw (t := 390) rfl rfl]
    exact lw_8 hs hi hJ hN
  · subst e
    rw [om_q_tsw (t := 443) rfl rfl]
    exact lw_9 hs hi hJ hN
  · subst e
    rw [om_q_tsw (t := 486) rfl rfl]
    exact lw_10 hs hi hJ hN
  · subst e
    rw [om_q_tsw (t := 529) rfl rfl]
    exact lw_11 hs hi hJ hN
  · subst e
    rw [om_q_tsw (t := 562) rfl rfl]
    exact lw_12 hs hi hJ hN
  · subst e
    rw [om_q_tsw (t := 585) rfl rfl]
    exact lw_13 hs hi hJ hN
  · subst e
    rw [om_q_tsw (t := 608) rfl rfl]
    exact lw_14 hs hi hJ hN
  · subst e
    rw [om_q_tsw (t := 641) rfl rfl]
    exact lw_15 hs hi hJ hN
  · subst e
    rw [om_q_tsw (t := 664) rfl rfl]
    exact lw_16 hs hi hJ hN
  · rw [om_q_tsw (t := 687) rfl (by rw [if_pos (Or.inr e)]; rfl)]
    exact hN q I hJ
theorem lw_loop {sc : Int × (Int → Int)} {s : Int} {Q : Option om_V → om_H → Prop} (hs : s = 0 ∨ s = 1) (hl : 0 ≤ sc.1 ∧ sc.1 ≤ 2561) (hsc : ∀ k, om_Z (sc.2 k)) (hq : ∀ q I, Q (some (.inl 1)) (om_O s q, I)) : ∀ (m : Nat) (i : Int) (q : Nat → Int) (I : Nat → Int → Int), 1 ≤ i → sc.1 ≤ i + 5 * m → oz_J q I → om_R sc 60 0 28 (oz_L i) [] (om_O s q, I) Q := by
  have fin : ∀ (i : Int) (q : Nat → Int) (I : Nat → Int → Int), om_R sc 60 0 693 (oz_L i) [] (om_O s q, I) Q := by
    intro i q I
    simp only [x_Lw_law_693, x_Lw_law_694]
    exact ⟨by decide, hq q I⟩
  intro m
  induction m with
  | zero =>
    intro i q I h1 h2 hJ
    simp only [x_Lw_law_28, x_Lw_law_29, x_Lw_law_30, x_Lw_law_31, x_Lw_law_32, x_Lw_law_33, Option.toList_some, Option.toList_none, List.cons_append, List.nil_append, List.length_cons, List.length_nil, Nat.reduceAdd, Nat.zero_add, Nat.reduceLeDiff, true_and]
    refine ⟨⟨by omega, by omega⟩, ⟨by omega, by omega⟩, ?_⟩
    rw [if_pos (by omega)]
    exact fin i q I
  | succ m ih =>
    intro i q I h1 h2 hJ
    simp only [x_Lw_law_28, x_Lw_law_29, x_Lw_law_30, x_Lw_law_31, x_Lw_law_32, x_Lw_law_33, Option.toList_some, Option.toList_none, List.cons_append, List.nil_append, List.length_cons, List.length_nil, Nat.reduceAdd, Nat.zero_add, Nat.reduceLeDiff, true_and]
    refine ⟨⟨by omega, by omega⟩, ⟨by omega, by omega⟩, ?_⟩
    by_cases e : sc.1 - 5 < i
    · rw [if_pos e]
      exact fin i q I
    · rw [if_neg e]
      simp only [x_Lw_law_36, x_Lw_law_37, x_Lw_law_38, x_Lw_law_39, x_Lw_law_41, Option.toList_some, Option.toList_none, List.cons_append, List.nil_append, List.length_cons, List.length_nil, Nat.reduceAdd, Nat.zero_add, Nat.reduceLeDiff, true_and]
      refine ⟨by omega, lw_sw hs ⟨h1, by omega, hl.2, hsc⟩ hJ (fun q' I' hJ' => ?_) (by omega)⟩
      simp only [x_Lw_law_687, x_Lw_law_690, Option.toList_some, Option.toList_none, List.cons_append, List.nil_append, List.length_cons, List.length_nil, Nat.reduceAdd, Nat.zero_add, Nat.reduceLeDiff, true_and]
      exact ⟨⟨by omega, by omega⟩, ih _ _ _ (by omega) (by omega) hJ'⟩
theorem oz_J0 : oz_J oz_q0 (fun _ _ => 0) := by
  have z : ∀ r, om_cr (fun _ _ => 0) r = (fun _ _ => 0) := fun r => by
    funext i k
    unfold om_cr om_tb
    split <;> rfl
  have z2 : ∀ r, om_hd (fun _ _ => 0) r = (fun _ _ => 0) := fun r => by
    funext i k
    unfold om_hd
    split <;> rfl
  have z3 : om_tb 14 13 (fun _ => 0) = (fun _ _ => 0) := by
    funext i k
    unfold om_tb
    split <;> rfl
  have rz : om_r31 (fun _ _ => 0) := fun _ _ => (by decide : (0 : Int) ≤ 0 ∧ (0 : Int) < 31)
  have c0 : ∀ n : Nat, om_ct (fun _ => 0) n = 0 := by
    intro n
    induction n with
    | zero => rfl
    | succ n ih =>
      show om_ct (fun _ => 0) n + (if (0 : Int) = 0 then 0 else 1) = 0
      rw [ih]
      rfl
  refine ⟨fun r _ _ => ⟨by rw [z, z2], by rw [z]; exact rz⟩, ⟨rfl, by decide, fun k k0 k1 => ?_⟩, ⟨rfl, by decide, fun k k0 k1 => ?_⟩, ⟨rfl, by decide, by rw [z3]; exact rz, by rw [z3]; exact rz, fun _ _ _ _ => rfl⟩, ⟨?_, fun j _ hn => absurd rfl hn⟩⟩
  · have k1' : k < 0 := k1
    omega
  · have k1' : k < 0 := k1
    omega
  · rw [c0]
    rfl
