/-! THE LAW'S LOOP -/
theorem sdL (sl : Nat) : am_ll SH sl 1000000 0 = sl := rfl
theorem saL (sl : Nat) : am_an SH sl 1000000 = some sl := rfl
theorem vf8 (x : Int32) : vf_n64 (FP.dmul (FP.i2d x) 4593671619917905920) := by
  obtain ⟨s, c, q, h⟩ := vF_i x
  exact nn64 (fun z => by rw [show FP.dmul (FP.i2d x) 4593671619917905920 = FP.dmul (FP.i2d x) 0x3fc0000000000000 from rfl, h] at z; cases z)
section CN
variable {Q : Option Value → amM → Prop} {μ : amM} {S : List (Nat ⊕ (Nat × Nat))} {M : Nat → Nat → Int32} {D : Nat → Nat → UInt64} {F : Nat → Nat → Option Nat} {sl : Nat}
variable {b1 b2 i : Nat} {v4 v5 v6 v7 : Value}
theorem pr_member' {b t s j x : Int32} (hx : x = nI 0 ∨ x = nI 1) (hI : iV M D) : RR 3 0 [.ref 0, .int b, .int t, .int x, .int s, .int j] [] (SH, (0, 0, sl), M, D, RF) (prP 37 [.ref 49, .int b, .int t, .int x, .int s, .int j] M D sl) := by
  rcases hx with rfl | rfl
  · have h := pr_member (b := b) (t := t) (s := s) (j := j) (sl := sl) (m := False) (hm := instDecidableFalse) hI
    rw [bN_F] at h
    exact h
  · have h := pr_member (b := b) (t := t) (s := s) (j := j) (sl := sl) (m := True) (hm := instDecidableTrue) hI
    rw [bN_T] at h
    exact h
theorem pr_remove' {b t s x : Int32} (hx : x = nI 0 ∨ x = nI 1) (hI : iV M D) : RR 5 0 [.ref 0, .int b, .int t, .int x, .int s] [] (SH, (0, 0, sl), M, D, RF) (prP 39 [.ref 49, .int b, .int t, .int x, .int s, .long 0] M D sl) := by
  rcases hx with rfl | rfl
  · have h := pr_remove (b := b) (t := t) (s := s) (sl := sl) (m := False) (hm := instDecidableFalse) hI
    rw [bN_F] at h
    exact h
  · have h := pr_remove (b := b) (t := t) (s := s) (sl := sl) (m := True) (hm := instDecidableTrue) hI
    rw [bN_T] at h
    exact h
theorem pr_fits' {b t s x : Int32} (hx : x = nI 0 ∨ x = nI 1) (hI : iV M D) : RR 17 0 [.ref 0, .int b, .int t, .int x, .int s, .long 0] [] (SH, (0, 0, sl), M, D, RF) (prP 74 [.ref 49, .int b, .int t, .int x, .int s, .long 0] M D sl) := by
  rcases hx with rfl | rfl
  · have h := pr_fits (b := b) (t := t) (s := s) (sl := sl) (m := False) (hm := instDecidableFalse) hI
    rw [bN_F] at h
    exact h
  · have h := pr_fits (b := b) (t := t) (s := s) (sl := sl) (m := True) (hm := instDecidableTrue) hI
    rw [bN_T] at h
    exact h
theorem pr_report' {k x : Int32} (hx : x = nI 0 ∨ x = nI 1) (hI : iV M D) : RR 14 0 [.ref 0, .int x, .int k, .long 0] [] (SH, (0, 0, sl), M, D, RF) (prP 70 [.ref 49, .int x, .int k] M D sl) := by
  rcases hx with rfl | rfl
  · have h := pr_report (k := k) (sl := sl) (j := False) (hj := instDecidableFalse) hI
    rw [bN_F] at h
    exact h
  · have h := pr_report (k := k) (sl := sl) (j := True) (hj := instDecidableTrue) hI
    rw [bN_T] at h
    exact h

theorem lw_type (hi : i + 6 ≤ sl) (hsl : sl ≤ 3072) (hI : iV M D) (k : ∀ (v4 v5 v6 v7 : Value) (M2 : Nat → Nat → Int32) (D2 : Nat → Nat → UInt64), iV M2 D2 → scS M M2 → RR 157 829 [.ref 1000000, .ref 0, .ref 49, .int (nI i), v4, v5, v6, v7] [] (SH, (b1, b2, sl), M2, D2, RF) Q) : RR 157 116 [.ref 1000000, .ref 0, .ref 49, .int (nI i), v4, v5, v6, v7] [] (SH, (b1, b2, sl), M, D, RF) Q := by
  simp (disch := omega) only [r157_116, r157_117, r157_118, r157_119, r157_120, r157_121, r157_122, r157_123, r157_124, r157_125, r157_126, r157_127, r157_128, r157_129, r157_130, r157_131, r157_132, r157_133, r157_134, r157_135, r157_136, r157_137, r157_138, r157_139, r157_140, r157_141, r157_142, am_cat0, am_catI, am_catR, am_catD, am_ndI, am_ndR, am_ndL, va_rfS, true_and, and_true, Option.toList_some, Option.toList_none, List.cons_append, List.nil_append, Nat.reduceAdd, Nat.reduceLeDiff, Nat.zero_add, Nat.le_refl, rw_mrg, ite_Q, ite_bN, ite_bN', ib_0b, ib_b0, ib_1b, ib_b1, bN_0, bN_n0, bN_01T, nI1_0, nI0_0, nI01a, nI01b, bN_1, no_or, true_or, or_true, false_or, or_false, ite_not, if_true, if_false, Decidable.not_not, so0, so49, sdL, am_bd, bd_n, nI_tn, nI_add]
  refine RR.imp (pr_type hI) ?_
  rintro rv μ' ⟨v, M1, D1, rfl, rfl, hs, h2⟩
  simp (disch := omega) only [r157_145, r157_146, r157_147, r157_148, r157_149, r157_150, r157_151, r157_152, r157_153, r157_154, r157_155, r157_156, r157_157, r157_158, r157_159, r157_160, r157_161, r157_162, r157_163, r157_164, r157_165, r157_166, r157_167, r157_168, r157_169, r157_170, r157_171, am_cat0, am_catI, am_catR, am_catD, am_ndI, am_ndR, am_ndL, va_rfS, true_and, and_true, Option.toList_some, Option.toList_none, List.cons_append, List.nil_append, Nat.reduceAdd, Nat.reduceLeDiff, Nat.zero_add, Nat.le_refl, rw_mrg, ite_Q, ite_bN, ite_bN', ib_0b, ib_b0, ib_1b, ib_b1, bN_0, bN_n0, bN_01T, nI1_0, nI0_0, nI01a, nI01b, bN_1, no_or, true_or, or_true, false_or, or_false, ite_not, if_true, if_false, Decidable.not_not, so0, so49, sdL, am_bd, bd_n, nI_tn, nI_add, hs _]
  refine RR.imp h2 ?_
  rintro rv μ' ⟨M2, D2, rfl, rfl, hI2, hs2⟩
  simp only [r157_174, r157_177, r157_178, am_cat0, am_catI, am_catR, am_catD, am_ndI, am_ndR, am_ndL, va_rfS, true_and, and_true, Option.toList_some, Option.toList_none, List.cons_append, List.nil_append, Nat.reduceAdd, Nat.reduceLeDiff, Nat.zero_add, Nat.le_refl, if_true]
  exact k _ _ _ _ M2 D2 hI2 hs2
theorem lw_drop (hi : i + 6 ≤ sl) (hsl : sl ≤ 3072) (hI : iV M D) (k : ∀ (v4 v5 v6 v7 : Value) (M2 : Nat → Nat → Int32) (D2 : Nat → Nat → UInt64), iV M2 D2 → scS M M2 → RR 157 829 [.ref 1000000, .ref 0, .ref 49, .int (nI i), v4, v5, v6, v7] [] (SH, (b1, b2, sl), M2, D2, RF) Q) : RR 157 179 [.ref 1000000, .ref 0, .ref 49, .int (nI i), v4, v5, v6, v7] [] (SH, (b1, b2, sl), M, D, RF) Q := by
  simp (disch := omega) only [r157_179, r157_180, r157_181, r157_182, r157_183, r157_184, r157_185, r157_186, r157_187, r157_188, r157_189, r157_190, am_cat0, am_catI, am_catR, am_catD, am_ndI, am_ndR, am_ndL, va_rfS, true_and, and_true, Option.toList_some, Option.toList_none, List.cons_append, List.nil_append, Nat.reduceAdd, Nat.reduceLeDiff, Nat.zero_add, Nat.le_refl, rw_mrg, ite_Q, ite_bN, ite_bN', ib_0b, ib_b0, ib_1b, ib_b1, bN_0, bN_n0, bN_01T, nI1_0, nI0_0, nI01a, nI01b, bN_1, no_or, true_or, or_true, false_or, or_false, ite_not, if_true, if_false, Decidable.not_not, so0, so49, sdL, am_bd, bd_n, nI_tn, nI_add]
  refine RR.imp (pr_drop hI) ?_
  rintro rv μ' ⟨v, M1, D1, rfl, rfl, hs, h2⟩
  simp (disch := omega) only [r157_193, r157_194, r157_195, r157_196, r157_197, r157_198, r157_199, r157_200, r157_201, r157_202, r157_203, r157_204, am_cat0, am_catI, am_catR, am_catD, am_ndI, am_ndR, am_ndL, va_rfS, true_and, and_true, Option.toList_some, Option.toList_none, List.cons_append, List.nil_append, Nat.reduceAdd, Nat.reduceLeDiff, Nat.zero_add, Nat.le_refl, rw_mrg, ite_Q, ite_bN, ite_bN', ib_0b, ib_b0, ib_1b, ib_b1, bN_0, bN_n0, bN_01T, nI1_0, nI0_0, nI01a, nI01b, bN_1, no_or, true_or, or_true, false_or, or_false, ite_not, if_true, if_false, Decidable.not_not, so0, so49, sdL, am_bd, bd_n, nI_tn, nI_add, hs _]
  refine RR.imp h2 ?_
  rintro rv μ' ⟨M2, D2, rfl, rfl, hI2, hs2⟩
  simp only [r157_207, r157_210, r157_211, am_cat0, am_catI, am_catR, am_catD, am_ndI, am_ndR, am_ndL, va_rfS, true_and, and_true, Option.toList_some, Option.toList_none, List.cons_append, List.nil_append, Nat.reduceAdd, Nat.reduceLeDiff, Nat.zero_add, Nat.le_refl, if_true]
  exact k _ _ _ _ M2 D2 hI2 hs2
theorem lw_member (hi : i + 6 ≤ sl) (hsl : sl ≤ 3072) (hI : iV M D) (k : ∀ (v4 v5 v6 v7 : Value) (M2 : Nat → Nat → Int32) (D2 : Nat → Nat → UInt64), iV M2 D2 → scS M M2 → RR 157 829 [.ref 1000000, .ref 0, .ref 49, .int (nI i), v4, v5, v6, v7] [] (SH, (b1, b2, sl), M2, D2, RF) Q) : RR 157 212 [.ref 1000000, .ref 0, .ref 49, .int (nI i), v4, v5, v6, v7] [] (SH, (b1, b2, sl), M, D, RF) Q := by
  by_cases g : M 1000000 (i + 3) = 0
  · simp (disch := omega) only [r157_212, r157_213, r157_214, r157_215, r157_216, r157_217, r157_218, r157_219, r157_220, r157_221, r157_222, r157_223, r157_224, r157_225, r157_226, r157_227, r157_228, r157_231, r157_232, r157_235, r157_236, r157_237, r157_238, r157_239, r157_240, r157_241, r157_242, r157_243, r157_244, r157_245, r157_246, am_cat0, am_catI, am_catR, am_catD, am_ndI, am_ndR, am_ndL, va_rfS, true_and, and_true, Option.toList_some, Option.toList_none, List.cons_append, List.nil_append, Nat.reduceAdd, Nat.reduceLeDiff, Nat.zero_add, Nat.le_refl, rw_mrg, ite_Q, ite_bN, ite_bN', ib_0b, ib_b0, ib_1b, ib_b1, bN_0, bN_n0, bN_01T, nI1_0, nI0_0, nI01a, nI01b, bN_1, no_or, true_or, or_true, false_or, or_false, ite_not, if_true, if_false, Decidable.not_not, so0, so49, sdL, am_bd, bd_n, nI_tn, nI_add, g, if_true]
    refine RR.imp (pr_member' (Or.inl rfl) hI) ?_
    rintro rv μ' ⟨v, M1, D1, rfl, rfl, hs, h2⟩
    simp (disch := omega) only [r157_249, r157_250, r157_251, r157_252, r157_253, r157_254, r157_255, r157_256, r157_257, r157_258, r157_259, r157_260, r157_261, r157_262, r157_263, r157_264, r157_265, r157_268, r157_269, r157_272, r157_273, r157_274, r157_275, r157_276, r157_277, r157_278, r157_279, r157_280, r157_281, r157_282, r157_283, am_cat0, am_catI, am_catR, am_catD, am_ndI, am_ndR, am_ndL, va_rfS, true_and, and_true, Option.toList_some, Option.toList_none, List.cons_append, List.nil_append, Nat.reduceAdd, Nat.reduceLeDiff, Nat.zero_add, Nat.le_refl, rw_mrg, ite_Q, ite_bN, ite_bN', ib_0b, ib_b0, ib_1b, ib_b1, bN_0, bN_n0, bN_01T, nI1_0, nI0_0, nI01a, nI01b, bN_1, no_or, true_or, or_true, false_or, or_false, ite_not, if_true, if_false, Decidable.not_not, so0, so49, sdL, am_bd, bd_n, nI_tn, nI_add, hs _, g, if_true]
    refine RR.imp h2 ?_
    rintro rv μ' ⟨M2, D2, rfl, rfl, hI2, hs2⟩
    simp only [r157_286, r157_289, r157_290, am_cat0, am_catI, am_catR, am_catD, am_ndI, am_ndR, am_ndL, va_rfS, true_and, and_true, Option.toList_some, Option.toList_none, List.cons_append, List.nil_append, Nat.reduceAdd, Nat.reduceLeDiff, Nat.zero_add, Nat.le_refl, if_true]
    exact k _ _ _ _ M2 D2 hI2 hs2
  · simp (disch := omega) only [r157_212, r157_213, r157_214, r157_215, r157_216, r157_217, r157_218, r157_219, r157_220, r157_221, r157_222, r157_223, r157_224, r157_225, r157_226, r157_227, r157_228, r157_231, r157_232, r157_235, r157_236, r157_237, r157_238, r157_239, r157_240, r157_241, r157_242, r157_243, r157_244, r157_245, r157_246, am_cat0, am_catI, am_catR, am_catD, am_ndI, am_ndR, am_ndL, va_rfS, true_and, and_true, Option.toList_some, Option.toList_none, List.cons_append, List.nil_append, Nat.reduceAdd, Nat.reduceLeDiff, Nat.zero_add, Nat.le_refl, rw_mrg, ite_Q, ite_bN, ite_bN', ib_0b, ib_b0, ib_1b, ib_b1, bN_0, bN_n0, bN_01T, nI1_0, nI0_0, nI01a, nI01b, bN_1, no_or, true_or, or_true, false_or, or_false, ite_not, if_true, if_false, Decidable.not_not, so0, so49, sdL, am_bd, bd_n, nI_tn, nI_add, g, not_false_eq_true, if_true, if_false]
    refine RR.imp (pr_member' (Or.inr rfl) hI) ?_
    rintro rv μ' ⟨v, M1, D1, rfl, rfl, hs, h2⟩
    simp (disch := omega) only [r157_249, r157_250, r157_251, r157_252, r157_253, r157_254, r157_255, r157_256, r157_257, r157_258, r157_259, r157_260, r157_261, r157_262, r157_263, r157_264, r157_265, r157_268, r157_269, r157_272, r157_273, r157_274, r157_275, r157_276, r157_277, r157_278, r157_279, r157_280, r157_281, r157_282, r157_283, am_cat0, am_catI, am_catR, am_catD, am_ndI, am_ndR, am_ndL, va_rfS, true_and, and_true, Option.toList_some, Option.toList_none, List.cons_append, List.nil_append, Nat.reduceAdd, Nat.reduceLeDiff, Nat.zero_add, Nat.le_refl, rw_mrg, ite_Q, ite_bN, ite_bN', ib_0b, ib_b0, ib_1b, ib_b1, bN_0, bN_n0, bN_01T, nI1_0, nI0_0, nI01a, nI01b, bN_1, no_or, true_or, or_true, false_or, or_false, ite_not, if_true, if_false, Decidable.not_not, so0, so49, sdL, am_bd, bd_n, nI_tn, nI_add, hs _, g, not_false_eq_true, if_true, if_false]
    refine RR.imp h2 ?_
    rintro rv μ' ⟨M2, D2, rfl, rfl, hI2, hs2⟩
    simp only [r157_286, r157_289, r157_290, am_cat0, am_catI, am_catR, am_catD, am_ndI, am_ndR, am_ndL, va_rfS, true_and, and_true, Option.toList_some, Option.toList_none, List.cons_append, List.nil_append, Nat.reduceAdd, Nat.reduceLeDiff, Nat.zero_add, Nat.le_refl, if_true]
    exact k _ _ _ _ M2 D2 hI2 hs2
theorem lw_const (hi : i + 6 ≤ sl) (hsl : sl ≤ 3072) (hI : iV M D) (k : ∀ (v4 v5 v6 v7 : Value) (M2 : Nat → Nat → Int32) (D2 : Nat → Nat → UInt64), iV M2 D2 → scS M M2 → RR 157 829 [.ref 1000000, .ref 0, .ref 49, .int (nI i), v4, v5, v6, v7] [] (SH, (b1, b2, sl), M2, D2, RF) Q) : RR 157 291 [.ref 1000000, .ref 0, .ref 49, .int (nI i), v4, v5, v6, v7] [] (SH, (b1, b2, sl), M, D, RF) Q := by
  simp (disch := omega) only [r157_291, r157_292, r157_293, r157_294, r157_295, r157_296, r157_297, r157_298, r157_299, r157_300, r157_301, r157_302, r157_303, r157_304, r157_305, r157_306, r157_307, r157_308, r157_309, r157_310, r157_311, r157_312, r157_313, r157_316, r157_317, am_cat0, am_catI, am_catR, am_catD, am_ndI, am_ndR, am_ndL, va_rfS, true_and, and_true, Option.toList_some, Option.toList_none, List.cons_append, List.nil_append, Nat.reduceAdd, Nat.reduceLeDiff, Nat.zero_add, Nat.le_refl, rw_mrg, ite_Q, ite_bN, ite_bN', ib_0b, ib_b0, ib_1b, ib_b1, bN_0, bN_n0, bN_01T, nI1_0, nI0_0, nI01a, nI01b, bN_1, no_or, true_or, or_true, false_or, or_false, ite_not, if_true, if_false, Decidable.not_not, so0, so49, sdL, am_bd, bd_n, nI_tn, nI_add, vf8]
  refine RR.imp (pr_const (vF_i _) hI) ?_
  rintro rv μ' ⟨v, M1, D1, rfl, rfl, hs, h2⟩
  simp (disch := omega) only [r157_320, r157_321, r157_322, r157_323, r157_324, r157_325, r157_326, r157_327, r157_328, r157_329, r157_330, r157_331, r157_332, r157_333, r157_334, r157_335, r157_336, r157_337, r157_338, r157_339, r157_340, r157_341, r157_342, r157_345, r157_346, am_cat0, am_catI, am_catR, am_catD, am_ndI, am_ndR, am_ndL, va_rfS, true_and, and_true, Option.toList_some, Option.toList_none, List.cons_append, List.nil_append, Nat.reduceAdd, Nat.reduceLeDiff, Nat.zero_add, Nat.le_refl, rw_mrg, ite_Q, ite_bN, ite_bN', ib_0b, ib_b0, ib_1b, ib_b1, bN_0, bN_n0, bN_01T, nI1_0, nI0_0, nI01a, nI01b, bN_1, no_or, true_or, or_true, false_or, or_false, ite_not, if_true, if_false, Decidable.not_not, so0, so49, sdL, am_bd, bd_n, nI_tn, nI_add, hs _, vf8]
  refine RR.imp h2 ?_
  rintro rv μ' ⟨M2, D2, rfl, rfl, hI2, hs2⟩
  simp only [r157_349, r157_352, r157_353, am_cat0, am_catI, am_catR, am_catD, am_ndI, am_ndR, am_ndL, va_rfS, true_and, and_true, Option.toList_some, Option.toList_none, List.cons_append, List.nil_append, Nat.reduceAdd, Nat.reduceLeDiff, Nat.zero_add, Nat.le_refl, if_true]
  exact k _ _ _ _ M2 D2 hI2 hs2
theorem lw_remove (hi : i + 6 ≤ sl) (hsl : sl ≤ 3072) (hI : iV M D) (k : ∀ (v4 v5 v6 v7 : Value) (M2 : Nat → Nat → Int32) (D2 : Nat → Nat → UInt64), iV M2 D2 → scS M M2 → RR 157 829 [.ref 1000000, .ref 0, .ref 49, .int (nI i), v4, v5, v6, v7] [] (SH, (b1, b2, sl), M2, D2, RF) Q) : RR 157 354 [.ref 1000000, .ref 0, .ref 49, .int (nI i), v4, v5, v6, v7] [] (SH, (b1, b2, sl), M, D, RF) Q := by
  by_cases g : M 1000000 (i + 3) = 0
  · simp (disch := omega) only [r157_354, r157_355, r157_356, r157_357, r157_358, r157_359, r157_360, r157_361, r157_362, r157_363, r157_364, r157_365, r157_366, r157_367, r157_368, r157_369, r157_370, r157_373, r157_374, r157_377, r157_378, r157_379, r157_380, r157_381, r157_382, r157_383, am_cat0, am_catI, am_catR, am_catD, am_ndI, am_ndR, am_ndL, va_rfS, true_and, and_true, Option.toList_some, Option.toList_none, List.cons_append, List.nil_append, Nat.reduceAdd, Nat.reduceLeDiff, Nat.zero_add, Nat.le_refl, rw_mrg, ite_Q, ite_bN, ite_bN', ib_0b, ib_b0, ib_1b, ib_b1, bN_0, bN_n0, bN_01T, nI1_0, nI0_0, nI01a, nI01b, bN_1, no_or, true_or, or_true, false_or, or_false, ite_not, if_true, if_false, Decidable.not_not, so0, so49, sdL, am_bd, bd_n, nI_tn, nI_add, g, if_true]
    refine RR.imp (pr_remove' (Or.inl rfl) hI) ?_
    rintro rv μ' ⟨v, M1, D1, rfl, rfl, hs, h2⟩
    simp (disch := omega) only [r157_386, r157_387, r157_388, r157_389, r157_390, r157_391, r157_392, r157_393, r157_394, r157_395, r157_396, r157_397, r157_398, r157_399, r157_400, r157_401, r157_402, r157_405, r157_406, r157_409, r157_410, r157_411, r157_412, r157_413, r157_414, r157_415, am_cat0, am_catI, am_catR, am_catD, am_ndI, am_ndR, am_ndL, va_rfS, true_and, and_true, Option.toList_some, Option.toList_none, List.cons_append, List.nil_append, Nat.reduceAdd, Nat.reduceLeDiff, Nat.zero_add, Nat.le_refl, rw_mrg, ite_Q, ite_bN, ite_bN', ib_0b, ib_b0, ib_1b, ib_b1, bN_0, bN_n0, bN_01T, nI1_0, nI0_0, nI01a, nI01b, bN_1, no_or, true_or, or_true, false_or, or_false, ite_not, if_true, if_false, Decidable.not_not, so0, so49, sdL, am_bd, bd_n, nI_tn, nI_add, hs _, g, if_true]
    refine RR.imp h2 ?_
    rintro rv μ' ⟨M2, D2, rfl, rfl, hI2, hs2⟩
    simp only [r157_418, r157_421, r157_422, am_cat0, am_catI, am_catR, am_catD, am_ndI, am_ndR, am_ndL, va_rfS, true_and, and_true, Option.toList_some, Option.toList_none, List.cons_append, List.nil_append, Nat.reduceAdd, Nat.reduceLeDiff, Nat.zero_add, Nat.le_refl, if_true]
    exact k _ _ _ _ M2 D2 hI2 hs2
  · simp (disch := omega) only [r157_354, r157_355, r157_356, r157_357, r157_358, r157_359, r157_360, r157_361, r157_362, r157_363, r157_364, r157_365, r157_366, r157_367, r157_368, r157_369, r157_370, r157_373, r157_374, r157_377, r157_378, r157_379, r157_380, r157_381, r157_382, r157_383, am_cat0, am_catI, am_catR, am_catD, am_ndI, am_ndR, am_ndL, va_rfS, true_and, and_true, Option.toList_some, Option.toList_none, List.cons_append, List.nil_append, Nat.reduceAdd, Nat.reduceLeDiff, Nat.zero_add, Nat.le_refl, rw_mrg, ite_Q, ite_bN, ite_bN', ib_0b, ib_b0, ib_1b, ib_b1, bN_0, bN_n0, bN_01T, nI1_0, nI0_0, nI01a, nI01b, bN_1, no_or, true_or, or_true, false_or, or_false, ite_not, if_true, if_false, Decidable.not_not, so0, so49, sdL, am_bd, bd_n, nI_tn, nI_add, g, not_false_eq_true, if_true, if_false]
    refine RR.imp (pr_remove' (Or.inr rfl) hI) ?_
    rintro rv μ' ⟨v, M1, D1, rfl, rfl, hs, h2⟩
    simp (disch := omega) only [r157_386, r157_387, r157_388, r157_389, r157_390, r157_391, r157_392, r157_393, r157_394, r157_395, r157_396, r157_397, r157_398, r157_399, r157_400, r157_401, r157_402, r157_405, r157_406, r157_409, r157_410, r157_411, r157_412, r157_413, r157_414, r157_415, am_cat0, am_catI, am_catR, am_catD, am_ndI, am_ndR, am_ndL, va_rfS, true_and, and_true, Option.toList_some, Option.toList_none, List.cons_append, List.nil_append, Nat.reduceAdd, Nat.reduceLeDiff, Nat.zero_add, Nat.le_refl, rw_mrg, ite_Q, ite_bN, ite_bN', ib_0b, ib_b0, ib_1b, ib_b1, bN_0, bN_n0, bN_01T, nI1_0, nI0_0, nI01a, nI01b, bN_1, no_or, true_or, or_true, false_or, or_false, ite_not, if_true, if_false, Decidable.not_not, so0, so49, sdL, am_bd, bd_n, nI_tn, nI_add, hs _, g, not_false_eq_true, if_true, if_false]
    refine RR.imp h2 ?_
    rintro rv μ' ⟨M2, D2, rfl, rfl, hI2, hs2⟩
    simp only [r157_418, r157_421, r157_422, am_cat0, am_catI, am_catR, am_catD, am_ndI, am_ndR, am_ndL, va_rfS, true_and, and_true, Option.toList_some, Option.toList_none, List.cons_append, List.nil_append, Nat.reduceAdd, Nat.reduceLeDiff, Nat.zero_add, Nat.le_refl, if_true]
    exact k _ _ _ _ M2 D2 hI2 hs2
theorem lw_branch (hi : i + 6 ≤ sl) (hsl : sl ≤ 3072) (hI : iV M D) (k : ∀ (v4 v5 v6 v7 : Value) (M2 : Nat → Nat → Int32) (D2 : Nat → Nat → UInt64), iV M2 D2 → scS M M2 → RR 157 829 [.ref 1000000, .ref 0, .ref 49, .int (nI i), v4, v5, v6, v7] [] (SH, (b1, b2, sl), M2, D2, RF) Q) : RR 157 423 [.ref 1000000, .ref 0, .ref 49, .int (nI i), v4, v5, v6, v7] [] (SH, (b1, b2, sl), M, D, RF) Q := by
  simp (disch := omega) only [r157_423, r157_424, am_cat0, am_catI, am_catR, am_catD, am_ndI, am_ndR, am_ndL, va_rfS, true_and, and_true, Option.toList_some, Option.toList_none, List.cons_append, List.nil_append, Nat.reduceAdd, Nat.reduceLeDiff, Nat.zero_add, Nat.le_refl, rw_mrg, ite_Q, ite_bN, ite_bN', ib_0b, ib_b0, ib_1b, ib_b1, bN_0, bN_n0, bN_01T, nI1_0, nI0_0, nI01a, nI01b, bN_1, no_or, true_or, or_true, false_or, or_false, ite_not, if_true, if_false, Decidable.not_not, so0, so49, sdL, am_bd, bd_n, nI_tn, nI_add]
  refine RR.imp (pr_branch hI) ?_
  rintro rv μ' ⟨v, M1, D1, rfl, rfl, hs, h2⟩
  simp (disch := omega) only [r157_427, r157_428, am_cat0, am_catI, am_catR, am_catD, am_ndI, am_ndR, am_ndL, va_rfS, true_and, and_true, Option.toList_some, Option.toList_none, List.cons_append, List.nil_append, Nat.reduceAdd, Nat.reduceLeDiff, Nat.zero_add, Nat.le_refl, rw_mrg, ite_Q, ite_bN, ite_bN', ib_0b, ib_b0, ib_1b, ib_b1, bN_0, bN_n0, bN_01T, nI1_0, nI0_0, nI01a, nI01b, bN_1, no_or, true_or, or_true, false_or, or_false, ite_not, if_true, if_false, Decidable.not_not, so0, so49, sdL, am_bd, bd_n, nI_tn, nI_add, hs _]
  refine RR.imp h2 ?_
  rintro rv μ' ⟨M2, D2, rfl, rfl, hI2, hs2⟩
  simp only [r157_431, r157_434, r157_435, am_cat0, am_catI, am_catR, am_catD, am_ndI, am_ndR, am_ndL, va_rfS, true_and, and_true, Option.toList_some, Option.toList_none, List.cons_append, List.nil_append, Nat.reduceAdd, Nat.reduceLeDiff, Nat.zero_add, Nat.le_refl, if_true]
  exact k _ _ _ _ M2 D2 hI2 hs2
theorem lw_letter (hi : i + 6 ≤ sl) (hsl : sl ≤ 3072) (hI : iV M D) (k : ∀ (v4 v5 v6 v7 : Value) (M2 : Nat → Nat → Int32) (D2 : Nat → Nat → UInt64), iV M2 D2 → scS M M2 → RR 157 829 [.ref 1000000, .ref 0, .ref 49, .int (nI i), v4, v5, v6, v7] [] (SH, (b1, b2, sl), M2, D2, RF) Q) : RR 157 436 [.ref 1000000, .ref 0, .ref 49, .int (nI i), v4, v5, v6, v7] [] (SH, (b1, b2, sl), M, D, RF) Q := by
  simp (disch := omega) only [r157_436, r157_437, r157_438, r157_439, r157_440, r157_441, r157_442, am_cat0, am_catI, am_catR, am_catD, am_ndI, am_ndR, am_ndL, va_rfS, true_and, and_true, Option.toList_some, Option.toList_none, List.cons_append, List.nil_append, Nat.reduceAdd, Nat.reduceLeDiff, Nat.zero_add, Nat.le_refl, rw_mrg, ite_Q, ite_bN, ite_bN', ib_0b, ib_b0, ib_1b, ib_b1, bN_0, bN_n0, bN_01T, nI1_0, nI0_0, nI01a, nI01b, bN_1, no_or, true_or, or_true, false_or, or_false, ite_not, if_true, if_false, Decidable.not_not, so0, so49, sdL, am_bd, bd_n, nI_tn, nI_add]
  refine RR.imp (pr_letter hI) ?_
  rintro rv μ' ⟨v, M1, D1, rfl, rfl, hs, h2⟩
  simp (disch := omega) only [r157_445, r157_446, r157_447, r157_448, r157_449, r157_450, r157_451, am_cat0, am_catI, am_catR, am_catD, am_ndI, am_ndR, am_ndL, va_rfS, true_and, and_true, Option.toList_some, Option.toList_none, List.cons_append, List.nil_append, Nat.reduceAdd, Nat.reduceLeDiff, Nat.zero_add, Nat.le_refl, rw_mrg, ite_Q, ite_bN, ite_bN', ib_0b, ib_b0, ib_1b, ib_b1, bN_0, bN_n0, bN_01T, nI1_0, nI0_0, nI01a, nI01b, bN_1, no_or, true_or, or_true, false_or, or_false, ite_not, if_true, if_false, Decidable.not_not, so0, so49, sdL, am_bd, bd_n, nI_tn, nI_add, hs _]
  refine RR.imp h2 ?_
  rintro rv μ' ⟨M2, D2, rfl, rfl, hI2, hs2⟩
  simp only [r157_454, r157_457, r157_458, am_cat0, am_catI, am_catR, am_catD, am_ndI, am_ndR, am_ndL, va_rfS, true_and, and_true, Option.toList_some, Option.toList_none, List.cons_append, List.nil_append, Nat.reduceAdd, Nat.reduceLeDiff, Nat.zero_add, Nat.le_refl, if_true]
  exact k _ _ _ _ M2 D2 hI2 hs2
theorem lw_rule (hi : i + 6 ≤ sl) (hsl : sl ≤ 3072) (hI : iV M D) (k : ∀ (v4 v5 v6 v7 : Value) (M2 : Nat → Nat → Int32) (D2 : Nat → Nat → UInt64), iV M2 D2 → scS M M2 → RR 157 829 [.ref 1000000, .ref 0, .ref 49, .int (nI i), v4, v5, v6, v7] [] (SH, (b1, b2, sl), M2, D2, RF) Q) : RR 157 459 [.ref 1000000, .ref 0, .ref 49, .int (nI i), v4, v5, v6, v7] [] (SH, (b1, b2, sl), M, D, RF) Q := by
  simp (disch := omega) only [r157_459, r157_460, r157_461, r157_462, r157_463, r157_464, r157_465, r157_466, r157_467, r157_468, r157_469, r157_470, r157_471, r157_472, r157_473, r157_474, r157_475, am_cat0, am_catI, am_catR, am_catD, am_ndI, am_ndR, am_ndL, va_rfS, true_and, and_true, Option.toList_some, Option.toList_none, List.cons_append, List.nil_append, Nat.reduceAdd, Nat.reduceLeDiff, Nat.zero_add, Nat.le_refl, rw_mrg, ite_Q, ite_bN, ite_bN', ib_0b, ib_b0, ib_1b, ib_b1, bN_0, bN_n0, bN_01T, nI1_0, nI0_0, nI01a, nI01b, bN_1, no_or, true_or, or_true, false_or, or_false, ite_not, if_true, if_false, Decidable.not_not, so0, so49, sdL, am_bd, bd_n, nI_tn, nI_add]
  refine RR.imp (pr_rule hI) ?_
  rintro rv μ' ⟨v, M1, D1, rfl, rfl, hs, h2⟩
  simp (disch := omega) only [r157_478, r157_479, r157_480, r157_481, r157_482, r157_483, r157_484, r157_485, r157_486, r157_487, r157_488, r157_489, r157_490, r157_491, r157_492, r157_493, r157_494, am_cat0, am_catI, am_catR, am_catD, am_ndI, am_ndR, am_ndL, va_rfS, true_and, and_true, Option.toList_some, Option.toList_none, List.cons_append, List.nil_append, Nat.reduceAdd, Nat.reduceLeDiff, Nat.zero_add, Nat.le_refl, rw_mrg, ite_Q, ite_bN, ite_bN', ib_0b, ib_b0, ib_1b, ib_b1, bN_0, bN_n0, bN_01T, nI1_0, nI0_0, nI01a, nI01b, bN_1, no_or, true_or, or_true, false_or, or_false, ite_not, if_true, if_false, Decidable.not_not, so0, so49, sdL, am_bd, bd_n, nI_tn, nI_add, hs _]
  refine RR.imp h2 ?_
  rintro rv μ' ⟨M2, D2, rfl, rfl, hI2, hs2⟩
  simp only [r157_497, r157_500, r157_501, am_cat0, am_catI, am_catR, am_catD, am_ndI, am_ndR, am_ndL, va_rfS, true_and, and_true, Option.toList_some, Option.toList_none, List.cons_append, List.nil_append, Nat.reduceAdd, Nat.reduceLeDiff, Nat.zero_add, Nat.le_refl, if_true]
  exact k _ _ _ _ M2 D2 hI2 hs2
theorem lw_clear (hi : i + 6 ≤ sl) (hsl : sl ≤ 3072) (hI : iV M D) (k : ∀ (v4 v5 v6 v7 : Value) (M2 : Nat → Nat → Int32) (D2 : Nat → Nat → UInt64), iV M2 D2 → scS M M2 → RR 157 829 [.ref 1000000, .ref 0, .ref 49, .int (nI i), v4, v5, v6, v7] [] (SH, (b1, b2, sl), M2, D2, RF) Q) : RR 157 502 [.ref 1000000, .ref 0, .ref 49, .int (nI i), v4, v5, v6, v7] [] (SH, (b1, b2, sl), M, D, RF) Q := by
  simp (disch := omega) only [r157_502, r157_503, am_cat0, am_catI, am_catR, am_catD, am_ndI, am_ndR, am_ndL, va_rfS, true_and, and_true, Option.toList_some, Option.toList_none, List.cons_append, List.nil_append, Nat.reduceAdd, Nat.reduceLeDiff, Nat.zero_add, Nat.le_refl, rw_mrg, ite_Q, ite_bN, ite_bN', ib_0b, ib_b0, ib_1b, ib_b1, bN_0, bN_n0, bN_01T, nI1_0, nI0_0, nI01a, nI01b, bN_1, no_or, true_or, or_true, false_or, or_false, ite_not, if_true, if_false, Decidable.not_not, so0, so49, sdL, am_bd, bd_n, nI_tn, nI_add]
  refine RR.imp (pr_clear hI) ?_
  rintro rv μ' ⟨v, M1, D1, rfl, rfl, hs, h2⟩
  simp (disch := omega) only [r157_506, r157_507, am_cat0, am_catI, am_catR, am_catD, am_ndI, am_ndR, am_ndL, va_rfS, true_and, and_true, Option.toList_some, Option.toList_none, List.cons_append, List.nil_append, Nat.reduceAdd, Nat.reduceLeDiff, Nat.zero_add, Nat.le_refl, rw_mrg, ite_Q, ite_bN, ite_bN', ib_0b, ib_b0, ib_1b, ib_b1, bN_0, bN_n0, bN_01T, nI1_0, nI0_0, nI01a, nI01b, bN_1, no_or, true_or, or_true, false_or, or_false, ite_not, if_true, if_false, Decidable.not_not, so0, so49, sdL, am_bd, bd_n, nI_tn, nI_add, hs _]
  refine RR.imp h2 ?_
  rintro rv μ' ⟨M2, D2, rfl, rfl, hI2, hs2⟩
  simp only [r157_510, r157_513, r157_514, am_cat0, am_catI, am_catR, am_catD, am_ndI, am_ndR, am_ndL, va_rfS, true_and, and_true, Option.toList_some, Option.toList_none, List.cons_append, List.nil_append, Nat.reduceAdd, Nat.reduceLeDiff, Nat.zero_add, Nat.le_refl, if_true]
  exact k _ _ _ _ M2 D2 hI2 hs2
theorem lw_version (hi : i + 6 ≤ sl) (hsl : sl ≤ 3072) (hI : iV M D) (k : ∀ (v4 v5 v6 v7 : Value) (M2 : Nat → Nat → Int32) (D2 : Nat → Nat → UInt64), iV M2 D2 → scS M M2 → RR 157 829 [.ref 1000000, .ref 0, .ref 49, .int (nI i), v4, v5, v6, v7] [] (SH, (b1, b2, sl), M2, D2, RF) Q) : RR 157 515 [.ref 1000000, .ref 0, .ref 49, .int (nI i), v4, v5, v6, v7] [] (SH, (b1, b2, sl), M, D, RF) Q := by
  simp (disch := omega) only [r157_515, r157_516, r157_517, r157_518, r157_519, r157_520, r157_521, r157_522, r157_523, r157_524, r157_525, r157_526, r157_527, r157_528, r157_529, r157_530, r157_531, am_cat0, am_catI, am_catR, am_catD, am_ndI, am_ndR, am_ndL, va_rfS, true_and, and_true, Option.toList_some, Option.toList_none, List.cons_append, List.nil_append, Nat.reduceAdd, Nat.reduceLeDiff, Nat.zero_add, Nat.le_refl, rw_mrg, ite_Q, ite_bN, ite_bN', ib_0b, ib_b0, ib_1b, ib_b1, bN_0, bN_n0, bN_01T, nI1_0, nI0_0, nI01a, nI01b, bN_1, no_or, true_or, or_true, false_or, or_false, ite_not, if_true, if_false, Decidable.not_not, so0, so49, sdL, am_bd, bd_n, nI_tn, nI_add]
  refine RR.imp (pr_version hI) ?_
  rintro rv μ' ⟨v, M1, D1, rfl, rfl, hs, h2⟩
  simp (disch := omega) only [r157_534, r157_535, r157_536, r157_537, r157_538, r157_539, r157_540, r157_541, r157_542, r157_543, r157_544, r157_545, r157_546, r157_547, r157_548, r157_549, r157_550, am_cat0, am_catI, am_catR, am_catD, am_ndI, am_ndR, am_ndL, va_rfS, true_and, and_true, Option.toList_some, Option.toList_none, List.cons_append, List.nil_append, Nat.reduceAdd, Nat.reduceLeDiff, Nat.zero_add, Nat.le_refl, rw_mrg, ite_Q, ite_bN, ite_bN', ib_0b, ib_b0, ib_1b, ib_b1, bN_0, bN_n0, bN_01T, nI1_0, nI0_0, nI01a, nI01b, bN_1, no_or, true_or, or_true, false_or, or_false, ite_not, if_true, if_false, Decidable.not_not, so0, so49, sdL, am_bd, bd_n, nI_tn, nI_add, hs _]
  refine RR.imp h2 ?_
  rintro rv μ' ⟨M2, D2, rfl, rfl, hI2, hs2⟩
  simp only [r157_553, r157_556, r157_557, am_cat0, am_catI, am_catR, am_catD, am_ndI, am_ndR, am_ndL, va_rfS, true_and, and_true, Option.toList_some, Option.toList_none, List.cons_append, List.nil_append, Nat.reduceAdd, Nat.reduceLeDiff, Nat.zero_add, Nat.le_refl, if_true]
  exact k _ _ _ _ M2 D2 hI2 hs2
theorem lw_list (hi : i + 6 ≤ sl) (hsl : sl ≤ 3072) (hI : iV M D) (k : ∀ (v4 v5 v6 v7 : Value) (M2 : Nat → Nat → Int32) (D2 : Nat → Nat → UInt64), iV M2 D2 → scS M M2 → RR 157 829 [.ref 1000000, .ref 0, .ref 49, .int (nI i), v4, v5, v6, v7] [] (SH, (b1, b2, sl), M2, D2, RF) Q) : RR 157 558 [.ref 1000000, .ref 0, .ref 49, .int (nI i), v4, v5, v6, v7] [] (SH, (b1, b2, sl), M, D, RF) Q := by
  simp (disch := omega) only [r157_558, r157_559, am_cat0, am_catI, am_catR, am_catD, am_ndI, am_ndR, am_ndL, va_rfS, true_and, and_true, Option.toList_some, Option.toList_none, List.cons_append, List.nil_append, Nat.reduceAdd, Nat.reduceLeDiff, Nat.zero_add, Nat.le_refl, rw_mrg, ite_Q, ite_bN, ite_bN', ib_0b, ib_b0, ib_1b, ib_b1, bN_0, bN_n0, bN_01T, nI1_0, nI0_0, nI01a, nI01b, bN_1, no_or, true_or, or_true, false_or, or_false, ite_not, if_true, if_false, Decidable.not_not, so0, so49, sdL, am_bd, bd_n, nI_tn, nI_add]
  refine RR.imp (pr_list hI) ?_
  rintro rv μ' ⟨v, M1, D1, rfl, rfl, hs, h2⟩
  simp (disch := omega) only [r157_562, r157_563, am_cat0, am_catI, am_catR, am_catD, am_ndI, am_ndR, am_ndL, va_rfS, true_and, and_true, Option.toList_some, Option.toList_none, List.cons_append, List.nil_append, Nat.reduceAdd, Nat.reduceLeDiff, Nat.zero_add, Nat.le_refl, rw_mrg, ite_Q, ite_bN, ite_bN', ib_0b, ib_b0, ib_1b, ib_b1, bN_0, bN_n0, bN_01T, nI1_0, nI0_0, nI01a, nI01b, bN_1, no_or, true_or, or_true, false_or, or_false, ite_not, if_true, if_false, Decidable.not_not, so0, so49, sdL, am_bd, bd_n, nI_tn, nI_add, hs _]
  refine RR.imp h2 ?_
  rintro rv μ' ⟨M2, D2, rfl, rfl, hI2, hs2⟩
  simp only [r157_566, r157_569, r157_570, am_cat0, am_catI, am_catR, am_catD, am_ndI, am_ndR, am_ndL, va_rfS, true_and, and_true, Option.toList_some, Option.toList_none, List.cons_append, List.nil_append, Nat.reduceAdd, Nat.reduceLeDiff, Nat.zero_add, Nat.le_refl, if_true]
  exact k _ _ _ _ M2 D2 hI2 hs2
theorem lw_change (hi : i + 6 ≤ sl) (hsl : sl ≤ 3072) (hI : iV M D) (k : ∀ (v4 v5 v6 v7 : Value) (M2 : Nat → Nat → Int32) (D2 : Nat → Nat → UInt64), iV M2 D2 → scS M M2 → RR 157 829 [.ref 1000000, .ref 0, .ref 49, .int (nI i), v4, v5, v6, v7] [] (SH, (b1, b2, sl), M2, D2, RF) Q) : RR 157 571 [.ref 1000000, .ref 0, .ref 49, .int (nI i), v4, v5, v6, v7] [] (SH, (b1, b2, sl), M, D, RF) Q := by
  simp (disch := omega) only [r157_571, r157_572, r157_573, r157_574, r157_575, r157_576, r157_577, r157_578, r157_579, r157_580, r157_581, r157_582, am_cat0, am_catI, am_catR, am_catD, am_ndI, am_ndR, am_ndL, va_rfS, true_and, and_true, Option.toList_some, Option.toList_none, List.cons_append, List.nil_append, Nat.reduceAdd, Nat.reduceLeDiff, Nat.zero_add, Nat.le_refl, rw_mrg, ite_Q, ite_bN, ite_bN', ib_0b, ib_b0, ib_1b, ib_b1, bN_0, bN_n0, bN_01T, nI1_0, nI0_0, nI01a, nI01b, bN_1, no_or, true_or, or_true, false_or, or_false, ite_not, if_true, if_false, Decidable.not_not, so0, so49, sdL, am_bd, bd_n, nI_tn, nI_add]
  refine RR.imp (pr_change hI) ?_
  rintro rv μ' ⟨v, M1, D1, rfl, rfl, hs, h2⟩
  simp (disch := omega) only [r157_585, r157_586, r157_587, r157_588, r157_589, r157_590, r157_591, r157_592, r157_593, r157_594, r157_595, r157_596, am_cat0, am_catI, am_catR, am_catD, am_ndI, am_ndR, am_ndL, va_rfS, true_and, and_true, Option.toList_some, Option.toList_none, List.cons_append, List.nil_append, Nat.reduceAdd, Nat.reduceLeDiff, Nat.zero_add, Nat.le_refl, rw_mrg, ite_Q, ite_bN, ite_bN', ib_0b, ib_b0, ib_1b, ib_b1, bN_0, bN_n0, bN_01T, nI1_0, nI0_0, nI01a, nI01b, bN_1, no_or, true_or, or_true, false_or, or_false, ite_not, if_true, if_false, Decidable.not_not, so0, so49, sdL, am_bd, bd_n, nI_tn, nI_add, hs _]
  refine RR.imp h2 ?_
  rintro rv μ' ⟨M2, D2, rfl, rfl, hI2, hs2⟩
  simp only [r157_599, r157_602, r157_603, am_cat0, am_catI, am_catR, am_catD, am_ndI, am_ndR, am_ndL, va_rfS, true_and, and_true, Option.toList_some, Option.toList_none, List.cons_append, List.nil_append, Nat.reduceAdd, Nat.reduceLeDiff, Nat.zero_add, Nat.le_refl, if_true]
  exact k _ _ _ _ M2 D2 hI2 hs2
theorem lw_shift (hi : i + 6 ≤ sl) (hsl : sl ≤ 3072) (hI : iV M D) (k : ∀ (v4 v5 v6 v7 : Value) (M2 : Nat → Nat → Int32) (D2 : Nat → Nat → UInt64), iV M2 D2 → scS M M2 → RR 157 829 [.ref 1000000, .ref 0, .ref 49, .int (nI i), v4, v5, v6, v7] [] (SH, (b1, b2, sl), M2, D2, RF) Q) : RR 157 604 [.ref 1000000, .ref 0, .ref 49, .int (nI i), v4, v5, v6, v7] [] (SH, (b1, b2, sl), M, D, RF) Q := by
  simp (disch := omega) only [r157_604, r157_605, r157_606, r157_607, r157_608, r157_609, r157_610, am_cat0, am_catI, am_catR, am_catD, am_ndI, am_ndR, am_ndL, va_rfS, true_and, and_true, Option.toList_some, Option.toList_none, List.cons_append, List.nil_append, Nat.reduceAdd, Nat.reduceLeDiff, Nat.zero_add, Nat.le_refl, rw_mrg, ite_Q, ite_bN, ite_bN', ib_0b, ib_b0, ib_1b, ib_b1, bN_0, bN_n0, bN_01T, nI1_0, nI0_0, nI01a, nI01b, bN_1, no_or, true_or, or_true, false_or, or_false, ite_not, if_true, if_false, Decidable.not_not, so0, so49, sdL, am_bd, bd_n, nI_tn, nI_add]
  refine RR.imp (pr_shift hI) ?_
  rintro rv μ' ⟨v, M1, D1, rfl, rfl, hs, h2⟩
  simp (disch := omega) only [r157_613, r157_615, r157_616, r157_617, r157_618, r157_619, r157_620, r157_621, am_cat0, am_catI, am_catR, am_catD, am_ndI, am_ndR, am_ndL, va_rfS, true_and, and_true, Option.toList_some, Option.toList_none, List.cons_append, List.nil_append, Nat.reduceAdd, Nat.reduceLeDiff, Nat.zero_add, Nat.le_refl, rw_mrg, ite_Q, ite_bN, ite_bN', ib_0b, ib_b0, ib_1b, ib_b1, bN_0, bN_n0, bN_01T, nI1_0, nI0_0, nI01a, nI01b, bN_1, no_or, true_or, or_true, false_or, or_false, ite_not, if_true, if_false, Decidable.not_not, so0, so49, sdL, am_bd, bd_n, nI_tn, nI_add, hs _]
  refine RR.imp h2 ?_
  rintro rv μ' ⟨M2, D2, rfl, rfl, hI2, hs2⟩
  by_cases e : Op.cmpValue (FP.dcmp v v) .l = 0
  · simp only [r157_624, r157_626, r157_628, r157_630, r157_631, r157_634, r157_636, r157_638, r157_639, r157_642, r157_644, r157_646, r157_647, r157_650, r157_651, r157_652, am_cat0, am_catI, am_catR, am_catD, am_ndI, am_ndR, am_ndL, va_rfS, true_and, and_true, Option.toList_some, Option.toList_none, List.cons_append, List.nil_append, Nat.reduceAdd, Nat.reduceLeDiff, Nat.zero_add, Nat.le_refl, e, if_true]
    exact k _ _ _ _ M2 D2 hI2 hs2
  · simp only [r157_624, r157_626, r157_628, r157_630, r157_631, r157_634, r157_636, r157_638, r157_639, r157_642, r157_644, r157_646, r157_647, r157_650, r157_651, r157_652, am_cat0, am_catI, am_catR, am_catD, am_ndI, am_ndR, am_ndL, va_rfS, true_and, and_true, Option.toList_some, Option.toList_none, List.cons_append, List.nil_append, Nat.reduceAdd, Nat.reduceLeDiff, Nat.zero_add, Nat.le_refl, e, if_false, if_true, not_false_eq_true]
    exact k _ _ _ _ M2 D2 hI2 hs2
theorem lw_report (hi : i + 6 ≤ sl) (hsl : sl ≤ 3072) (hI : iV M D) (k : ∀ (v4 v5 v6 v7 : Value) (M2 : Nat → Nat → Int32) (D2 : Nat → Nat → UInt64), iV M2 D2 → scS M M2 → RR 157 829 [.ref 1000000, .ref 0, .ref 49, .int (nI i), v4, v5, v6, v7] [] (SH, (b1, b2, sl), M2, D2, RF) Q) : RR 157 655 [.ref 1000000, .ref 0, .ref 49, .int (nI i), v4, v5, v6, v7] [] (SH, (b1, b2, sl), M, D, RF) Q := by
  by_cases g : M 1000000 (i + 1) = 0
  · simp (disch := omega) only [r157_655, r157_656, r157_657, r157_658, r157_659, r157_660, r157_661, r157_664, r157_665, r157_668, r157_669, r157_670, r157_671, r157_672, r157_673, r157_674, am_cat0, am_catI, am_catR, am_catD, am_ndI, am_ndR, am_ndL, va_rfS, true_and, and_true, Option.toList_some, Option.toList_none, List.cons_append, List.nil_append, Nat.reduceAdd, Nat.reduceLeDiff, Nat.zero_add, Nat.le_refl, rw_mrg, ite_Q, ite_bN, ite_bN', ib_0b, ib_b0, ib_1b, ib_b1, bN_0, bN_n0, bN_01T, nI1_0, nI0_0, nI01a, nI01b, bN_1, no_or, true_or, or_true, false_or, or_false, ite_not, if_true, if_false, Decidable.not_not, so0, so49, sdL, am_bd, bd_n, nI_tn, nI_add, g, if_true]
    refine RR.imp (pr_report' (Or.inl rfl) hI) ?_
    rintro rv μ' ⟨v, M1, D1, rfl, rfl, hs, h2⟩
    simp (disch := omega) only [r157_677, r157_678, r157_679, r157_680, r157_681, r157_682, r157_683, r157_686, r157_687, r157_690, r157_691, r157_692, r157_693, r157_694, r157_695, r157_696, am_cat0, am_catI, am_catR, am_catD, am_ndI, am_ndR, am_ndL, va_rfS, true_and, and_true, Option.toList_some, Option.toList_none, List.cons_append, List.nil_append, Nat.reduceAdd, Nat.reduceLeDiff, Nat.zero_add, Nat.le_refl, rw_mrg, ite_Q, ite_bN, ite_bN', ib_0b, ib_b0, ib_1b, ib_b1, bN_0, bN_n0, bN_01T, nI1_0, nI0_0, nI01a, nI01b, bN_1, no_or, true_or, or_true, false_or, or_false, ite_not, if_true, if_false, Decidable.not_not, so0, so49, sdL, am_bd, bd_n, nI_tn, nI_add, hs _, g, if_true]
    refine RR.imp h2 ?_
    rintro rv μ' ⟨M2, D2, rfl, rfl, hI2, hs2⟩
    simp only [r157_699, r157_702, r157_703, am_cat0, am_catI, am_catR, am_catD, am_ndI, am_ndR, am_ndL, va_rfS, true_and, and_true, Option.toList_some, Option.toList_none, List.cons_append, List.nil_append, Nat.reduceAdd, Nat.reduceLeDiff, Nat.zero_add, Nat.le_refl, if_true]
    exact k _ _ _ _ M2 D2 hI2 hs2
  · simp (disch := omega) only [r157_655, r157_656, r157_657, r157_658, r157_659, r157_660, r157_661, r157_664, r157_665, r157_668, r157_669, r157_670, r157_671, r157_672, r157_673, r157_674, am_cat0, am_catI, am_catR, am_catD, am_ndI, am_ndR, am_ndL, va_rfS, true_and, and_true, Option.toList_some, Option.toList_none, List.cons_append, List.nil_append, Nat.reduceAdd, Nat.reduceLeDiff, Nat.zero_add, Nat.le_refl, rw_mrg, ite_Q, ite_bN, ite_bN', ib_0b, ib_b0, ib_1b, ib_b1, bN_0, bN_n0, bN_01T, nI1_0, nI0_0, nI01a, nI01b, bN_1, no_or, true_or, or_true, false_or, or_false, ite_not, if_true, if_false, Decidable.not_not, so0, so49, sdL, am_bd, bd_n, nI_tn, nI_add, g, not_false_eq_true, if_true, if_false]
    refine RR.imp (pr_report' (Or.inr rfl) hI) ?_
    rintro rv μ' ⟨v, M1, D1, rfl, rfl, hs, h2⟩
    simp (disch := omega) only [r157_677, r157_678, r157_679, r157_680, r157_681, r157_682, r157_683, r157_686, r157_687, r157_690, r157_691, r157_692, r157_693, r157_694, r157_695, r157_696, am_cat0, am_catI, am_catR, am_catD, am_ndI, am_ndR, am_ndL, va_rfS, true_and, and_true, Option.toList_some, Option.toList_none, List.cons_append, List.nil_append, Nat.reduceAdd, Nat.reduceLeDiff, Nat.zero_add, Nat.le_refl, rw_mrg, ite_Q, ite_bN, ite_bN', ib_0b, ib_b0, ib_1b, ib_b1, bN_0, bN_n0, bN_01T, nI1_0, nI0_0, nI01a, nI01b, bN_1, no_or, true_or, or_true, false_or, or_false, ite_not, if_true, if_false, Decidable.not_not, so0, so49, sdL, am_bd, bd_n, nI_tn, nI_add, hs _, g, not_false_eq_true, if_true, if_false]
    refine RR.imp h2 ?_
    rintro rv μ' ⟨M2, D2, rfl, rfl, hI2, hs2⟩
    simp only [r157_699, r157_702, r157_703, am_cat0, am_catI, am_catR, am_catD, am_ndI, am_ndR, am_ndL, va_rfS, true_and, and_true, Option.toList_some, Option.toList_none, List.cons_append, List.nil_append, Nat.reduceAdd, Nat.reduceLeDiff, Nat.zero_add, Nat.le_refl, if_true]
    exact k _ _ _ _ M2 D2 hI2 hs2
theorem lw_advice (hi : i + 6 ≤ sl) (hsl : sl ≤ 3072) (hI : iV M D) (k : ∀ (v4 v5 v6 v7 : Value) (M2 : Nat → Nat → Int32) (D2 : Nat → Nat → UInt64), iV M2 D2 → scS M M2 → RR 157 829 [.ref 1000000, .ref 0, .ref 49, .int (nI i), v4, v5, v6, v7] [] (SH, (b1, b2, sl), M2, D2, RF) Q) : RR 157 704 [.ref 1000000, .ref 0, .ref 49, .int (nI i), v4, v5, v6, v7] [] (SH, (b1, b2, sl), M, D, RF) Q := by
  simp (disch := omega) only [r157_704, r157_705, am_cat0, am_catI, am_catR, am_catD, am_ndI, am_ndR, am_ndL, va_rfS, true_and, and_true, Option.toList_some, Option.toList_none, List.cons_append, List.nil_append, Nat.reduceAdd, Nat.reduceLeDiff, Nat.zero_add, Nat.le_refl, rw_mrg, ite_Q, ite_bN, ite_bN', ib_0b, ib_b0, ib_1b, ib_b1, bN_0, bN_n0, bN_01T, nI1_0, nI0_0, nI01a, nI01b, bN_1, no_or, true_or, or_true, false_or, or_false, ite_not, if_true, if_false, Decidable.not_not, so0, so49, sdL, am_bd, bd_n, nI_tn, nI_add]
  refine RR.imp (pr_advice hI) ?_
  rintro rv μ' ⟨v, M1, D1, rfl, rfl, hs, h2⟩
  simp (disch := omega) only [r157_708, r157_709, am_cat0, am_catI, am_catR, am_catD, am_ndI, am_ndR, am_ndL, va_rfS, true_and, and_true, Option.toList_some, Option.toList_none, List.cons_append, List.nil_append, Nat.reduceAdd, Nat.reduceLeDiff, Nat.zero_add, Nat.le_refl, rw_mrg, ite_Q, ite_bN, ite_bN', ib_0b, ib_b0, ib_1b, ib_b1, bN_0, bN_n0, bN_01T, nI1_0, nI0_0, nI01a, nI01b, bN_1, no_or, true_or, or_true, false_or, or_false, ite_not, if_true, if_false, Decidable.not_not, so0, so49, sdL, am_bd, bd_n, nI_tn, nI_add, hs _]
  refine RR.imp h2 ?_
  rintro rv μ' ⟨M2, D2, rfl, rfl, hI2, hs2⟩
  simp only [r157_712, r157_715, r157_716, am_cat0, am_catI, am_catR, am_catD, am_ndI, am_ndR, am_ndL, va_rfS, true_and, and_true, Option.toList_some, Option.toList_none, List.cons_append, List.nil_append, Nat.reduceAdd, Nat.reduceLeDiff, Nat.zero_add, Nat.le_refl, if_true]
  exact k _ _ _ _ M2 D2 hI2 hs2
theorem lw_judge (hi : i + 6 ≤ sl) (hsl : sl ≤ 3072) (hI : iV M D) (k : ∀ (v4 v5 v6 v7 : Value) (M2 : Nat → Nat → Int32) (D2 : Nat → Nat → UInt64), iV M2 D2 → scS M M2 → RR 157 829 [.ref 1000000, .ref 0, .ref 49, .int (nI i), v4, v5, v6, v7] [] (SH, (b1, b2, sl), M2, D2, RF) Q) : RR 157 717 [.ref 1000000, .ref 0, .ref 49, .int (nI i), v4, v5, v6, v7] [] (SH, (b1, b2, sl), M, D, RF) Q := by
  simp (disch := omega) only [r157_717, r157_718, r157_719, r157_720, r157_721, r157_722, r157_723, r157_724, r157_725, r157_726, r157_727, r157_728, r157_729, r157_730, r157_731, r157_732, r157_733, am_cat0, am_catI, am_catR, am_catD, am_ndI, am_ndR, am_ndL, va_rfS, true_and, and_true, Option.toList_some, Option.toList_none, List.cons_append, List.nil_append, Nat.reduceAdd, Nat.reduceLeDiff, Nat.zero_add, Nat.le_refl, rw_mrg, ite_Q, ite_bN, ite_bN', ib_0b, ib_b0, ib_1b, ib_b1, bN_0, bN_n0, bN_01T, nI1_0, nI0_0, nI01a, nI01b, bN_1, no_or, true_or, or_true, false_or, or_false, ite_not, if_true, if_false, Decidable.not_not, so0, so49, sdL, am_bd, bd_n, nI_tn, nI_add]
  refine RR.imp (pr_judge hI) ?_
  rintro rv μ' ⟨v, M1, D1, rfl, rfl, hs, h2⟩
  simp (disch := omega) only [r157_736, r157_737, r157_738, r157_739, r157_740, r157_741, r157_742, r157_743, r157_744, r157_745, r157_746, r157_747, r157_748, r157_749, r157_750, r157_751, r157_752, am_cat0, am_catI, am_catR, am_catD, am_ndI, am_ndR, am_ndL, va_rfS, true_and, and_true, Option.toList_some, Option.toList_none, List.cons_append, List.nil_append, Nat.reduceAdd, Nat.reduceLeDiff, Nat.zero_add, Nat.le_refl, rw_mrg, ite_Q, ite_bN, ite_bN', ib_0b, ib_b0, ib_1b, ib_b1, bN_0, bN_n0, bN_01T, nI1_0, nI0_0, nI01a, nI01b, bN_1, no_or, true_or, or_true, false_or, or_false, ite_not, if_true, if_false, Decidable.not_not, so0, so49, sdL, am_bd, bd_n, nI_tn, nI_add, hs _]
  refine RR.imp h2 ?_
  rintro rv μ' ⟨M2, D2, rfl, rfl, hI2, hs2⟩
  simp only [r157_755, r157_758, r157_759, am_cat0, am_catI, am_catR, am_catD, am_ndI, am_ndR, am_ndL, va_rfS, true_and, and_true, Option.toList_some, Option.toList_none, List.cons_append, List.nil_append, Nat.reduceAdd, Nat.reduceLeDiff, Nat.zero_add, Nat.le_refl, if_true]
  exact k _ _ _ _ M2 D2 hI2 hs2
theorem lw_fits (hi : i + 6 ≤ sl) (hsl : sl ≤ 3072) (hI : iV M D) (k : ∀ (v4 v5 v6 v7 : Value) (M2 : Nat → Nat → Int32) (D2 : Nat → Nat → UInt64), iV M2 D2 → scS M M2 → RR 157 829 [.ref 1000000, .ref 0, .ref 49, .int (nI i), v4, v5, v6, v7] [] (SH, (b1, b2, sl), M2, D2, RF) Q) : RR 157 760 [.ref 1000000, .ref 0, .ref 49, .int (nI i), v4, v5, v6, v7] [] (SH, (b1, b2, sl), M, D, RF) Q := by
  by_cases g : M 1000000 (i + 3) = 0
  · simp (disch := omega) only [r157_760, r157_761, r157_762, r157_763, r157_764, r157_765, r157_766, r157_767, r157_768, r157_769, r157_770, r157_771, r157_772, r157_773, r157_774, r157_775, r157_776, r157_779, r157_780, r157_783, r157_784, r157_785, r157_786, r157_787, r157_788, r157_789, am_cat0, am_catI, am_catR, am_catD, am_ndI, am_ndR, am_ndL, va_rfS, true_and, and_true, Option.toList_some, Option.toList_none, List.cons_append, List.nil_append, Nat.reduceAdd, Nat.reduceLeDiff, Nat.zero_add, Nat.le_refl, rw_mrg, ite_Q, ite_bN, ite_bN', ib_0b, ib_b0, ib_1b, ib_b1, bN_0, bN_n0, bN_01T, nI1_0, nI0_0, nI01a, nI01b, bN_1, no_or, true_or, or_true, false_or, or_false, ite_not, if_true, if_false, Decidable.not_not, so0, so49, sdL, am_bd, bd_n, nI_tn, nI_add, g, if_true]
    refine RR.imp (pr_fits' (Or.inl rfl) hI) ?_
    rintro rv μ' ⟨v, M1, D1, rfl, rfl, hs, h2⟩
    simp (disch := omega) only [r157_792, r157_793, r157_794, r157_795, r157_796, r157_797, r157_798, r157_799, r157_800, r157_801, r157_802, r157_803, r157_804, r157_805, r157_806, r157_807, r157_808, r157_811, r157_812, r157_815, r157_816, r157_817, r157_818, r157_819, r157_820, r157_821, am_cat0, am_catI, am_catR, am_catD, am_ndI, am_ndR, am_ndL, va_rfS, true_and, and_true, Option.toList_some, Option.toList_none, List.cons_append, List.nil_append, Nat.reduceAdd, Nat.reduceLeDiff, Nat.zero_add, Nat.le_refl, rw_mrg, ite_Q, ite_bN, ite_bN', ib_0b, ib_b0, ib_1b, ib_b1, bN_0, bN_n0, bN_01T, nI1_0, nI0_0, nI01a, nI01b, bN_1, no_or, true_or, or_true, false_or, or_false, ite_not, if_true, if_false, Decidable.not_not, so0, so49, sdL, am_bd, bd_n, nI_tn, nI_add, hs _, g, if_true]
    refine RR.imp h2 ?_
    rintro rv μ' ⟨M2, D2, rfl, rfl, hI2, hs2⟩
    simp only [r157_824, r157_827, r157_828, am_cat0, am_catI, am_catR, am_catD, am_ndI, am_ndR, am_ndL, va_rfS, true_and, and_true, Option.toList_some, Option.toList_none, List.cons_append, List.nil_append, Nat.reduceAdd, Nat.reduceLeDiff, Nat.zero_add, Nat.le_refl, if_true]
    exact k _ _ _ _ M2 D2 hI2 hs2
  · simp (disch := omega) only [r157_760, r157_761, r157_762, r157_763, r157_764, r157_765, r157_766, r157_767, r157_768, r157_769, r157_770, r157_771, r157_772, r157_773, r157_774, r157_775, r157_776, r157_779, r157_780, r157_783, r157_784, r157_785, r157_786, r157_787, r157_788, r157_789, am_cat0, am_catI, am_catR, am_catD, am_ndI, am_ndR, am_ndL, va_rfS, true_and, and_true, Option.toList_some, Option.toList_none, List.cons_append, List.nil_append, Nat.reduceAdd, Nat.reduceLeDiff, Nat.zero_add, Nat.le_refl, rw_mrg, ite_Q, ite_bN, ite_bN', ib_0b, ib_b0, ib_1b, ib_b1, bN_0, bN_n0, bN_01T, nI1_0, nI0_0, nI01a, nI01b, bN_1, no_or, true_or, or_true, false_or, or_false, ite_not, if_true, if_false, Decidable.not_not, so0, so49, sdL, am_bd, bd_n, nI_tn, nI_add, g, not_false_eq_true, if_true, if_false]
    refine RR.imp (pr_fits' (Or.inr rfl) hI) ?_
    rintro rv μ' ⟨v, M1, D1, rfl, rfl, hs, h2⟩
    simp (disch := omega) only [r157_792, r157_793, r157_794, r157_795, r157_796, r157_797, r157_798, r157_799, r157_800, r157_801, r157_802, r157_803, r157_804, r157_805, r157_806, r157_807, r157_808, r157_811, r157_812, r157_815, r157_816, r157_817, r157_818, r157_819, r157_820, r157_821, am_cat0, am_catI, am_catR, am_catD, am_ndI, am_ndR, am_ndL, va_rfS, true_and, and_true, Option.toList_some, Option.toList_none, List.cons_append, List.nil_append, Nat.reduceAdd, Nat.reduceLeDiff, Nat.zero_add, Nat.le_refl, rw_mrg, ite_Q, ite_bN, ite_bN', ib_0b, ib_b0, ib_1b, ib_b1, bN_0, bN_n0, bN_01T, nI1_0, nI0_0, nI01a, nI01b, bN_1, no_or, true_or, or_true, false_or, or_false, ite_not, if_true, if_false, Decidable.not_not, so0, so49, sdL, am_bd, bd_n, nI_tn, nI_add, hs _, g, not_false_eq_true, if_true, if_false]
    refine RR.imp h2 ?_
    rintro rv μ' ⟨M2, D2, rfl, rfl, hI2, hs2⟩
    simp only [r157_824, r157_827, r157_828, am_cat0, am_catI, am_catR, am_catD, am_ndI, am_ndR, am_ndL, va_rfS, true_and, and_true, Option.toList_some, Option.toList_none, List.cons_append, List.nil_append, Nat.reduceAdd, Nat.reduceLeDiff, Nat.zero_add, Nat.le_refl, if_true]
    exact k _ _ _ _ M2 D2 hI2 hs2
theorem law_loop (hsl : sl ≤ 3072) : ∀ (j i : Nat) (M : Nat → Nat → Int32) (D : Nat → Nat → UInt64) (v4 v5 v6 v7 : Value), sl + 6 ≤ i + j → i ≤ sl → iV M D → RR 157 18 [.ref 1000000, .ref 0, .ref 49, .int (nI i), v4, v5, v6, v7] [] (SH, (b1, b2, sl), M, D, RF) (fun rv _ => rv = some (.int (nI 1))) := by
  intro j
  induction j with
  | zero => intro i M D v4 v5 v6 v7 h1 h2; omega
  | succ j ih =>
    intro i M D v4 v5 v6 v7 h1 h2 hI
    have zi : (nI i).toInt = (i : Int) := nI_ti (by omega)
    have zs : (nI sl - nI 6).toInt = (sl : Int) - 6 := pk_sub_toInt (by omega) (by decide)
    rw [r157_18]
    by_cases g : i + 6 ≤ sl
    · have g' : (nI sl - nI 6 < nI i) = False := eq_false (by rw [Int32.lt_iff_toInt_lt, zi, zs]; omega)
      simp (disch := omega) only [r157_19, r157_20 (b := (b1, b2, sl)) (saL sl), r157_21, r157_23, r157_24, g', if_false, r157_27, r157_28, r157_29, r157_30, r157_32, r157_33, am_cat0, am_catI, am_catR, am_catD, am_ndI, am_ndR, am_ndL, va_rfS, true_and, and_true, Option.toList_some, Option.toList_none, List.cons_append, List.nil_append, Nat.reduceAdd, Nat.reduceLeDiff, Nat.zero_add, Nat.le_refl, sdL, am_bd, bd_n, nI_tn]
      have cont : ∀ (v4 v5 v6 v7 : Value) (M2 : Nat → Nat → Int32) (D2 : Nat → Nat → UInt64), iV M2 D2 → scS M M2 → RR 157 829 [.ref 1000000, .ref 0, .ref 49, .int (nI i), v4, v5, v6, v7] [] (SH, (b1, b2, sl), M2, D2, RF) (fun rv _ => rv = some (.int (nI 1))) := by
        intro v4 v5 v6 v7 M2 D2 hI2 hs
        simp only [r157_829, r157_832, nI_add, am_ndR]
        exact ih (i + 6) M2 D2 v4 v5 v6 v7 (by omega) g hI2
      have ex : ∃ c, c < 32 ∧ (M 1000000 i &&& nI 31) = nI c := ⟨n32 (M 1000000 i) % 32, Nat.mod_lt _ (by decide), by rw [← nx_m31, nI_n32]⟩
      obtain ⟨c, hc, ec⟩ := ex
      have zc : (nI c).toInt = (c : Int) := nI_ti (by omega)
      rw [ec, zc]
      by_cases g2 : 16 < c
      · rw [if_pos (Or.inr (by omega))]
        exact cont _ _ _ _ M D hI (scS_r M)
      · rw [if_neg (by omega), show ((c : Int) - 0).toNat = c by omega]
        have g3 : c = 0 ∨ c = 1 ∨ c = 2 ∨ c = 3 ∨ c = 4 ∨ c = 5 ∨ c = 6 ∨ c = 7 ∨ c = 8 ∨ c = 9 ∨ c = 10 ∨ c = 11 ∨ c = 12 ∨ c = 13 ∨ c = 14 ∨ c = 15 ∨ c = 16 := by omega
        rcases g3 with rfl | rfl | rfl | rfl | rfl | rfl | rfl | rfl | rfl | rfl | rfl | rfl | rfl | rfl | rfl | rfl | rfl
        · exact lw_type g hsl hI cont
        · exact lw_drop g hsl hI cont
        · exact lw_member g hsl hI cont
        · exact lw_const g hsl hI cont
        · exact lw_remove g hsl hI cont
        · exact lw_branch g hsl hI cont
        · exact lw_letter g hsl hI cont
        · exact lw_rule g hsl hI cont
        · exact lw_clear g hsl hI cont
        · exact lw_version g hsl hI cont
        · exact lw_list g hsl hI cont
        · exact lw_change g hsl hI cont
        · exact lw_shift g hsl hI cont
        · exact lw_report g hsl hI cont
        · exact lw_advice g hsl hI cont
        · exact lw_judge g hsl hI cont
        · exact lw_fits g hsl hI cont
    · have g' : (nI sl - nI 6 < nI i) = True := eq_true (by rw [Int32.lt_iff_toInt_lt, zi, zs]; omega)
      simp (disch := omega) only [r157_19, r157_20 (b := (b1, b2, sl)) (saL sl), r157_21, r157_23, r157_24, g', if_true, r157_835, r157_836, nI01b, or_true, true_and]
end CN
