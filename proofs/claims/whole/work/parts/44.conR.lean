/-! THE MODEL: weigh -/
theorem an_iff {x y i : Nat} (hi : i < 32) : (andNot x y).testBit i = true ↔ x.testBit i = true ∧ y.testBit i = false := by
  rw [andNot_tb _ _ _ hi]
  cases x.testBit i <;> cases y.testBit i <;> simp
theorem md8 {x i : Nat} (hi : i < 3) : (x % 8).testBit i = x.testBit i := by
  have h := Nat.testBit_mod_two_pow x 3 i
  rw [show (2 : Nat) ^ 3 = 8 from rfl] at h
  rw [h, decide_eq_true hi, Bool.true_and]
theorem an8_iff {x y i : Nat} (hi : i < 3) : (andNot (x % 8) (y % 8)).testBit i = true ↔ x.testBit i = true ∧ y.testBit i = false := by
  rw [an_iff (by omega), md8 hi, md8 hi]
theorem xr_iff {x y i : Nat} (hi : i < 32) : (andNot x y ||| andNot y x).testBit i = true ↔ ¬ (x ^^^ y).testBit i = false := by
  rw [Nat.testBit_or, andNot_tb _ _ _ hi, andNot_tb _ _ _ hi, Nat.testBit_xor]
  cases x.testBit i <;> cases y.testBit i <;> simp
theorem xr8_iff {x y i : Nat} (hi : i < 3) : (andNot (x % 8) (y % 8) ||| andNot (y % 8) (x % 8)).testBit i = true ↔ ¬ (x ^^^ y).testBit i = false := by
  rw [Nat.testBit_or, andNot_tb _ _ _ (by omega), andNot_tb _ _ _ (by omega), Nat.testBit_xor, md8 hi, md8 hi]
  cases x.testBit i <;> cases y.testBit i <;> simp
theorem xor_lt32 {x y : Nat} (hx : x < 32) (hy : y < 32) : x ^^^ y < 32 := Nat.xor_lt_two_pow (n := 5) hx hy
theorem e8n : ¬ nI 8 = 0 := by decide
section CN
variable {Q : Option Value → amM → Prop} {μ : amM} {S : List (Nat ⊕ (Nat × Nat))} {M : Nat → Nat → Int32} {D : Nat → Nat → UInt64} {F : Nat → Nat → Option Nat} {sl : Nat}
variable {M0 : Nat → Nat → Int32}
theorem fS_le1 {a : Prop} {ha : Decidable a} {P : Nat → List Nat} {n t : Nat} {L : List En} {z : Nat × Nat} : (fS M0 P n t L (@oN a ha z)).length ≤ L.length + 1 := by
  have h1 := fS_le (M0 := M0) (P := P) (n := n) (t := t) (L := L) (G := @oN a ha z)
  have h2 := @oN_len a ha z
  omega
theorem c57_22 {t s n x y : Nat} {P : Nat → List Nat} {L : List En} {v5 v6 v7 v8 v9 : Value} (h2 : bW M0 2) (h9 : bW M0 9) (hB : mBd M0 D M) (hR : mRl M0 M P n) (hr : rlW M0 P n) (ht : t < 8) (hs : s < 24) (hl : lsM M L) (hL : L.length ≤ 1407) (hx : x < 32) (hy : y < 32) (k : ∀ M', lsM M' (fS M0 P n t L (oN (¬ x / 8 ≤ y / 8) (22, s + 1))) → agS M M' → RR 57 168 [.ref 49, .int (nI t), .int (nI (s + 1)), .int (nI x), .int (nI y), v5, v6, v7, v8, v9] [] (SH, (0, 0, sl), M', D, RF) Q) : RR 57 148 [.ref 49, .int (nI t), .int (nI (s + 1)), .int (nI x), .int (nI y), v5, v6, v7, v8, v9] [] (SH, (0, 0, sl), M, D, RF) Q := by
  by_cases g : ¬ x / 8 ≤ y / 8
  · rw [fS_1 g] at k
    have g' : (nI (x / 8) ≤ nI (y / 8)) = False := eq_false (fun z => by rw [nx_le (by omega) (by omega)] at z; exact g z)
    simp (disch := omega) only [r57_148, r57_150, r57_152, r57_153, r57_154, r57_156, r57_157, r57_160, r57_161, r57_163, r57_164, r57_165, am_cat0, am_catI, am_catR, am_catD, am_ndI, am_ndR, am_ndL, va_rfS, true_and, and_true, Option.toList_some, Option.toList_none, List.cons_append, List.nil_append, Nat.reduceAdd, Nat.reduceLeDiff, Nat.zero_add, Nat.le_refl, so49, e8n, not_false_eq_true, nx_dv, g', if_false, nI_add]
    refine RR.imp (c53 h2 h9 hB hR hr (by decide) (by decide) ht (by omega) (by omega) hl hL) ?_
    rintro rv μ' ⟨rfl, M', rfl, h3, h4⟩
    simp only [am_cat0, am_catI, am_catR, am_catD, am_ndI, am_ndR, am_ndL, va_rfS, true_and, and_true, Option.toList_some, Option.toList_none, List.cons_append, List.nil_append, Nat.reduceAdd, Nat.reduceLeDiff, Nat.zero_add, Nat.le_refl]
    exact k M' h3 h4
  · rw [fS_0 g] at k
    have g' : (nI (x / 8) ≤ nI (y / 8)) = True := eq_true (by rw [nx_le (by omega) (by omega)]; exact Decidable.not_not.mp g)
    simp (disch := omega) only [r57_148, r57_150, r57_152, r57_153, r57_154, r57_156, r57_157, r57_160, r57_161, r57_163, r57_164, r57_165, am_cat0, am_catI, am_catR, am_catD, am_ndI, am_ndR, am_ndL, va_rfS, true_and, and_true, Option.toList_some, Option.toList_none, List.cons_append, List.nil_append, Nat.reduceAdd, Nat.reduceLeDiff, Nat.zero_add, Nat.le_refl, so49, e8n, not_false_eq_true, nx_dv, g', if_true]
    exact k M hl (agS_r M)
theorem c57_25 {t s n x y : Nat} {P : Nat → List Nat} {L : List En} {v5 v6 v7 v8 v9 : Value} (h2 : bW M0 2) (h9 : bW M0 9) (hB : mBd M0 D M) (hR : mRl M0 M P n) (hr : rlW M0 P n) (ht : t < 8) (hs : s < 24) (hl : lsM M L) (hL : L.length ≤ 1407) (hx : x < 32) (hy : y < 32) (k : ∀ M', lsM M' (fS M0 P n t L (oN (¬ y / 8 ≤ x / 8) (25, s + 1))) → agS M M' → RR 57 188 [.ref 49, .int (nI t), .int (nI (s + 1)), .int (nI x), .int (nI y), v5, v6, v7, v8, v9] [] (SH, (0, 0, sl), M', D, RF) Q) : RR 57 168 [.ref 49, .int (nI t), .int (nI (s + 1)), .int (nI x), .int (nI y), v5, v6, v7, v8, v9] [] (SH, (0, 0, sl), M, D, RF) Q := by
  by_cases g : ¬ y / 8 ≤ x / 8
  · rw [fS_1 g] at k
    have g' : (nI (y / 8) ≤ nI (x / 8)) = False := eq_false (fun z => by rw [nx_le (by omega) (by omega)] at z; exact g z)
    simp (disch := omega) only [r57_168, r57_170, r57_172, r57_173, r57_174, r57_176, r57_177, r57_180, r57_181, r57_183, r57_184, r57_185, am_cat0, am_catI, am_catR, am_catD, am_ndI, am_ndR, am_ndL, va_rfS, true_and, and_true, Option.toList_some, Option.toList_none, List.cons_append, List.nil_append, Nat.reduceAdd, Nat.reduceLeDiff, Nat.zero_add, Nat.le_refl, so49, e8n, not_false_eq_true, nx_dv, g', if_false, nI_add]
    refine RR.imp (c53 h2 h9 hB hR hr (by decide) (by decide) ht (by omega) (by omega) hl hL) ?_
    rintro rv μ' ⟨rfl, M', rfl, h3, h4⟩
    simp only [am_cat0, am_catI, am_catR, am_catD, am_ndI, am_ndR, am_ndL, va_rfS, true_and, and_true, Option.toList_some, Option.toList_none, List.cons_append, List.nil_append, Nat.reduceAdd, Nat.reduceLeDiff, Nat.zero_add, Nat.le_refl]
    exact k M' h3 h4
  · rw [fS_0 g] at k
    have g' : (nI (y / 8) ≤ nI (x / 8)) = True := eq_true (by rw [nx_le (by omega) (by omega)]; exact Decidable.not_not.mp g)
    simp (disch := omega) only [r57_168, r57_170, r57_172, r57_173, r57_174, r57_176, r57_177, r57_180, r57_181, r57_183, r57_184, r57_185, am_cat0, am_catI, am_catR, am_catD, am_ndI, am_ndR, am_ndL, va_rfS, true_and, and_true, Option.toList_some, Option.toList_none, List.cons_append, List.nil_append, Nat.reduceAdd, Nat.reduceLeDiff, Nat.zero_add, Nat.le_refl, so49, e8n, not_false_eq_true, nx_dv, g', if_true]
    exact k M hl (agS_r M)
theorem c57_26 {t s n x y : Nat} {P : Nat → List Nat} {L : List En} {v5 v6 v7 v8 v9 : Value} (h2 : bW M0 2) (h9 : bW M0 9) (hB : mBd M0 D M) (hR : mRl M0 M P n) (hr : rlW M0 P n) (ht : t < 8) (hs : s < 24) (hl : lsM M L) (hL : L.length ≤ 1407) (hx : x < 32) (hy : y < 32) (k : ∀ M', lsM M' (fS M0 P n t L (oN ((andNot (x % 8) (y % 8) ||| andNot (y % 8) (x % 8)).testBit 0 = true) (26, s + 1))) → agS M M' → RR 57 205 [.ref 49, .int (nI t), .int (nI (s + 1)), .int (nI x), .int (nI y), v5, v6, v7, v8, v9] [] (SH, (0, 0, sl), M', D, RF) Q) : RR 57 188 [.ref 49, .int (nI t), .int (nI (s + 1)), .int (nI x), .int (nI y), v5, v6, v7, v8, v9] [] (SH, (0, 0, sl), M, D, RF) Q := by
  by_cases g : (andNot (x % 8) (y % 8) ||| andNot (y % 8) (x % 8)).testBit 0 = true
  · rw [fS_1 g] at k
    have g' : ((x ^^^ y).testBit 0 = false) = False := eq_false (fun z => by exact (xr8_iff (by decide)).mp g z)
    simp (disch := omega) only [r57_188, r57_189, r57_191, r57_192, r57_193, r57_194, r57_197, r57_198, r57_200, r57_201, r57_202, am_cat0, am_catI, am_catR, am_catD, am_ndI, am_ndR, am_ndL, va_rfS, true_and, and_true, Option.toList_some, Option.toList_none, List.cons_append, List.nil_append, Nat.reduceAdd, Nat.reduceLeDiff, Nat.zero_add, Nat.le_refl, so49, nx_xor, nx_t1 (Nat.lt_of_lt_of_le (xor_lt32 hx hy) (by decide)), g', if_false, nI_add]
    refine RR.imp (c53 h2 h9 hB hR hr (by decide) (by decide) ht (by omega) (by omega) hl hL) ?_
    rintro rv μ' ⟨rfl, M', rfl, h3, h4⟩
    simp only [am_cat0, am_catI, am_catR, am_catD, am_ndI, am_ndR, am_ndL, va_rfS, true_and, and_true, Option.toList_some, Option.toList_none, List.cons_append, List.nil_append, Nat.reduceAdd, Nat.reduceLeDiff, Nat.zero_add, Nat.le_refl]
    exact k M' h3 h4
  · rw [fS_0 g] at k
    have g' : ((x ^^^ y).testBit 0 = false) = True := eq_true (by exact Decidable.not_not.mp (fun z => g ((xr8_iff (by decide)).mpr z)))
    simp (disch := omega) only [r57_188, r57_189, r57_191, r57_192, r57_193, r57_194, r57_197, r57_198, r57_200, r57_201, r57_202, am_cat0, am_catI, am_catR, am_catD, am_ndI, am_ndR, am_ndL, va_rfS, true_and, and_true, Option.toList_some, Option.toList_none, List.cons_append, List.nil_append, Nat.reduceAdd, Nat.reduceLeDiff, Nat.zero_add, Nat.le_refl, so49, nx_xor, nx_t1 (Nat.lt_of_lt_of_le (xor_lt32 hx hy) (by decide)), g', if_true]
    exact k M hl (agS_r M)
theorem c57_27 {t s n x y : Nat} {P : Nat → List Nat} {L : List En} {v5 v6 v7 v8 v9 : Value} (h2 : bW M0 2) (h9 : bW M0 9) (hB : mBd M0 D M) (hR : mRl M0 M P n) (hr : rlW M0 P n) (ht : t < 8) (hs : s < 24) (hl : lsM M L) (hL : L.length ≤ 1407) (hx : x < 32) (hy : y < 32) (k : ∀ M', lsM M' (fS M0 P n t (fS M0 P n t L (oN ((andNot (y % 8) (x % 8)).testBit 2 = true) (27, s + 1))) (oN ((andNot (x % 8) (y % 8)).testBit 2 = true) (27 + 1, s + 1))) → agS M M' → RR 57 217 [.ref 49, .int (nI t), .int (nI (s + 1)), .int (nI x), .int (nI y), v5, v6, v7, v8, v9] [] (SH, (0, 0, sl), M', D, RF) Q) : RR 57 205 [.ref 49, .int (nI t), .int (nI (s + 1)), .int (nI x), .int (nI y), v5, v6, v7, v8, v9] [] (SH, (0, 0, sl), M, D, RF) Q := by
  rw [← fS_a] at k
  simp only [r57_205, r57_206, r57_207, r57_209, r57_210, r57_212, r57_213, r57_214, am_cat0, am_catI, am_catR, am_catD, am_ndI, am_ndR, am_ndL, va_rfS, true_and, and_true, Option.toList_some, Option.toList_none, List.cons_append, List.nil_append, Nat.reduceAdd, Nat.reduceLeDiff, Nat.zero_add, Nat.le_refl, so49]
  refine RR.imp (c54 (da := inferInstance) (db := inferInstance) (k := 2) (a := (andNot (y % 8) (x % 8)).testBit 2 = true) (b := (andNot (x % 8) (y % 8)).testBit 2 = true) h2 h9 hB hR hr (by decide) (by decide) ht (by omega) (by omega) hl hL (by omega) (by omega) (by decide) ((an8_iff (by decide)).trans ⟨fun z => ⟨z.2, z.1⟩, fun z => ⟨z.2, z.1⟩⟩) (an8_iff (by decide))) ?_
  rintro rv μ' ⟨rfl, M', rfl, h3, h4⟩
  simp only [am_cat0, am_catI, am_catR, am_catD, am_ndI, am_ndR, am_ndL, va_rfS, true_and, and_true, Option.toList_some, Option.toList_none, List.cons_append, List.nil_append, Nat.reduceAdd, Nat.reduceLeDiff, Nat.zero_add, Nat.le_refl]
  exact k M' h3 h4
theorem c57_29 {t s n x y : Nat} {P : Nat → List Nat} {L : List En} {v5 v6 v7 v8 v9 : Value} (h2 : bW M0 2) (h9 : bW M0 9) (hB : mBd M0 D M) (hR : mRl M0 M P n) (hr : rlW M0 P n) (ht : t < 8) (hs : s < 24) (hl : lsM M L) (hL : L.length ≤ 1407) (hx : x < 32) (hy : y < 32) (k : ∀ M', lsM M' (fS M0 P n t (fS M0 P n t L (oN ((andNot (y % 8) (x % 8)).testBit 1 = true) (29, s + 1))) (oN ((andNot (x % 8) (y % 8)).testBit 1 = true) (29 + 1, s + 1))) → agS M M' → RR 57 234 [.ref 49, .int (nI t), .int (nI (s + 1)), .int (nI x), .int (nI y), v5, v6, v7, v8, v9] [] (SH, (0, 0, sl), M', D, RF) Q) : RR 57 222 [.ref 49, .int (nI t), .int (nI (s + 1)), .int (nI x), .int (nI y), v5, v6, v7, v8, v9] [] (SH, (0, 0, sl), M, D, RF) Q := by
  rw [← fS_a] at k
  simp only [r57_222, r57_223, r57_224, r57_226, r57_227, r57_229, r57_230, r57_231, am_cat0, am_catI, am_catR, am_catD, am_ndI, am_ndR, am_ndL, va_rfS, true_and, and_true, Option.toList_some, Option.toList_none, List.cons_append, List.nil_append, Nat.reduceAdd, Nat.reduceLeDiff, Nat.zero_add, Nat.le_refl, so49]
  refine RR.imp (c54 (da := inferInstance) (db := inferInstance) (k := 1) (a := (andNot (y % 8) (x % 8)).testBit 1 = true) (b := (andNot (x % 8) (y % 8)).testBit 1 = true) h2 h9 hB hR hr (by decide) (by decide) ht (by omega) (by omega) hl hL (by omega) (by omega) (by decide) ((an8_iff (by decide)).trans ⟨fun z => ⟨z.2, z.1⟩, fun z => ⟨z.2, z.1⟩⟩) (an8_iff (by decide))) ?_
  rintro rv μ' ⟨rfl, M', rfl, h3, h4⟩
  simp only [am_cat0, am_catI, am_catR, am_catD, am_ndI, am_ndR, am_ndL, va_rfS, true_and, and_true, Option.toList_some, Option.toList_none, List.cons_append, List.nil_append, Nat.reduceAdd, Nat.reduceLeDiff, Nat.zero_add, Nat.le_refl]
  exact k M' h3 h4
theorem c57_31 {t s n : Nat} {P : Nat → List Nat} {L : List En} {v3 v4 v5 v6 v7 : Value} (h2 : bW M0 2) (h9 : bW M0 9) (hB : mBd M0 D M) (hR : mRl M0 M P n) (hr : rlW M0 P n) (ht : t < 8) (hs : s < 24) (hl : lsM M L) (hL : L.length ≤ 1407) (hh2 : bHas M0 2 t s) (hh9 : bHas M0 9 t s) (hs12 : s < 12) (hxx : Op.cmpValue (FP.dcmp (D 8 (t * 12 + s)) (D 8 (t * 12 + s))) .l = 0) (k : ∀ M', lsM M' (fS M0 P n t L (oN ((bVa M0 2 t).testBit s = true ∧ (bVa M0 9 t).testBit s = true ∧ cdP (D 8 (t * 12 + s)) (D 15 (t * 12 + s))) (31, s + 1))) → agS M M' → RR 57 298 [.ref 49, .int (nI t), .int (nI (s + 1)), v3, v4, v5, v6, v7, .int (nI (12 * t + s)), .int (nI (96 + (12 * t + s)))] [] (SH, (0, 0, sl), M', D, RF) Q) : RR 57 252 [.ref 49, .int (nI t), .int (nI (s + 1)), v3, v4, v5, v6, v7, .int (nI (12 * t + s)), .int (nI (96 + (12 * t + s)))] [] (SH, (0, 0, sl), M, D, RF) Q := by
  have w2 : M 51 (12 * t + s) = bN ((bVa M0 2 t).testBit s = true) := by
    have z := (hB 0 (by decide) t ht).2.2.2.2.2.1 s hs12 hh2
    rw [show 12 * (8 * 0 + t) + s = 12 * t + s by omega] at z
    exact z
  have w9 : M 51 (96 + (12 * t + s)) = bN ((bVa M0 9 t).testBit s = true) := by
    have z := (hB 1 (by decide) t ht).2.2.2.2.2.1 s hs12 hh9
    rw [show 12 * (8 * 1 + t) + s = 96 + (12 * t + s) by omega] at z
    exact z
  have d2 : D 57 (12 * t + s) = D 8 (t * 12 + s) := by
    have z := (hB 0 (by decide) t ht).2.2.2.2.2.2 s hs12
    rw [show 12 * (8 * 0 + t) + s = 12 * t + s by omega] at z
    exact z
  have d9 : D 57 (96 + (12 * t + s)) = D 15 (t * 12 + s) := by
    have z := (hB 1 (by decide) t ht).2.2.2.2.2.2 s hs12
    rw [show 12 * (8 * 1 + t) + s = 96 + (12 * t + s) by omega] at z
    exact z
  by_cases g2 : (bVa M0 2 t).testBit s = true
  · by_cases g9 : (bVa M0 9 t).testBit s = true
    · by_cases g3 : Op.cmpValue (FP.dcmp (D 8 (t * 12 + s)) (D 15 (t * 12 + s))) .l = 0
      · rw [fS_0 (fun z => z.2.2.1 g3)] at k
        simp (disch := omega) only [r57_252, r57_253, r57_256, r57_258, r57_259, r57_262, r57_263, r57_266, r57_268, r57_269, r57_272, r57_273, r57_276, r57_278, r57_279, r57_280, r57_283, r57_285, r57_286, r57_287, r57_290, r57_291, r57_293, r57_294, r57_295, am_cat0, am_catI, am_catR, am_catD, am_ndI, am_ndR, am_ndL, va_rfS, true_and, and_true, Option.toList_some, Option.toList_none, List.cons_append, List.nil_append, Nat.reduceAdd, Nat.reduceLeDiff, Nat.zero_add, Nat.le_refl, so49, sf49_1, sf49_7, sd51, sl57, am_bd, am_bs, bd_n, nI_tn, nI_add, w2, w9, d2, d9, bN_0, Bool.false_eq_true, not_true_eq_false, not_false_eq_true, if_true, if_false, g2, g9, g3]
        exact k M hl (agS_r M)
      · rw [fS_1 ⟨g2, g9, g3, Or.inl hxx⟩] at k
        simp (disch := omega) only [r57_252, r57_253, r57_256, r57_258, r57_259, r57_262, r57_263, r57_266, r57_268, r57_269, r57_272, r57_273, r57_276, r57_278, r57_279, r57_280, r57_283, r57_285, r57_286, r57_287, r57_290, r57_291, r57_293, r57_294, r57_295, am_cat0, am_catI, am_catR, am_catD, am_ndI, am_ndR, am_ndL, va_rfS, true_and, and_true, Option.toList_some, Option.toList_none, List.cons_append, List.nil_append, Nat.reduceAdd, Nat.reduceLeDiff, Nat.zero_add, Nat.le_refl, so49, sf49_1, sf49_7, sd51, sl57, am_bd, am_bs, bd_n, nI_tn, nI_add, w2, w9, d2, d9, bN_0, Bool.false_eq_true, not_true_eq_false, not_false_eq_true, if_true, if_false, g2, g9, g3]
        refine RR.imp (c53 h2 h9 hB hR hr (by decide) (by decide) ht (by omega) (by omega) hl hL) ?_
        rintro rv μ' ⟨rfl, M', rfl, h3, h4⟩
        simp only [am_cat0, am_catI, am_catR, am_catD, am_ndI, am_ndR, am_ndL, va_rfS, true_and, and_true, Option.toList_some, Option.toList_none, List.cons_append, List.nil_append, Nat.reduceAdd, Nat.reduceLeDiff, Nat.zero_add, Nat.le_refl]
        exact k M' h3 h4
    · rw [fS_0 (fun z => g9 z.2.1)] at k
      simp (disch := omega) only [r57_252, r57_253, r57_256, r57_258, r57_259, r57_262, r57_263, r57_266, r57_268, r57_269, r57_272, r57_273, r57_276, r57_278, r57_279, r57_280, r57_283, r57_285, r57_286, r57_287, r57_290, r57_291, r57_293, r57_294, r57_295, am_cat0, am_catI, am_catR, am_catD, am_ndI, am_ndR, am_ndL, va_rfS, true_and, and_true, Option.toList_some, Option.toList_none, List.cons_append, List.nil_append, Nat.reduceAdd, Nat.reduceLeDiff, Nat.zero_add, Nat.le_refl, so49, sf49_1, sf49_7, sd51, sl57, am_bd, am_bs, bd_n, nI_tn, nI_add, w2, w9, d2, d9, bN_0, Bool.false_eq_true, not_true_eq_false, not_false_eq_true, if_true, if_false, g2, g9]
      exact k M hl (agS_r M)
  · rw [fS_0 (fun z => g2 z.1)] at k
    simp (disch := omega) only [r57_252, r57_253, r57_256, r57_258, r57_259, r57_262, r57_263, r57_266, r57_268, r57_269, r57_272, r57_273, r57_276, r57_278, r57_279, r57_280, r57_283, r57_285, r57_286, r57_287, r57_290, r57_291, r57_293, r57_294, r57_295, am_cat0, am_catI, am_catR, am_catD, am_ndI, am_ndR, am_ndL, va_rfS, true_and, and_true, Option.toList_some, Option.toList_none, List.cons_append, List.nil_append, Nat.reduceAdd, Nat.reduceLeDiff, Nat.zero_add, Nat.le_refl, so49, sf49_1, sf49_7, sd51, sl57, am_bd, am_bs, bd_n, nI_tn, nI_add, w2, w9, d2, d9, bN_0, Bool.false_eq_true, not_true_eq_false, not_false_eq_true, if_true, if_false, g2]
    exact k M hl (agS_r M)
theorem c57_32 {t s n : Nat} {P : Nat → List Nat} {L : List En} {v3 v4 v5 v6 v7 : Value} (h2 : bW M0 2) (h9 : bW M0 9) (hB : mBd M0 D M) (hR : mRl M0 M P n) (hr : rlW M0 P n) (ht : t < 8) (hs : s < 24) (hl : lsM M L) (hL : L.length ≤ 1407) (hh2 : bHas M0 2 t s) (hh9 : bHas M0 9 t s) (hs12 : s < 12) (k : ∀ M', lsM M' (fS M0 P n t L (oN ((bVa M0 2 t).testBit s = true ∧ ¬ (bVa M0 9 t).testBit s = true) (32, s + 1))) → agS M M' → RR 57 326 [.ref 49, .int (nI t), .int (nI (s + 1)), v3, v4, v5, v6, v7, .int (nI (12 * t + s)), .int (nI (96 + (12 * t + s)))] [] (SH, (0, 0, sl), M', D, RF) Q) : RR 57 298 [.ref 49, .int (nI t), .int (nI (s + 1)), v3, v4, v5, v6, v7, .int (nI (12 * t + s)), .int (nI (96 + (12 * t + s)))] [] (SH, (0, 0, sl), M, D, RF) Q := by
  have w2 : M 51 (12 * t + s) = bN ((bVa M0 2 t).testBit s = true) := by
    have z := (hB 0 (by decide) t ht).2.2.2.2.2.1 s hs12 hh2
    rw [show 12 * (8 * 0 + t) + s = 12 * t + s by omega] at z
    exact z
  have w9 : M 51 (96 + (12 * t + s)) = bN ((bVa M0 9 t).testBit s = true) := by
    have z := (hB 1 (by decide) t ht).2.2.2.2.2.1 s hs12 hh9
    rw [show 12 * (8 * 1 + t) + s = 96 + (12 * t + s) by omega] at z
    exact z
  by_cases g2 : (bVa M0 2 t).testBit s = true
  · by_cases g9 : (bVa M0 9 t).testBit s = true
    · rw [fS_0 (fun z => z.2 g9)] at k
      simp (disch := omega) only [r57_298, r57_299, r57_302, r57_304, r57_305, r57_308, r57_309, r57_312, r57_314, r57_315, r57_318, r57_319, r57_321, r57_322, r57_323, am_cat0, am_catI, am_catR, am_catD, am_ndI, am_ndR, am_ndL, va_rfS, true_and, and_true, Option.toList_some, Option.toList_none, List.cons_append, List.nil_append, Nat.reduceAdd, Nat.reduceLeDiff, Nat.zero_add, Nat.le_refl, so49, sf49_1, sf49_7, sd51, sl57, am_bd, am_bs, bd_n, nI_tn, nI_add, w2, w9, bN_0, Bool.false_eq_true, not_true_eq_false, not_false_eq_true, if_true, if_false, g2, g9]
      exact k M hl (agS_r M)
    · rw [fS_1 ⟨g2, g9⟩] at k
      simp (disch := omega) only [r57_298, r57_299, r57_302, r57_304, r57_305, r57_308, r57_309, r57_312, r57_314, r57_315, r57_318, r57_319, r57_321, r57_322, r57_323, am_cat0, am_catI, am_catR, am_catD, am_ndI, am_ndR, am_ndL, va_rfS, true_and, and_true, Option.toList_some, Option.toList_none, List.cons_append, List.nil_append, Nat.reduceAdd, Nat.reduceLeDiff, Nat.zero_add, Nat.le_refl, so49, sf49_1, sf49_7, sd51, sl57, am_bd, am_bs, bd_n, nI_tn, nI_add, w2, w9, bN_0, Bool.false_eq_true, not_true_eq_false, not_false_eq_true, if_true, if_false, g2, g9]
      refine RR.imp (c53 h2 h9 hB hR hr (by decide) (by decide) ht (by omega) (by omega) hl hL) ?_
      rintro rv μ' ⟨rfl, M', rfl, h3, h4⟩
      simp only [am_cat0, am_catI, am_catR, am_catD, am_ndI, am_ndR, am_ndL, va_rfS, true_and, and_true, Option.toList_some, Option.toList_none, List.cons_append, List.nil_append, Nat.reduceAdd, Nat.reduceLeDiff, Nat.zero_add, Nat.le_refl]
      exact k M' h3 h4
  · rw [fS_0 (fun z => g2 z.1)] at k
    simp (disch := omega) only [r57_298, r57_299, r57_302, r57_304, r57_305, r57_308, r57_309, r57_312, r57_314, r57_315, r57_318, r57_319, r57_321, r57_322, r57_323, am_cat0, am_catI, am_catR, am_catD, am_ndI, am_ndR, am_ndL, va_rfS, true_and, and_true, Option.toList_some, Option.toList_none, List.cons_append, List.nil_append, Nat.reduceAdd, Nat.reduceLeDiff, Nat.zero_add, Nat.le_refl, so49, sf49_1, sf49_7, sd51, sl57, am_bd, am_bs, bd_n, nI_tn, nI_add, w2, w9, bN_0, Bool.false_eq_true, not_true_eq_false, not_false_eq_true, if_true, if_false, g2]
    exact k M hl (agS_r M)
theorem c57_33 {t s n : Nat} {P : Nat → List Nat} {L : List En} {v3 v4 v5 v6 v7 : Value} (h2 : bW M0 2) (h9 : bW M0 9) (hB : mBd M0 D M) (hR : mRl M0 M P n) (hr : rlW M0 P n) (ht : t < 8) (hs : s < 24) (hl : lsM M L) (hL : L.length ≤ 1407) (hh2 : bHas M0 2 t s) (hh9 : bHas M0 9 t s) (hs12 : s < 12) (k : ∀ M', lsM M' (fS M0 P n t L (oN (¬ (bVa M0 2 t).testBit s = true ∧ (bVa M0 9 t).testBit s = true) (33, s + 1))) → agS M M' → RR 57 354 [.ref 49, .int (nI t), .int (nI (s + 1)), v3, v4, v5, v6, v7, .int (nI (12 * t + s)), .int (nI (96 + (12 * t + s)))] [] (SH, (0, 0, sl), M', D, RF) Q) : RR 57 326 [.ref 49, .int (nI t), .int (nI (s + 1)), v3, v4, v5, v6, v7, .int (nI (12 * t + s)), .int (nI (96 + (12 * t + s)))] [] (SH, (0, 0, sl), M, D, RF) Q := by
  have w2 : M 51 (12 * t + s) = bN ((bVa M0 2 t).testBit s = true) := by
    have z := (hB 0 (by decide) t ht).2.2.2.2.2.1 s hs12 hh2
    rw [show 12 * (8 * 0 + t) + s = 12 * t + s by omega] at z
    exact z
  have w9 : M 51 (96 + (12 * t + s)) = bN ((bVa M0 9 t).testBit s = true) := by
    have z := (hB 1 (by decide) t ht).2.2.2.2.2.1 s hs12 hh9
    rw [show 12 * (8 * 1 + t) + s = 96 + (12 * t + s) by omega] at z
    exact z
  by_cases g2 : (bVa M0 2 t).testBit s = true
  · by_cases g9 : (bVa M0 9 t).testBit s = true
    · rw [fS_0 (fun z => z.1 g2)] at k
      simp (disch := omega) only [r57_326, r57_327, r57_330, r57_332, r57_333, r57_336, r57_337, r57_340, r57_342, r57_343, r57_346, r57_347, r57_349, r57_350, r57_351, am_cat0, am_catI, am_catR, am_catD, am_ndI, am_ndR, am_ndL, va_rfS, true_and, and_true, Option.toList_some, Option.toList_none, List.cons_append, List.nil_append, Nat.reduceAdd, Nat.reduceLeDiff, Nat.zero_add, Nat.le_refl, so49, sf49_1, sf49_7, sd51, sl57, am_bd, am_bs, bd_n, nI_tn, nI_add, w2, w9, bN_0, Bool.false_eq_true, not_true_eq_false, not_false_eq_true, if_true, if_false, g2, g9]
      exact k M hl (agS_r M)
    · rw [fS_0 (fun z => z.1 g2)] at k
      simp (disch := omega) only [r57_326, r57_327, r57_330, r57_332, r57_333, r57_336, r57_337, r57_340, r57_342, r57_343, r57_346, r57_347, r57_349, r57_350, r57_351, am_cat0, am_catI, am_catR, am_catD, am_ndI, am_ndR, am_ndL, va_rfS, true_and, and_true, Option.toList_some, Option.toList_none, List.cons_append, List.nil_append, Nat.reduceAdd, Nat.reduceLeDiff, Nat.zero_add, Nat.le_refl, so49, sf49_1, sf49_7, sd51, sl57, am_bd, am_bs, bd_n, nI_tn, nI_add, w2, w9, bN_0, Bool.false_eq_true, not_true_eq_false, not_false_eq_true, if_true, if_false, g2, g9]
      exact k M hl (agS_r M)
  · by_cases g9 : (bVa M0 9 t).testBit s = true
    · rw [fS_1 ⟨g2, g9⟩] at k
      simp (disch := omega) only [r57_326, r57_327, r57_330, r57_332, r57_333, r57_336, r57_337, r57_340, r57_342, r57_343, r57_346, r57_347, r57_349, r57_350, r57_351, am_cat0, am_catI, am_catR, am_catD, am_ndI, am_ndR, am_ndL, va_rfS, true_and, and_true, Option.toList_some, Option.toList_none, List.cons_append, List.nil_append, Nat.reduceAdd, Nat.reduceLeDiff, Nat.zero_add, Nat.le_refl, so49, sf49_1, sf49_7, sd51, sl57, am_bd, am_bs, bd_n, nI_tn, nI_add, w2, w9, bN_0, Bool.false_eq_true, not_true_eq_false, not_false_eq_true, if_true, if_false, g2, g9]
      refine RR.imp (c53 h2 h9 hB hR hr (by decide) (by decide) ht (by omega) (by omega) hl hL) ?_
      rintro rv μ' ⟨rfl, M', rfl, h3, h4⟩
      simp only [am_cat0, am_catI, am_catR, am_catD, am_ndI, am_ndR, am_ndL, va_rfS, true_and, and_true, Option.toList_some, Option.toList_none, List.cons_append, List.nil_append, Nat.reduceAdd, Nat.reduceLeDiff, Nat.zero_add, Nat.le_refl]
      exact k M' h3 h4
    · rw [fS_0 (fun z => g9 z.2)] at k
      simp (disch := omega) only [r57_326, r57_327, r57_330, r57_332, r57_333, r57_336, r57_337, r57_340, r57_342, r57_343, r57_346, r57_347, r57_349, r57_350, r57_351, am_cat0, am_catI, am_catR, am_catD, am_ndI, am_ndR, am_ndL, va_rfS, true_and, and_true, Option.toList_some, Option.toList_none, List.cons_append, List.nil_append, Nat.reduceAdd, Nat.reduceLeDiff, Nat.zero_add, Nat.le_refl, so49, sf49_1, sf49_7, sd51, sl57, am_bd, am_bs, bd_n, nI_tn, nI_add, w2, w9, bN_0, Bool.false_eq_true, not_true_eq_false, not_false_eq_true, if_true, if_false, g2, g9]
      exact k M hl (agS_r M)

theorem c57a {t s : Nat} {x3 x4 v5 v6 v7 : Int32} (h2 : bW M0 2) (h9 : bW M0 9) (hB : mBd M0 D M) (ht : t < 8) (hs : s < 24) (e3 : M0 6 (t * 24 + s) = x3) (e4 : M0 13 (t * 24 + s) = x4) (e5 : bN (bSh M0 2 t s) = v5) (e6 : bN (bSh M0 9 t s) = v6) (e7 : v7 = if s + 1 ≤ 12 then nI 0 else nI 1) : RR 57 0 [.ref 49, .int (nI t), .int (nI (s + 1)), .long 0, .long 0, .long 0, .long 0, .long 0, .long 0, .long 0] [] (SH, (0, 0, sl), M, D, RF) Q ↔ RR 57 56 [.ref 49, .int (nI t), .int (nI (s + 1)), .int x3, .int x4, .int v5, .int v6, .int v7, .long 0, .long 0] [] (SH, (0, 0, sl), M, D, RF) Q := by
  subst e3 e4 e5 e6
  have hA : M 56 (24 * (8 * 0 + t) + s) = M0 6 (t * 24 + s) := (hB 0 (by decide) t ht).2.2.2.2.1 s hs
  have hC : M 56 (24 * (8 * 1 + t) + s) = M0 13 (t * 24 + s) := (hB 1 (by decide) t ht).2.2.2.2.1 s hs
  have k0 := fun Q => c50 (Q := Q) (sl := sl) (b := 0) (by decide) ht hs h2 (hB 0 (by decide) t ht)
  have k1 := fun Q => c50 (Q := Q) (sl := sl) (b := 1) (by decide) ht hs h9 (hB 1 (by decide) t ht)
  by_cases hm : s + 1 ≤ 12
  · rw [if_pos hm] at e7
    subst e7
    have hm' : (nI (s + 1) ≤ nI 12) = True := eq_true (by rw [nx_le (by omega) (by decide)]; exact hm)
    simp (disch := omega) only [r57_0, r57_1, r57_4, r57_5, r57_6, r57_7, r57_10, r57_11, r57_12, r57_13, r57_16, r57_17, r57_18, r57_19, r57_22, r57_23, r57_25, r57_26, r57_27, r57_28, r57_29, r57_32, r57_34, r57_35, r57_36, r57_37, r57_38, r57_41, r57_43, r57_44, r57_46, r57_49, r57_50, r57_53, r57_54, am_cat0, am_catI, am_catR, am_catD, am_ndI, am_ndR, am_ndL, va_rfS, true_and, and_true, Option.toList_some, Option.toList_none, List.cons_append, List.nil_append, Nat.reduceAdd, Nat.reduceLeDiff, Nat.zero_add, Nat.le_refl, so49, sf49_6, sd56, c36 (show 0 < 2 by decide) ht hs, c36 (show 1 < 2 by decide) ht hs, am_bd, bd_n, nI_tn, hA, hC, k0, k1, hm', if_true]
    exact Iff.rfl
  · rw [if_neg hm] at e7
    subst e7
    have hm' : (nI (s + 1) ≤ nI 12) = False := eq_false (by rw [nx_le (by omega) (by decide)]; exact hm)
    simp (disch := omega) only [r57_0, r57_1, r57_4, r57_5, r57_6, r57_7, r57_10, r57_11, r57_12, r57_13, r57_16, r57_17, r57_18, r57_19, r57_22, r57_23, r57_25, r57_26, r57_27, r57_28, r57_29, r57_32, r57_34, r57_35, r57_36, r57_37, r57_38, r57_41, r57_43, r57_44, r57_46, r57_49, r57_50, r57_53, r57_54, am_cat0, am_catI, am_catR, am_catD, am_ndI, am_ndR, am_ndL, va_rfS, true_and, and_true, Option.toList_some, Option.toList_none, List.cons_append, List.nil_append, Nat.reduceAdd, Nat.reduceLeDiff, Nat.zero_add, Nat.le_refl, so49, sf49_6, sd56, c36 (show 0 < 2 by decide) ht hs, c36 (show 1 < 2 by decide) ht hs, am_bd, bd_n, nI_tn, hA, hC, k0, k1, hm', if_false]
    exact Iff.rfl
theorem c57 {t s n : Nat} {P : Nat → List Nat} {L : List En} (h2 : bW M0 2) (h9 : bW M0 9) (hB : mBd M0 D M) (hR : mRl M0 M P n) (hr : rlW M0 P n) (ht : t < 8) (hs : s < 24) (hl : lsM M L) (hL : L.length ≤ 1390) (hth : (bTh M0 9).testBit t = true) (hxx : s < 12 → Op.cmpValue (FP.dcmp (D 8 (t * 12 + s)) (D 8 (t * 12 + s))) .l = 0) : RR 57 0 [.ref 49, .int (nI t), .int (nI (s + 1)), .long 0, .long 0, .long 0, .long 0, .long 0, .long 0, .long 0] [] (SH, (0, 0, sl), M, D, RF) (mPo M D sl (fS M0 P n t L (cmL M0 D t s))) := by
  obtain ⟨v7, e7⟩ : ∃ v7 : Int32, v7 = if s + 1 ≤ 12 then nI 0 else nI 1 := ⟨_, rfl⟩
  by_cases w0 : bSh M0 2 t s
  · have hm2 := bMo_lt h2 ht hs w0.2.1
    have eA : M0 6 (t * 24 + s) = nI (bMo M0 2 t s) := bMo_e M0 2 t s
    by_cases i0 : bSh M0 9 t s
    · have hm9 := bMo_lt h9 ht hs i0.2.1
      have eC : M0 13 (t * 24 + s) = nI (bMo M0 9 t s) := bMo_e M0 9 t s
      rw [c57a h2 h9 hB ht hs eA eC (bN_t w0) (bN_t i0) e7]
      have e : cmL M0 D t s = cmS M0 D t s := by unfold cmL; rw [if_pos w0, if_pos i0]
      rw [e]
      simp only [r57_56, r57_58, r57_61, r57_63, r57_66, r57_67, r57_69, r57_72, r57_74, r57_77, r57_78, r57_79, r57_80, r57_81, r57_83, r57_84, r57_87, r57_90, r57_92, r57_95, r57_97, r57_98, r57_99, r57_102, r57_104, r57_107, r57_109, r57_112, r57_113, r57_115, r57_118, r57_120, r57_121, r57_122, r57_125, r57_127, r57_130, r57_132, r57_133, r57_134, r57_137, r57_139, r57_142, r57_144, r57_147, am_cat0, am_catI, am_catR, am_catD, am_ndI, am_ndR, am_ndL, va_rfS, true_and, and_true, Option.toList_some, Option.toList_none, List.cons_append, List.nil_append, Nat.reduceAdd, Nat.reduceLeDiff, Nat.zero_add, Nat.le_refl, nI1_0, nI0_0, not_true_eq_false, not_false_eq_true, if_true, if_false]
      unfold cmS
      by_cases hm : 12 ≤ s
      · have h7 : (v7 = 0) = False := eq_false (by rw [e7, if_neg (by omega)]; decide)
        rw [if_pos hm]
        simp only [fS_a]
        refine c57_22 h2 h9 hB hR hr ht hs hl (by omega) hm2 hm9 (fun M1 l1 a1 => ?_)
        have b1 := fS_le1 (M0 := M0) (P := P) (n := n) (t := t) (L := L) (a := ¬ bMo M0 2 t s / 8 ≤ bMo M0 9 t s / 8) (ha := inferInstance) (z := (22, s + 1))
        generalize fS M0 P n t L (oN (¬ bMo M0 2 t s / 8 ≤ bMo M0 9 t s / 8) (22, s + 1)) = L1 at *
        have B1 := mBd_ag hB a1
        have R1 := mRl_ag a1 hR
        refine c57_25 h2 h9 B1 R1 hr ht hs l1 (by omega) hm2 hm9 (fun M2 l2 a2 => ?_)
        have b2 := fS_le1 (M0 := M0) (P := P) (n := n) (t := t) (L := L1) (a := ¬ bMo M0 9 t s / 8 ≤ bMo M0 2 t s / 8) (ha := inferInstance) (z := (25, s + 1))
        generalize fS M0 P n t L1 (oN (¬ bMo M0 9 t s / 8 ≤ bMo M0 2 t s / 8) (25, s + 1)) = L2 at *
        have B2 := mBd_ag B1 a2
        have R2 := mRl_ag a2 R1
        refine c57_26 h2 h9 B2 R2 hr ht hs l2 (by omega) hm2 hm9 (fun M3 l3 a3 => ?_)
        have b3 := fS_le1 (M0 := M0) (P := P) (n := n) (t := t) (L := L2) (a := (andNot (bMo M0 2 t s % 8) (bMo M0 9 t s % 8) ||| andNot (bMo M0 9 t s % 8) (bMo M0 2 t s % 8)).testBit 0 = true) (ha := inferInstance) (z := (26, s + 1))
        generalize fS M0 P n t L2 (oN ((andNot (bMo M0 2 t s % 8) (bMo M0 9 t s % 8) ||| andNot (bMo M0 9 t s % 8) (bMo M0 2 t s % 8)).testBit 0 = true) (26, s + 1)) = L3 at *
        have B3 := mBd_ag B2 a3
        have R3 := mRl_ag a3 R2
        refine c57_27 h2 h9 B3 R3 hr ht hs l3 (by omega) hm2 hm9 (fun M4 l4 a4 => ?_)
        have b4 := fS_le1 (M0 := M0) (P := P) (n := n) (t := t) (L := L3) (a := (andNot (bMo M0 9 t s % 8) (bMo M0 2 t s % 8)).testBit 2 = true) (ha := inferInstance) (z := (27, s + 1))
        generalize fS M0 P n t L3 (oN ((andNot (bMo M0 9 t s % 8) (bMo M0 2 t s % 8)).testBit 2 = true) (27, s + 1)) = L4 at *
        have b5 := fS_le1 (M0 := M0) (P := P) (n := n) (t := t) (L := L4) (a := (andNot (bMo M0 2 t s % 8) (bMo M0 9 t s % 8)).testBit 2 = true) (ha := inferInstance) (z := (27 + 1, s + 1))
        have e28 : (27 + 1 : Nat) = 28 := rfl
        rw [e28] at l4 b5
        generalize fS M0 P n t L4 (oN ((andNot (bMo M0 2 t s % 8) (bMo M0 9 t s % 8)).testBit 2 = true) (28, s + 1)) = L5 at *
        have B4 := mBd_ag B3 a4
        have R4 := mRl_ag a4 R3
        simp only [r57_217, r57_219, h7, not_true_eq_false, not_false_eq_true, if_false]
        refine c57_29 h2 h9 B4 R4 hr ht hs l4 (by omega) hm2 hm9 (fun M5 l5 a5 => ?_)
        simp only [r57_234]
        exact ⟨rfl, M5, rfl, l5, agS_t a1 (agS_t a2 (agS_t a3 (agS_t a4 a5)))⟩
      · have h7 : (v7 = 0) = True := eq_true (by rw [e7, if_pos (by omega)]; decide)
        have hs12 : s < 12 := by omega
        rw [if_neg hm]
        simp only [fS_a]
        refine c57_22 h2 h9 hB hR hr ht hs hl (by omega) hm2 hm9 (fun M1 l1 a1 => ?_)
        have b1 := fS_le1 (M0 := M0) (P := P) (n := n) (t := t) (L := L) (a := ¬ bMo M0 2 t s / 8 ≤ bMo M0 9 t s / 8) (ha := inferInstance) (z := (22, s + 1))
        generalize fS M0 P n t L (oN (¬ bMo M0 2 t s / 8 ≤ bMo M0 9 t s / 8) (22, s + 1)) = L1 at *
        have B1 := mBd_ag hB a1
        have R1 := mRl_ag a1 hR
        refine c57_25 h2 h9 B1 R1 hr ht hs l1 (by omega) hm2 hm9 (fun M2 l2 a2 => ?_)
        have b2 := fS_le1 (M0 := M0) (P := P) (n := n) (t := t) (L := L1) (a := ¬ bMo M0 9 t s / 8 ≤ bMo M0 2 t s / 8) (ha := inferInstance) (z := (25, s + 1))
        generalize fS M0 P n t L1 (oN (¬ bMo M0 9 t s / 8 ≤ bMo M0 2 t s / 8) (25, s + 1)) = L2 at *
        have B2 := mBd_ag B1 a2
        have R2 := mRl_ag a2 R1
        refine c57_26 h2 h9 B2 R2 hr ht hs l2 (by omega) hm2 hm9 (fun M3 l3 a3 => ?_)
        have b3 := fS_le1 (M0 := M0) (P := P) (n := n) (t := t) (L := L2) (a := (andNot (bMo M0 2 t s % 8) (bMo M0 9 t s % 8) ||| andNot (bMo M0 9 t s % 8) (bMo M0 2 t s % 8)).testBit 0 = true) (ha := inferInstance) (z := (26, s + 1))
        generalize fS M0 P n t L2 (oN ((andNot (bMo M0 2 t s % 8) (bMo M0 9 t s % 8) ||| andNot (bMo M0 9 t s % 8) (bMo M0 2 t s % 8)).testBit 0 = true) (26, s + 1)) = L3 at *
        have B3 := mBd_ag B2 a3
        have R3 := mRl_ag a3 R2
        refine c57_27 h2 h9 B3 R3 hr ht hs l3 (by omega) hm2 hm9 (fun M4 l4 a4 => ?_)
        have b4 := fS_le1 (M0 := M0) (P := P) (n := n) (t := t) (L := L3) (a := (andNot (bMo M0 9 t s % 8) (bMo M0 2 t s % 8)).testBit 2 = true) (ha := inferInstance) (z := (27, s + 1))
        generalize fS M0 P n t L3 (oN ((andNot (bMo M0 9 t s % 8) (bMo M0 2 t s % 8)).testBit 2 = true) (27, s + 1)) = L4 at *
        have b5 := fS_le1 (M0 := M0) (P := P) (n := n) (t := t) (L := L4) (a := (andNot (bMo M0 2 t s % 8) (bMo M0 9 t s % 8)).testBit 2 = true) (ha := inferInstance) (z := (27 + 1, s + 1))
        have e28 : (27 + 1 : Nat) = 28 := rfl
        rw [e28] at l4 b5
        generalize fS M0 P n t L4 (oN ((andNot (bMo M0 2 t s % 8) (bMo M0 9 t s % 8)).testBit 2 = true) (28, s + 1)) = L5 at *
        have B4 := mBd_ag B3 a4
        have R4 := mRl_ag a4 R3
        have esub : nI (12 * t + (s + 1)) - nI 1 = nI (12 * t + s) := pk_sub (by omega)
        simp only [r57_217, r57_219, h7, not_true_eq_false, not_false_eq_true, if_true, r57_235, r57_237, r57_238, r57_239, r57_240, r57_241, r57_242, r57_243, r57_245, r57_247, r57_249, r57_250, pk_mul, nI_add, esub, am_ndI, am_ndL]
        refine c57_31 h2 h9 B4 R4 hr ht hs l4 (by omega) w0.2.1 i0.2.1 hs12 (hxx hs12) (fun M5 l5 a5 => ?_)
        have b6 := fS_le1 (M0 := M0) (P := P) (n := n) (t := t) (L := L5) (a := (bVa M0 2 t).testBit s = true ∧ (bVa M0 9 t).testBit s = true ∧ cdP (D 8 (t * 12 + s)) (D 15 (t * 12 + s))) (ha := inferInstance) (z := (31, s + 1))
        generalize fS M0 P n t L5 (oN ((bVa M0 2 t).testBit s = true ∧ (bVa M0 9 t).testBit s = true ∧ cdP (D 8 (t * 12 + s)) (D 15 (t * 12 + s))) (31, s + 1)) = L6 at *
        have B5 := mBd_ag B4 a5
        have R5 := mRl_ag a5 R4
        refine c57_32 h2 h9 B5 R5 hr ht hs l5 (by omega) w0.2.1 i0.2.1 hs12 (fun M6 l6 a6 => ?_)
        have b7 := fS_le1 (M0 := M0) (P := P) (n := n) (t := t) (L := L6) (a := (bVa M0 2 t).testBit s = true ∧ ¬ (bVa M0 9 t).testBit s = true) (ha := inferInstance) (z := (32, s + 1))
        generalize fS M0 P n t L6 (oN ((bVa M0 2 t).testBit s = true ∧ ¬ (bVa M0 9 t).testBit s = true) (32, s + 1)) = L7 at *
        have B6 := mBd_ag B5 a6
        have R6 := mRl_ag a6 R5
        refine c57_33 h2 h9 B6 R6 hr ht hs l6 (by omega) w0.2.1 i0.2.1 hs12 (fun M7 l7 a7 => ?_)
        simp only [r57_354]
        exact ⟨rfl, M7, rfl, l7, agS_t a1 (agS_t a2 (agS_t a3 (agS_t a4 (agS_t a5 (agS_t a6 a7)))))⟩
    · have e : cmL M0 D t s = oN (¬ bHas M0 9 t s ∧ ¬ inB M0 t s 8 0 = true) (20, s + 1) ++ oN (¬ bHas M0 9 t s ∧ inB M0 t s 8 0 = true) (21, s + 1) ++ oN (bHas M0 9 t s) (22, s + 1) := by unfold cmL; rw [if_pos w0, if_neg i0]
      rw [e, fS_a, fS_a]
      have tail : ∀ (x4 : Int32) (c : Nat), 1 ≤ c → c < 34 → (c ≤ 11 ∨ 20 ≤ c) → RR 57 97 [.ref 49, .int (nI t), .int (nI (s + 1)), .int (nI (bMo M0 2 t s)), .int (x4), .int (nI 1), .int (nI 0), .int v7, .long 0, .long 0] [.int (nI c), .ref 49] (SH, (0, 0, sl), M, D, RF) (mPo M D sl (stE M0 P n L (c, t, s + 1))) := by
        intro x4 c c1 c2 hv
        simp only [r57_97, r57_98, r57_99, am_cat0, am_catI, am_catR, am_catD, am_ndI, am_ndR, am_ndL, va_rfS, true_and, and_true, Option.toList_some, Option.toList_none, List.cons_append, List.nil_append, Nat.reduceAdd, Nat.reduceLeDiff, Nat.zero_add, Nat.le_refl, so49]
        refine RR.imp (c53 h2 h9 hB hR hr c1 c2 ht (by omega) hv hl (by omega)) ?_
        rintro rv μ' ⟨rfl, M', rfl, h3, h4⟩
        simp only [r57_102, r57_104, r57_107, r57_109, r57_112, r57_113, r57_115, r57_118, r57_120, r57_121, r57_122, r57_125, r57_127, r57_130, r57_132, r57_133, r57_134, r57_137, r57_139, r57_142, r57_144, r57_147, am_cat0, am_catI, am_catR, am_catD, am_ndI, am_ndR, am_ndL, va_rfS, true_and, and_true, Option.toList_some, Option.toList_none, List.cons_append, List.nil_append, Nat.reduceAdd, Nat.reduceLeDiff, Nat.zero_add, Nat.le_refl, nI1_0, nI0_0, not_true_eq_false, not_false_eq_true, if_true, if_false]
        exact ⟨rfl, M', rfl, h3, h4⟩
      by_cases k0 : bHas M0 9 t s
      · have eC : M0 13 (t * 24 + s) = nI (bMo M0 9 t s) := bMo_e M0 9 t s
        have hm9 := bMo_lt h9 ht hs k0
        have ge : ¬ nI (bMo M0 9 t s) < 0 := nI_pos (by omega)
        rw [fS_0 (a := ¬ bHas M0 9 t s ∧ ¬ inB M0 t s 8 0 = true) (fun z => z.1 k0), fS_0 (a := ¬ bHas M0 9 t s ∧ inB M0 t s 8 0 = true) (fun z => z.1 k0), fS_1 (a := bHas M0 9 t s) k0]
        have h := tail (nI (bMo M0 9 t s)) 22 (by decide) (by decide) (by decide)
        rw [c57a h2 h9 hB ht hs eA eC (bN_t w0) (bN_f i0) e7]
        simp only [r57_56, r57_58, r57_61, r57_63, r57_66, r57_67, r57_69, r57_72, r57_74, r57_77, r57_78, r57_79, r57_80, r57_81, r57_83, r57_84, r57_87, r57_90, r57_92, r57_95, am_cat0, am_catI, am_catR, am_catD, am_ndI, am_ndR, am_ndL, va_rfS, true_and, and_true, Option.toList_some, Option.toList_none, List.cons_append, List.nil_append, Nat.reduceAdd, Nat.reduceLeDiff, Nat.zero_add, Nat.le_refl, nI1_0, nI0_0, ge, not_true_eq_false, not_false_eq_true, if_true, if_false]
        exact h
      · have eC : M0 13 (t * 24 + s) = -1 := Decidable.not_not.mp k0
        have ge : (-1 : Int32) < 0 := by decide
        have hI := fun Q => c58 (Q := Q) (sl := sl) h2 h9 (fun t ht => hB 1 (by decide) t ht) ht hs w0.2.1 hth
        rw [fS_0 (a := bHas M0 9 t s) k0]
        by_cases j0 : inB M0 t s 8 0 = true
        · rw [fS_0 (a := ¬ bHas M0 9 t s ∧ ¬ inB M0 t s 8 0 = true) (fun z => z.2 j0), fS_1 (a := ¬ bHas M0 9 t s ∧ inB M0 t s 8 0 = true) ⟨k0, j0⟩]
          have h := tail (-1) 21 (by decide) (by decide) (by decide)
          rw [c57a h2 h9 hB ht hs eA eC (bN_t w0) (bN_f i0) e7]
          simp (disch := omega) only [r57_56, r57_58, r57_61, r57_63, r57_66, r57_67, r57_69, r57_72, r57_74, r57_77, r57_78, r57_79, r57_80, r57_81, r57_83, r57_84, r57_87, r57_90, r57_92, r57_95, am_cat0, am_catI, am_catR, am_catD, am_ndI, am_ndR, am_ndL, va_rfS, true_and, and_true, Option.toList_some, Option.toList_none, List.cons_append, List.nil_append, Nat.reduceAdd, Nat.reduceLeDiff, Nat.zero_add, Nat.le_refl, so49, e8n, nx_dv, hI, bN_0, nI1_0, nI0_0, j0, ge, not_true_eq_false, not_false_eq_true, if_true, if_false]
          exact h
        · rw [fS_1 (a := ¬ bHas M0 9 t s ∧ ¬ inB M0 t s 8 0 = true) ⟨k0, j0⟩, fS_0 (a := ¬ bHas M0 9 t s ∧ inB M0 t s 8 0 = true) (fun z => j0 z.2)]
          have h := tail (-1) 20 (by decide) (by decide) (by decide)
          rw [c57a h2 h9 hB ht hs eA eC (bN_t w0) (bN_f i0) e7]
          simp (disch := omega) only [r57_56, r57_58, r57_61, r57_63, r57_66, r57_67, r57_69, r57_72, r57_74, r57_77, r57_78, r57_79, r57_80, r57_81, r57_83, r57_84, r57_87, r57_90, r57_92, r57_95, am_cat0, am_catI, am_catR, am_catD, am_ndI, am_ndR, am_ndL, va_rfS, true_and, and_true, Option.toList_some, Option.toList_none, List.cons_append, List.nil_append, Nat.reduceAdd, Nat.reduceLeDiff, Nat.zero_add, Nat.le_refl, so49, e8n, nx_dv, hI, bN_0, nI1_0, nI0_0, j0, Bool.false_eq_true, ge, not_true_eq_false, not_false_eq_true, if_true, if_false]
          exact h
  · by_cases i0 : bSh M0 9 t s
    · have hm9 := bMo_lt h9 ht hs i0.2.1
      have eC : M0 13 (t * 24 + s) = nI (bMo M0 9 t s) := bMo_e M0 9 t s
      have e : cmL M0 D t s = [(if 12 ≤ s ∧ (bMo M0 9 t s % 8).testBit 1 = true then 24 else 23, s + 1)] := by unfold cmL; rw [if_neg w0, if_pos i0]
      rw [e, c57a h2 h9 hB ht hs rfl eC (bN_f w0) (bN_t i0) e7]
      have tail : ∀ (c : Nat), 1 ≤ c → c < 34 → (c ≤ 11 ∨ 20 ≤ c) → RR 57 132 [.ref 49, .int (nI t), .int (nI (s + 1)), .int (M0 6 (t * 24 + s)), .int (nI (bMo M0 9 t s)), .int (nI 0), .int (nI 1), .int v7, .long 0, .long 0] [.int (nI c), .ref 49] (SH, (0, 0, sl), M, D, RF) (mPo M D sl (stE M0 P n L (c, t, s + 1))) := by
        intro c c1 c2 hv
        simp only [r57_132, r57_133, r57_134, am_cat0, am_catI, am_catR, am_catD, am_ndI, am_ndR, am_ndL, va_rfS, true_and, and_true, Option.toList_some, Option.toList_none, List.cons_append, List.nil_append, Nat.reduceAdd, Nat.reduceLeDiff, Nat.zero_add, Nat.le_refl, so49]
        refine RR.imp (c53 h2 h9 hB hR hr c1 c2 ht (by omega) hv hl (by omega)) ?_
        rintro rv μ' ⟨rfl, M', rfl, h3, h4⟩
        simp only [r57_137, r57_139, r57_142, r57_144, r57_147, am_cat0, am_catI, am_catR, am_catD, am_ndI, am_ndR, am_ndL, va_rfS, true_and, and_true, Option.toList_some, Option.toList_none, List.cons_append, List.nil_append, Nat.reduceAdd, Nat.reduceLeDiff, Nat.zero_add, Nat.le_refl, nI1_0, nI0_0, not_true_eq_false, not_false_eq_true, if_true, if_false]
        exact ⟨rfl, M', rfl, h3, h4⟩
      by_cases m0 : 12 ≤ s
      · have h7 : (v7 = 0) = False := eq_false (by rw [e7, if_neg (by omega)]; decide)
        by_cases f0 : (bMo M0 9 t s % 8).testBit 1 = true
        · have f1 : ((bMo M0 9 t s).testBit 1 = false) = False := eq_false (by rw [← md8 (by decide), f0]; decide)
          rw [if_pos ⟨m0, f0⟩]
          have h := tail 24 (by decide) (by decide) (by decide)
          simp (disch := omega) only [r57_56, r57_58, r57_61, r57_63, r57_102, r57_104, r57_107, r57_109, r57_112, r57_113, r57_115, r57_118, r57_120, r57_121, r57_122, r57_125, r57_127, r57_130, am_cat0, am_catI, am_catR, am_catD, am_ndI, am_ndR, am_ndL, va_rfS, true_and, and_true, Option.toList_some, Option.toList_none, List.cons_append, List.nil_append, Nat.reduceAdd, Nat.reduceLeDiff, Nat.zero_add, Nat.le_refl, nI1_0, nI0_0, h7, nx_t2, f1, not_true_eq_false, not_false_eq_true, if_true, if_false]
          exact h
        · have f1 : ((bMo M0 9 t s).testBit 1 = false) = True := eq_true (by rw [← md8 (by decide)]; simpa using f0)
          rw [if_neg (fun z => f0 z.2)]
          have h := tail 23 (by decide) (by decide) (by decide)
          simp (disch := omega) only [r57_56, r57_58, r57_61, r57_63, r57_102, r57_104, r57_107, r57_109, r57_112, r57_113, r57_115, r57_118, r57_120, r57_121, r57_122, r57_125, r57_127, r57_130, am_cat0, am_catI, am_catR, am_catD, am_ndI, am_ndR, am_ndL, va_rfS, true_and, and_true, Option.toList_some, Option.toList_none, List.cons_append, List.nil_append, Nat.reduceAdd, Nat.reduceLeDiff, Nat.zero_add, Nat.le_refl, nI1_0, nI0_0, h7, nx_t2, f1, not_true_eq_false, not_false_eq_true, if_true, if_false]
          exact h
      · have h7 : (v7 = 0) = True := eq_true (by rw [e7, if_pos (by omega)]; decide)
        rw [if_neg (fun z => m0 z.1)]
        have h := tail 23 (by decide) (by decide) (by decide)
        simp (disch := omega) only [r57_56, r57_58, r57_61, r57_63, r57_102, r57_104, r57_107, r57_109, r57_112, r57_113, r57_115, r57_118, r57_120, r57_121, r57_122, r57_125, r57_127, r57_130, am_cat0, am_catI, am_catR, am_catD, am_ndI, am_ndR, am_ndL, va_rfS, true_and, and_true, Option.toList_some, Option.toList_none, List.cons_append, List.nil_append, Nat.reduceAdd, Nat.reduceLeDiff, Nat.zero_add, Nat.le_refl, nI1_0, nI0_0, h7, not_true_eq_false, not_false_eq_true, if_true, if_false]
        exact h
    · have e : cmL M0 D t s = [] := by unfold cmL; rw [if_neg w0, if_neg i0]
      rw [e, c57a h2 h9 hB ht hs rfl rfl (bN_f w0) (bN_f i0) e7]
      simp only [r57_56, r57_58, r57_61, r57_63, r57_66, r57_67, r57_69, r57_72, r57_74, r57_77, r57_78, r57_79, r57_80, r57_81, r57_83, r57_84, r57_87, r57_90, r57_92, r57_95, r57_97, r57_98, r57_99, r57_102, r57_104, r57_107, r57_109, r57_112, r57_113, r57_115, r57_118, r57_120, r57_121, r57_122, r57_125, r57_127, r57_130, r57_132, r57_133, r57_134, r57_137, r57_139, r57_142, r57_144, r57_147, am_cat0, am_catI, am_catR, am_catD, am_ndI, am_ndR, am_ndL, va_rfS, true_and, and_true, Option.toList_some, Option.toList_none, List.cons_append, List.nil_append, Nat.reduceAdd, Nat.reduceLeDiff, Nat.zero_add, Nat.le_refl, nI1_0, nI0_0, not_true_eq_false, not_false_eq_true, if_true, if_false]
      exact ⟨rfl, M, rfl, hl, agS_r M⟩
end CN
