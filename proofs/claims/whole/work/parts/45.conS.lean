/-! THE MODEL: compare, make -/
section CN
variable {Q : Option Value → amM → Prop} {μ : amM} {S : List (Nat ⊕ (Nat × Nat))} {M : Nat → Nat → Int32} {D : Nat → Nat → UInt64} {F : Nat → Nat → Option Nat} {sl : Nat}
variable {M0 : Nat → Nat → Int32}
theorem c56_4 {t n : Nat} {P : Nat → List Nat} {L : List En} {v2 v3 v4 v5 v6 : Value} (h2 : bW M0 2) (h9 : bW M0 9) (hB : mBd M0 D M) (hR : mRl M0 M P n) (hr : rlW M0 P n) (ht : t < 8) (hl : lsM M L) (hL : L.length ≤ 1407) (k : ∀ M', lsM M' (fS M0 P n t L (oN (¬ bPk M0 2 t = bPk M0 9 t) (4, 0))) → agS M M' → RR 56 94 [.ref 49, .int (nI t), v2, v3, v4, v5, v6] [] (SH, (0, 0, sl), M', D, RF) Q) : RR 56 69 [.ref 49, .int (nI t), v2, v3, v4, v5, v6] [] (SH, (0, 0, sl), M, D, RF) Q := by
  obtain ⟨hp2, hf2, -, -⟩ := h2.2.1 t ht
  obtain ⟨hp9, hf9, -, -⟩ := h9.2.1 t ht
  have p0 : M 53 t = nI (bPk M0 2 t) := by
    have z := (hB 0 (by decide) t ht).2.1
    rw [show 8 * 0 + t = t by omega] at z
    exact z
  have p1 : M 53 (8 + t) = nI (bPk M0 9 t) := (hB 1 (by decide) t ht).2.1
  have f0 : M 52 t = nI (bFl M0 2 t) := by
    have z := (hB 0 (by decide) t ht).2.2.1
    rw [show 8 * 0 + t = t by omega] at z
    exact z
  have f1 : M 52 (8 + t) = nI (bFl M0 9 t) := (hB 1 (by decide) t ht).2.2.1
  by_cases g : ¬ bPk M0 2 t = bPk M0 9 t
  · rw [fS_1 g] at k
    have g' : (bPk M0 2 t = bPk M0 9 t) = False := eq_false (fun z => by exact g z)
    simp (disch := omega) only [r56_69, r56_70, r56_73, r56_74, r56_75, r56_76, r56_79, r56_81, r56_82, r56_83, r56_84, r56_87, r56_88, r56_89, r56_90, r56_91, am_cat0, am_catI, am_catR, am_catD, am_ndI, am_ndR, am_ndL, va_rfS, true_and, and_true, Option.toList_some, Option.toList_none, List.cons_append, List.nil_append, Nat.reduceAdd, Nat.reduceLeDiff, Nat.zero_add, Nat.le_refl, so49, sf49_2, sf49_3, sd52, sd53, am_bd, bd_n, nI_tn, nI_add, p0, p1, f0, f1, nx_imp, g', if_false]
    refine RR.imp (c53 h2 h9 hB hR hr (by decide) (by decide) ht (by omega) (by omega) hl hL) ?_
    rintro rv μ' ⟨rfl, M', rfl, h3, h4⟩
    simp only [am_cat0, am_catI, am_catR, am_catD, am_ndI, am_ndR, am_ndL, va_rfS, true_and, and_true, Option.toList_some, Option.toList_none, List.cons_append, List.nil_append, Nat.reduceAdd, Nat.reduceLeDiff, Nat.zero_add, Nat.le_refl]
    exact k M' h3 h4
  · rw [fS_0 g] at k
    have g' : (bPk M0 2 t = bPk M0 9 t) = True := eq_true (by exact Decidable.not_not.mp g)
    simp (disch := omega) only [r56_69, r56_70, r56_73, r56_74, r56_75, r56_76, r56_79, r56_81, r56_82, r56_83, r56_84, r56_87, r56_88, r56_89, r56_90, r56_91, am_cat0, am_catI, am_catR, am_catD, am_ndI, am_ndR, am_ndL, va_rfS, true_and, and_true, Option.toList_some, Option.toList_none, List.cons_append, List.nil_append, Nat.reduceAdd, Nat.reduceLeDiff, Nat.zero_add, Nat.le_refl, so49, sf49_2, sf49_3, sd52, sd53, am_bd, bd_n, nI_tn, nI_add, p0, p1, f0, f1, nx_imp, g', if_true]
    exact k M hl (agS_r M)
theorem c56_5 {t n : Nat} {P : Nat → List Nat} {L : List En} {v2 v3 v4 v5 v6 : Value} (h2 : bW M0 2) (h9 : bW M0 9) (hB : mBd M0 D M) (hR : mRl M0 M P n) (hr : rlW M0 P n) (ht : t < 8) (hl : lsM M L) (hL : L.length ≤ 1407) (k : ∀ M', lsM M' (fS M0 P n t L (oN ((andNot (bFl M0 2 t) (bFl M0 9 t) ||| andNot (bFl M0 9 t) (bFl M0 2 t)).testBit 1 = true) (5, 0))) → agS M M' → RR 56 122 [.ref 49, .int (nI t), v2, v3, v4, v5, v6] [] (SH, (0, 0, sl), M', D, RF) Q) : RR 56 94 [.ref 49, .int (nI t), v2, v3, v4, v5, v6] [] (SH, (0, 0, sl), M, D, RF) Q := by
  obtain ⟨hp2, hf2, -, -⟩ := h2.2.1 t ht
  obtain ⟨hp9, hf9, -, -⟩ := h9.2.1 t ht
  have p0 : M 53 t = nI (bPk M0 2 t) := by
    have z := (hB 0 (by decide) t ht).2.1
    rw [show 8 * 0 + t = t by omega] at z
    exact z
  have p1 : M 53 (8 + t) = nI (bPk M0 9 t) := (hB 1 (by decide) t ht).2.1
  have f0 : M 52 t = nI (bFl M0 2 t) := by
    have z := (hB 0 (by decide) t ht).2.2.1
    rw [show 8 * 0 + t = t by omega] at z
    exact z
  have f1 : M 52 (8 + t) = nI (bFl M0 9 t) := (hB 1 (by decide) t ht).2.2.1
  by_cases g : (andNot (bFl M0 2 t) (bFl M0 9 t) ||| andNot (bFl M0 9 t) (bFl M0 2 t)).testBit 1 = true
  · rw [fS_1 g] at k
    have g' : ((bFl M0 2 t ^^^ bFl M0 9 t).testBit 1 = false) = False := eq_false (fun z => by exact (xr_iff (by decide)).mp g z)
    simp (disch := omega) only [r56_94, r56_95, r56_98, r56_99, r56_100, r56_101, r56_104, r56_106, r56_107, r56_108, r56_109, r56_110, r56_111, r56_112, r56_115, r56_116, r56_117, r56_118, r56_119, am_cat0, am_catI, am_catR, am_catD, am_ndI, am_ndR, am_ndL, va_rfS, true_and, and_true, Option.toList_some, Option.toList_none, List.cons_append, List.nil_append, Nat.reduceAdd, Nat.reduceLeDiff, Nat.zero_add, Nat.le_refl, so49, sf49_2, sf49_3, sd52, sd53, am_bd, bd_n, nI_tn, nI_add, p0, p1, f0, f1, nx_xor, nx_t2 (Nat.lt_of_lt_of_le (Nat.xor_lt_two_pow (n := 4) hf2 hf9) (by decide)), g', if_false]
    refine RR.imp (c53 h2 h9 hB hR hr (by decide) (by decide) ht (by omega) (by omega) hl hL) ?_
    rintro rv μ' ⟨rfl, M', rfl, h3, h4⟩
    simp only [am_cat0, am_catI, am_catR, am_catD, am_ndI, am_ndR, am_ndL, va_rfS, true_and, and_true, Option.toList_some, Option.toList_none, List.cons_append, List.nil_append, Nat.reduceAdd, Nat.reduceLeDiff, Nat.zero_add, Nat.le_refl]
    exact k M' h3 h4
  · rw [fS_0 g] at k
    have g' : ((bFl M0 2 t ^^^ bFl M0 9 t).testBit 1 = false) = True := eq_true (by exact Decidable.not_not.mp (fun z => g ((xr_iff (by decide)).mpr z)))
    simp (disch := omega) only [r56_94, r56_95, r56_98, r56_99, r56_100, r56_101, r56_104, r56_106, r56_107, r56_108, r56_109, r56_110, r56_111, r56_112, r56_115, r56_116, r56_117, r56_118, r56_119, am_cat0, am_catI, am_catR, am_catD, am_ndI, am_ndR, am_ndL, va_rfS, true_and, and_true, Option.toList_some, Option.toList_none, List.cons_append, List.nil_append, Nat.reduceAdd, Nat.reduceLeDiff, Nat.zero_add, Nat.le_refl, so49, sf49_2, sf49_3, sd52, sd53, am_bd, bd_n, nI_tn, nI_add, p0, p1, f0, f1, nx_xor, nx_t2 (Nat.lt_of_lt_of_le (Nat.xor_lt_two_pow (n := 4) hf2 hf9) (by decide)), g', if_true]
    exact k M hl (agS_r M)
theorem c56_6 {t n : Nat} {P : Nat → List Nat} {L : List En} {v2 v3 v4 v5 v6 : Value} (h2 : bW M0 2) (h9 : bW M0 9) (hB : mBd M0 D M) (hR : mRl M0 M P n) (hr : rlW M0 P n) (ht : t < 8) (hl : lsM M L) (hL : L.length ≤ 1407) (k : ∀ M', lsM M' (fS M0 P n t (fS M0 P n t L (oN ((andNot (bFl M0 9 t) (bFl M0 2 t)).testBit 2 = true) (6, 0))) (oN ((andNot (bFl M0 2 t) (bFl M0 9 t)).testBit 2 = true) (6 + 1, 0))) → agS M M' → RR 56 146 [.ref 49, .int (nI t), v2, v3, v4, v5, v6] [] (SH, (0, 0, sl), M', D, RF) Q) : RR 56 122 [.ref 49, .int (nI t), v2, v3, v4, v5, v6] [] (SH, (0, 0, sl), M, D, RF) Q := by
  obtain ⟨hp2, hf2, -, -⟩ := h2.2.1 t ht
  obtain ⟨hp9, hf9, -, -⟩ := h9.2.1 t ht
  have p0 : M 53 t = nI (bPk M0 2 t) := by
    have z := (hB 0 (by decide) t ht).2.1
    rw [show 8 * 0 + t = t by omega] at z
    exact z
  have p1 : M 53 (8 + t) = nI (bPk M0 9 t) := (hB 1 (by decide) t ht).2.1
  have f0 : M 52 t = nI (bFl M0 2 t) := by
    have z := (hB 0 (by decide) t ht).2.2.1
    rw [show 8 * 0 + t = t by omega] at z
    exact z
  have f1 : M 52 (8 + t) = nI (bFl M0 9 t) := (hB 1 (by decide) t ht).2.2.1
  rw [← fS_a] at k
  simp (disch := omega) only [r56_122, r56_123, r56_124, r56_127, r56_128, r56_129, r56_130, r56_133, r56_135, r56_136, r56_137, r56_138, r56_139, r56_141, r56_142, r56_143, am_cat0, am_catI, am_catR, am_catD, am_ndI, am_ndR, am_ndL, va_rfS, true_and, and_true, Option.toList_some, Option.toList_none, List.cons_append, List.nil_append, Nat.reduceAdd, Nat.reduceLeDiff, Nat.zero_add, Nat.le_refl, so49, sf49_2, sf49_3, sd52, sd53, am_bd, bd_n, nI_tn, nI_add, p0, p1, f0, f1]
  refine RR.imp (c54 (da := inferInstance) (db := inferInstance) (k := 2) (a := (andNot (bFl M0 9 t) (bFl M0 2 t)).testBit 2 = true) (b := (andNot (bFl M0 2 t) (bFl M0 9 t)).testBit 2 = true) h2 h9 hB hR hr (by decide) (by decide) ht (by omega) (by omega) hl hL (by omega) (by omega) (by decide) ((an_iff (by decide)).trans ⟨fun z => ⟨z.2, z.1⟩, fun z => ⟨z.2, z.1⟩⟩) (an_iff (by decide))) ?_
  rintro rv μ' ⟨rfl, M', rfl, h3, h4⟩
  simp only [am_cat0, am_catI, am_catR, am_catD, am_ndI, am_ndR, am_ndL, va_rfS, true_and, and_true, Option.toList_some, Option.toList_none, List.cons_append, List.nil_append, Nat.reduceAdd, Nat.reduceLeDiff, Nat.zero_add, Nat.le_refl]
  exact k M' h3 h4
theorem c56_8 {t n : Nat} {P : Nat → List Nat} {L : List En} {v2 v3 v4 v5 v6 : Value} (h2 : bW M0 2) (h9 : bW M0 9) (hB : mBd M0 D M) (hR : mRl M0 M P n) (hr : rlW M0 P n) (ht : t < 8) (hl : lsM M L) (hL : L.length ≤ 1407) (k : ∀ M', lsM M' (fS M0 P n t (fS M0 P n t L (oN ((andNot (bFl M0 9 t) (bFl M0 2 t)).testBit 3 = true) (8, 0))) (oN ((andNot (bFl M0 2 t) (bFl M0 9 t)).testBit 3 = true) (8 + 1, 0))) → agS M M' → RR 56 171 [.ref 49, .int (nI t), v2, v3, v4, v5, v6] [] (SH, (0, 0, sl), M', D, RF) Q) : RR 56 146 [.ref 49, .int (nI t), v2, v3, v4, v5, v6] [] (SH, (0, 0, sl), M, D, RF) Q := by
  obtain ⟨hp2, hf2, -, -⟩ := h2.2.1 t ht
  obtain ⟨hp9, hf9, -, -⟩ := h9.2.1 t ht
  have p0 : M 53 t = nI (bPk M0 2 t) := by
    have z := (hB 0 (by decide) t ht).2.1
    rw [show 8 * 0 + t = t by omega] at z
    exact z
  have p1 : M 53 (8 + t) = nI (bPk M0 9 t) := (hB 1 (by decide) t ht).2.1
  have f0 : M 52 t = nI (bFl M0 2 t) := by
    have z := (hB 0 (by decide) t ht).2.2.1
    rw [show 8 * 0 + t = t by omega] at z
    exact z
  have f1 : M 52 (8 + t) = nI (bFl M0 9 t) := (hB 1 (by decide) t ht).2.2.1
  rw [← fS_a] at k
  simp (disch := omega) only [r56_146, r56_147, r56_148, r56_151, r56_152, r56_153, r56_154, r56_157, r56_159, r56_160, r56_161, r56_162, r56_164, r56_166, r56_167, r56_168, am_cat0, am_catI, am_catR, am_catD, am_ndI, am_ndR, am_ndL, va_rfS, true_and, and_true, Option.toList_some, Option.toList_none, List.cons_append, List.nil_append, Nat.reduceAdd, Nat.reduceLeDiff, Nat.zero_add, Nat.le_refl, so49, sf49_2, sf49_3, sd52, sd53, am_bd, bd_n, nI_tn, nI_add, p0, p1, f0, f1]
  refine RR.imp (c54 (da := inferInstance) (db := inferInstance) (k := 3) (a := (andNot (bFl M0 9 t) (bFl M0 2 t)).testBit 3 = true) (b := (andNot (bFl M0 2 t) (bFl M0 9 t)).testBit 3 = true) h2 h9 hB hR hr (by decide) (by decide) ht (by omega) (by omega) hl hL (by omega) (by omega) (by decide) ((an_iff (by decide)).trans ⟨fun z => ⟨z.2, z.1⟩, fun z => ⟨z.2, z.1⟩⟩) (an_iff (by decide))) ?_
  rintro rv μ' ⟨rfl, M', rfl, h3, h4⟩
  simp only [am_cat0, am_catI, am_catR, am_catD, am_ndI, am_ndR, am_ndL, va_rfS, true_and, and_true, Option.toList_some, Option.toList_none, List.cons_append, List.nil_append, Nat.reduceAdd, Nat.reduceLeDiff, Nat.zero_add, Nat.le_refl]
  exact k M' h3 h4
theorem c56_10 {t n : Nat} {P : Nat → List Nat} {L : List En} {v2 v3 v6 : Value} (h2 : bW M0 2) (h9 : bW M0 9) (hB : mBd M0 D M) (hR : mRl M0 M P n) (hr : rlW M0 P n) (ht : t < 8) (hl : lsM M L) (hL : L.length ≤ 1407) (k : ∀ M', lsM M' (fS M0 P n t L (oN (¬ andNot (bSa M0 2 t) (bAb M0 9 t) = 0) (10, 0))) → agS M M' → RR 56 210 [.ref 49, .int (nI t), v2, v3, .int (nI (bAb M0 2 t)), .int (nI (bAb M0 9 t)), v6] [] (SH, (0, 0, sl), M', D, RF) Q) : RR 56 187 [.ref 49, .int (nI t), v2, v3, .int (nI (bAb M0 2 t)), .int (nI (bAb M0 9 t)), v6] [] (SH, (0, 0, sl), M, D, RF) Q := by
  have s0 := fun Q => (show RR 55 0 [.ref 49, .int (nI 0), .int (nI (bAb M0 2 t)), .long 0, .long 0] [] (SH, (0, 0, sl), M, D, RF) Q ↔ Q (some (.int (nI (bSa M0 2 t)))) (SH, (0, 0, sl), M, D, RF) from c55 (b := 0) (by decide) ht h2 (fun t ht => hB 0 (by decide) t ht))
  have s1 := fun Q => (show RR 55 0 [.ref 49, .int (nI 1), .int (nI (bAb M0 9 t)), .long 0, .long 0] [] (SH, (0, 0, sl), M, D, RF) Q ↔ Q (some (.int (nI (bSa M0 9 t)))) (SH, (0, 0, sl), M, D, RF) from c55 (b := 1) (by decide) ht h9 (fun t ht => hB 1 (by decide) t ht))
  have b1 : andNot (bSa M0 2 t) (bAb M0 9 t) < 256 := andNot_lt (Nat.lt_of_le_of_lt (bSa_le M0 2 8 0 _) (bAb_lt h2 ht))
  have b2 : andNot (bSa M0 9 t) (bAb M0 2 t) < 256 := andNot_lt (Nat.lt_of_le_of_lt (bSa_le M0 9 8 0 _) (bAb_lt h9 ht))
  by_cases g : ¬ andNot (bSa M0 2 t) (bAb M0 9 t) = 0
  · rw [fS_1 g] at k
    have g' : (andNot (bSa M0 2 t) (bAb M0 9 t) = 0) = False := eq_false (fun z => by exact g z)
    simp (disch := omega) only [r56_187, r56_188, r56_189, r56_191, r56_194, r56_196, r56_197, r56_198, r56_199, r56_202, r56_203, r56_205, r56_206, r56_207, am_cat0, am_catI, am_catR, am_catD, am_ndI, am_ndR, am_ndL, va_rfS, true_and, and_true, Option.toList_some, Option.toList_none, List.cons_append, List.nil_append, Nat.reduceAdd, Nat.reduceLeDiff, Nat.zero_add, Nat.le_refl, so49, s0, s1, nx_an, nx_0, g', if_false]
    refine RR.imp (c53 h2 h9 hB hR hr (by decide) (by decide) ht (by omega) (by omega) hl hL) ?_
    rintro rv μ' ⟨rfl, M', rfl, h3, h4⟩
    simp only [am_cat0, am_catI, am_catR, am_catD, am_ndI, am_ndR, am_ndL, va_rfS, true_and, and_true, Option.toList_some, Option.toList_none, List.cons_append, List.nil_append, Nat.reduceAdd, Nat.reduceLeDiff, Nat.zero_add, Nat.le_refl]
    exact k M' h3 h4
  · rw [fS_0 g] at k
    have g' : (andNot (bSa M0 2 t) (bAb M0 9 t) = 0) = True := eq_true (by exact Decidable.not_not.mp g)
    simp (disch := omega) only [r56_187, r56_188, r56_189, r56_191, r56_194, r56_196, r56_197, r56_198, r56_199, r56_202, r56_203, r56_205, r56_206, r56_207, am_cat0, am_catI, am_catR, am_catD, am_ndI, am_ndR, am_ndL, va_rfS, true_and, and_true, Option.toList_some, Option.toList_none, List.cons_append, List.nil_append, Nat.reduceAdd, Nat.reduceLeDiff, Nat.zero_add, Nat.le_refl, so49, s0, s1, nx_an, nx_0, g', if_true]
    exact k M hl (agS_r M)
theorem c56_11 {t n : Nat} {P : Nat → List Nat} {L : List En} {v2 v3 v6 : Value} (h2 : bW M0 2) (h9 : bW M0 9) (hB : mBd M0 D M) (hR : mRl M0 M P n) (hr : rlW M0 P n) (ht : t < 8) (hl : lsM M L) (hL : L.length ≤ 1407) (k : ∀ M', lsM M' (fS M0 P n t L (oN (¬ andNot (bSa M0 9 t) (bAb M0 2 t) = 0) (11, 0))) → agS M M' → RR 56 233 [.ref 49, .int (nI t), v2, v3, .int (nI (bAb M0 2 t)), .int (nI (bAb M0 9 t)), v6] [] (SH, (0, 0, sl), M', D, RF) Q) : RR 56 210 [.ref 49, .int (nI t), v2, v3, .int (nI (bAb M0 2 t)), .int (nI (bAb M0 9 t)), v6] [] (SH, (0, 0, sl), M, D, RF) Q := by
  have s0 := fun Q => (show RR 55 0 [.ref 49, .int (nI 0), .int (nI (bAb M0 2 t)), .long 0, .long 0] [] (SH, (0, 0, sl), M, D, RF) Q ↔ Q (some (.int (nI (bSa M0 2 t)))) (SH, (0, 0, sl), M, D, RF) from c55 (b := 0) (by decide) ht h2 (fun t ht => hB 0 (by decide) t ht))
  have s1 := fun Q => (show RR 55 0 [.ref 49, .int (nI 1), .int (nI (bAb M0 9 t)), .long 0, .long 0] [] (SH, (0, 0, sl), M, D, RF) Q ↔ Q (some (.int (nI (bSa M0 9 t)))) (SH, (0, 0, sl), M, D, RF) from c55 (b := 1) (by decide) ht h9 (fun t ht => hB 1 (by decide) t ht))
  have b1 : andNot (bSa M0 2 t) (bAb M0 9 t) < 256 := andNot_lt (Nat.lt_of_le_of_lt (bSa_le M0 2 8 0 _) (bAb_lt h2 ht))
  have b2 : andNot (bSa M0 9 t) (bAb M0 2 t) < 256 := andNot_lt (Nat.lt_of_le_of_lt (bSa_le M0 9 8 0 _) (bAb_lt h9 ht))
  by_cases g : ¬ andNot (bSa M0 9 t) (bAb M0 2 t) = 0
  · rw [fS_1 g] at k
    have g' : (andNot (bSa M0 9 t) (bAb M0 2 t) = 0) = False := eq_false (fun z => by exact g z)
    simp (disch := omega) only [r56_210, r56_211, r56_212, r56_214, r56_217, r56_219, r56_220, r56_221, r56_222, r56_225, r56_226, r56_228, r56_229, r56_230, am_cat0, am_catI, am_catR, am_catD, am_ndI, am_ndR, am_ndL, va_rfS, true_and, and_true, Option.toList_some, Option.toList_none, List.cons_append, List.nil_append, Nat.reduceAdd, Nat.reduceLeDiff, Nat.zero_add, Nat.le_refl, so49, s0, s1, nx_an, nx_0, g', if_false]
    refine RR.imp (c53 h2 h9 hB hR hr (by decide) (by decide) ht (by omega) (by omega) hl hL) ?_
    rintro rv μ' ⟨rfl, M', rfl, h3, h4⟩
    simp only [am_cat0, am_catI, am_catR, am_catD, am_ndI, am_ndR, am_ndL, va_rfS, true_and, and_true, Option.toList_some, Option.toList_none, List.cons_append, List.nil_append, Nat.reduceAdd, Nat.reduceLeDiff, Nat.zero_add, Nat.le_refl]
    exact k M' h3 h4
  · rw [fS_0 g] at k
    have g' : (andNot (bSa M0 9 t) (bAb M0 2 t) = 0) = True := eq_true (by exact Decidable.not_not.mp g)
    simp (disch := omega) only [r56_210, r56_211, r56_212, r56_214, r56_217, r56_219, r56_220, r56_221, r56_222, r56_225, r56_226, r56_228, r56_229, r56_230, am_cat0, am_catI, am_catR, am_catD, am_ndI, am_ndR, am_ndL, va_rfS, true_and, and_true, Option.toList_some, Option.toList_none, List.cons_append, List.nil_append, Nat.reduceAdd, Nat.reduceLeDiff, Nat.zero_add, Nat.le_refl, so49, s0, s1, nx_an, nx_0, g', if_true]
    exact k M hl (agS_r M)
theorem c56l {t n : Nat} {P : Nat → List Nat} {v2 v3 v4 : Value} {z5 : Int32} (h2 : bW M0 2) (h9 : bW M0 9) (hr : rlW M0 P n) (ht : t < 8) (hth : (bTh M0 9).testBit t = true) (hD : ∀ k, k < 96 → Op.cmpValue (FP.dcmp (D 8 k) (D 8 k)) .l = 0) : ∀ (j s : Nat) (M : Nat → Nat → Int32) (L : List En), s + j = 24 → mBd M0 D M → mRl M0 M P n → lsM M L → L.length + 4 * j ≤ 1390 → RR 56 236 [.ref 49, .int (nI t), v2, v3, v4, .int z5, .int (nI (s + 1))] [] (SH, (0, 0, sl), M, D, RF) (mPo M D sl (fS M0 P n t L (gT M0 D t j s))) := by
  intro j
  induction j with
  | zero =>
    intro s M L h hB hR hl hL
    have e : s = 24 := by omega
    subst e
    rw [r56_236]
    simp only [r56_238, r56_240, Nat.reduceAdd, Int32.le_refl, if_true, r56_256]
    exact ⟨rfl, M, rfl, hl, agS_r M⟩
  | succ j ih =>
    intro s M L h hB hR hl hL
    have hs : s < 24 := by omega
    have h25 : (nI 25 ≤ nI (s + 1)) = False := eq_false (by rw [nx_le (by decide) (by omega)]; omega)
    rw [r56_236, gT, fS_a]
    simp only [r56_238, r56_240, h25, if_false, r56_243, r56_244, r56_245, r56_247, am_cat0, am_catI, am_catR, am_catD, am_ndI, am_ndR, am_ndL, va_rfS, true_and, and_true, Option.toList_some, Option.toList_none, List.cons_append, List.nil_append, Nat.reduceAdd, Nat.reduceLeDiff, Nat.zero_add, Nat.le_refl, so49]
    refine RR.imp (c57 h2 h9 hB hR hr ht hs hl (by omega) hth (fun hs12 => hD _ (by omega))) ?_
    rintro rv μ' ⟨rfl, M1, rfl, l1, a1⟩
    simp only [r56_250, r56_253, am_cat0, am_catI, am_catR, am_catD, am_ndI, am_ndR, am_ndL, va_rfS, true_and, and_true, Option.toList_some, Option.toList_none, List.cons_append, List.nil_append, Nat.reduceAdd, Nat.reduceLeDiff, Nat.zero_add, Nat.le_refl, nI_add]
    have b1 := fS_le (M0 := M0) (P := P) (n := n) (t := t) (L := L) (G := cmL M0 D t s)
    have b2 := cm_len M0 D t s
    refine RR.imp (ih (s + 1) M1 _ (by omega) (mBd_ag hB a1) (mRl_ag a1 hR) l1 (by omega)) ?_
    intro rv μ' k
    exact mPo_ag a1 k
theorem c56 {t n : Nat} {P : Nat → List Nat} {L : List En} (h2 : bW M0 2) (h9 : bW M0 9) (hB : mBd M0 D M) (hR : mRl M0 M P n) (hr : rlW M0 P n) (ht : t < 8) (hl : lsM M L) (hL : L.length ≤ 1280) (hD : ∀ k, k < 96 → Op.cmpValue (FP.dcmp (D 8 k) (D 8 k)) .l = 0) : RR 56 0 [.ref 49, .int (nI t), .long 0, .long 0, .long 0, .long 0, .long 0] [] (SH, (0, 0, sl), M, D, RF) (mPo M D sl (fS M0 P n t L (gU M0 D t))) := by
  have z0 := fun Q => (show RR 49 0 [.ref 49, .int (nI 0), .int (nI t)] [] (SH, (0, 0, sl), M, D, RF) Q ↔ Q (some (.int (bN (bSeen M0 2 t)))) (SH, (0, 0, sl), M, D, RF) from c49 (b := 0) (by decide) ht h2 (hB 0 (by decide) t ht))
  have z1 := fun Q => (show RR 49 0 [.ref 49, .int (nI 1), .int (nI t)] [] (SH, (0, 0, sl), M, D, RF) Q ↔ Q (some (.int (bN (bSeen M0 9 t)))) (SH, (0, 0, sl), M, D, RF) from c49 (b := 1) (by decide) ht h9 (hB 1 (by decide) t ht))
  have hT : M 50 (8 + t) = bN ((bTh M0 9).testBit t = true) := (hB 1 (by decide) t ht).1
  simp only [r56_0, r56_1, r56_2, r56_3, r56_6, r56_7, r56_8, r56_9, r56_10, r56_13, am_cat0, am_catI, am_catR, am_catD, am_ndI, am_ndR, am_ndL, va_rfS, true_and, and_true, Option.toList_some, Option.toList_none, List.cons_append, List.nil_append, Nat.reduceAdd, Nat.reduceLeDiff, Nat.zero_add, Nat.le_refl, so49, z0, z1]
  by_cases w0 : bSeen M0 2 t
  · rw [bN_t w0]
    by_cases i0 : bSeen M0 9 t
    · rw [bN_t i0]
      have e : gU M0 D t = ctL M0 t ++ gT M0 D t 24 0 := by unfold gU; rw [if_pos ⟨w0, i0⟩]
      rw [e, fS_a]
      unfold ctL
      simp only [fS_a]
      simp only [r56_14, r56_15, r56_18, r56_19, r56_22, r56_23, r56_24, r56_27, r56_29, r56_30, r56_31, r56_32, r56_35, r56_36, r56_39, r56_40, r56_41, r56_42, r56_45, r56_46, r56_49, r56_50, r56_53, r56_54, r56_55, r56_56, r56_57, r56_60, r56_61, r56_64, r56_65, r56_68, nI1_0, nI0_0, not_true_eq_false, not_false_eq_true, if_true, if_false]
      refine c56_4 h2 h9 hB hR hr ht hl (by omega) (fun M1 l1 a1 => ?_)
      have b1 := fS_le1 (M0 := M0) (P := P) (n := n) (t := t) (L := L) (a := ¬ bPk M0 2 t = bPk M0 9 t) (ha := inferInstance) (z := (4, 0))
      generalize fS M0 P n t L (oN (¬ bPk M0 2 t = bPk M0 9 t) (4, 0)) = L1 at *
      have B1 := mBd_ag hB a1
      have R1 := mRl_ag a1 hR
      refine c56_5 h2 h9 B1 R1 hr ht l1 (by omega) (fun M2 l2 a2 => ?_)
      have b2 := fS_le1 (M0 := M0) (P := P) (n := n) (t := t) (L := L1) (a := (andNot (bFl M0 2 t) (bFl M0 9 t) ||| andNot (bFl M0 9 t) (bFl M0 2 t)).testBit 1 = true) (ha := inferInstance) (z := (5, 0))
      generalize fS M0 P n t L1 (oN ((andNot (bFl M0 2 t) (bFl M0 9 t) ||| andNot (bFl M0 9 t) (bFl M0 2 t)).testBit 1 = true) (5, 0)) = L2 at *
      have B2 := mBd_ag B1 a2
      have R2 := mRl_ag a2 R1
      refine c56_6 h2 h9 B2 R2 hr ht l2 (by omega) (fun M3 l3 a3 => ?_)
      have e7 : (6 + 1 : Nat) = 7 := rfl
      have e9 : (8 + 1 : Nat) = 9 := rfl
      rw [e7] at l3
      have b3 := fS_le1 (M0 := M0) (P := P) (n := n) (t := t) (L := L2) (a := (andNot (bFl M0 9 t) (bFl M0 2 t)).testBit 2 = true) (ha := inferInstance) (z := (6, 0))
      generalize fS M0 P n t L2 (oN ((andNot (bFl M0 9 t) (bFl M0 2 t)).testBit 2 = true) (6, 0)) = L3 at *
      have b4 := fS_le1 (M0 := M0) (P := P) (n := n) (t := t) (L := L3) (a := (andNot (bFl M0 2 t) (bFl M0 9 t)).testBit 2 = true) (ha := inferInstance) (z := (7, 0))
      generalize fS M0 P n t L3 (oN ((andNot (bFl M0 2 t) (bFl M0 9 t)).testBit 2 = true) (7, 0)) = L4 at *
      have B3 := mBd_ag B2 a3
      have R3 := mRl_ag a3 R2
      refine c56_8 h2 h9 B3 R3 hr ht l3 (by omega) (fun M4 l4 a4 => ?_)
      rw [e9] at l4
      have b5 := fS_le1 (M0 := M0) (P := P) (n := n) (t := t) (L := L4) (a := (andNot (bFl M0 9 t) (bFl M0 2 t)).testBit 3 = true) (ha := inferInstance) (z := (8, 0))
      generalize fS M0 P n t L4 (oN ((andNot (bFl M0 9 t) (bFl M0 2 t)).testBit 3 = true) (8, 0)) = L5 at *
      have b6 := fS_le1 (M0 := M0) (P := P) (n := n) (t := t) (L := L5) (a := (andNot (bFl M0 2 t) (bFl M0 9 t)).testBit 3 = true) (ha := inferInstance) (z := (9, 0))
      generalize fS M0 P n t L5 (oN ((andNot (bFl M0 2 t) (bFl M0 9 t)).testBit 3 = true) (9, 0)) = L6 at *
      have B4 := mBd_ag B3 a4
      have R4 := mRl_ag a4 R3
      have y0 := fun Q => (show RR 51 0 [.ref 49, .int (nI 0), .int (nI t), .long 0, .long 0, .long 0, .long 0, .long 0] [] (SH, (0, 0, sl), M4, D, RF) Q ↔ Q (some (.int (nI (bAb M0 2 t)))) (SH, (0, 0, sl), M4, D, RF) from c51 (b := 0) (by decide) ht h2 (fun t ht => B4 0 (by decide) t ht) w0.1)
      have y1 := fun Q => (show RR 51 0 [.ref 49, .int (nI 1), .int (nI t), .long 0, .long 0, .long 0, .long 0, .long 0] [] (SH, (0, 0, sl), M4, D, RF) Q ↔ Q (some (.int (nI (bAb M0 9 t)))) (SH, (0, 0, sl), M4, D, RF) from c51 (b := 1) (by decide) ht h9 (fun t ht => B4 1 (by decide) t ht) i0.1)
      simp only [r56_171, r56_172, r56_173, r56_174, r56_177, r56_179, r56_180, r56_181, r56_182, r56_185, am_cat0, am_catI, am_catR, am_catD, am_ndI, am_ndR, am_ndL, va_rfS, true_and, and_true, Option.toList_some, Option.toList_none, List.cons_append, List.nil_append, Nat.reduceAdd, Nat.reduceLeDiff, Nat.zero_add, Nat.le_refl, so49, y0, y1]
      refine c56_10 h2 h9 B4 R4 hr ht l4 (by omega) (fun M5 l5 a5 => ?_)
      have b7 := fS_le1 (M0 := M0) (P := P) (n := n) (t := t) (L := L6) (a := ¬ andNot (bSa M0 2 t) (bAb M0 9 t) = 0) (ha := inferInstance) (z := (10, 0))
      generalize fS M0 P n t L6 (oN (¬ andNot (bSa M0 2 t) (bAb M0 9 t) = 0) (10, 0)) = L7 at *
      have B5 := mBd_ag B4 a5
      have R5 := mRl_ag a5 R4
      refine c56_11 h2 h9 B5 R5 hr ht l5 (by omega) (fun M6 l6 a6 => ?_)
      have b8 := fS_le1 (M0 := M0) (P := P) (n := n) (t := t) (L := L7) (a := ¬ andNot (bSa M0 9 t) (bAb M0 2 t) = 0) (ha := inferInstance) (z := (11, 0))
      generalize fS M0 P n t L7 (oN (¬ andNot (bSa M0 9 t) (bAb M0 2 t) = 0) (11, 0)) = L8 at *
      have B6 := mBd_ag B5 a6
      have R6 := mRl_ag a6 R5
      simp only [r56_233, r56_234, am_cat0, am_catI, am_catR, am_catD, am_ndI, am_ndR, am_ndL, va_rfS, true_and, and_true, Option.toList_some, Option.toList_none, List.cons_append, List.nil_append, Nat.reduceAdd, Nat.reduceLeDiff, Nat.zero_add, Nat.le_refl]
      refine RR.imp (c56l h2 h9 hr ht i0.1 hD 24 0 M6 L8 (by omega) B6 R6 l6 (by omega)) ?_
      intro rv μ' k
      exact mPo_ag (agS_t a1 (agS_t a2 (agS_t a3 (agS_t a4 (agS_t a5 a6))))) k
    · rw [bN_f i0]
      have e : gU M0 D t = csO M0 t ++ csN M0 t := by unfold gU; rw [if_neg (fun z => i0 z.2)]
      have e1 : csO M0 t = [(if (bTh M0 9).testBit t = true then 2 else 1, 0)] := if_pos w0
      have e2 : csN M0 t = [] := if_pos w0
      rw [e, e1, e2, List.append_nil]
      have tail : ∀ c, (c = 2 ∨ c = 1) → RR 56 40 [.ref 49, .int (nI t), .int (nI 1), .int (nI 0), .long 0, .long 0, .long 0] [.int (nI c), .ref 49] (SH, (0, 0, sl), M, D, RF) (mPo M D sl (fS M0 P n t L [(c, 0)])) := by
        intro c hc
        simp only [r56_40, r56_41, r56_42, am_cat0, am_catI, am_catR, am_catD, am_ndI, am_ndR, am_ndL, va_rfS, true_and, and_true, Option.toList_some, Option.toList_none, List.cons_append, List.nil_append, Nat.reduceAdd, Nat.reduceLeDiff, Nat.zero_add, Nat.le_refl, so49]
        refine RR.imp (c53 h2 h9 hB hR hr (by omega) (by omega) ht (by omega) (by omega) hl (by omega)) ?_
        rintro rv μ' ⟨rfl, M', rfl, h3, h4⟩
        simp only [r56_45, r56_46, r56_49, r56_50, r56_53, r56_54, r56_55, r56_56, r56_57, r56_60, r56_61, r56_64, r56_65, r56_68, am_cat0, am_catI, am_catR, am_catD, am_ndI, am_ndR, am_ndL, va_rfS, true_and, and_true, Option.toList_some, Option.toList_none, List.cons_append, List.nil_append, Nat.reduceAdd, Nat.reduceLeDiff, Nat.zero_add, Nat.le_refl, nI1_0, nI0_0, not_true_eq_false, not_false_eq_true, if_true, if_false]
        exact ⟨rfl, M', rfl, h3, h4⟩
      by_cases hT2 : (bTh M0 9).testBit t = true
      · rw [bN_t hT2] at hT
        rw [if_pos hT2]
        have h := tail 2 (Or.inl rfl)
        simp (disch := omega) only [r56_14, r56_15, r56_18, r56_19, r56_22, r56_23, r56_24, r56_27, r56_29, r56_30, r56_31, r56_32, r56_35, r56_36, r56_39, am_cat0, am_catI, am_catR, am_catD, am_ndI, am_ndR, am_ndL, va_rfS, true_and, and_true, Option.toList_some, Option.toList_none, List.cons_append, List.nil_append, Nat.reduceAdd, Nat.reduceLeDiff, Nat.zero_add, Nat.le_refl, nI1_0, nI0_0, not_true_eq_false, not_false_eq_true, if_true, if_false, so49, sf49_0, sd50, am_bd, bd_n, nI_tn, nI_add, hT]
        exact h
      · rw [bN_f hT2] at hT
        rw [if_neg hT2]
        have h := tail 1 (Or.inr rfl)
        simp (disch := omega) only [r56_14, r56_15, r56_18, r56_19, r56_22, r56_23, r56_24, r56_27, r56_29, r56_30, r56_31, r56_32, r56_35, r56_36, r56_39, am_cat0, am_catI, am_catR, am_catD, am_ndI, am_ndR, am_ndL, va_rfS, true_and, and_true, Option.toList_some, Option.toList_none, List.cons_append, List.nil_append, Nat.reduceAdd, Nat.reduceLeDiff, Nat.zero_add, Nat.le_refl, nI1_0, nI0_0, not_true_eq_false, not_false_eq_true, if_true, if_false, so49, sf49_0, sd50, am_bd, bd_n, nI_tn, nI_add, hT]
        exact h
  · rw [bN_f w0]
    have e : gU M0 D t = csO M0 t ++ csN M0 t := by unfold gU; rw [if_neg (fun z => w0 z.1)]
    have e1 : csO M0 t = [] := if_neg w0
    have e2 : csN M0 t = if bSeen M0 9 t then [(3, 0)] else [] := if_neg w0
    rw [e, e1, e2, List.nil_append]
    by_cases i0 : bSeen M0 9 t
    · rw [bN_t i0, if_pos i0]
      simp only [r56_14, r56_15, r56_18, r56_19, r56_22, r56_23, r56_24, r56_27, r56_29, r56_30, r56_31, r56_32, r56_35, r56_36, r56_39, r56_40, r56_41, r56_42, r56_45, r56_46, r56_49, r56_50, r56_53, r56_54, r56_55, r56_56, r56_57, r56_60, r56_61, r56_64, r56_65, r56_68, am_cat0, am_catI, am_catR, am_catD, am_ndI, am_ndR, am_ndL, va_rfS, true_and, and_true, Option.toList_some, Option.toList_none, List.cons_append, List.nil_append, Nat.reduceAdd, Nat.reduceLeDiff, Nat.zero_add, Nat.le_refl, nI1_0, nI0_0, not_true_eq_false, not_false_eq_true, if_true, if_false, so49]
      refine RR.imp (c53 h2 h9 hB hR hr (by decide) (by decide) ht (by decide) (by decide) hl (by omega)) ?_
      rintro rv μ' ⟨rfl, M', rfl, h3, h4⟩
      simp only [r56_45, r56_46, r56_49, r56_50, r56_53, r56_54, r56_55, r56_56, r56_57, r56_60, r56_61, r56_64, r56_65, r56_68, am_cat0, am_catI, am_catR, am_catD, am_ndI, am_ndR, am_ndL, va_rfS, true_and, and_true, Option.toList_some, Option.toList_none, List.cons_append, List.nil_append, Nat.reduceAdd, Nat.reduceLeDiff, Nat.zero_add, Nat.le_refl, nI1_0, nI0_0, not_true_eq_false, not_false_eq_true, if_true, if_false]
      exact ⟨rfl, M', rfl, h3, h4⟩
    · rw [bN_f i0, if_neg i0]
      simp only [r56_14, r56_15, r56_18, r56_19, r56_22, r56_23, r56_24, r56_27, r56_29, r56_30, r56_31, r56_32, r56_35, r56_36, r56_39, r56_40, r56_41, r56_42, r56_45, r56_46, r56_49, r56_50, r56_53, r56_54, r56_55, r56_56, r56_57, r56_60, r56_61, r56_64, r56_65, r56_68, r56_45, r56_46, r56_49, r56_50, r56_53, r56_54, r56_55, r56_56, r56_57, r56_60, r56_61, r56_64, r56_65, r56_68, am_cat0, am_catI, am_catR, am_catD, am_ndI, am_ndR, am_ndL, va_rfS, true_and, and_true, Option.toList_some, Option.toList_none, List.cons_append, List.nil_append, Nat.reduceAdd, Nat.reduceLeDiff, Nat.zero_add, Nat.le_refl, nI1_0, nI0_0, not_true_eq_false, not_false_eq_true, if_true, if_false, so49]
      exact ⟨rfl, M, rfl, hl, agS_r M⟩
theorem c59o {n : Nat} {P : Nat → List Nat} (h2 : bW M0 2) (h9 : bW M0 9) (hr : rlW M0 P n) (hD : ∀ k, k < 96 → Op.cmpValue (FP.dcmp (D 8 k) (D 8 k)) .l = 0) : ∀ (j t : Nat) (M : Nat → Nat → Int32) (L : List En), t + j = 8 → mBd M0 D M → mRl M0 M P n → lsM M L → L.length ≤ 102 * t → RR 59 7 [.ref 49, .int (nI t)] [] (SH, (0, 0, sl), M, D, RF) (mPo M D sl ((gA M0 D j t).foldl (stE M0 P n) L)) := by
  intro j
  induction j with
  | zero =>
    intro t M L h hB hR hl hL
    have e : t = 8 := by omega
    subst e
    rw [r59_7]
    simp only [r59_8, r59_10, Int32.le_refl, if_true, r59_24]
    exact ⟨rfl, M, rfl, hl, agS_r M⟩
  | succ j ih =>
    intro t M L h hB hR hl hL
    have ht : t < 8 := by omega
    have h8 : (nI 8 ≤ nI t) = False := eq_false (by rw [nx_le (by decide) (by omega)]; omega)
    rw [r59_7, gA, List.foldl_append]
    simp only [r59_8, r59_10, h8, if_false, r59_13, r59_14, r59_15, am_cat0, am_catI, am_catR, am_catD, am_ndI, am_ndR, am_ndL, va_rfS, true_and, and_true, Option.toList_some, Option.toList_none, List.cons_append, List.nil_append, Nat.reduceAdd, Nat.reduceLeDiff, Nat.zero_add, Nat.le_refl, so49]
    refine RR.imp (c56 h2 h9 hB hR hr ht hl (by omega) hD) ?_
    rintro rv μ' ⟨rfl, M1, rfl, l1, a1⟩
    simp only [r59_18, r59_21, am_cat0, am_catI, am_catR, am_catD, am_ndI, am_ndR, am_ndL, va_rfS, true_and, and_true, Option.toList_some, Option.toList_none, List.cons_append, List.nil_append, Nat.reduceAdd, Nat.reduceLeDiff, Nat.zero_add, Nat.le_refl, nI_add]
    have b1 := fS_le (M0 := M0) (P := P) (n := n) (t := t) (L := L) (G := gU M0 D t)
    have b2 := gU_len M0 D t
    refine RR.imp (ih (t + 1) M1 _ (by omega) (mBd_ag hB a1) (mRl_ag a1 hR) l1 (by omega)) ?_
    intro rv μ' k
    exact mPo_ag a1 k
theorem c59 {n : Nat} {P : Nat → List Nat} (h2 : bW M0 2) (h9 : bW M0 9) (hB : mBd M0 D M) (hR : mRl M0 M P n) (hr : rlW M0 P n) (hD : ∀ k, k < 96 → Op.cmpValue (FP.dcmp (D 8 k) (D 8 k)) .l = 0) : RR 59 0 [.ref 49, .long 0] [] (SH, (0, 0, sl), M, D, RF) (mPo M D sl (wA M0 D P n)) := by
  have a0 : agS M (am_up M 49 22 (nI 0)) := fun q k _ y => up_n (fun z => y ⟨z.1, by omega⟩)
  simp only [r59_0, r59_1, r59_2, r59_5, r59_6, am_cat0, am_catI, am_catR, am_catD, am_ndI, am_ndR, am_ndL, va_rfS, true_and, and_true, Option.toList_some, Option.toList_none, List.cons_append, List.nil_append, Nat.reduceAdd, Nat.reduceLeDiff, Nat.zero_add, Nat.le_refl, so49]
  refine RR.imp (c59o h2 h9 hr hD 8 0 _ [] (by decide) (mBd_ag hB a0) (mRl_ag a0 hR) ⟨up_s _ _ _ _, by decide, fun x hx => absurd hx List.not_mem_nil, fun k hk => absurd hk (Nat.not_lt_zero _)⟩ (Nat.le_refl _)) ?_
  intro rv μ' k
  exact mPo_ag a0 k
end CN
