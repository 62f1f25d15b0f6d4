/-! THE SETTERS -/
theorem bN_T {h : Decidable True} : @bN True h = nI 1 := bN_t trivial
theorem bN_F {h : Decidable False} : @bN False h = nI 0 := bN_f (fun z => z)
theorem mqW {M : Nat → Nat → Int32} {b : Nat} (h2 : bW M 2) (h9 : bW M 9) : bW M (mq b) := by
  unfold mq
  by_cases h : b = 0
  · rw [if_pos h]; exact h2
  · rw [if_neg h]; exact h9
section CN
variable {Q : Option Value → amM → Prop} {μ : amM} {S : List (Nat ⊕ (Nat × Nat))} {M : Nat → Nat → Int32} {D : Nat → Nat → UInt64} {F : Nat → Nat → Option Nat} {sl : Nat}

theorem c95m {b : Nat} (hb : b < 2) : RR 95 0 [.ref 1, .int (nI b)] [] (SH, (0, 0, sl), M, D, RF) Q ↔ Q (some (.ref (mq b))) (SH, (0, 0, sl), M, D, RF) := c95 hb
theorem mq2 {b : Nat} : SH[mq b]? = some (.inl 0) := by
  unfold mq
  by_cases h : b = 0
  · rw [if_pos h]; rfl
  · rw [if_neg h]; rfl
theorem plOk {b t : Int32} (h : ((0 ≤ b.toInt ∧ b.toInt ≤ 1) ∧ 0 ≤ t.toInt ∧ t.toInt ≤ 7)) : ∃ b' t' : Nat, b' < 2 ∧ t' < 8 ∧ b = nI b' ∧ t = nI t' := by
  obtain ⟨b', b1, rfl, b3⟩ := xI h.1.1
  obtain ⟨t', t1, rfl, t3⟩ := xI h.2.1
  exact ⟨b', t', by omega, by omega, rfl, rfl⟩
theorem c22t {b t : Nat} (hb : b < 2) (ht : t < 8) : RR 22 0 [.int (nI b), .int (nI t)] [] (S, (0, 0, sl), M, D, F) Q ↔ Q (some (.int (nI 1))) (S, (0, 0, sl), M, D, F) := by
  rw [c22, bN_t]
  rw [nI_ti (by omega), nI_ti (by omega)]
  omega
theorem c24t {x : Nat} {hi : Nat} (h : x ≤ hi) (h2 : hi < 2 ^ 31) : RR 24 0 [.int (nI x), .int (nI 0), .int (nI hi)] [] μ Q ↔ Q (some (.int (nI 1))) μ := by
  rw [c24, bN_t]
  rw [nI_ti (by omega), nI_ti (by omega), nI_ti (by omega)]
  omega
theorem c32t {x : Nat} {hi : Nat} (h : x ≤ hi) (h2 : hi < 2 ^ 31) : RR 32 0 [.int (nI x), .int (nI 0), .int (nI hi)] [] μ Q ↔ Q (some (.int (nI 1))) μ := by
  rw [c32, bN_t]
  rw [nI_ti (by omega), nI_ti (by omega), nI_ti (by omega)]
  omega
theorem c20v {b t : Nat} (hb : b < 2) (ht : t < 8) (hw : bW M (mq b)) : RR 20 0 [.ref 0, .int (nI b), .int (nI t)] [] (SH, (0, 0, sl), M, D, RF) Q ↔ Q (some (.int (bN ((bTh M (mq b)).testBit t = true)))) (SH, (0, 0, sl), M, D, RF) := by
  simp only [r20_0, r20_1, r20_2, r20_5, r20_8, r20_9, r20_12, r20_13, r20_16, r20_17, r20_20, r20_23, r20_24, r20_27, r20_28, am_cat0, am_catI, am_catR, am_catD, am_ndI, am_ndR, am_ndL, va_rfS, true_and, and_true, Option.toList_some, Option.toList_none, List.cons_append, List.nil_append, Nat.reduceAdd, Nat.reduceLeDiff, Nat.zero_add, Nat.le_refl, rw_mrg, ite_Q, ite_bN, ite_bN', ib_0b, ib_b0, ib_1b, ib_b1, bN_0, bN_n0, bN_01T, nI1_0, nI0_0, nI01a, nI01b, bN_1, no_or, true_or, or_true, false_or, or_false, ite_not, if_true, if_false, Decidable.not_not, c22t hb ht, so0, so1, sf0_0, c95m hb, mq2, c82 (mq_o b) hw ht]
theorem c20f {b t : Int32} (h : ¬ ((0 ≤ b.toInt ∧ b.toInt ≤ 1) ∧ 0 ≤ t.toInt ∧ t.toInt ≤ 7)) : RR 20 0 [.ref 0, .int b, .int t] [] (SH, (0, 0, sl), M, D, RF) Q ↔ Q (some (.int (nI 0))) (SH, (0, 0, sl), M, D, RF) := by
  have h' := eq_false h
  simp only [r20_0, r20_1, r20_2, r20_5, r20_8, r20_9, r20_12, r20_13, r20_16, r20_17, r20_20, r20_23, r20_24, r20_27, r20_28, am_cat0, am_catI, am_catR, am_catD, am_ndI, am_ndR, am_ndL, va_rfS, true_and, and_true, Option.toList_some, Option.toList_none, List.cons_append, List.nil_append, Nat.reduceAdd, Nat.reduceLeDiff, Nat.zero_add, Nat.le_refl, c22, bN_T, bN_F, bN_0, nI0_0, nI1_0, nI01a, nI01b, true_or, or_true, false_or, or_false, so0, so1, so49, not_true_eq_false, not_false_eq_true, if_true, if_false, h']
/-- the build has the member -/
theorem c21v {b t s : Nat} {m : Prop} {hm : Decidable m} (hb : b < 2) (ht : t < 8) (hs : s < 12) (hw : bW M (mq b)) : RR 21 0 [.ref 0, .int (nI b), .int (nI t), .int (@bN m hm), .int (nI s)] [] (SH, (0, 0, sl), M, D, RF) Q ↔ Q (some (.int (bN ((bTh M (mq b)).testBit t = true ∧ bHas M (mq b) t (if m then 12 + s else s))))) (SH, (0, 0, sl), M, D, RF) := by
  have hs2 : (if m then 12 + s else s) < 24 := by by_cases h : m <;> simp [h] <;> omega
  by_cases h : (bTh M (mq b)).testBit t = true
  · by_cases g : bHas M (mq b) t (if m then 12 + s else s)
    · have g' := eq_true g
      simp only [r21_0, r21_1, r21_2, r21_3, r21_6, r21_9, r21_11, r21_12, r21_14, r21_17, r21_20, r21_21, r21_24, r21_25, r21_28, r21_29, r21_30, r21_32, r21_35, r21_38, r21_41, r21_42, r21_45, r21_46, am_cat0, am_catI, am_catR, am_catD, am_ndI, am_ndR, am_ndL, va_rfS, true_and, and_true, Option.toList_some, Option.toList_none, List.cons_append, List.nil_append, Nat.reduceAdd, Nat.reduceLeDiff, Nat.zero_add, Nat.le_refl, c20v hb ht hw, h, bN_T, bN_F, bN_0, nI0_0, nI1_0, nI01a, nI01b, true_or, or_true, false_or, or_false, so0, so1, so49, not_true_eq_false, not_false_eq_true, if_true, if_false, c24t (show s ≤ 11 by omega) (by decide), nI1_0, so0, so1, sf0_0, c95m hb, mq2, c26, c88 (mq_o b) ht hs2, true_and, g', and_self]
    · have g' := eq_false g
      simp only [r21_0, r21_1, r21_2, r21_3, r21_6, r21_9, r21_11, r21_12, r21_14, r21_17, r21_20, r21_21, r21_24, r21_25, r21_28, r21_29, r21_30, r21_32, r21_35, r21_38, r21_41, r21_42, r21_45, r21_46, am_cat0, am_catI, am_catR, am_catD, am_ndI, am_ndR, am_ndL, va_rfS, true_and, and_true, Option.toList_some, Option.toList_none, List.cons_append, List.nil_append, Nat.reduceAdd, Nat.reduceLeDiff, Nat.zero_add, Nat.le_refl, c20v hb ht hw, h, bN_T, bN_F, bN_0, nI0_0, nI1_0, nI01a, nI01b, true_or, or_true, false_or, or_false, so0, so1, so49, not_true_eq_false, not_false_eq_true, if_true, if_false, c24t (show s ≤ 11 by omega) (by decide), nI1_0, so0, so1, sf0_0, c95m hb, mq2, c26, c88 (mq_o b) ht hs2, true_and, g', and_false]
  · simp only [r21_0, r21_1, r21_2, r21_3, r21_6, r21_9, r21_11, r21_12, r21_14, r21_17, r21_20, r21_21, r21_24, r21_25, r21_28, r21_29, r21_30, r21_32, r21_35, r21_38, r21_41, r21_42, r21_45, r21_46, am_cat0, am_catI, am_catR, am_catD, am_ndI, am_ndR, am_ndL, va_rfS, true_and, and_true, Option.toList_some, Option.toList_none, List.cons_append, List.nil_append, Nat.reduceAdd, Nat.reduceLeDiff, Nat.zero_add, Nat.le_refl, c20v hb ht hw, h, Bool.false_eq_true, bN_T, bN_F, bN_0, nI0_0, nI1_0, nI01a, nI01b, true_or, or_true, false_or, or_false, so0, so1, so49, not_true_eq_false, not_false_eq_true, if_true, if_false, false_and]
theorem c21f {b t s : Int32} {m : Int32} (hw : bW M 2 ∧ bW M 9) (h : ¬ (((0 ≤ b.toInt ∧ b.toInt ≤ 1) ∧ 0 ≤ t.toInt ∧ t.toInt ≤ 7) ∧ (0 ≤ s.toInt ∧ s.toInt ≤ 11))) : RR 21 0 [.ref 0, .int b, .int t, .int m, .int s] [] (SH, (0, 0, sl), M, D, RF) Q ↔ Q (some (.int (nI 0))) (SH, (0, 0, sl), M, D, RF) := by
  have z0 : (nI 0).toInt = 0 := by decide
  have z1 : (nI 1).toInt = 1 := by decide
  have z7 : (nI 7).toInt = 7 := by decide
  have z11 : (nI 11).toInt = 11 := by decide
  have z31 : (nI 31).toInt = 31 := by decide
  have z47 : (nI 47).toInt = 47 := by decide
  have z255 : (nI 255).toInt = 255 := by decide
  have zm1 : (-1 : Int32).toInt = -1 := by decide
  by_cases a0 : ((0 ≤ b.toInt ∧ b.toInt ≤ 1) ∧ 0 ≤ t.toInt ∧ t.toInt ≤ 7)
  · have a1 := eq_false (fun z => h ⟨a0, z⟩)
    obtain ⟨b', t', hb, ht, rfl, rfl⟩ := plOk a0
    have hw' : bW M (mq b') := mqW hw.1 hw.2
    by_cases g : (bTh M (mq b')).testBit t' = true
    · simp only [r21_0, r21_1, r21_2, r21_3, r21_6, r21_9, r21_11, r21_12, r21_14, r21_17, r21_20, r21_21, r21_24, r21_25, r21_28, r21_29, r21_30, r21_32, r21_35, r21_38, r21_41, r21_42, r21_45, r21_46, am_cat0, am_catI, am_catR, am_catD, am_ndI, am_ndR, am_ndL, va_rfS, true_and, and_true, Option.toList_some, Option.toList_none, List.cons_append, List.nil_append, Nat.reduceAdd, Nat.reduceLeDiff, Nat.zero_add, Nat.le_refl, c20v hb ht hw', g, bN_T, bN_F, bN_0, nI0_0, nI1_0, nI01a, nI01b, true_or, or_true, false_or, or_false, so0, so1, so49, not_true_eq_false, not_false_eq_true, if_true, if_false, c24, z0, z1, z7, z11, z31, z47, z255, zm1, a1]
    · simp only [r21_0, r21_1, r21_2, r21_3, r21_6, r21_9, r21_11, r21_12, r21_14, r21_17, r21_20, r21_21, r21_24, r21_25, r21_28, r21_29, r21_30, r21_32, r21_35, r21_38, r21_41, r21_42, r21_45, r21_46, am_cat0, am_catI, am_catR, am_catD, am_ndI, am_ndR, am_ndL, va_rfS, true_and, and_true, Option.toList_some, Option.toList_none, List.cons_append, List.nil_append, Nat.reduceAdd, Nat.reduceLeDiff, Nat.zero_add, Nat.le_refl, c20v hb ht hw', g, Bool.false_eq_true, bN_T, bN_F, bN_0, nI0_0, nI1_0, nI01a, nI01b, true_or, or_true, false_or, or_false, so0, so1, so49, not_true_eq_false, not_false_eq_true, if_true, if_false]
  · simp only [r21_0, r21_1, r21_2, r21_3, r21_6, r21_9, r21_11, r21_12, r21_14, r21_17, r21_20, r21_21, r21_24, r21_25, r21_28, r21_29, r21_30, r21_32, r21_35, r21_38, r21_41, r21_42, r21_45, r21_46, am_cat0, am_catI, am_catR, am_catD, am_ndI, am_ndR, am_ndL, va_rfS, true_and, and_true, Option.toList_some, Option.toList_none, List.cons_append, List.nil_append, Nat.reduceAdd, Nat.reduceLeDiff, Nat.zero_add, Nat.le_refl, c20f a0, bN_T, bN_F, bN_0, nI0_0, nI1_0, nI01a, nI01b, true_or, or_true, false_or, or_false, so0, so1, so49, not_true_eq_false, not_false_eq_true, if_true, if_false]
/-- type: the class -/
theorem c1f {b t p a f : Int32} (h : ¬ (((0 ≤ b.toInt ∧ b.toInt ≤ 1) ∧ 0 ≤ t.toInt ∧ t.toInt ≤ 7) ∧ (0 ≤ p.toInt ∧ p.toInt ≤ 47) ∧ (-1 ≤ a.toInt ∧ a.toInt ≤ 7) ∧ (0 ≤ f.toInt ∧ f.toInt ≤ 255))) : RR 1 0 [.ref 0, .int b, .int t, .int p, .int a, .int f] [] (SH, (0, 0, sl), M, D, RF) Q ↔ Q (some (.int (nI 0))) (SH, (0, 0, sl), M, D, RF) := by
  have z0 : (nI 0).toInt = 0 := by decide
  have z1 : (nI 1).toInt = 1 := by decide
  have z7 : (nI 7).toInt = 7 := by decide
  have z11 : (nI 11).toInt = 11 := by decide
  have z31 : (nI 31).toInt = 31 := by decide
  have z47 : (nI 47).toInt = 47 := by decide
  have z255 : (nI 255).toInt = 255 := by decide
  have zm1 : (-1 : Int32).toInt = -1 := by decide
  by_cases a0 : ((0 ≤ b.toInt ∧ b.toInt ≤ 1) ∧ 0 ≤ t.toInt ∧ t.toInt ≤ 7)
  · have e0 := eq_true a0
    by_cases a1 : (0 ≤ p.toInt ∧ p.toInt ≤ 47)
    · have e1 := eq_true a1
      by_cases a2 : (-1 ≤ a.toInt ∧ a.toInt ≤ 7)
      · have e2 := eq_true a2
        by_cases a3 : (0 ≤ f.toInt ∧ f.toInt ≤ 255)
        · have e3 := eq_true a3
          exact absurd ⟨a0, a1, a2, a3⟩ h
        · have e3 := eq_false a3
          simp only [r1_0, r1_1, r1_2, r1_5, r1_8, r1_9, r1_10, r1_12, r1_15, r1_18, r1_20, r1_21, r1_23, r1_26, r1_29, r1_31, r1_32, r1_35, r1_38, r1_41, r1_42, r1_43, r1_44, r1_47, r1_48, r1_51, r1_52, r1_53, r1_55, r1_57, r1_60, r1_61, am_cat0, am_catI, am_catR, am_catD, am_ndI, am_ndR, am_ndL, va_rfS, true_and, and_true, Option.toList_some, Option.toList_none, List.cons_append, List.nil_append, Nat.reduceAdd, Nat.reduceLeDiff, Nat.zero_add, Nat.le_refl, c22, c24, z0, z1, z7, z11, z31, z47, z255, zm1, bN_T, bN_F, bN_0, nI0_0, nI1_0, nI01a, nI01b, true_or, or_true, false_or, or_false, so0, so1, so49, not_true_eq_false, not_false_eq_true, if_true, if_false, e0, e1, e2, e3]
      · have e2 := eq_false a2
        simp only [r1_0, r1_1, r1_2, r1_5, r1_8, r1_9, r1_10, r1_12, r1_15, r1_18, r1_20, r1_21, r1_23, r1_26, r1_29, r1_31, r1_32, r1_35, r1_38, r1_41, r1_42, r1_43, r1_44, r1_47, r1_48, r1_51, r1_52, r1_53, r1_55, r1_57, r1_60, r1_61, am_cat0, am_catI, am_catR, am_catD, am_ndI, am_ndR, am_ndL, va_rfS, true_and, and_true, Option.toList_some, Option.toList_none, List.cons_append, List.nil_append, Nat.reduceAdd, Nat.reduceLeDiff, Nat.zero_add, Nat.le_refl, c22, c24, z0, z1, z7, z11, z31, z47, z255, zm1, bN_T, bN_F, bN_0, nI0_0, nI1_0, nI01a, nI01b, true_or, or_true, false_or, or_false, so0, so1, so49, not_true_eq_false, not_false_eq_true, if_true, if_false, e0, e1, e2]
    · have e1 := eq_false a1
      simp only [r1_0, r1_1, r1_2, r1_5, r1_8, r1_9, r1_10, r1_12, r1_15, r1_18, r1_20, r1_21, r1_23, r1_26, r1_29, r1_31, r1_32, r1_35, r1_38, r1_41, r1_42, r1_43, r1_44, r1_47, r1_48, r1_51, r1_52, r1_53, r1_55, r1_57, r1_60, r1_61, am_cat0, am_catI, am_catR, am_catD, am_ndI, am_ndR, am_ndL, va_rfS, true_and, and_true, Option.toList_some, Option.toList_none, List.cons_append, List.nil_append, Nat.reduceAdd, Nat.reduceLeDiff, Nat.zero_add, Nat.le_refl, c22, c24, z0, z1, z7, z11, z31, z47, z255, zm1, bN_T, bN_F, bN_0, nI0_0, nI1_0, nI01a, nI01b, true_or, or_true, false_or, or_false, so0, so1, so49, not_true_eq_false, not_false_eq_true, if_true, if_false, e0, e1]
  · have e0 := eq_false a0
    simp only [r1_0, r1_1, r1_2, r1_5, r1_8, r1_9, r1_10, r1_12, r1_15, r1_18, r1_20, r1_21, r1_23, r1_26, r1_29, r1_31, r1_32, r1_35, r1_38, r1_41, r1_42, r1_43, r1_44, r1_47, r1_48, r1_51, r1_52, r1_53, r1_55, r1_57, r1_60, r1_61, am_cat0, am_catI, am_catR, am_catD, am_ndI, am_ndR, am_ndL, va_rfS, true_and, and_true, Option.toList_some, Option.toList_none, List.cons_append, List.nil_append, Nat.reduceAdd, Nat.reduceLeDiff, Nat.zero_add, Nat.le_refl, c22, c24, z0, z1, z7, z11, z31, z47, z255, zm1, bN_T, bN_F, bN_0, nI0_0, nI1_0, nI01a, nI01b, true_or, or_true, false_or, or_false, so0, so1, so49, not_true_eq_false, not_false_eq_true, if_true, if_false, e0]
theorem c1v {b t p f u : Nat} {a : Int32} (hb : b < 2) (ht : t < 8) (hp : p < 48) (hf : f < 256) (ha : (a = -1 ∧ u = f) ∨ ∃ a', a' < 8 ∧ a = nI a' ∧ u = f ||| 2 ^ a') : RR 1 0 [.ref 0, .int (nI b), .int (nI t), .int (nI p), .int a, .int (nI f)] [] (SH, (0, 0, sl), M, D, RF) Q ↔ Q (some (.int (nI 1))) (SH, (0, 0, sl), stM M (mq b) t p u, D, RF) := by
  have z0 : (nI 0).toInt = 0 := by decide
  have z1 : (nI 1).toInt = 1 := by decide
  have z7 : (nI 7).toInt = 7 := by decide
  have z11 : (nI 11).toInt = 11 := by decide
  have z31 : (nI 31).toInt = 31 := by decide
  have z47 : (nI 47).toInt = 47 := by decide
  have z255 : (nI 255).toInt = 255 := by decide
  have zm1 : (-1 : Int32).toInt = -1 := by decide
  have ea : (-1 ≤ a.toInt ∧ a.toInt ≤ 7) = True := eq_true (by
    rcases ha with ⟨rfl, -⟩ | ⟨a', h1, rfl, -⟩
    · rw [zm1]; omega
    · rw [nI_ti (by omega)]; omega)
  simp only [r1_0, r1_1, r1_2, r1_5, r1_8, r1_9, r1_10, r1_12, r1_15, r1_18, r1_20, r1_21, r1_23, r1_26, r1_29, r1_31, r1_32, r1_35, r1_38, r1_41, r1_42, r1_43, r1_44, r1_47, r1_48, r1_51, r1_52, r1_53, r1_55, r1_57, r1_60, r1_61, am_cat0, am_catI, am_catR, am_catD, am_ndI, am_ndR, am_ndL, va_rfS, true_and, and_true, Option.toList_some, Option.toList_none, List.cons_append, List.nil_append, Nat.reduceAdd, Nat.reduceLeDiff, Nat.zero_add, Nat.le_refl, c22t hb ht, c24t (show p ≤ 47 by omega) (by decide), c24t (show f ≤ 255 by omega) (by decide), c24, zm1, z7, ea, nI1_0, bN_T, bN_F, bN_0, nI0_0, nI1_0, nI01a, nI01b, true_or, or_true, false_or, or_false, so0, so1, so49, not_true_eq_false, not_false_eq_true, if_true, if_false, so0, so1, sf0_0, c95m hb, mq2, c76 (mq_o b) ht hp ha]
theorem c34f {b t p a f : Int32} (h : ¬ (((0 ≤ b.toInt ∧ b.toInt ≤ 1) ∧ 0 ≤ t.toInt ∧ t.toInt ≤ 7) ∧ (0 ≤ p.toInt ∧ p.toInt ≤ 47) ∧ (-1 ≤ a.toInt ∧ a.toInt ≤ 7) ∧ (0 ≤ f.toInt ∧ f.toInt ≤ 255))) : RR 34 0 [.ref 49, .int b, .int t, .int p, .int a, .int f, .long 0] [] (SH, (0, 0, sl), M, D, RF) Q ↔ Q (some (.int (nI 0))) (SH, (0, 0, sl), M, D, RF) := by
  have z0 : (nI 0).toInt = 0 := by decide
  have z1 : (nI 1).toInt = 1 := by decide
  have z7 : (nI 7).toInt = 7 := by decide
  have z11 : (nI 11).toInt = 11 := by decide
  have z31 : (nI 31).toInt = 31 := by decide
  have z47 : (nI 47).toInt = 47 := by decide
  have z255 : (nI 255).toInt = 255 := by decide
  have zm1 : (-1 : Int32).toInt = -1 := by decide
  by_cases a0 : (0 ≤ b.toInt ∧ b.toInt ≤ 1)
  · have e0 := eq_true a0
    by_cases a1 : (0 ≤ t.toInt ∧ t.toInt ≤ 7)
    · have e1 := eq_true a1
      by_cases a2 : (0 ≤ p.toInt ∧ p.toInt ≤ 47)
      · have e2 := eq_true a2
        by_cases a3 : (-1 ≤ a.toInt ∧ a.toInt ≤ 7)
        · have e3 := eq_true a3
          by_cases a4 : (0 ≤ f.toInt ∧ f.toInt ≤ 255)
          · have e4 := eq_true a4
            exact absurd ⟨⟨a0, a1⟩, a2, a3, a4⟩ h
          · have e4 := eq_false a4
            simp only [r34_0, r34_1, r34_2, r34_3, r34_6, r34_9, r34_10, r34_11, r34_13, r34_16, r34_19, r34_20, r34_21, r34_23, r34_26, r34_29, r34_31, r34_32, r34_34, r34_37, r34_40, r34_42, r34_43, r34_46, r34_49, r34_52, r34_53, r34_54, r34_56, r34_57, r34_58, r34_59, r34_60, r34_62, r34_63, r34_66, r34_68, r34_69, r34_70, r34_71, r34_74, r34_76, r34_77, r34_79, r34_80, r34_81, r34_82, r34_85, r34_87, r34_88, r34_90, r34_91, r34_92, r34_93, r34_96, r34_98, r34_100, r34_101, r34_102, r34_105, r34_107, r34_109, r34_110, r34_111, am_cat0, am_catI, am_catR, am_catD, am_ndI, am_ndR, am_ndL, va_rfS, true_and, and_true, Option.toList_some, Option.toList_none, List.cons_append, List.nil_append, Nat.reduceAdd, Nat.reduceLeDiff, Nat.zero_add, Nat.le_refl, c32, z0, z1, z7, z11, z31, z47, z255, zm1, bN_T, bN_F, bN_0, nI0_0, nI1_0, nI01a, nI01b, true_or, or_true, false_or, or_false, so0, so1, so49, not_true_eq_false, not_false_eq_true, if_true, if_false, e0, e1, e2, e3, e4]
        · have e3 := eq_false a3
          simp only [r34_0, r34_1, r34_2, r34_3, r34_6, r34_9, r34_10, r34_11, r34_13, r34_16, r34_19, r34_20, r34_21, r34_23, r34_26, r34_29, r34_31, r34_32, r34_34, r34_37, r34_40, r34_42, r34_43, r34_46, r34_49, r34_52, r34_53, r34_54, r34_56, r34_57, r34_58, r34_59, r34_60, r34_62, r34_63, r34_66, r34_68, r34_69, r34_70, r34_71, r34_74, r34_76, r34_77, r34_79, r34_80, r34_81, r34_82, r34_85, r34_87, r34_88, r34_90, r34_91, r34_92, r34_93, r34_96, r34_98, r34_100, r34_101, r34_102, r34_105, r34_107, r34_109, r34_110, r34_111, am_cat0, am_catI, am_catR, am_catD, am_ndI, am_ndR, am_ndL, va_rfS, true_and, and_true, Option.toList_some, Option.toList_none, List.cons_append, List.nil_append, Nat.reduceAdd, Nat.reduceLeDiff, Nat.zero_add, Nat.le_refl, c32, z0, z1, z7, z11, z31, z47, z255, zm1, bN_T, bN_F, bN_0, nI0_0, nI1_0, nI01a, nI01b, true_or, or_true, false_or, or_false, so0, so1, so49, not_true_eq_false, not_false_eq_true, if_true, if_false, e0, e1, e2, e3]
      · have e2 := eq_false a2
        simp only [r34_0, r34_1, r34_2, r34_3, r34_6, r34_9, r34_10, r34_11, r34_13, r34_16, r34_19, r34_20, r34_21, r34_23, r34_26, r34_29, r34_31, r34_32, r34_34, r34_37, r34_40, r34_42, r34_43, r34_46, r34_49, r34_52, r34_53, r34_54, r34_56, r34_57, r34_58, r34_59, r34_60, r34_62, r34_63, r34_66, r34_68, r34_69, r34_70, r34_71, r34_74, r34_76, r34_77, r34_79, r34_80, r34_81, r34_82, r34_85, r34_87, r34_88, r34_90, r34_91, r34_92, r34_93, r34_96, r34_98, r34_100, r34_101, r34_102, r34_105, r34_107, r34_109, r34_110, r34_111, am_cat0, am_catI, am_catR, am_catD, am_ndI, am_ndR, am_ndL, va_rfS, true_and, and_true, Option.toList_some, Option.toList_none, List.cons_append, List.nil_append, Nat.reduceAdd, Nat.reduceLeDiff, Nat.zero_add, Nat.le_refl, c32, z0, z1, z7, z11, z31, z47, z255, zm1, bN_T, bN_F, bN_0, nI0_0, nI1_0, nI01a, nI01b, true_or, or_true, false_or, or_false, so0, so1, so49, not_true_eq_false, not_false_eq_true, if_true, if_false, e0, e1, e2]
    · have e1 := eq_false a1
      simp only [r34_0, r34_1, r34_2, r34_3, r34_6, r34_9, r34_10, r34_11, r34_13, r34_16, r34_19, r34_20, r34_21, r34_23, r34_26, r34_29, r34_31, r34_32, r34_34, r34_37, r34_40, r34_42, r34_43, r34_46, r34_49, r34_52, r34_53, r34_54, r34_56, r34_57, r34_58, r34_59, r34_60, r34_62, r34_63, r34_66, r34_68, r34_69, r34_70, r34_71, r34_74, r34_76, r34_77, r34_79, r34_80, r34_81, r34_82, r34_85, r34_87, r34_88, r34_90, r34_91, r34_92, r34_93, r34_96, r34_98, r34_100, r34_101, r34_102, r34_105, r34_107, r34_109, r34_110, r34_111, am_cat0, am_catI, am_catR, am_catD, am_ndI, am_ndR, am_ndL, va_rfS, true_and, and_true, Option.toList_some, Option.toList_none, List.cons_append, List.nil_append, Nat.reduceAdd, Nat.reduceLeDiff, Nat.zero_add, Nat.le_refl, c32, z0, z1, z7, z11, z31, z47, z255, zm1, bN_T, bN_F, bN_0, nI0_0, nI1_0, nI01a, nI01b, true_or, or_true, false_or, or_false, so0, so1, so49, not_true_eq_false, not_false_eq_true, if_true, if_false, e0, e1]
  · have e0 := eq_false a0
    simp only [r34_0, r34_1, r34_2, r34_3, r34_6, r34_9, r34_10, r34_11, r34_13, r34_16, r34_19, r34_20, r34_21, r34_23, r34_26, r34_29, r34_31, r34_32, r34_34, r34_37, r34_40, r34_42, r34_43, r34_46, r34_49, r34_52, r34_53, r34_54, r34_56, r34_57, r34_58, r34_59, r34_60, r34_62, r34_63, r34_66, r34_68, r34_69, r34_70, r34_71, r34_74, r34_76, r34_77, r34_79, r34_80, r34_81, r34_82, r34_85, r34_87, r34_88, r34_90, r34_91, r34_92, r34_93, r34_96, r34_98, r34_100, r34_101, r34_102, r34_105, r34_107, r34_109, r34_110, r34_111, am_cat0, am_catI, am_catR, am_catD, am_ndI, am_ndR, am_ndL, va_rfS, true_and, and_true, Option.toList_some, Option.toList_none, List.cons_append, List.nil_append, Nat.reduceAdd, Nat.reduceLeDiff, Nat.zero_add, Nat.le_refl, c32, z0, z1, z7, z11, z31, z47, z255, zm1, bN_T, bN_F, bN_0, nI0_0, nI1_0, nI01a, nI01b, true_or, or_true, false_or, or_false, so0, so1, so49, not_true_eq_false, not_false_eq_true, if_true, if_false, e0]
def mtM (M : Nat → Nat → Int32) (x p : Nat) (a : Int32) (f : Nat) : Nat → Nat → Int32 := am_up (am_up (am_up (am_up (am_up M 50 x (nI 1)) 53 x (nI (p / 16))) 52 x (nI (p % 16))) 54 x a) 55 x (nI f)
theorem c34v {b t p f : Nat} {a : Int32} (hb : b < 2) (ht : t < 8) (hp : p < 48) (hf : f < 256) (ha : -1 ≤ a.toInt ∧ a.toInt ≤ 7) : RR 34 0 [.ref 49, .int (nI b), .int (nI t), .int (nI p), .int a, .int (nI f), .long 0] [] (SH, (0, 0, sl), M, D, RF) Q ↔ Q (some (.int (nI 1))) (SH, (0, 0, sl), mtM M (8 * b + t) p a f, D, RF) := by
  have z0 : (nI 0).toInt = 0 := by decide
  have z1 : (nI 1).toInt = 1 := by decide
  have z7 : (nI 7).toInt = 7 := by decide
  have z11 : (nI 11).toInt = 11 := by decide
  have z31 : (nI 31).toInt = 31 := by decide
  have z47 : (nI 47).toInt = 47 := by decide
  have z255 : (nI 255).toInt = 255 := by decide
  have zm1 : (-1 : Int32).toInt = -1 := by decide
  have ea := eq_true ha
  have e16 : ¬ nI 16 = 0 := by decide
  simp (disch := omega) only [r34_0, r34_1, r34_2, r34_3, r34_6, r34_9, r34_10, r34_11, r34_13, r34_16, r34_19, r34_20, r34_21, r34_23, r34_26, r34_29, r34_31, r34_32, r34_34, r34_37, r34_40, r34_42, r34_43, r34_46, r34_49, r34_52, r34_53, r34_54, r34_56, r34_57, r34_58, r34_59, r34_60, r34_62, r34_63, r34_66, r34_68, r34_69, r34_70, r34_71, r34_74, r34_76, r34_77, r34_79, r34_80, r34_81, r34_82, r34_85, r34_87, r34_88, r34_90, r34_91, r34_92, r34_93, r34_96, r34_98, r34_100, r34_101, r34_102, r34_105, r34_107, r34_109, r34_110, r34_111, am_cat0, am_catI, am_catR, am_catD, am_ndI, am_ndR, am_ndL, va_rfS, true_and, and_true, Option.toList_some, Option.toList_none, List.cons_append, List.nil_append, Nat.reduceAdd, Nat.reduceLeDiff, Nat.zero_add, Nat.le_refl, c32t (show b ≤ 1 by omega) (by decide), c32t (show t ≤ 7 by omega) (by decide), c32t (show p ≤ 47 by omega) (by decide), c32t (show f ≤ 255 by omega) (by decide), c32, zm1, z7, ea, nI1_0, bN_T, bN_F, bN_0, nI0_0, nI1_0, nI01a, nI01b, true_or, or_true, false_or, or_false, so0, so1, so49, not_true_eq_false, not_false_eq_true, if_true, if_false, so49, sf49_0, sf49_2, sf49_3, sf49_4, sf49_5, sl50, sl52, sl53, sl54, sl55, am_bs, bd_n, nI_tn, pk_mul, nI_add, nar_1, e16, nx_dv, nx_rm, nx_rm2, nx_rm3, mtM]
/-- drop -/
theorem c2v {b t : Nat} (hb : b < 2) (ht : t < 8) (hw : bW M (mq b)) (h : (bTh M (mq b)).testBit t = true) : RR 2 0 [.ref 0, .int (nI b), .int (nI t)] [] (SH, (0, 0, sl), M, D, RF) Q ↔ Q (some (.int (nI 1))) (SH, (0, 0, sl), drR (mq b) t 24 0 (am_up M (mq b) 0 (nI (andNot (bTh M (mq b)) (2 ^ t)))), D, RF) := by
  simp only [r2_0, r2_1, r2_2, r2_3, r2_6, r2_9, r2_10, r2_11, r2_12, r2_15, r2_16, r2_19, r2_20, r2_23, r2_24, am_cat0, am_catI, am_catR, am_catD, am_ndI, am_ndR, am_ndL, va_rfS, true_and, and_true, Option.toList_some, Option.toList_none, List.cons_append, List.nil_append, Nat.reduceAdd, Nat.reduceLeDiff, Nat.zero_add, Nat.le_refl, c20v hb ht hw, h, bN_T, bN_F, bN_0, nI0_0, nI1_0, nI01a, nI01b, true_or, or_true, false_or, or_false, so0, so1, so49, not_true_eq_false, not_false_eq_true, if_true, if_false, so0, so1, sf0_0, c95m hb, mq2, c77 (mq_o b) ht]
theorem c2n {b t : Nat} (hb : b < 2) (ht : t < 8) (hw : bW M (mq b)) (h : ¬ (bTh M (mq b)).testBit t = true) : RR 2 0 [.ref 0, .int (nI b), .int (nI t)] [] (SH, (0, 0, sl), M, D, RF) Q ↔ Q (some (.int (nI 0))) (SH, (0, 0, sl), M, D, RF) := by
  simp only [r2_0, r2_1, r2_2, r2_3, r2_6, r2_9, r2_10, r2_11, r2_12, r2_15, r2_16, r2_19, r2_20, r2_23, r2_24, am_cat0, am_catI, am_catR, am_catD, am_ndI, am_ndR, am_ndL, va_rfS, true_and, and_true, Option.toList_some, Option.toList_none, List.cons_append, List.nil_append, Nat.reduceAdd, Nat.reduceLeDiff, Nat.zero_add, Nat.le_refl, c20v hb ht hw, h, Bool.false_eq_true, bN_T, bN_F, bN_0, nI0_0, nI1_0, nI01a, nI01b, true_or, or_true, false_or, or_false, so0, so1, so49, not_true_eq_false, not_false_eq_true, if_true, if_false]
theorem c2f {b t : Int32} (h : ¬ ((0 ≤ b.toInt ∧ b.toInt ≤ 1) ∧ 0 ≤ t.toInt ∧ t.toInt ≤ 7)) : RR 2 0 [.ref 0, .int b, .int t] [] (SH, (0, 0, sl), M, D, RF) Q ↔ Q (some (.int (nI 0))) (SH, (0, 0, sl), M, D, RF) := by
  simp only [r2_0, r2_1, r2_2, r2_3, r2_6, r2_9, r2_10, r2_11, r2_12, r2_15, r2_16, r2_19, r2_20, r2_23, r2_24, am_cat0, am_catI, am_catR, am_catD, am_ndI, am_ndR, am_ndL, va_rfS, true_and, and_true, Option.toList_some, Option.toList_none, List.cons_append, List.nil_append, Nat.reduceAdd, Nat.reduceLeDiff, Nat.zero_add, Nat.le_refl, c20f h, nI0_0, bN_T, bN_F, bN_0, nI0_0, nI1_0, nI01a, nI01b, true_or, or_true, false_or, or_false, so0, so1, so49, not_true_eq_false, not_false_eq_true, if_true, if_false]
variable {M0 : Nat → Nat → Int32}
def dmM (M : Nat → Nat → Int32) (x j : Nat) : Nat → Nat → Int32 := fun q k => if q = 56 ∧ 24 * x ≤ k ∧ k < 24 * x + j then -1 else M q k
theorem dmM_0 (M : Nat → Nat → Int32) (x : Nat) : dmM M x 0 = M := by
  funext q k
  exact if_neg (fun z => by omega)
theorem dmM_1 (M : Nat → Nat → Int32) (x j : Nat) : am_up (dmM M x j) 56 (24 * x + j) (-1) = dmM M x (j + 1) := by
  funext q k
  unfold am_up dmM
  by_cases h1 : q = 56 ∧ k = 24 * x + j
  · rw [if_pos h1, if_pos ⟨h1.1, by omega, by omega⟩]
  · rw [if_neg h1]
    by_cases h2 : q = 56 ∧ 24 * x ≤ k ∧ k < 24 * x + j
    · rw [if_pos h2, if_pos ⟨h2.1, h2.2.1, by omega⟩]
    · rw [if_neg h2, if_neg (fun z => by
        by_cases e : k = 24 * x + j
        · exact h1 ⟨z.1, e⟩
        · exact h2 ⟨z.1, z.2.1, by omega⟩)]
theorem c35o {b t : Nat} (hb : b < 2) (ht : t < 8) : ∀ (i j : Nat), j + i = 24 → (RR 35 33 [.ref 49, .int (nI b), .int (nI t), .int (nI (24 * (8 * b + t) + j))] [] (SH, (0, 0, sl), dmM M (8 * b + t) j, D, RF) Q ↔ Q (some (.int (nI 1))) (SH, (0, 0, sl), dmM M (8 * b + t) 24, D, RF)) := by
  intro i
  induction i with
  | zero =>
    intro j h
    have e : j = 24 := by omega
    subst e
    rw [r35_33]
    simp (disch := omega) only [r35_0, r35_1, r35_2, r35_3, r35_6, r35_9, r35_10, r35_11, r35_12, r35_15, r35_17, r35_18, r35_19, r35_20, r35_21, r35_22, r35_23, r35_25, r35_27, r35_28, r35_29, r35_30, r35_31, r35_32, r35_34, r35_36, r35_38, r35_39, r35_40, r35_41, r35_42, r35_43, r35_45, r35_46, r35_49, r35_50, r35_53, r35_54, r35_55, r35_56, r35_59, r35_62, r35_63, am_cat0, am_catI, am_catR, am_catD, am_ndI, am_ndR, am_ndL, va_rfS, true_and, and_true, Option.toList_some, Option.toList_none, List.cons_append, List.nil_append, Nat.reduceAdd, Nat.reduceLeDiff, Nat.zero_add, Nat.le_refl, pk_mul, nI_add, Int32.le_refl, if_true, nI01b, or_true]
  | succ i ih =>
    intro j h
    have e : (nI (24 * (8 * b + t) + 24) ≤ nI (24 * (8 * b + t) + j)) = False := eq_false (by rw [nx_le (by omega) (by omega)]; omega)
    rw [r35_33]
    simp (disch := omega) only [r35_0, r35_1, r35_2, r35_3, r35_6, r35_9, r35_10, r35_11, r35_12, r35_15, r35_17, r35_18, r35_19, r35_20, r35_21, r35_22, r35_23, r35_25, r35_27, r35_28, r35_29, r35_30, r35_31, r35_32, r35_34, r35_36, r35_38, r35_39, r35_40, r35_41, r35_42, r35_43, r35_45, r35_46, r35_49, r35_50, r35_53, r35_54, r35_55, r35_56, r35_59, r35_62, r35_63, am_cat0, am_catI, am_catR, am_catD, am_ndI, am_ndR, am_ndL, va_rfS, true_and, and_true, Option.toList_some, Option.toList_none, List.cons_append, List.nil_append, Nat.reduceAdd, Nat.reduceLeDiff, Nat.zero_add, Nat.le_refl, pk_mul, nI_add, e, if_false, so49, sf49_6, sl56, am_bs, bd_n, nI_tn, dmM_1]
    rw [Nat.add_assoc]
    exact ih (j + 1) (by omega)
theorem c35v {b t : Nat} (hb : b < 2) (ht : t < 8) (hT : M 50 (8 * b + t) = bN ((bTh M0 (mq b)).testBit t = true)) (h : (bTh M0 (mq b)).testBit t = true) : RR 35 0 [.ref 49, .int (nI b), .int (nI t), .long 0] [] (SH, (0, 0, sl), M, D, RF) Q ↔ Q (some (.int (nI 1))) (SH, (0, 0, sl), dmM (am_up M 50 (8 * b + t) (nI 0)) (8 * b + t) 24, D, RF) := by
  simp (disch := omega) only [r35_0, r35_1, r35_2, r35_3, r35_6, r35_9, r35_10, r35_11, r35_12, r35_15, r35_17, r35_18, r35_19, r35_20, r35_21, r35_22, r35_23, r35_25, r35_27, r35_28, r35_29, r35_30, r35_31, r35_32, r35_34, r35_36, r35_38, r35_39, r35_40, r35_41, r35_42, r35_43, r35_45, r35_46, r35_49, r35_50, r35_53, r35_54, r35_55, r35_56, r35_59, r35_62, r35_63, am_cat0, am_catI, am_catR, am_catD, am_ndI, am_ndR, am_ndL, va_rfS, true_and, and_true, Option.toList_some, Option.toList_none, List.cons_append, List.nil_append, Nat.reduceAdd, Nat.reduceLeDiff, Nat.zero_add, Nat.le_refl, c33 hb ht hT, h, bN_T, bN_F, bN_0, nI0_0, nI1_0, nI01a, nI01b, true_or, or_true, false_or, or_false, so0, so1, so49, not_true_eq_false, not_false_eq_true, if_true, if_false, so49, sf49_0, sl50, am_bs, bd_n, nI_tn, pk_mul, nI_add, nar_0]
  have h2 := c35o (Q := Q) (M := am_up M 50 (8 * b + t) (nI 0)) (D := D) (sl := sl) hb ht 24 0 (by omega)
  rw [dmM_0, Nat.add_zero] at h2
  exact h2
theorem c35n {b t : Nat} (hb : b < 2) (ht : t < 8) (hT : M 50 (8 * b + t) = bN ((bTh M0 (mq b)).testBit t = true)) (h : ¬ (bTh M0 (mq b)).testBit t = true) : RR 35 0 [.ref 49, .int (nI b), .int (nI t), .long 0] [] (SH, (0, 0, sl), M, D, RF) Q ↔ Q (some (.int (nI 0))) (SH, (0, 0, sl), M, D, RF) := by
  simp only [r35_0, r35_1, r35_2, r35_3, r35_6, r35_9, r35_10, r35_11, r35_12, r35_15, r35_17, r35_18, r35_19, r35_20, r35_21, r35_22, r35_23, r35_25, r35_27, r35_28, r35_29, r35_30, r35_31, r35_32, r35_34, r35_36, r35_38, r35_39, r35_40, r35_41, r35_42, r35_43, r35_45, r35_46, r35_49, r35_50, r35_53, r35_54, r35_55, r35_56, r35_59, r35_62, r35_63, am_cat0, am_catI, am_catR, am_catD, am_ndI, am_ndR, am_ndL, va_rfS, true_and, and_true, Option.toList_some, Option.toList_none, List.cons_append, List.nil_append, Nat.reduceAdd, Nat.reduceLeDiff, Nat.zero_add, Nat.le_refl, c33 hb ht hT, h, Bool.false_eq_true, bN_T, bN_F, bN_0, nI0_0, nI1_0, nI01a, nI01b, true_or, or_true, false_or, or_false, so0, so1, so49, not_true_eq_false, not_false_eq_true, if_true, if_false]
theorem c35f {b t : Int32} (h : ¬ ((0 ≤ b.toInt ∧ b.toInt ≤ 1) ∧ 0 ≤ t.toInt ∧ t.toInt ≤ 7)) : RR 35 0 [.ref 49, .int b, .int t, .long 0] [] (SH, (0, 0, sl), M, D, RF) Q ↔ Q (some (.int (nI 0))) (SH, (0, 0, sl), M, D, RF) := by
  simp only [r35_0, r35_1, r35_2, r35_3, r35_6, r35_9, r35_10, r35_11, r35_12, r35_15, r35_17, r35_18, r35_19, r35_20, r35_21, r35_22, r35_23, r35_25, r35_27, r35_28, r35_29, r35_30, r35_31, r35_32, r35_34, r35_36, r35_38, r35_39, r35_40, r35_41, r35_42, r35_43, r35_45, r35_46, r35_49, r35_50, r35_53, r35_54, r35_55, r35_56, r35_59, r35_62, r35_63, am_cat0, am_catI, am_catR, am_catD, am_ndI, am_ndR, am_ndL, va_rfS, true_and, and_true, Option.toList_some, Option.toList_none, List.cons_append, List.nil_append, Nat.reduceAdd, Nat.reduceLeDiff, Nat.zero_add, Nat.le_refl, c33f h, so49, nI0_0, bN_T, bN_F, bN_0, nI0_0, nI1_0, nI01a, nI01b, true_or, or_true, false_or, or_false, so0, so1, so49, not_true_eq_false, not_false_eq_true, if_true, if_false]
/-- member -/
theorem c3v {b t s j : Nat} {m : Prop} {hm : Decidable m} (hb : b < 2) (ht : t < 8) (hs : s < 12) (hj : j < 32) (hw : bW M (mq b)) (h : (bTh M (mq b)).testBit t = true) : RR 3 0 [.ref 0, .int (nI b), .int (nI t), .int (@bN m hm), .int (nI s), .int (nI j)] [] (SH, (0, 0, sl), M, D, RF) Q ↔ Q (some (.int (nI 1))) (SH, (0, 0, sl), smM M (mq b) t (if m then 12 + s else s) (nI j), D, RF) := by
  have hs2 : (if m then 12 + s else s) < 24 := by by_cases h : m <;> simp [h] <;> omega
  simp only [r3_0, r3_1, r3_2, r3_3, r3_6, r3_9, r3_11, r3_12, r3_14, r3_17, r3_20, r3_22, r3_23, r3_25, r3_28, r3_31, r3_32, r3_33, r3_34, r3_37, r3_38, r3_41, r3_42, r3_43, r3_45, r3_48, r3_50, r3_53, r3_54, am_cat0, am_catI, am_catR, am_catD, am_ndI, am_ndR, am_ndL, va_rfS, true_and, and_true, Option.toList_some, Option.toList_none, List.cons_append, List.nil_append, Nat.reduceAdd, Nat.reduceLeDiff, Nat.zero_add, Nat.le_refl, c20v hb ht hw, h, c24t (show s ≤ 11 by omega) (by decide), c24t (show j ≤ 31 by omega) (by decide), nI1_0, bN_T, bN_F, bN_0, nI0_0, nI1_0, nI01a, nI01b, true_or, or_true, false_or, or_false, so0, so1, so49, not_true_eq_false, not_false_eq_true, if_true, if_false, so0, so1, sf0_0, c95m hb, mq2, c26, c78 (mq_o b) ht hs2]
theorem c3n {b t : Nat} {m s j : Int32} (hb : b < 2) (ht : t < 8) (hw : bW M (mq b)) (h : ¬ (bTh M (mq b)).testBit t = true) : RR 3 0 [.ref 0, .int (nI b), .int (nI t), .int m, .int s, .int j] [] (SH, (0, 0, sl), M, D, RF) Q ↔ Q (some (.int (nI 0))) (SH, (0, 0, sl), M, D, RF) := by
  simp only [r3_0, r3_1, r3_2, r3_3, r3_6, r3_9, r3_11, r3_12, r3_14, r3_17, r3_20, r3_22, r3_23, r3_25, r3_28, r3_31, r3_32, r3_33, r3_34, r3_37, r3_38, r3_41, r3_42, r3_43, r3_45, r3_48, r3_50, r3_53, r3_54, am_cat0, am_catI, am_catR, am_catD, am_ndI, am_ndR, am_ndL, va_rfS, true_and, and_true, Option.toList_some, Option.toList_none, List.cons_append, List.nil_append, Nat.reduceAdd, Nat.reduceLeDiff, Nat.zero_add, Nat.le_refl, c20v hb ht hw, h, Bool.false_eq_true, bN_T, bN_F, bN_0, nI0_0, nI1_0, nI01a, nI01b, true_or, or_true, false_or, or_false, so0, so1, so49, not_true_eq_false, not_false_eq_true, if_true, if_false]
theorem c3f {b t m s j : Int32} (hw : bW M 2 ∧ bW M 9) (h : ¬ (((0 ≤ b.toInt ∧ b.toInt ≤ 1) ∧ 0 ≤ t.toInt ∧ t.toInt ≤ 7) ∧ (0 ≤ s.toInt ∧ s.toInt ≤ 11) ∧ (0 ≤ j.toInt ∧ j.toInt ≤ 31))) : RR 3 0 [.ref 0, .int b, .int t, .int m, .int s, .int j] [] (SH, (0, 0, sl), M, D, RF) Q ↔ Q (some (.int (nI 0))) (SH, (0, 0, sl), M, D, RF) := by
  have z0 : (nI 0).toInt = 0 := by decide
  have z1 : (nI 1).toInt = 1 := by decide
  have z7 : (nI 7).toInt = 7 := by decide
  have z11 : (nI 11).toInt = 11 := by decide
  have z31 : (nI 31).toInt = 31 := by decide
  have z47 : (nI 47).toInt = 47 := by decide
  have z255 : (nI 255).toInt = 255 := by decide
  have zm1 : (-1 : Int32).toInt = -1 := by decide
  by_cases a0 : ((0 ≤ b.toInt ∧ b.toInt ≤ 1) ∧ 0 ≤ t.toInt ∧ t.toInt ≤ 7)
  · obtain ⟨b', t', hb, ht, rfl, rfl⟩ := plOk a0
    have hw' : bW M (mq b') := mqW hw.1 hw.2
    by_cases g : (bTh M (mq b')).testBit t' = true
    · by_cases a1 : (0 ≤ s.toInt ∧ s.toInt ≤ 11)
      · have a2 := eq_false (fun z => h ⟨a0, a1, z⟩)
        have e1 := eq_true a1
        simp only [r3_0, r3_1, r3_2, r3_3, r3_6, r3_9, r3_11, r3_12, r3_14, r3_17, r3_20, r3_22, r3_23, r3_25, r3_28, r3_31, r3_32, r3_33, r3_34, r3_37, r3_38, r3_41, r3_42, r3_43, r3_45, r3_48, r3_50, r3_53, r3_54, am_cat0, am_catI, am_catR, am_catD, am_ndI, am_ndR, am_ndL, va_rfS, true_and, and_true, Option.toList_some, Option.toList_none, List.cons_append, List.nil_append, Nat.reduceAdd, Nat.reduceLeDiff, Nat.zero_add, Nat.le_refl, c20v hb ht hw', g, bN_T, bN_F, bN_0, nI0_0, nI1_0, nI01a, nI01b, true_or, or_true, false_or, or_false, so0, so1, so49, not_true_eq_false, not_false_eq_true, if_true, if_false, c24, z0, z1, z7, z11, z31, z47, z255, zm1, e1, a2]
      · have e1 := eq_false a1
        simp only [r3_0, r3_1, r3_2, r3_3, r3_6, r3_9, r3_11, r3_12, r3_14, r3_17, r3_20, r3_22, r3_23, r3_25, r3_28, r3_31, r3_32, r3_33, r3_34, r3_37, r3_38, r3_41, r3_42, r3_43, r3_45, r3_48, r3_50, r3_53, r3_54, am_cat0, am_catI, am_catR, am_catD, am_ndI, am_ndR, am_ndL, va_rfS, true_and, and_true, Option.toList_some, Option.toList_none, List.cons_append, List.nil_append, Nat.reduceAdd, Nat.reduceLeDiff, Nat.zero_add, Nat.le_refl, c20v hb ht hw', g, bN_T, bN_F, bN_0, nI0_0, nI1_0, nI01a, nI01b, true_or, or_true, false_or, or_false, so0, so1, so49, not_true_eq_false, not_false_eq_true, if_true, if_false, c24, z0, z1, z7, z11, z31, z47, z255, zm1, e1]
    · exact c3n hb ht hw' g
  · simp only [r3_0, r3_1, r3_2, r3_3, r3_6, r3_9, r3_11, r3_12, r3_14, r3_17, r3_20, r3_22, r3_23, r3_25, r3_28, r3_31, r3_32, r3_33, r3_34, r3_37, r3_38, r3_41, r3_42, r3_43, r3_45, r3_48, r3_50, r3_53, r3_54, am_cat0, am_catI, am_catR, am_catD, am_ndI, am_ndR, am_ndL, va_rfS, true_and, and_true, Option.toList_some, Option.toList_none, List.cons_append, List.nil_append, Nat.reduceAdd, Nat.reduceLeDiff, Nat.zero_add, Nat.le_refl, c20f a0, nI0_0, bN_T, bN_F, bN_0, nI0_0, nI1_0, nI01a, nI01b, true_or, or_true, false_or, or_false, so0, so1, so49, not_true_eq_false, not_false_eq_true, if_true, if_false]
def mmM (M : Nat → Nat → Int32) (x s : Nat) (m : Prop) (hm : Decidable m) (j : Nat) : Nat → Nat → Int32 := if m then am_up M 56 (24 * x + (12 + s)) (nI j) else am_up (am_up M 56 (24 * x + s) (nI j)) 51 (12 * x + s) (nI 0)
theorem c37v {b t s j : Nat} {m : Prop} {hm : Decidable m} (hb : b < 2) (ht : t < 8) (hs : s < 12) (hj : j < 32) (hT : M 50 (8 * b + t) = bN ((bTh M0 (mq b)).testBit t = true)) (h : (bTh M0 (mq b)).testBit t = true) : RR 37 0 [.ref 49, .int (nI b), .int (nI t), .int (@bN m hm), .int (nI s), .int (nI j)] [] (SH, (0, 0, sl), M, D, RF) Q ↔ Q (some (.int (nI 1))) (SH, (0, 0, sl), mmM M (8 * b + t) s m hm j, D, RF) := by
  by_cases h0 : m
  · have e13 : 13 + s = (12 + s) + 1 := by omega
    simp (disch := omega) only [r37_0, r37_1, r37_2, r37_3, r37_6, r37_9, r37_11, r37_12, r37_14, r37_17, r37_20, r37_22, r37_23, r37_25, r37_28, r37_31, r37_32, r37_33, r37_34, r37_37, r37_38, r37_39, r37_40, r37_43, r37_45, r37_48, r37_49, r37_51, r37_52, r37_55, r37_57, r37_58, r37_59, r37_62, r37_63, r37_66, r37_68, r37_70, r37_71, r37_72, r37_73, r37_74, r37_75, r37_77, r37_78, r37_79, r37_80, r37_81, am_cat0, am_catI, am_catR, am_catD, am_ndI, am_ndR, am_ndL, va_rfS, true_and, and_true, Option.toList_some, Option.toList_none, List.cons_append, List.nil_append, Nat.reduceAdd, Nat.reduceLeDiff, Nat.zero_add, Nat.le_refl, c33 hb ht hT, h, c32t (show s ≤ 11 by omega) (by decide), c32t (show j ≤ 31 by omega) (by decide), bN_t h0, nI1_0, nI01b, or_true, bN_T, bN_F, bN_0, nI0_0, nI1_0, nI01a, nI01b, true_or, or_true, false_or, or_false, so0, so1, so49, not_true_eq_false, not_false_eq_true, if_true, if_false, so49, sf49_6, sl56, nI_add, e13, c36 hb ht (show 12 + s < 24 by omega), am_bs, bd_n, nI_tn]
    unfold mmM
    rw [if_pos h0]
  · have e13 : 1 + s = s + 1 := by omega
    simp (disch := omega) only [r37_0, r37_1, r37_2, r37_3, r37_6, r37_9, r37_11, r37_12, r37_14, r37_17, r37_20, r37_22, r37_23, r37_25, r37_28, r37_31, r37_32, r37_33, r37_34, r37_37, r37_38, r37_39, r37_40, r37_43, r37_45, r37_48, r37_49, r37_51, r37_52, r37_55, r37_57, r37_58, r37_59, r37_62, r37_63, r37_66, r37_68, r37_70, r37_71, r37_72, r37_73, r37_74, r37_75, r37_77, r37_78, r37_79, r37_80, r37_81, am_cat0, am_catI, am_catR, am_catD, am_ndI, am_ndR, am_ndL, va_rfS, true_and, and_true, Option.toList_some, Option.toList_none, List.cons_append, List.nil_append, Nat.reduceAdd, Nat.reduceLeDiff, Nat.zero_add, Nat.le_refl, c33 hb ht hT, h, c32t (show s ≤ 11 by omega) (by decide), c32t (show j ≤ 31 by omega) (by decide), bN_f h0, nI1_0, nI0_0, nI01b, or_true, bN_T, bN_F, bN_0, nI0_0, nI1_0, nI01a, nI01b, true_or, or_true, false_or, or_false, so0, so1, so49, not_true_eq_false, not_false_eq_true, if_true, if_false, so49, sf49_1, sf49_6, sl51, sl56, pk_mul, nI_add, e13, c36 hb ht (show s < 24 by omega), am_bs, bd_n, nI_tn, nar_0]
    unfold mmM
    rw [if_neg h0]
theorem c37n {b t : Nat} {m s j : Int32} (hb : b < 2) (ht : t < 8) (hT : M 50 (8 * b + t) = bN ((bTh M0 (mq b)).testBit t = true)) (h : ¬ (bTh M0 (mq b)).testBit t = true) : RR 37 0 [.ref 49, .int (nI b), .int (nI t), .int m, .int s, .int j] [] (SH, (0, 0, sl), M, D, RF) Q ↔ Q (some (.int (nI 0))) (SH, (0, 0, sl), M, D, RF) := by
  simp only [r37_0, r37_1, r37_2, r37_3, r37_6, r37_9, r37_11, r37_12, r37_14, r37_17, r37_20, r37_22, r37_23, r37_25, r37_28, r37_31, r37_32, r37_33, r37_34, r37_37, r37_38, r37_39, r37_40, r37_43, r37_45, r37_48, r37_49, r37_51, r37_52, r37_55, r37_57, r37_58, r37_59, r37_62, r37_63, r37_66, r37_68, r37_70, r37_71, r37_72, r37_73, r37_74, r37_75, r37_77, r37_78, r37_79, r37_80, r37_81, am_cat0, am_catI, am_catR, am_catD, am_ndI, am_ndR, am_ndL, va_rfS, true_and, and_true, Option.toList_some, Option.toList_none, List.cons_append, List.nil_append, Nat.reduceAdd, Nat.reduceLeDiff, Nat.zero_add, Nat.le_refl, c33 hb ht hT, h, Bool.false_eq_true, bN_T, bN_F, bN_0, nI0_0, nI1_0, nI01a, nI01b, true_or, or_true, false_or, or_false, so0, so1, so49, not_true_eq_false, not_false_eq_true, if_true, if_false]
theorem c37f {b t m s j : Int32} (hB : mBd M0 D M) (h : ¬ (((0 ≤ b.toInt ∧ b.toInt ≤ 1) ∧ 0 ≤ t.toInt ∧ t.toInt ≤ 7) ∧ (0 ≤ s.toInt ∧ s.toInt ≤ 11) ∧ (0 ≤ j.toInt ∧ j.toInt ≤ 31))) : RR 37 0 [.ref 49, .int b, .int t, .int m, .int s, .int j] [] (SH, (0, 0, sl), M, D, RF) Q ↔ Q (some (.int (nI 0))) (SH, (0, 0, sl), M, D, RF) := by
  have z0 : (nI 0).toInt = 0 := by decide
  have z1 : (nI 1).toInt = 1 := by decide
  have z7 : (nI 7).toInt = 7 := by decide
  have z11 : (nI 11).toInt = 11 := by decide
  have z31 : (nI 31).toInt = 31 := by decide
  have z47 : (nI 47).toInt = 47 := by decide
  have z255 : (nI 255).toInt = 255 := by decide
  have zm1 : (-1 : Int32).toInt = -1 := by decide
  by_cases a0 : ((0 ≤ b.toInt ∧ b.toInt ≤ 1) ∧ 0 ≤ t.toInt ∧ t.toInt ≤ 7)
  · obtain ⟨b', t', hb, ht, rfl, rfl⟩ := plOk a0
    have hT := (hB b' hb t' ht).1
    by_cases g : (bTh M0 (mq b')).testBit t' = true
    · by_cases a1 : (0 ≤ s.toInt ∧ s.toInt ≤ 11)
      · have a2 := eq_false (fun z => h ⟨a0, a1, z⟩)
        have e1 := eq_true a1
        simp only [r37_0, r37_1, r37_2, r37_3, r37_6, r37_9, r37_11, r37_12, r37_14, r37_17, r37_20, r37_22, r37_23, r37_25, r37_28, r37_31, r37_32, r37_33, r37_34, r37_37, r37_38, r37_39, r37_40, r37_43, r37_45, r37_48, r37_49, r37_51, r37_52, r37_55, r37_57, r37_58, r37_59, r37_62, r37_63, r37_66, r37_68, r37_70, r37_71, r37_72, r37_73, r37_74, r37_75, r37_77, r37_78, r37_79, r37_80, r37_81, am_cat0, am_catI, am_catR, am_catD, am_ndI, am_ndR, am_ndL, va_rfS, true_and, and_true, Option.toList_some, Option.toList_none, List.cons_append, List.nil_append, Nat.reduceAdd, Nat.reduceLeDiff, Nat.zero_add, Nat.le_refl, c33 hb ht hT, g, bN_T, bN_F, bN_0, nI0_0, nI1_0, nI01a, nI01b, true_or, or_true, false_or, or_false, so0, so1, so49, not_true_eq_false, not_false_eq_true, if_true, if_false, so49, c32, z0, z1, z7, z11, z31, z47, z255, zm1, e1, a2]
      · have e1 := eq_false a1
        simp only [r37_0, r37_1, r37_2, r37_3, r37_6, r37_9, r37_11, r37_12, r37_14, r37_17, r37_20, r37_22, r37_23, r37_25, r37_28, r37_31, r37_32, r37_33, r37_34, r37_37, r37_38, r37_39, r37_40, r37_43, r37_45, r37_48, r37_49, r37_51, r37_52, r37_55, r37_57, r37_58, r37_59, r37_62, r37_63, r37_66, r37_68, r37_70, r37_71, r37_72, r37_73, r37_74, r37_75, r37_77, r37_78, r37_79, r37_80, r37_81, am_cat0, am_catI, am_catR, am_catD, am_ndI, am_ndR, am_ndL, va_rfS, true_and, and_true, Option.toList_some, Option.toList_none, List.cons_append, List.nil_append, Nat.reduceAdd, Nat.reduceLeDiff, Nat.zero_add, Nat.le_refl, c33 hb ht hT, g, bN_T, bN_F, bN_0, nI0_0, nI1_0, nI01a, nI01b, true_or, or_true, false_or, or_false, so0, so1, so49, not_true_eq_false, not_false_eq_true, if_true, if_false, so49, c32, z0, z1, z7, z11, z31, z47, z255, zm1, e1]
    · exact c37n hb ht hT g
  · simp only [r37_0, r37_1, r37_2, r37_3, r37_6, r37_9, r37_11, r37_12, r37_14, r37_17, r37_20, r37_22, r37_23, r37_25, r37_28, r37_31, r37_32, r37_33, r37_34, r37_37, r37_38, r37_39, r37_40, r37_43, r37_45, r37_48, r37_49, r37_51, r37_52, r37_55, r37_57, r37_58, r37_59, r37_62, r37_63, r37_66, r37_68, r37_70, r37_71, r37_72, r37_73, r37_74, r37_75, r37_77, r37_78, r37_79, r37_80, r37_81, am_cat0, am_catI, am_catR, am_catD, am_ndI, am_ndR, am_ndL, va_rfS, true_and, and_true, Option.toList_some, Option.toList_none, List.cons_append, List.nil_append, Nat.reduceAdd, Nat.reduceLeDiff, Nat.zero_add, Nat.le_refl, c33f a0, so49, nI0_0, bN_T, bN_F, bN_0, nI0_0, nI1_0, nI01a, nI01b, true_or, or_true, false_or, or_false, so0, so1, so49, not_true_eq_false, not_false_eq_true, if_true, if_false]
/-- constant -/
theorem c4y {b t s : Nat} {v : UInt64} (hb : b < 2) (ht : t < 8) (hs : s < 12) (hw : bW M (mq b)) (h : (bTh M (mq b)).testBit t = true ∧ bHas M (mq b) t s) : RR 4 0 [.ref 0, .int (nI b), .int (nI t), .int (nI s), .double v, .long 0] [] (SH, (0, 0, sl), M, D, RF) Q ↔ Q (some (.int (nI 1))) (SH, (0, 0, sl), scM M (mq b) t s, am_up D (mq b + 6) (t * 12 + s) v, RF) := by
  have hF : nI 0 = bN False := by rw [bN_f (fun z => z)]
  have h21 := fun Q => c21v (Q := Q) (M := M) (D := D) (sl := sl) (m := False) (hm := inferInstance) hb ht hs hw
  rw [← hF] at h21
  simp only [if_false] at h21
  have h' : ∀ hd, @bN ((bTh M (mq b)).testBit t = true ∧ bHas M (mq b) t s) hd = nI 1 := fun hd => bN_t h
  simp only [r4_0, r4_1, r4_2, r4_3, r4_4, r4_5, r4_8, r4_11, r4_12, r4_13, r4_14, r4_17, r4_18, r4_21, r4_22, r4_23, r4_25, r4_28, r4_29, am_cat0, am_catI, am_catR, am_catD, am_ndI, am_ndR, am_ndL, va_rfS, true_and, and_true, Option.toList_some, Option.toList_none, List.cons_append, List.nil_append, Nat.reduceAdd, Nat.reduceLeDiff, Nat.zero_add, Nat.le_refl, h21, h', nI1_0, bN_T, bN_F, bN_0, nI0_0, nI1_0, nI01a, nI01b, true_or, or_true, false_or, or_false, so0, so1, so49, not_true_eq_false, not_false_eq_true, if_true, if_false, so0, so1, sf0_0, c95m hb, mq2, c79 (mq_o b) ht hs]
theorem c4n {b t s : Nat} {v : UInt64} (hb : b < 2) (ht : t < 8) (hs : s < 12) (hw : bW M (mq b)) (h : ¬ ((bTh M (mq b)).testBit t = true ∧ bHas M (mq b) t s)) : RR 4 0 [.ref 0, .int (nI b), .int (nI t), .int (nI s), .double v, .long 0] [] (SH, (0, 0, sl), M, D, RF) Q ↔ Q (some (.int (nI 0))) (SH, (0, 0, sl), M, D, RF) := by
  have hF : nI 0 = bN False := by rw [bN_f (fun z => z)]
  have h21 := fun Q => c21v (Q := Q) (M := M) (D := D) (sl := sl) (m := False) (hm := inferInstance) hb ht hs hw
  rw [← hF] at h21
  simp only [if_false] at h21
  have h' : ∀ hd, @bN ((bTh M (mq b)).testBit t = true ∧ bHas M (mq b) t s) hd = nI 0 := fun hd => bN_f h
  simp only [r4_0, r4_1, r4_2, r4_3, r4_4, r4_5, r4_8, r4_11, r4_12, r4_13, r4_14, r4_17, r4_18, r4_21, r4_22, r4_23, r4_25, r4_28, r4_29, am_cat0, am_catI, am_catR, am_catD, am_ndI, am_ndR, am_ndL, va_rfS, true_and, and_true, Option.toList_some, Option.toList_none, List.cons_append, List.nil_append, Nat.reduceAdd, Nat.reduceLeDiff, Nat.zero_add, Nat.le_refl, h21, h', nI0_0, bN_T, bN_F, bN_0, nI0_0, nI1_0, nI01a, nI01b, true_or, or_true, false_or, or_false, so0, so1, so49, not_true_eq_false, not_false_eq_true, if_true, if_false]
theorem c4f {b t s : Int32} {v : UInt64} (hw : bW M 2 ∧ bW M 9) (h : ¬ (((0 ≤ b.toInt ∧ b.toInt ≤ 1) ∧ 0 ≤ t.toInt ∧ t.toInt ≤ 7) ∧ (0 ≤ s.toInt ∧ s.toInt ≤ 11))) : RR 4 0 [.ref 0, .int b, .int t, .int s, .double v, .long 0] [] (SH, (0, 0, sl), M, D, RF) Q ↔ Q (some (.int (nI 0))) (SH, (0, 0, sl), M, D, RF) := by
  simp only [r4_0, r4_1, r4_2, r4_3, r4_4, r4_5, r4_8, r4_11, r4_12, r4_13, r4_14, r4_17, r4_18, r4_21, r4_22, r4_23, r4_25, r4_28, r4_29, am_cat0, am_catI, am_catR, am_catD, am_ndI, am_ndR, am_ndL, va_rfS, true_and, and_true, Option.toList_some, Option.toList_none, List.cons_append, List.nil_append, Nat.reduceAdd, Nat.reduceLeDiff, Nat.zero_add, Nat.le_refl, c21f hw h, nI0_0, bN_T, bN_F, bN_0, nI0_0, nI1_0, nI01a, nI01b, true_or, or_true, false_or, or_false, so0, so1, so49, not_true_eq_false, not_false_eq_true, if_true, if_false]
theorem c38y {b t s : Nat} {v : UInt64} (hb : b < 2) (ht : t < 8) (hs : s < 12) (hw : bW M0 (mq b)) (hB : mBt M0 D M b t) (h : (bTh M0 (mq b)).testBit t = true ∧ bHas M0 (mq b) t s) : RR 38 0 [.ref 49, .int (nI b), .int (nI t), .int (nI s), .double v, .long 0] [] (SH, (0, 0, sl), M, D, RF) Q ↔ Q (some (.int (nI 1))) (SH, (0, 0, sl), am_up M 51 (12 * (8 * b + t) + s) (nI 1), am_up D 57 (12 * (8 * b + t) + s) v, RF) := by
  have hT := hB.1
  have hMo : M 56 (24 * (8 * b + t) + s) = nI (bMo M0 (mq b) t s) := (hB.2.2.2.2.1 s (by omega)).trans (bMo_e _ _ _ _)
  have hlt := bMo_lt hw ht (show s < 24 by omega) h.2
  have hge : (0 : Int32) ≤ nI (bMo M0 (mq b) t s) := nI_pos' (by omega)
  have hx := h.1
  have e13 : 1 + s = s + 1 := by omega
  simp (disch := omega) only [r38_0, r38_1, r38_2, r38_3, r38_6, r38_9, r38_10, r38_11, r38_13, r38_16, r38_19, r38_20, r38_23, r38_24, r38_25, r38_26, r38_27, r38_28, r38_31, r38_32, r38_35, r38_36, r38_37, r38_38, r38_41, r38_43, r38_45, r38_46, r38_47, r38_48, r38_49, r38_50, r38_51, r38_52, r38_53, r38_54, r38_55, r38_58, r38_60, r38_62, r38_63, r38_64, r38_65, r38_66, r38_67, r38_68, r38_69, r38_71, r38_72, r38_73, am_cat0, am_catI, am_catR, am_catD, am_ndI, am_ndR, am_ndL, va_rfS, true_and, and_true, Option.toList_some, Option.toList_none, List.cons_append, List.nil_append, Nat.reduceAdd, Nat.reduceLeDiff, Nat.zero_add, Nat.le_refl, c33 hb ht hT, hx, c32t (show s ≤ 11 by omega) (by decide), nI1_0, nI01b, or_true, bN_T, bN_F, bN_0, nI0_0, nI1_0, nI01a, nI01b, true_or, or_true, false_or, or_false, so0, so1, so49, not_true_eq_false, not_false_eq_true, if_true, if_false, so49, sf49_1, sf49_6, sf49_7, sl51, sd56, sl57, pk_mul, nI_add, e13, c36 hb ht (show s < 24 by omega), am_bs, am_bd, bd_n, nI_tn, hMo, hge, nar_1]
theorem c38n {b t s : Nat} {v : UInt64} (hb : b < 2) (ht : t < 8) (hs : s < 12) (hB : mBt M0 D M b t) (h : ¬ ((bTh M0 (mq b)).testBit t = true ∧ bHas M0 (mq b) t s)) : RR 38 0 [.ref 49, .int (nI b), .int (nI t), .int (nI s), .double v, .long 0] [] (SH, (0, 0, sl), M, D, RF) Q ↔ Q (some (.int (nI 0))) (SH, (0, 0, sl), M, D, RF) := by
  have hT := hB.1
  have e13 : 1 + s = s + 1 := by omega
  by_cases g : (bTh M0 (mq b)).testBit t = true
  · have hMo : M 56 (24 * (8 * b + t) + s) = -1 := (hB.2.2.2.2.1 s (by omega)).trans (Decidable.not_not.mp (fun z => h ⟨g, z⟩))
    have hge : ¬ (0 : Int32) ≤ -1 := by decide
    simp (disch := omega) only [r38_0, r38_1, r38_2, r38_3, r38_6, r38_9, r38_10, r38_11, r38_13, r38_16, r38_19, r38_20, r38_23, r38_24, r38_25, r38_26, r38_27, r38_28, r38_31, r38_32, r38_35, r38_36, r38_37, r38_38, r38_41, r38_43, r38_45, r38_46, r38_47, r38_48, r38_49, r38_50, r38_51, r38_52, r38_53, r38_54, r38_55, r38_58, r38_60, r38_62, r38_63, r38_64, r38_65, r38_66, r38_67, r38_68, r38_69, r38_71, r38_72, r38_73, am_cat0, am_catI, am_catR, am_catD, am_ndI, am_ndR, am_ndL, va_rfS, true_and, and_true, Option.toList_some, Option.toList_none, List.cons_append, List.nil_append, Nat.reduceAdd, Nat.reduceLeDiff, Nat.zero_add, Nat.le_refl, c33 hb ht hT, g, c32t (show s ≤ 11 by omega) (by decide), nI1_0, nI01a, true_or, bN_T, bN_F, bN_0, nI0_0, nI1_0, nI01a, nI01b, true_or, or_true, false_or, or_false, so0, so1, so49, not_true_eq_false, not_false_eq_true, if_true, if_false, so49, sf49_6, sd56, nI_add, e13, c36 hb ht (show s < 24 by omega), am_bd, bd_n, nI_tn, hMo, hge]
  · simp only [r38_0, r38_1, r38_2, r38_3, r38_6, r38_9, r38_10, r38_11, r38_13, r38_16, r38_19, r38_20, r38_23, r38_24, r38_25, r38_26, r38_27, r38_28, r38_31, r38_32, r38_35, r38_36, r38_37, r38_38, r38_41, r38_43, r38_45, r38_46, r38_47, r38_48, r38_49, r38_50, r38_51, r38_52, r38_53, r38_54, r38_55, r38_58, r38_60, r38_62, r38_63, r38_64, r38_65, r38_66, r38_67, r38_68, r38_69, r38_71, r38_72, r38_73, am_cat0, am_catI, am_catR, am_catD, am_ndI, am_ndR, am_ndL, va_rfS, true_and, and_true, Option.toList_some, Option.toList_none, List.cons_append, List.nil_append, Nat.reduceAdd, Nat.reduceLeDiff, Nat.zero_add, Nat.le_refl, c33 hb ht hT, g, Bool.false_eq_true, bN_T, bN_F, bN_0, nI0_0, nI1_0, nI01a, nI01b, true_or, or_true, false_or, or_false, so0, so1, so49, not_true_eq_false, not_false_eq_true, if_true, if_false]
theorem c38f {b t s : Int32} {v : UInt64} (hB : mBd M0 D M) (h : ¬ (((0 ≤ b.toInt ∧ b.toInt ≤ 1) ∧ 0 ≤ t.toInt ∧ t.toInt ≤ 7) ∧ (0 ≤ s.toInt ∧ s.toInt ≤ 11))) : RR 38 0 [.ref 49, .int b, .int t, .int s, .double v, .long 0] [] (SH, (0, 0, sl), M, D, RF) Q ↔ Q (some (.int (nI 0))) (SH, (0, 0, sl), M, D, RF) := by
  have z0 : (nI 0).toInt = 0 := by decide
  have z1 : (nI 1).toInt = 1 := by decide
  have z7 : (nI 7).toInt = 7 := by decide
  have z11 : (nI 11).toInt = 11 := by decide
  have z31 : (nI 31).toInt = 31 := by decide
  have z47 : (nI 47).toInt = 47 := by decide
  have z255 : (nI 255).toInt = 255 := by decide
  have zm1 : (-1 : Int32).toInt = -1 := by decide
  by_cases a0 : ((0 ≤ b.toInt ∧ b.toInt ≤ 1) ∧ 0 ≤ t.toInt ∧ t.toInt ≤ 7)
  · obtain ⟨b', t', hb, ht, rfl, rfl⟩ := plOk a0
    have hT := (hB b' hb t' ht).1
    have e1 := eq_false (fun z => h ⟨a0, z⟩)
    by_cases g : (bTh M0 (mq b')).testBit t' = true
    · simp only [r38_0, r38_1, r38_2, r38_3, r38_6, r38_9, r38_10, r38_11, r38_13, r38_16, r38_19, r38_20, r38_23, r38_24, r38_25, r38_26, r38_27, r38_28, r38_31, r38_32, r38_35, r38_36, r38_37, r38_38, r38_41, r38_43, r38_45, r38_46, r38_47, r38_48, r38_49, r38_50, r38_51, r38_52, r38_53, r38_54, r38_55, r38_58, r38_60, r38_62, r38_63, r38_64, r38_65, r38_66, r38_67, r38_68, r38_69, r38_71, r38_72, r38_73, am_cat0, am_catI, am_catR, am_catD, am_ndI, am_ndR, am_ndL, va_rfS, true_and, and_true, Option.toList_some, Option.toList_none, List.cons_append, List.nil_append, Nat.reduceAdd, Nat.reduceLeDiff, Nat.zero_add, Nat.le_refl, c33 hb ht hT, g, bN_T, bN_F, bN_0, nI0_0, nI1_0, nI01a, nI01b, true_or, or_true, false_or, or_false, so0, so1, so49, not_true_eq_false, not_false_eq_true, if_true, if_false, so49, c32, z0, z1, z7, z11, z31, z47, z255, zm1, e1]
    · simp only [r38_0, r38_1, r38_2, r38_3, r38_6, r38_9, r38_10, r38_11, r38_13, r38_16, r38_19, r38_20, r38_23, r38_24, r38_25, r38_26, r38_27, r38_28, r38_31, r38_32, r38_35, r38_36, r38_37, r38_38, r38_41, r38_43, r38_45, r38_46, r38_47, r38_48, r38_49, r38_50, r38_51, r38_52, r38_53, r38_54, r38_55, r38_58, r38_60, r38_62, r38_63, r38_64, r38_65, r38_66, r38_67, r38_68, r38_69, r38_71, r38_72, r38_73, am_cat0, am_catI, am_catR, am_catD, am_ndI, am_ndR, am_ndL, va_rfS, true_and, and_true, Option.toList_some, Option.toList_none, List.cons_append, List.nil_append, Nat.reduceAdd, Nat.reduceLeDiff, Nat.zero_add, Nat.le_refl, c33 hb ht hT, g, Bool.false_eq_true, bN_T, bN_F, bN_0, nI0_0, nI1_0, nI01a, nI01b, true_or, or_true, false_or, or_false, so0, so1, so49, not_true_eq_false, not_false_eq_true, if_true, if_false]
  · simp only [r38_0, r38_1, r38_2, r38_3, r38_6, r38_9, r38_10, r38_11, r38_13, r38_16, r38_19, r38_20, r38_23, r38_24, r38_25, r38_26, r38_27, r38_28, r38_31, r38_32, r38_35, r38_36, r38_37, r38_38, r38_41, r38_43, r38_45, r38_46, r38_47, r38_48, r38_49, r38_50, r38_51, r38_52, r38_53, r38_54, r38_55, r38_58, r38_60, r38_62, r38_63, r38_64, r38_65, r38_66, r38_67, r38_68, r38_69, r38_71, r38_72, r38_73, am_cat0, am_catI, am_catR, am_catD, am_ndI, am_ndR, am_ndL, va_rfS, true_and, and_true, Option.toList_some, Option.toList_none, List.cons_append, List.nil_append, Nat.reduceAdd, Nat.reduceLeDiff, Nat.zero_add, Nat.le_refl, c33f a0, so49, nI0_0, bN_T, bN_F, bN_0, nI0_0, nI1_0, nI01a, nI01b, true_or, or_true, false_or, or_false, so0, so1, so49, not_true_eq_false, not_false_eq_true, if_true, if_false]
/-- remove -/
theorem c5y {b t s : Nat} {m : Prop} {hm : Decidable m} (hb : b < 2) (ht : t < 8) (hs : s < 12) (hw : bW M (mq b)) (h : (bTh M (mq b)).testBit t = true ∧ bHas M (mq b) t (if m then 12 + s else s)) : RR 5 0 [.ref 0, .int (nI b), .int (nI t), .int (@bN m hm), .int (nI s)] [] (SH, (0, 0, sl), M, D, RF) Q ↔ Q (some (.int (nI 1))) (SH, (0, 0, sl), smM M (mq b) t (if m then 12 + s else s) (-1), D, RF) := by
  have hs2 : (if m then 12 + s else s) < 24 := by by_cases h : m <;> simp [h] <;> omega
  have h' : ∀ hd, @bN ((bTh M (mq b)).testBit t = true ∧ bHas M (mq b) t (if m then 12 + s else s)) hd = nI 1 := fun hd => bN_t h
  simp only [r5_0, r5_1, r5_2, r5_3, r5_4, r5_6, r5_9, r5_12, r5_13, r5_14, r5_15, r5_18, r5_19, r5_22, r5_23, r5_24, r5_26, r5_29, r5_30, r5_33, r5_34, am_cat0, am_catI, am_catR, am_catD, am_ndI, am_ndR, am_ndL, va_rfS, true_and, and_true, Option.toList_some, Option.toList_none, List.cons_append, List.nil_append, Nat.reduceAdd, Nat.reduceLeDiff, Nat.zero_add, Nat.le_refl, c21v hb ht hs hw, h', nI1_0, bN_T, bN_F, bN_0, nI0_0, nI1_0, nI01a, nI01b, true_or, or_true, false_or, or_false, so0, so1, so49, not_true_eq_false, not_false_eq_true, if_true, if_false, so0, so1, sf0_0, c95m hb, mq2, c26, c78 (mq_o b) ht hs2]
theorem c5n {b t s : Nat} {m : Prop} {hm : Decidable m} (hb : b < 2) (ht : t < 8) (hs : s < 12) (hw : bW M (mq b)) (h : ¬ ((bTh M (mq b)).testBit t = true ∧ bHas M (mq b) t (if m then 12 + s else s))) : RR 5 0 [.ref 0, .int (nI b), .int (nI t), .int (@bN m hm), .int (nI s)] [] (SH, (0, 0, sl), M, D, RF) Q ↔ Q (some (.int (nI 0))) (SH, (0, 0, sl), M, D, RF) := by
  have h' : ∀ hd, @bN ((bTh M (mq b)).testBit t = true ∧ bHas M (mq b) t (if m then 12 + s else s)) hd = nI 0 := fun hd => bN_f h
  simp only [r5_0, r5_1, r5_2, r5_3, r5_4, r5_6, r5_9, r5_12, r5_13, r5_14, r5_15, r5_18, r5_19, r5_22, r5_23, r5_24, r5_26, r5_29, r5_30, r5_33, r5_34, am_cat0, am_catI, am_catR, am_catD, am_ndI, am_ndR, am_ndL, va_rfS, true_and, and_true, Option.toList_some, Option.toList_none, List.cons_append, List.nil_append, Nat.reduceAdd, Nat.reduceLeDiff, Nat.zero_add, Nat.le_refl, c21v hb ht hs hw, h', nI0_0, bN_T, bN_F, bN_0, nI0_0, nI1_0, nI01a, nI01b, true_or, or_true, false_or, or_false, so0, so1, so49, not_true_eq_false, not_false_eq_true, if_true, if_false]
theorem c5f {b t m s : Int32} (hw : bW M 2 ∧ bW M 9) (h : ¬ (((0 ≤ b.toInt ∧ b.toInt ≤ 1) ∧ 0 ≤ t.toInt ∧ t.toInt ≤ 7) ∧ (0 ≤ s.toInt ∧ s.toInt ≤ 11))) : RR 5 0 [.ref 0, .int b, .int t, .int m, .int s] [] (SH, (0, 0, sl), M, D, RF) Q ↔ Q (some (.int (nI 0))) (SH, (0, 0, sl), M, D, RF) := by
  simp only [r5_0, r5_1, r5_2, r5_3, r5_4, r5_6, r5_9, r5_12, r5_13, r5_14, r5_15, r5_18, r5_19, r5_22, r5_23, r5_24, r5_26, r5_29, r5_30, r5_33, r5_34, am_cat0, am_catI, am_catR, am_catD, am_ndI, am_ndR, am_ndL, va_rfS, true_and, and_true, Option.toList_some, Option.toList_none, List.cons_append, List.nil_append, Nat.reduceAdd, Nat.reduceLeDiff, Nat.zero_add, Nat.le_refl, c21f hw h, nI0_0, bN_T, bN_F, bN_0, nI0_0, nI1_0, nI01a, nI01b, true_or, or_true, false_or, or_false, so0, so1, so49, not_true_eq_false, not_false_eq_true, if_true, if_false]
theorem c39x {b t s : Nat} {m : Prop} {hm : Decidable m} (hb : b < 2) (ht : t < 8) (hs : s < 12) (hT : M 50 (8 * b + t) = bN ((bTh M0 (mq b)).testBit t = true)) (h : (bTh M0 (mq b)).testBit t = true) : RR 39 0 [.ref 49, .int (nI b), .int (nI t), .int (@bN m hm), .int (nI s), .long 0] [] (SH, (0, 0, sl), M, D, RF) Q ↔ RR 39 42 [.ref 49, .int (nI b), .int (nI t), .int (@bN m hm), .int (nI s), .int (nI (24 * (8 * b + t) + (if m then 12 + s else s)))] [] (SH, (0, 0, sl), M, D, RF) Q := by
  by_cases h0 : m
  · have e13 : 13 + s = (12 + s) + 1 := by omega
    simp (disch := omega) only [r39_0, r39_1, r39_2, r39_3, r39_6, r39_9, r39_11, r39_12, r39_14, r39_17, r39_20, r39_21, r39_22, r39_23, r39_24, r39_25, r39_28, r39_30, r39_33, r39_34, r39_36, r39_37, r39_40, am_cat0, am_catI, am_catR, am_catD, am_ndI, am_ndR, am_ndL, va_rfS, true_and, and_true, Option.toList_some, Option.toList_none, List.cons_append, List.nil_append, Nat.reduceAdd, Nat.reduceLeDiff, Nat.zero_add, Nat.le_refl, c33 hb ht hT, h, c32t (show s ≤ 11 by omega) (by decide), bN_t h0, h0, nI1_0, bN_T, bN_F, bN_0, nI0_0, nI1_0, nI01a, nI01b, true_or, or_true, false_or, or_false, so0, so1, so49, not_true_eq_false, not_false_eq_true, if_true, if_false, so49, nI_add, e13, c36 hb ht (show 12 + s < 24 by omega)]
  · have e13 : 1 + s = s + 1 := by omega
    simp (disch := omega) only [r39_0, r39_1, r39_2, r39_3, r39_6, r39_9, r39_11, r39_12, r39_14, r39_17, r39_20, r39_21, r39_22, r39_23, r39_24, r39_25, r39_28, r39_30, r39_33, r39_34, r39_36, r39_37, r39_40, am_cat0, am_catI, am_catR, am_catD, am_ndI, am_ndR, am_ndL, va_rfS, true_and, and_true, Option.toList_some, Option.toList_none, List.cons_append, List.nil_append, Nat.reduceAdd, Nat.reduceLeDiff, Nat.zero_add, Nat.le_refl, c33 hb ht hT, h, c32t (show s ≤ 11 by omega) (by decide), bN_f h0, h0, nI1_0, nI0_0, bN_T, bN_F, bN_0, nI0_0, nI1_0, nI01a, nI01b, true_or, or_true, false_or, or_false, so0, so1, so49, not_true_eq_false, not_false_eq_true, if_true, if_false, so49, nI_add, e13, c36 hb ht (show s < 24 by omega)]
theorem c39y {b t s : Nat} {m : Prop} {hm : Decidable m} (hb : b < 2) (ht : t < 8) (hs : s < 12) (hw : bW M0 (mq b)) (hB : mBt M0 D M b t) (h : (bTh M0 (mq b)).testBit t = true ∧ bHas M0 (mq b) t (if m then 12 + s else s)) : RR 39 0 [.ref 49, .int (nI b), .int (nI t), .int (@bN m hm), .int (nI s), .long 0] [] (SH, (0, 0, sl), M, D, RF) Q ↔ Q (some (.int (nI 1))) (SH, (0, 0, sl), am_up M 56 (24 * (8 * b + t) + (if m then 12 + s else s)) (-1), D, RF) := by
  have hs2 : (if m then 12 + s else s) < 24 := by by_cases h : m <;> simp [h] <;> omega
  rw [c39x hb ht hs hB.1 h.1]
  obtain ⟨-, h2⟩ := h
  generalize (if m then 12 + s else s) = u at *
  have hMo : M 56 (24 * (8 * b + t) + u) = nI (bMo M0 (mq b) t u) := (hB.2.2.2.2.1 u hs2).trans (bMo_e _ _ _ _)
  have hlt := bMo_lt hw ht hs2 h2
  have hge : (0 : Int32) ≤ nI (bMo M0 (mq b) t u) := nI_pos' (by omega)
  simp (disch := omega) only [r39_42, r39_43, r39_46, r39_48, r39_49, r39_52, r39_53, r39_54, r39_55, r39_58, r39_60, r39_61, r39_62, r39_63, am_cat0, am_catI, am_catR, am_catD, am_ndI, am_ndR, am_ndL, va_rfS, true_and, and_true, Option.toList_some, Option.toList_none, List.cons_append, List.nil_append, Nat.reduceAdd, Nat.reduceLeDiff, Nat.zero_add, Nat.le_refl, nI01b, or_true, bN_T, bN_F, bN_0, nI0_0, nI1_0, nI01a, nI01b, true_or, or_true, false_or, or_false, so0, so1, so49, not_true_eq_false, not_false_eq_true, if_true, if_false, so49, sf49_6, sd56, sl56, am_bs, am_bd, bd_n, nI_tn, hMo, hge]
theorem c39n {b t s : Nat} {m : Prop} {hm : Decidable m} (hb : b < 2) (ht : t < 8) (hs : s < 12) (hB : mBt M0 D M b t) (h : ¬ ((bTh M0 (mq b)).testBit t = true ∧ bHas M0 (mq b) t (if m then 12 + s else s))) : RR 39 0 [.ref 49, .int (nI b), .int (nI t), .int (@bN m hm), .int (nI s), .long 0] [] (SH, (0, 0, sl), M, D, RF) Q ↔ Q (some (.int (nI 0))) (SH, (0, 0, sl), M, D, RF) := by
  have hs2 : (if m then 12 + s else s) < 24 := by by_cases h : m <;> simp [h] <;> omega
  by_cases g : (bTh M0 (mq b)).testBit t = true
  · rw [c39x hb ht hs hB.1 g]
    generalize (if m then 12 + s else s) = u at *
    have hMo : M 56 (24 * (8 * b + t) + u) = -1 := (hB.2.2.2.2.1 u hs2).trans (Decidable.not_not.mp (fun z => h ⟨g, z⟩))
    have hge : ¬ (0 : Int32) ≤ -1 := by decide
    simp (disch := omega) only [r39_42, r39_43, r39_46, r39_48, r39_49, r39_52, r39_53, r39_54, r39_55, r39_58, r39_60, r39_61, r39_62, r39_63, am_cat0, am_catI, am_catR, am_catD, am_ndI, am_ndR, am_ndL, va_rfS, true_and, and_true, Option.toList_some, Option.toList_none, List.cons_append, List.nil_append, Nat.reduceAdd, Nat.reduceLeDiff, Nat.zero_add, Nat.le_refl, nI01a, true_or, bN_T, bN_F, bN_0, nI0_0, nI1_0, nI01a, nI01b, true_or, or_true, false_or, or_false, so0, so1, so49, not_true_eq_false, not_false_eq_true, if_true, if_false, so49, sf49_6, sd56, am_bd, bd_n, nI_tn, hMo, hge]
  · have hT := hB.1
    simp only [r39_0, r39_1, r39_2, r39_3, r39_6, r39_9, r39_11, r39_12, r39_14, r39_17, r39_20, r39_21, r39_22, r39_23, r39_24, r39_25, r39_28, r39_30, r39_33, r39_34, r39_36, r39_37, r39_40, am_cat0, am_catI, am_catR, am_catD, am_ndI, am_ndR, am_ndL, va_rfS, true_and, and_true, Option.toList_some, Option.toList_none, List.cons_append, List.nil_append, Nat.reduceAdd, Nat.reduceLeDiff, Nat.zero_add, Nat.le_refl, c33 hb ht hT, g, Bool.false_eq_true, bN_T, bN_F, bN_0, nI0_0, nI1_0, nI01a, nI01b, true_or, or_true, false_or, or_false, so0, so1, so49, not_true_eq_false, not_false_eq_true, if_true, if_false]
theorem c39f {b t m s : Int32} (hB : mBd M0 D M) (h : ¬ (((0 ≤ b.toInt ∧ b.toInt ≤ 1) ∧ 0 ≤ t.toInt ∧ t.toInt ≤ 7) ∧ (0 ≤ s.toInt ∧ s.toInt ≤ 11))) : RR 39 0 [.ref 49, .int b, .int t, .int m, .int s, .long 0] [] (SH, (0, 0, sl), M, D, RF) Q ↔ Q (some (.int (nI 0))) (SH, (0, 0, sl), M, D, RF) := by
  have z0 : (nI 0).toInt = 0 := by decide
  have z1 : (nI 1).toInt = 1 := by decide
  have z7 : (nI 7).toInt = 7 := by decide
  have z11 : (nI 11).toInt = 11 := by decide
  have z31 : (nI 31).toInt = 31 := by decide
  have z47 : (nI 47).toInt = 47 := by decide
  have z255 : (nI 255).toInt = 255 := by decide
  have zm1 : (-1 : Int32).toInt = -1 := by decide
  by_cases a0 : ((0 ≤ b.toInt ∧ b.toInt ≤ 1) ∧ 0 ≤ t.toInt ∧ t.toInt ≤ 7)
  · obtain ⟨b', t', hb, ht, rfl, rfl⟩ := plOk a0
    have hT := (hB b' hb t' ht).1
    have e1 := eq_false (fun z => h ⟨a0, z⟩)
    by_cases g : (bTh M0 (mq b')).testBit t' = true
    · simp only [r39_0, r39_1, r39_2, r39_3, r39_6, r39_9, r39_11, r39_12, r39_14, r39_17, r39_20, r39_21, r39_22, r39_23, r39_24, r39_25, r39_28, r39_30, r39_33, r39_34, r39_36, r39_37, r39_40, am_cat0, am_catI, am_catR, am_catD, am_ndI, am_ndR, am_ndL, va_rfS, true_and, and_true, Option.toList_some, Option.toList_none, List.cons_append, List.nil_append, Nat.reduceAdd, Nat.reduceLeDiff, Nat.zero_add, Nat.le_refl, c33 hb ht hT, g, bN_T, bN_F, bN_0, nI0_0, nI1_0, nI01a, nI01b, true_or, or_true, false_or, or_false, so0, so1, so49, not_true_eq_false, not_false_eq_true, if_true, if_false, so49, c32, z0, z1, z7, z11, z31, z47, z255, zm1, e1]
    · simp only [r39_0, r39_1, r39_2, r39_3, r39_6, r39_9, r39_11, r39_12, r39_14, r39_17, r39_20, r39_21, r39_22, r39_23, r39_24, r39_25, r39_28, r39_30, r39_33, r39_34, r39_36, r39_37, r39_40, am_cat0, am_catI, am_catR, am_catD, am_ndI, am_ndR, am_ndL, va_rfS, true_and, and_true, Option.toList_some, Option.toList_none, List.cons_append, List.nil_append, Nat.reduceAdd, Nat.reduceLeDiff, Nat.zero_add, Nat.le_refl, c33 hb ht hT, g, Bool.false_eq_true, bN_T, bN_F, bN_0, nI0_0, nI1_0, nI01a, nI01b, true_or, or_true, false_or, or_false, so0, so1, so49, not_true_eq_false, not_false_eq_true, if_true, if_false]
  · simp only [r39_0, r39_1, r39_2, r39_3, r39_6, r39_9, r39_11, r39_12, r39_14, r39_17, r39_20, r39_21, r39_22, r39_23, r39_24, r39_25, r39_28, r39_30, r39_33, r39_34, r39_36, r39_37, r39_40, am_cat0, am_catI, am_catR, am_catD, am_ndI, am_ndR, am_ndL, va_rfS, true_and, and_true, Option.toList_some, Option.toList_none, List.cons_append, List.nil_append, Nat.reduceAdd, Nat.reduceLeDiff, Nat.zero_add, Nat.le_refl, c33f a0, so49, nI0_0, bN_T, bN_F, bN_0, nI0_0, nI1_0, nI01a, nI01b, true_or, or_true, false_or, or_false, so0, so1, so49, not_true_eq_false, not_false_eq_true, if_true, if_false]
end CN
