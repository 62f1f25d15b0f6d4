/-! CONTRACTS: the class's small methods -/
section CN
variable {Q : Option Value → amM → Prop} {μ : amM} {S : List (Nat ⊕ (Nat × Nat))} {M : Nat → Nat → Int32} {D : Nat → Nat → UInt64} {F : Nat → Nat → Option Nat} {sl : Nat}

theorem c24 {x lo hi : Int32} : RR 24 0 [.int x, .int lo, .int hi] [] μ Q ↔ Q (some (.int (bN (lo.toInt ≤ x.toInt ∧ x.toInt ≤ hi.toInt)))) μ := by
  simp only [r24_0, r24_1, r24_2, r24_5, r24_6, r24_7, r24_10, r24_11, r24_14, r24_15, am_cat0, am_catI, am_catR, am_catD, am_ndI, am_ndR, am_ndL, va_rfS, true_and, and_true, Option.toList_some, Option.toList_none, List.cons_append, List.nil_append, Nat.reduceAdd, Nat.reduceLeDiff, Nat.zero_add, Nat.le_refl, rw_mrg, ite_Q, ite_bN, ite_bN', ib_0b, ib_b0, ib_1b, ib_b1, bN_0, bN_n0, bN_01T, nI1_0, nI0_0, nI01a, nI01b, bN_1, no_or, true_or, or_true, false_or, or_false, ite_not, if_true, if_false, Decidable.not_not]
  refine bN_Q ?_
  simp only [Int32.lt_iff_toInt_lt]
  omega
theorem c22 {b t : Int32} : RR 22 0 [.int b, .int t] [] (S, (0, 0, sl), M, D, F) Q ↔ Q (some (.int (bN ((0 ≤ b.toInt ∧ b.toInt ≤ 1) ∧ 0 ≤ t.toInt ∧ t.toInt ≤ 7)))) (S, (0, 0, sl), M, D, F) := by
  simp only [r22_0, r22_1, r22_2, r22_3, r22_6, r22_9, r22_10, r22_11, r22_13, r22_16, r22_19, r22_20, r22_23, r22_24, c24, am_cat0, am_catI, am_catR, am_catD, am_ndI, am_ndR, am_ndL, va_rfS, true_and, and_true, Option.toList_some, Option.toList_none, List.cons_append, List.nil_append, Nat.reduceAdd, Nat.reduceLeDiff, Nat.zero_add, Nat.le_refl, rw_mrg, ite_Q, ite_bN, ite_bN', ib_0b, ib_b0, ib_1b, ib_b1, bN_0, bN_n0, bN_01T, nI1_0, nI0_0, nI01a, nI01b, bN_1, no_or, true_or, or_true, false_or, or_false, ite_not, if_true, if_false, Decidable.not_not]
  refine bN_Q ?_
  rw [nI_ti (n := 0) (by decide), nI_ti (n := 1) (by decide), nI_ti (n := 7) (by decide)]
  omega
theorem c23 {a b c : Int32} : RR 23 0 [.int a, .int b, .int c] [] (S, (0, 0, sl), M, D, F) Q ↔ Q (some (.int (bN ((0 ≤ a.toInt ∧ a.toInt ≤ 999) ∧ (0 ≤ b.toInt ∧ b.toInt ≤ 999) ∧ 0 ≤ c.toInt ∧ c.toInt ≤ 999)))) (S, (0, 0, sl), M, D, F) := by
  simp only [r23_0, r23_1, r23_2, r23_5, r23_8, r23_11, r23_12, r23_13, r23_16, r23_19, r23_22, r23_23, r23_24, r23_27, r23_30, r23_33, r23_34, r23_37, r23_38, c24, am_cat0, am_catI, am_catR, am_catD, am_ndI, am_ndR, am_ndL, va_rfS, true_and, and_true, Option.toList_some, Option.toList_none, List.cons_append, List.nil_append, Nat.reduceAdd, Nat.reduceLeDiff, Nat.zero_add, Nat.le_refl, rw_mrg, ite_Q, ite_bN, ite_bN', ib_0b, ib_b0, ib_1b, ib_b1, bN_0, bN_n0, bN_01T, nI1_0, nI0_0, nI01a, nI01b, bN_1, no_or, true_or, or_true, false_or, or_false, ite_not, if_true, if_false, Decidable.not_not]
  refine bN_Q ?_
  rw [nI_ti (n := 0) (by decide), nI_ti (n := 999) (by decide)]
  omega
theorem c25 {a b c : Int32} : RR 25 0 [.int a, .int b, .int c] [] μ Q ↔ Q (some (.int (a * nI 1000000 + b * nI 1000 + c))) μ := by
  simp only [r25_0, r25_1, r25_3, r25_4, r25_5, r25_8, r25_9, r25_10, r25_11, r25_12, am_cat0, am_catI, am_catR, am_catD, am_ndI, am_ndR, am_ndL, va_rfS, true_and, and_true, Option.toList_some, Option.toList_none, List.cons_append, List.nil_append, Nat.reduceAdd, Nat.reduceLeDiff, Nat.zero_add, Nat.le_refl]
theorem c26 {m : Prop} [Decidable m] {s : Nat} : RR 26 0 [.int (bN m), .int (nI s)] [] μ Q ↔ Q (some (.int (nI (if m then 12 + s else s)))) μ := by
  simp only [r26_0, r26_1, r26_4, r26_6, r26_7, r26_8, r26_11, r26_12, am_cat0, am_catI, am_catR, am_catD, am_ndI, am_ndR, am_ndL, va_rfS, true_and, and_true, Option.toList_some, Option.toList_none, List.cons_append, List.nil_append, Nat.reduceAdd, Nat.reduceLeDiff, Nat.zero_add, Nat.le_refl, rw_mrg, ite_Q, ite_bN, ite_bN', ib_0b, ib_b0, ib_1b, ib_b1, bN_0, bN_n0, bN_01T, nI1_0, nI0_0, nI01a, nI01b, bN_1, no_or, true_or, or_true, false_or, or_false, ite_not, if_true, if_false, Decidable.not_not]
  by_cases h : m <;> simp [h, nI_add]
theorem c27 {s : Nat} (h : s < 2 ^ 31) : RR 27 0 [.int (nI s)] [] μ Q ↔ Q (some (.int (bN (12 ≤ s)))) μ := by
  simp only [r27_0, r27_1, r27_3, r27_6, r27_7, r27_10, r27_11, am_cat0, am_catI, am_catR, am_catD, am_ndI, am_ndR, am_ndL, va_rfS, true_and, and_true, Option.toList_some, Option.toList_none, List.cons_append, List.nil_append, Nat.reduceAdd, Nat.reduceLeDiff, Nat.zero_add, Nat.le_refl, rw_mrg, ite_Q, ite_bN, ite_bN', ib_0b, ib_b0, ib_1b, ib_b1, bN_0, bN_n0, bN_01T, nI1_0, nI0_0, nI01a, nI01b, bN_1, no_or, true_or, or_true, false_or, or_false, ite_not, if_true, if_false, Decidable.not_not]
  refine bN_Q ?_
  rw [nI_ltI h (by decide)]
  omega
theorem c28 {s : Nat} (h : s < 2 ^ 31) : RR 28 0 [.int (nI s)] [] μ Q ↔ Q (some (.int (nI (s % 12)))) μ := by
  simp only [r28_0, r28_1, r28_3, r28_4, am_cat0, am_catI, am_catR, am_catD, am_ndI, am_ndR, am_ndL, va_rfS, true_and, and_true, Option.toList_some, Option.toList_none, List.cons_append, List.nil_append, Nat.reduceAdd, Nat.reduceLeDiff, Nat.zero_add, Nat.le_refl, rw_mrg, ite_Q, ite_bN, ite_bN', ib_0b, ib_b0, ib_1b, ib_b1, bN_0, bN_n0, bN_01T, nI1_0, nI0_0, nI01a, nI01b, bN_1, no_or, true_or, or_true, false_or, or_false, ite_not, if_true, if_false, Decidable.not_not]
  rw [pk_rem h (by decide) (by decide)]
  simp [show ¬ nI 12 = 0 by decide]
end CN
