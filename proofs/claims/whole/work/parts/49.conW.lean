/-! BRANCH, LETTER, RULE, CLEAR, VERSION, FITS; JUDGE, CHANGE, SHIFT -/
section CN
variable {Q : Option Value → amM → Prop} {μ : amM} {S : List (Nat ⊕ (Nat × Nat))} {M : Nat → Nat → Int32} {D : Nat → Nat → UInt64} {F : Nat → Nat → Option Nat} {sl : Nat}

theorem c6 : RR 6 0 [.ref 0] [] (SH, (0, 0, sl), M, D, RF) Q ↔ Q (some (.int (nI (cntF (beM M 13) 192 0 0)))) (SH, (0, 0, sl), beM M, am_cpy D 8 15 0 0 96, RF) := by
  have h := fun Q => c81 (Q := Q) (M := beM M) (D := am_cpy D 8 15 0 0 96) (sl := sl) (q := 9) (Or.inr rfl)
  simp only [r6_0, r6_1, r6_4, r6_7, r6_8, r6_11, r6_14, r6_17, r6_18, r6_21, r6_24, r6_27, am_cat0, am_catI, am_catR, am_catD, am_ndI, am_ndR, am_ndL, va_rfS, true_and, and_true, Option.toList_some, Option.toList_none, List.cons_append, List.nil_append, Nat.reduceAdd, Nat.reduceLeDiff, Nat.zero_add, Nat.le_refl, so0, so1, so2, so9, sf0_0, sf1_0, sf1_1, c80, h]
/-- letter -/
theorem c7f {c : Int32} (h : ¬ (33 ≤ c.toInt ∧ c.toInt ≤ 126)) : RR 7 0 [.ref 0, .int c] [] (SH, (0, 0, sl), M, D, RF) Q ↔ Q (some (.int (-1))) (SH, (0, 0, sl), M, D, RF) := by
  have z1 : (nI 33).toInt = 33 := by decide
  have z2 : (nI 126).toInt = 126 := by decide
  have e := eq_false h
  simp only [r7_0, r7_1, r7_3, r7_5, r7_8, r7_11, r7_12, r7_13, r7_14, r7_17, r7_20, r7_23, r7_25, r7_26, r7_27, r7_30, r7_31, r7_32, r7_35, r7_36, r7_39, r7_42, am_cat0, am_catI, am_catR, am_catD, am_ndI, am_ndR, am_ndL, va_rfS, true_and, and_true, Option.toList_some, Option.toList_none, List.cons_append, List.nil_append, Nat.reduceAdd, Nat.reduceLeDiff, Nat.zero_add, Nat.le_refl, c24, z1, z2, e, bN_T, bN_F, bN_0, nI0_0, nI1_0, nI01a, nI01b, true_or, or_true, false_or, or_false, so0, so1, so49, not_true_eq_false, not_false_eq_true, if_true, if_false]
theorem c7v {c n : Nat} (h1 : 33 ≤ c) (h2 : c ≤ 126) (hn : M 18 1 = nI n) (hn12 : n ≤ 12) : RR 7 0 [.ref 0, .int (nI c)] [] (SH, (0, 0, sl), M, D, RF) Q ↔ if n = 12 then Q (some (.int (-3))) (SH, (0, 0, sl), M, D, RF) else Q (some (.int (nI (n + 1)))) (SH, (0, 0, sl), am_up (am_up M 19 n (nI c)) 18 1 (nI (n + 1)), D, RF) := by
  have z1 : (nI 33).toInt = 33 := by decide
  have z2 : (nI 126).toInt = 126 := by decide
  have zc : (nI c).toInt = (c : Int) := nI_ti (by omega)
  have e : (33 ≤ (c : Int) ∧ (c : Int) ≤ 126) = True := eq_true (by omega)
  have p18 : isPt 18 := Or.inl rfl
  by_cases g : n = 12
  · have g' : (M 18 1 = nI 12) = True := eq_true (by rw [hn, g])
    rw [if_pos g]
    simp only [r7_0, r7_1, r7_3, r7_5, r7_8, r7_11, r7_12, r7_13, r7_14, r7_17, r7_20, r7_23, r7_25, r7_26, r7_27, r7_30, r7_31, r7_32, r7_35, r7_36, r7_39, r7_42, am_cat0, am_catI, am_catR, am_catD, am_ndI, am_ndR, am_ndL, va_rfS, true_and, and_true, Option.toList_some, Option.toList_none, List.cons_append, List.nil_append, Nat.reduceAdd, Nat.reduceLeDiff, Nat.zero_add, Nat.le_refl, c24, z1, z2, zc, e, bN_T, bN_F, bN_0, nI0_0, nI1_0, nI01a, nI01b, true_or, or_true, false_or, or_false, so0, so1, so49, not_true_eq_false, not_false_eq_true, if_true, if_false, sf0_1, so18, c130 p18, g']
  · have g' : (M 18 1 = nI 12) = False := eq_false (by rw [hn, nx_eq (by omega) (by omega)]; exact g)
    rw [if_neg g]
    have hs : am_up (am_up M 19 n (nI c)) 18 1 (nI (n + 1)) 18 1 = nI (n + 1) := up_s _ _ _ _
    have h131 := fun Q => c131 (Q := Q) (M := M) (D := D) (sl := sl) p18 hn (show n < 12 by omega) (show c < 65536 by omega)
    simp (disch := omega) only [r7_0, r7_1, r7_3, r7_5, r7_8, r7_11, r7_12, r7_13, r7_14, r7_17, r7_20, r7_23, r7_25, r7_26, r7_27, r7_30, r7_31, r7_32, r7_35, r7_36, r7_39, r7_42, am_cat0, am_catI, am_catR, am_catD, am_ndI, am_ndR, am_ndL, va_rfS, true_and, and_true, Option.toList_some, Option.toList_none, List.cons_append, List.nil_append, Nat.reduceAdd, Nat.reduceLeDiff, Nat.zero_add, Nat.le_refl, c24, z1, z2, zc, e, bN_T, bN_F, bN_0, nI0_0, nI1_0, nI01a, nI01b, true_or, or_true, false_or, or_false, so0, so1, so49, not_true_eq_false, not_false_eq_true, if_true, if_false, sf0_1, so18, c130 p18, g', nx_i2c, h131, c129 p18, Nat.reduceAdd, hs]
theorem c41f {c : Int32} (h : ¬ (33 ≤ c.toInt ∧ c.toInt ≤ 126)) : RR 41 0 [.ref 49, .int c] [] (SH, (0, 0, sl), M, D, RF) Q ↔ Q (some (.int (-1))) (SH, (0, 0, sl), M, D, RF) := by
  have z1 : (nI 33).toInt = 33 := by decide
  have z2 : (nI 126).toInt = 126 := by decide
  have e := eq_false h
  simp only [r41_0, r41_1, r41_3, r41_5, r41_8, r41_11, r41_12, r41_13, r41_14, r41_17, r41_19, r41_20, r41_22, r41_25, r41_27, r41_28, r41_29, r41_32, r41_34, r41_35, r41_38, r41_40, r41_41, r41_42, r41_43, r41_44, r41_45, r41_48, r41_50, r41_51, r41_52, r41_53, r41_54, r41_55, r41_56, r41_59, r41_61, r41_62, am_cat0, am_catI, am_catR, am_catD, am_ndI, am_ndR, am_ndL, va_rfS, true_and, and_true, Option.toList_some, Option.toList_none, List.cons_append, List.nil_append, Nat.reduceAdd, Nat.reduceLeDiff, Nat.zero_add, Nat.le_refl, c32, z1, z2, e, bN_T, bN_F, bN_0, nI0_0, nI1_0, nI01a, nI01b, true_or, or_true, false_or, or_false, so0, so1, so49, not_true_eq_false, not_false_eq_true, if_true, if_false]
theorem c41v {c n : Nat} (h1 : 33 ≤ c) (h2 : c ≤ 126) (hn : M 59 8 = nI n) (hn12 : n ≤ 12) : RR 41 0 [.ref 49, .int (nI c)] [] (SH, (0, 0, sl), M, D, RF) Q ↔ if n = 12 then Q (some (.int (-3))) (SH, (0, 0, sl), M, D, RF) else Q (some (.int (nI (n + 1)))) (SH, (0, 0, sl), am_up (am_up M 58 (96 + n) (nI c)) 59 8 (nI (n + 1)), D, RF) := by
  have z1 : (nI 33).toInt = 33 := by decide
  have z2 : (nI 126).toInt = 126 := by decide
  have zc : (nI c).toInt = (c : Int) := nI_ti (by omega)
  have e : (33 ≤ (c : Int) ∧ (c : Int) ≤ 126) = True := eq_true (by omega)
  by_cases g : n = 12
  · have g' : (nI n = nI 12) = True := eq_true (by rw [g])
    rw [if_pos g]
    simp (disch := omega) only [r41_0, r41_1, r41_3, r41_5, r41_8, r41_11, r41_12, r41_13, r41_14, r41_17, r41_19, r41_20, r41_22, r41_25, r41_27, r41_28, r41_29, r41_32, r41_34, r41_35, r41_38, r41_40, r41_41, r41_42, r41_43, r41_44, r41_45, r41_48, r41_50, r41_51, r41_52, r41_53, r41_54, r41_55, r41_56, r41_59, r41_61, r41_62, am_cat0, am_catI, am_catR, am_catD, am_ndI, am_ndR, am_ndL, va_rfS, true_and, and_true, Option.toList_some, Option.toList_none, List.cons_append, List.nil_append, Nat.reduceAdd, Nat.reduceLeDiff, Nat.zero_add, Nat.le_refl, c32, z1, z2, zc, e, bN_T, bN_F, bN_0, nI0_0, nI1_0, nI01a, nI01b, true_or, or_true, false_or, or_false, so0, so1, so49, not_true_eq_false, not_false_eq_true, if_true, if_false, sf49_9, sd59, am_bd, bd_n, nI_tn, hn, g']
  · have g' : (nI n = nI 12) = False := eq_false (by rw [nx_eq (by omega) (by omega)]; exact g)
    rw [if_neg g]
    simp (disch := omega) only [r41_0, r41_1, r41_3, r41_5, r41_8, r41_11, r41_12, r41_13, r41_14, r41_17, r41_19, r41_20, r41_22, r41_25, r41_27, r41_28, r41_29, r41_32, r41_34, r41_35, r41_38, r41_40, r41_41, r41_42, r41_43, r41_44, r41_45, r41_48, r41_50, r41_51, r41_52, r41_53, r41_54, r41_55, r41_56, r41_59, r41_61, r41_62, am_cat0, am_catI, am_catR, am_catD, am_ndI, am_ndR, am_ndL, va_rfS, true_and, and_true, Option.toList_some, Option.toList_none, List.cons_append, List.nil_append, Nat.reduceAdd, Nat.reduceLeDiff, Nat.zero_add, Nat.le_refl, c32, z1, z2, zc, e, bN_T, bN_F, bN_0, nI0_0, nI1_0, nI01a, nI01b, true_or, or_true, false_or, or_false, so0, so1, so49, not_true_eq_false, not_false_eq_true, if_true, if_false, sf49_8, sf49_9, sd59, sl58, sl59, am_bd, am_bs, bd_n, nI_tn, hn, g', nI_add, up_q, up_s]
/-- rule -/
theorem c8f {a b c : Int32} (h : ¬ ((1 ≤ a.toInt ∧ a.toInt ≤ 33) ∧ (a.toInt ≤ b.toInt ∧ b.toInt ≤ 33) ∧ 0 ≤ c.toInt ∧ c.toInt ≤ 3)) : RR 8 0 [.ref 0, .int a, .int b, .int c] [] (SH, (0, 0, sl), M, D, RF) Q ↔ Q (some (.int (-1))) (SH, (0, 0, sl), M, D, RF) := by
  have z0 : (nI 0).toInt = 0 := by decide
  have z1 : (nI 1).toInt = 1 := by decide
  have z3 : (nI 3).toInt = 3 := by decide
  have z33 : (nI 33).toInt = 33 := by decide
  by_cases a0 : (1 ≤ a.toInt ∧ a.toInt ≤ 33)
  · have e0 := eq_true a0
    by_cases a1 : (a.toInt ≤ b.toInt ∧ b.toInt ≤ 33)
    · have e1 := eq_true a1
      have e2 := eq_false (fun z => h ⟨a0, a1, z⟩)
      simp only [r8_0, r8_1, r8_2, r8_4, r8_7, r8_10, r8_11, r8_12, r8_14, r8_17, r8_20, r8_21, r8_22, r8_23, r8_26, r8_29, r8_30, r8_31, r8_32, r8_35, r8_38, r8_41, r8_43, r8_44, r8_45, r8_48, r8_49, r8_52, r8_53, r8_54, r8_55, r8_58, r8_59, r8_62, r8_65, r8_66, r8_69, r8_72, am_cat0, am_catI, am_catR, am_catD, am_ndI, am_ndR, am_ndL, va_rfS, true_and, and_true, Option.toList_some, Option.toList_none, List.cons_append, List.nil_append, Nat.reduceAdd, Nat.reduceLeDiff, Nat.zero_add, Nat.le_refl, c24, z0, z1, z3, z33, e0, e1, e2, bN_T, bN_F, bN_0, nI0_0, nI1_0, nI01a, nI01b, true_or, or_true, false_or, or_false, so0, so1, so49, not_true_eq_false, not_false_eq_true, if_true, if_false]
    · have e1 := eq_false a1
      simp only [r8_0, r8_1, r8_2, r8_4, r8_7, r8_10, r8_11, r8_12, r8_14, r8_17, r8_20, r8_21, r8_22, r8_23, r8_26, r8_29, r8_30, r8_31, r8_32, r8_35, r8_38, r8_41, r8_43, r8_44, r8_45, r8_48, r8_49, r8_52, r8_53, r8_54, r8_55, r8_58, r8_59, r8_62, r8_65, r8_66, r8_69, r8_72, am_cat0, am_catI, am_catR, am_catD, am_ndI, am_ndR, am_ndL, va_rfS, true_and, and_true, Option.toList_some, Option.toList_none, List.cons_append, List.nil_append, Nat.reduceAdd, Nat.reduceLeDiff, Nat.zero_add, Nat.le_refl, c24, z0, z1, z3, z33, e0, e1, bN_T, bN_F, bN_0, nI0_0, nI1_0, nI01a, nI01b, true_or, or_true, false_or, or_false, so0, so1, so49, not_true_eq_false, not_false_eq_true, if_true, if_false]
  · have e0 := eq_false a0
    simp only [r8_0, r8_1, r8_2, r8_4, r8_7, r8_10, r8_11, r8_12, r8_14, r8_17, r8_20, r8_21, r8_22, r8_23, r8_26, r8_29, r8_30, r8_31, r8_32, r8_35, r8_38, r8_41, r8_43, r8_44, r8_45, r8_48, r8_49, r8_52, r8_53, r8_54, r8_55, r8_58, r8_59, r8_62, r8_65, r8_66, r8_69, r8_72, am_cat0, am_catI, am_catR, am_catD, am_ndI, am_ndR, am_ndL, va_rfS, true_and, and_true, Option.toList_some, Option.toList_none, List.cons_append, List.nil_append, Nat.reduceAdd, Nat.reduceLeDiff, Nat.zero_add, Nat.le_refl, c24, z0, z1, z3, z33, e0, bN_T, bN_F, bN_0, nI0_0, nI1_0, nI01a, nI01b, true_or, or_true, false_or, or_false, so0, so1, so49, not_true_eq_false, not_false_eq_true, if_true, if_false]
/-- the memory with a rule added -/
def ruM (M : Nat → Nat → Int32) (n : Nat) (lo hi we : Int32) : Nat → Nat → Int32 := am_up (am_up (am_up (am_up (am_up (am_cpy (am_up M (23 + 3 * n) 1 (M 18 1)) 19 (24 + 3 * n) 0 0 12) (22 + 3 * n) 1 lo) (22 + 3 * n) 2 hi) (22 + 3 * n) 3 we) 20 1 (nI (n + 1))) 18 1 (nI 0)
theorem c8v {a b c : Int32} {n : Nat} (h : (1 ≤ a.toInt ∧ a.toInt ≤ 33) ∧ (a.toInt ≤ b.toInt ∧ b.toInt ≤ 33) ∧ 0 ≤ c.toInt ∧ c.toInt ≤ 3) (hn : M 20 1 = nI n) (hn8 : n ≤ 8) (hw : ptW M 18) : RR 8 0 [.ref 0, .int a, .int b, .int c] [] (SH, (0, 0, sl), M, D, RF) Q ↔ if n = 8 then Q (some (.int (-3))) (SH, (0, 0, sl), M, D, RF) else Q (some (.int (nI (n + 1)))) (SH, (0, 0, sl), ruM M n a b c, D, RF) := by
  have z0 : (nI 0).toInt = 0 := by decide
  have z1 : (nI 1).toInt = 1 := by decide
  have z3 : (nI 3).toInt = 3 := by decide
  have z33 : (nI 33).toInt = 33 := by decide
  have e0 := eq_true h.1
  have e1 := eq_true h.2.1
  have e2 := eq_true h.2.2
  have p18 : isPt 18 := Or.inl rfl
  by_cases g : n = 8
  · have g' : (M 20 1 = nI 8) = True := eq_true (by rw [hn, g])
    rw [if_pos g]
    simp only [r8_0, r8_1, r8_2, r8_4, r8_7, r8_10, r8_11, r8_12, r8_14, r8_17, r8_20, r8_21, r8_22, r8_23, r8_26, r8_29, r8_30, r8_31, r8_32, r8_35, r8_38, r8_41, r8_43, r8_44, r8_45, r8_48, r8_49, r8_52, r8_53, r8_54, r8_55, r8_58, r8_59, r8_62, r8_65, r8_66, r8_69, r8_72, am_cat0, am_catI, am_catR, am_catD, am_ndI, am_ndR, am_ndL, va_rfS, true_and, and_true, Option.toList_some, Option.toList_none, List.cons_append, List.nil_append, Nat.reduceAdd, Nat.reduceLeDiff, Nat.zero_add, Nat.le_refl, c24, z0, z1, z3, z33, e0, e1, e2, bN_T, bN_F, bN_0, nI0_0, nI1_0, nI01a, nI01b, true_or, or_true, false_or, or_false, so0, so1, so49, not_true_eq_false, not_false_eq_true, if_true, if_false, sf0_2, so20, c152, g']
  · have g' : (M 20 1 = nI 8) = False := eq_false (by rw [hn, nx_eq (by omega) (by omega)]; exact g)
    rw [if_neg g]
    have hs : ruM M n a b c 20 1 = nI (n + 1) := by unfold ruM; rw [up_q (by decide), up_s]
    have h132 := fun Q => (show RR 132 0 [.ref 18] [] (SH, (0, 0, sl), am_up (am_up (am_up (am_up (am_cpy (am_up M (23 + 3 * n) 1 (M 18 1)) 19 (24 + 3 * n) 0 0 12) (22 + 3 * n) 1 a) (22 + 3 * n) 2 b) (22 + 3 * n) 3 c) 20 1 (nI (n + 1)), D, RF) Q ↔ Q none (SH, (0, 0, sl), ruM M n a b c, D, RF) from c132 p18)
    simp only [r8_0, r8_1, r8_2, r8_4, r8_7, r8_10, r8_11, r8_12, r8_14, r8_17, r8_20, r8_21, r8_22, r8_23, r8_26, r8_29, r8_30, r8_31, r8_32, r8_35, r8_38, r8_41, r8_43, r8_44, r8_45, r8_48, r8_49, r8_52, r8_53, r8_54, r8_55, r8_58, r8_59, r8_62, r8_65, r8_66, r8_69, r8_72, am_cat0, am_catI, am_catR, am_catD, am_ndI, am_ndR, am_ndL, va_rfS, true_and, and_true, Option.toList_some, Option.toList_none, List.cons_append, List.nil_append, Nat.reduceAdd, Nat.reduceLeDiff, Nat.zero_add, Nat.le_refl, c24, z0, z1, z3, z33, e0, e1, e2, bN_T, bN_F, bN_0, nI0_0, nI1_0, nI01a, nI01b, true_or, or_true, false_or, or_false, so0, so1, so49, not_true_eq_false, not_false_eq_true, if_true, if_false, sf0_1, sf0_2, so18, so20, c152, g', c153 hn (show n < 8 by omega) hw, h132, c151, hs]
theorem c42f {a b c : Int32} (h : ¬ ((1 ≤ a.toInt ∧ a.toInt ≤ 33) ∧ (a.toInt ≤ b.toInt ∧ b.toInt ≤ 33) ∧ 0 ≤ c.toInt ∧ c.toInt ≤ 3)) : RR 42 0 [.ref 49, .int a, .int b, .int c, .long 0] [] (SH, (0, 0, sl), M, D, RF) Q ↔ Q (some (.int (-1))) (SH, (0, 0, sl), M, D, RF) := by
  have z0 : (nI 0).toInt = 0 := by decide
  have z1 : (nI 1).toInt = 1 := by decide
  have z3 : (nI 3).toInt = 3 := by decide
  have z33 : (nI 33).toInt = 33 := by decide
  by_cases a0 : (1 ≤ a.toInt ∧ a.toInt ≤ 33)
  · have e0 := eq_true a0
    by_cases a1 : (a.toInt ≤ b.toInt ∧ b.toInt ≤ 33)
    · have e1 := eq_true a1
      have e2 := eq_false (fun z => h ⟨a0, a1, z⟩)
      simp only [r42_0, r42_1, r42_2, r42_4, r42_7, r42_10, r42_11, r42_12, r42_14, r42_17, r42_20, r42_21, r42_22, r42_23, r42_26, r42_29, r42_30, r42_31, r42_32, r42_35, r42_37, r42_40, r42_42, r42_43, r42_44, am_cat0, am_catI, am_catR, am_catD, am_ndI, am_ndR, am_ndL, va_rfS, true_and, and_true, Option.toList_some, Option.toList_none, List.cons_append, List.nil_append, Nat.reduceAdd, Nat.reduceLeDiff, Nat.zero_add, Nat.le_refl, c32, z0, z1, z3, z33, e0, e1, e2, bN_T, bN_F, bN_0, nI0_0, nI1_0, nI01a, nI01b, true_or, or_true, false_or, or_false, so0, so1, so49, not_true_eq_false, not_false_eq_true, if_true, if_false]
    · have e1 := eq_false a1
      simp only [r42_0, r42_1, r42_2, r42_4, r42_7, r42_10, r42_11, r42_12, r42_14, r42_17, r42_20, r42_21, r42_22, r42_23, r42_26, r42_29, r42_30, r42_31, r42_32, r42_35, r42_37, r42_40, r42_42, r42_43, r42_44, am_cat0, am_catI, am_catR, am_catD, am_ndI, am_ndR, am_ndL, va_rfS, true_and, and_true, Option.toList_some, Option.toList_none, List.cons_append, List.nil_append, Nat.reduceAdd, Nat.reduceLeDiff, Nat.zero_add, Nat.le_refl, c32, z0, z1, z3, z33, e0, e1, bN_T, bN_F, bN_0, nI0_0, nI1_0, nI01a, nI01b, true_or, or_true, false_or, or_false, so0, so1, so49, not_true_eq_false, not_false_eq_true, if_true, if_false]
  · have e0 := eq_false a0
    simp only [r42_0, r42_1, r42_2, r42_4, r42_7, r42_10, r42_11, r42_12, r42_14, r42_17, r42_20, r42_21, r42_22, r42_23, r42_26, r42_29, r42_30, r42_31, r42_32, r42_35, r42_37, r42_40, r42_42, r42_43, r42_44, am_cat0, am_catI, am_catR, am_catD, am_ndI, am_ndR, am_ndL, va_rfS, true_and, and_true, Option.toList_some, Option.toList_none, List.cons_append, List.nil_append, Nat.reduceAdd, Nat.reduceLeDiff, Nat.zero_add, Nat.le_refl, c32, z0, z1, z3, z33, e0, bN_T, bN_F, bN_0, nI0_0, nI1_0, nI01a, nI01b, true_or, or_true, false_or, or_false, so0, so1, so49, not_true_eq_false, not_false_eq_true, if_true, if_false]
def cpM (M : Nat → Nat → Int32) (n j : Nat) : Nat → Nat → Int32 := fun q k => if q = 58 ∧ 12 * n ≤ k ∧ k < 12 * n + j then M 58 (96 + (k - 12 * n)) else M q k
theorem cpM_0 (M : Nat → Nat → Int32) (n : Nat) : cpM M n 0 = M := by
  funext q k
  exact if_neg (fun z => by omega)
theorem cpM_1 (M : Nat → Nat → Int32) (n j : Nat) : am_up (cpM M n j) 58 (12 * n + j) (M 58 (96 + j)) = cpM M n (j + 1) := by
  funext q k
  unfold am_up cpM
  by_cases h1 : q = 58 ∧ k = 12 * n + j
  · rw [if_pos h1, if_pos ⟨h1.1, by omega, by omega⟩, h1.2, Nat.add_sub_cancel_left]
  · rw [if_neg h1]
    by_cases h2 : q = 58 ∧ 12 * n ≤ k ∧ k < 12 * n + j
    · rw [if_pos h2, if_pos ⟨h2.1, h2.2.1, by omega⟩]
    · rw [if_neg h2, if_neg (fun z => by
        by_cases e : k = 12 * n + j
        · exact h1 ⟨z.1, e⟩
        · exact h2 ⟨z.1, z.2.1, by omega⟩)]
theorem cpM_o {M : Nat → Nat → Int32} {n j q k : Nat} (h : q ≠ 58) : cpM M n j q k = M q k := if_neg (fun z => h z.1)
def mrM (M : Nat → Nat → Int32) (n l : Nat) (lo hi we : Int32) : Nat → Nat → Int32 := am_up (am_up (am_up (am_up (am_up (am_up (cpM M n l) 59 n (nI l)) 59 8 (nI 0)) 60 n lo) 61 n hi) 62 n we) 49 13 (nI (n + 1))
theorem c42o {a b c : Int32} {n l : Nat} (hn : M 49 13 = nI n) (hl : M 59 8 = nI l) (hn8 : n < 8) (hl12 : l ≤ 12) : ∀ (i j : Nat), j + i = l → (RR 42 46 [.ref 49, .int a, .int b, .int c, .int (nI j)] [] (SH, (0, 0, sl), cpM M n j, D, RF) Q ↔ Q (some (.int (nI (n + 1)))) (SH, (0, 0, sl), mrM M n l a b c, D, RF)) := by
  intro i
  induction i with
  | zero =>
    intro j h
    have e : j = l := by omega
    subst e
    have k1 : cpM M n j 49 13 = nI n := by rw [cpM_o (by decide)]; exact hn
    have k2 : cpM M n j 59 8 = nI j := by rw [cpM_o (by decide)]; exact hl
    rw [r42_46]
    simp (disch := omega) only [r42_48, r42_49, r42_52, r42_54, r42_55, r42_58, r42_59, r42_62, r42_64, r42_65, r42_68, r42_69, r42_71, r42_72, r42_73, r42_76, r42_78, r42_80, r42_81, r42_82, r42_83, r42_86, r42_89, r42_90, r42_93, r42_94, r42_97, r42_98, r42_101, r42_103, r42_104, r42_105, r42_106, r42_109, r42_111, r42_112, r42_113, r42_114, r42_117, r42_118, r42_121, r42_122, r42_123, r42_124, r42_127, r42_128, r42_131, r42_132, r42_133, r42_134, r42_137, r42_138, r42_141, r42_142, r42_143, r42_144, r42_144i, r42_145, r42_148, r42_149, r42_150, r42_153, r42_154, r42_157, am_cat0, am_catI, am_catR, am_catD, am_ndI, am_ndR, am_ndL, va_rfS, true_and, and_true, Option.toList_some, Option.toList_none, List.cons_append, List.nil_append, Nat.reduceAdd, Nat.reduceLeDiff, Nat.zero_add, Nat.le_refl, so49, sf49_9, sf49_10, sf49_11, sf49_12, sd59, sl59, sl60, sl61, sl62, am_bd, am_bs, bd_n, nI_tn, k1, k2, Int32.le_refl, if_true, up_q, up_s, nI_add, mrM]
  | succ i ih =>
    intro j h
    have k1 : cpM M n j 49 13 = nI n := by rw [cpM_o (by decide)]; exact hn
    have k2 : cpM M n j 59 8 = nI l := by rw [cpM_o (by decide)]; exact hl
    have k3 : cpM M n j 58 (96 + j) = M 58 (96 + j) := if_neg (fun z => by omega)
    rw [r42_46]
    simp (disch := omega) only [r42_48, r42_49, r42_52, r42_54, r42_55, r42_58, r42_59, r42_62, r42_64, r42_65, r42_68, r42_69, r42_71, r42_72, r42_73, r42_76, r42_78, r42_80, r42_81, r42_82, r42_83, r42_86, r42_89, r42_90, r42_93, r42_94, r42_97, r42_98, r42_101, r42_103, r42_104, r42_105, r42_106, r42_109, r42_111, r42_112, r42_113, r42_114, r42_117, r42_118, r42_121, r42_122, r42_123, r42_124, r42_127, r42_128, r42_131, r42_132, r42_133, r42_134, r42_137, r42_138, r42_141, r42_142, r42_143, r42_144, r42_144i, r42_145, r42_148, r42_149, r42_150, r42_153, r42_154, r42_157, am_cat0, am_catI, am_catR, am_catD, am_ndI, am_ndR, am_ndL, va_rfS, true_and, and_true, Option.toList_some, Option.toList_none, List.cons_append, List.nil_append, Nat.reduceAdd, Nat.reduceLeDiff, Nat.zero_add, Nat.le_refl, so49, sf49_8, sf49_9, sd58, sd59, sl58, am_bd, am_bs, bd_n, nI_tn, k1, k2, k3, nx_le, Nat.not_le.mpr (show j < l by omega), if_false, pk_mul, nI_add, cpM_1]
    exact ih (j + 1) (by omega)
theorem c42v {a b c : Int32} {n l : Nat} (h : (1 ≤ a.toInt ∧ a.toInt ≤ 33) ∧ (a.toInt ≤ b.toInt ∧ b.toInt ≤ 33) ∧ 0 ≤ c.toInt ∧ c.toInt ≤ 3) (hn : M 49 13 = nI n) (hn8 : n ≤ 8) (hl : M 59 8 = nI l) (hl12 : l ≤ 12) : RR 42 0 [.ref 49, .int a, .int b, .int c, .long 0] [] (SH, (0, 0, sl), M, D, RF) Q ↔ if n = 8 then Q (some (.int (-3))) (SH, (0, 0, sl), M, D, RF) else Q (some (.int (nI (n + 1)))) (SH, (0, 0, sl), mrM M n l a b c, D, RF) := by
  have z0 : (nI 0).toInt = 0 := by decide
  have z1 : (nI 1).toInt = 1 := by decide
  have z3 : (nI 3).toInt = 3 := by decide
  have z33 : (nI 33).toInt = 33 := by decide
  have e0 := eq_true h.1
  have e1 := eq_true h.2.1
  have e2 := eq_true h.2.2
  by_cases g : n = 8
  · have g' : (nI n = nI 8) = True := eq_true (by rw [g])
    rw [if_pos g]
    simp only [r42_0, r42_1, r42_2, r42_4, r42_7, r42_10, r42_11, r42_12, r42_14, r42_17, r42_20, r42_21, r42_22, r42_23, r42_26, r42_29, r42_30, r42_31, r42_32, r42_35, r42_37, r42_40, r42_42, r42_43, r42_44, am_cat0, am_catI, am_catR, am_catD, am_ndI, am_ndR, am_ndL, va_rfS, true_and, and_true, Option.toList_some, Option.toList_none, List.cons_append, List.nil_append, Nat.reduceAdd, Nat.reduceLeDiff, Nat.zero_add, Nat.le_refl, c32, z0, z1, z3, z33, e0, e1, e2, bN_T, bN_F, bN_0, nI0_0, nI1_0, nI01a, nI01b, true_or, or_true, false_or, or_false, so0, so1, so49, not_true_eq_false, not_false_eq_true, if_true, if_false, hn, g']
  · have g' : (nI n = nI 8) = False := eq_false (by rw [nx_eq (by omega) (by omega)]; exact g)
    rw [if_neg g]
    simp only [r42_0, r42_1, r42_2, r42_4, r42_7, r42_10, r42_11, r42_12, r42_14, r42_17, r42_20, r42_21, r42_22, r42_23, r42_26, r42_29, r42_30, r42_31, r42_32, r42_35, r42_37, r42_40, r42_42, r42_43, r42_44, am_cat0, am_catI, am_catR, am_catD, am_ndI, am_ndR, am_ndL, va_rfS, true_and, and_true, Option.toList_some, Option.toList_none, List.cons_append, List.nil_append, Nat.reduceAdd, Nat.reduceLeDiff, Nat.zero_add, Nat.le_refl, c32, z0, z1, z3, z33, e0, e1, e2, bN_T, bN_F, bN_0, nI0_0, nI1_0, nI01a, nI01b, true_or, or_true, false_or, or_false, so0, so1, so49, not_true_eq_false, not_false_eq_true, if_true, if_false, hn, g']
    have h2 := c42o (Q := Q) (D := D) (sl := sl) (a := a) (b := b) (c := c) hn hl (by omega) hl12 l 0 (by omega)
    rw [cpM_0] at h2
    exact h2
/-- clear -/
theorem c9 : RR 9 0 [.ref 0, .long 0] [] (SH, (0, 0, sl), M, D, RF) Q ↔ Q (some (.int (M 20 1))) (SH, (0, 0, sl), am_up (am_up M 20 1 (nI 0)) 18 1 (nI 0), D, RF) := by
  have p18 : isPt 18 := Or.inl rfl
  simp only [r9_0, r9_1, r9_4, r9_7, r9_8, r9_9, r9_12, r9_15, r9_16, r9_19, r9_22, r9_23, am_cat0, am_catI, am_catR, am_catD, am_ndI, am_ndR, am_ndL, va_rfS, true_and, and_true, Option.toList_some, Option.toList_none, List.cons_append, List.nil_append, Nat.reduceAdd, Nat.reduceLeDiff, Nat.zero_add, Nat.le_refl, so0, so18, so20, sf0_1, sf0_2, c151, c154, c132 p18]
theorem c43 : RR 43 0 [.ref 49, .long 0] [] (SH, (0, 0, sl), M, D, RF) Q ↔ Q (some (.int (M 49 13))) (SH, (0, 0, sl), am_up (am_up M 49 13 (nI 0)) 59 8 (nI 0), D, RF) := by
  simp (disch := omega) only [r43_0, r43_1, r43_4, r43_5, r43_6, r43_7, r43_10, r43_11, r43_14, r43_16, r43_17, r43_18, r43_19, am_cat0, am_catI, am_catR, am_catD, am_ndI, am_ndR, am_ndL, va_rfS, true_and, and_true, Option.toList_some, Option.toList_none, List.cons_append, List.nil_append, Nat.reduceAdd, Nat.reduceLeDiff, Nat.zero_add, Nat.le_refl, so49, sf49_9, sl59, am_bs, bd_n, nI_tn]
/-- version -/
theorem c10f {a b c : Int32} (h : ¬ ((0 ≤ a.toInt ∧ a.toInt ≤ 999) ∧ (0 ≤ b.toInt ∧ b.toInt ≤ 999) ∧ 0 ≤ c.toInt ∧ c.toInt ≤ 999)) : RR 10 0 [.ref 0, .int a, .int b, .int c] [] (SH, (0, 0, sl), M, D, RF) Q ↔ Q (some (.int (nI 0))) (SH, (0, 0, sl), M, D, RF) := by
  have e := eq_false h
  simp only [r10_0, r10_1, r10_2, r10_3, r10_6, r10_9, r10_10, r10_11, r10_12, r10_13, r10_14, r10_15, r10_18, r10_21, r10_22, am_cat0, am_catI, am_catR, am_catD, am_ndI, am_ndR, am_ndL, va_rfS, true_and, and_true, Option.toList_some, Option.toList_none, List.cons_append, List.nil_append, Nat.reduceAdd, Nat.reduceLeDiff, Nat.zero_add, Nat.le_refl, c23, e, bN_T, bN_F, bN_0, nI0_0, nI1_0, nI01a, nI01b, true_or, or_true, false_or, or_false, so0, so1, so49, not_true_eq_false, not_false_eq_true, if_true, if_false]
theorem c10v {a b c : Nat} (ha : a < 1000) (hb : b < 1000) (hc : c < 1000) : RR 10 0 [.ref 0, .int (nI a), .int (nI b), .int (nI c)] [] (SH, (0, 0, sl), M, D, RF) Q ↔ Q (some (.int (nI 1))) (SH, (0, 0, sl), am_up M 0 5 (nI (a * 1000000 + b * 1000 + c)), D, RF) := by
  have e : ((0 ≤ (nI a).toInt ∧ (nI a).toInt ≤ 999) ∧ (0 ≤ (nI b).toInt ∧ (nI b).toInt ≤ 999) ∧ 0 ≤ (nI c).toInt ∧ (nI c).toInt ≤ 999) = True := eq_true (by rw [nI_ti (by omega), nI_ti (by omega), nI_ti (by omega)]; omega)
  simp only [r10_0, r10_1, r10_2, r10_3, r10_6, r10_9, r10_10, r10_11, r10_12, r10_13, r10_14, r10_15, r10_18, r10_21, r10_22, am_cat0, am_catI, am_catR, am_catD, am_ndI, am_ndR, am_ndL, va_rfS, true_and, and_true, Option.toList_some, Option.toList_none, List.cons_append, List.nil_append, Nat.reduceAdd, Nat.reduceLeDiff, Nat.zero_add, Nat.le_refl, c23, e, bN_T, bN_F, bN_0, nI0_0, nI1_0, nI01a, nI01b, true_or, or_true, false_or, or_false, so0, so1, so49, not_true_eq_false, not_false_eq_true, if_true, if_false, c25, pk_mul, nI_add]
theorem c44f {a b c : Int32} (h : ¬ ((0 ≤ a.toInt ∧ a.toInt ≤ 999) ∧ (0 ≤ b.toInt ∧ b.toInt ≤ 999) ∧ 0 ≤ c.toInt ∧ c.toInt ≤ 999)) : RR 44 0 [.ref 49, .int a, .int b, .int c] [] (SH, (0, 0, sl), M, D, RF) Q ↔ Q (some (.int (nI 0))) (SH, (0, 0, sl), M, D, RF) := by
  have z0 : (nI 0).toInt = 0 := by decide
  have z9 : (nI 999).toInt = 999 := by decide
  by_cases a0 : (0 ≤ a.toInt ∧ a.toInt ≤ 999)
  · have e0 := eq_true a0
    by_cases a1 : (0 ≤ b.toInt ∧ b.toInt ≤ 999)
    · have e1 := eq_true a1
      have e2 := eq_false (fun z => h ⟨a0, a1, z⟩)
      simp only [r44_0, r44_1, r44_2, r44_5, r44_8, r44_11, r44_12, r44_13, r44_16, r44_19, r44_22, r44_23, r44_24, r44_27, r44_30, r44_33, r44_34, r44_35, r44_36, r44_37, r44_40, r44_41, r44_42, r44_45, r44_46, r44_47, r44_50, r44_51, am_cat0, am_catI, am_catR, am_catD, am_ndI, am_ndR, am_ndL, va_rfS, true_and, and_true, Option.toList_some, Option.toList_none, List.cons_append, List.nil_append, Nat.reduceAdd, Nat.reduceLeDiff, Nat.zero_add, Nat.le_refl, c32, z0, z9, e0, e1, e2, bN_T, bN_F, bN_0, nI0_0, nI1_0, nI01a, nI01b, true_or, or_true, false_or, or_false, so0, so1, so49, not_true_eq_false, not_false_eq_true, if_true, if_false]
    · have e1 := eq_false a1
      simp only [r44_0, r44_1, r44_2, r44_5, r44_8, r44_11, r44_12, r44_13, r44_16, r44_19, r44_22, r44_23, r44_24, r44_27, r44_30, r44_33, r44_34, r44_35, r44_36, r44_37, r44_40, r44_41, r44_42, r44_45, r44_46, r44_47, r44_50, r44_51, am_cat0, am_catI, am_catR, am_catD, am_ndI, am_ndR, am_ndL, va_rfS, true_and, and_true, Option.toList_some, Option.toList_none, List.cons_append, List.nil_append, Nat.reduceAdd, Nat.reduceLeDiff, Nat.zero_add, Nat.le_refl, c32, z0, z9, e0, e1, bN_T, bN_F, bN_0, nI0_0, nI1_0, nI01a, nI01b, true_or, or_true, false_or, or_false, so0, so1, so49, not_true_eq_false, not_false_eq_true, if_true, if_false]
  · have e0 := eq_false a0
    simp only [r44_0, r44_1, r44_2, r44_5, r44_8, r44_11, r44_12, r44_13, r44_16, r44_19, r44_22, r44_23, r44_24, r44_27, r44_30, r44_33, r44_34, r44_35, r44_36, r44_37, r44_40, r44_41, r44_42, r44_45, r44_46, r44_47, r44_50, r44_51, am_cat0, am_catI, am_catR, am_catD, am_ndI, am_ndR, am_ndL, va_rfS, true_and, and_true, Option.toList_some, Option.toList_none, List.cons_append, List.nil_append, Nat.reduceAdd, Nat.reduceLeDiff, Nat.zero_add, Nat.le_refl, c32, z0, z9, e0, bN_T, bN_F, bN_0, nI0_0, nI1_0, nI01a, nI01b, true_or, or_true, false_or, or_false, so0, so1, so49, not_true_eq_false, not_false_eq_true, if_true, if_false]
theorem c44v {a b c : Nat} (ha : a < 1000) (hb : b < 1000) (hc : c < 1000) : RR 44 0 [.ref 49, .int (nI a), .int (nI b), .int (nI c)] [] (SH, (0, 0, sl), M, D, RF) Q ↔ Q (some (.int (nI 1))) (SH, (0, 0, sl), am_up (am_up (am_up M 49 14 (nI a)) 49 15 (nI b)) 49 16 (nI c), D, RF) := by
  simp only [r44_0, r44_1, r44_2, r44_5, r44_8, r44_11, r44_12, r44_13, r44_16, r44_19, r44_22, r44_23, r44_24, r44_27, r44_30, r44_33, r44_34, r44_35, r44_36, r44_37, r44_40, r44_41, r44_42, r44_45, r44_46, r44_47, r44_50, r44_51, am_cat0, am_catI, am_catR, am_catD, am_ndI, am_ndR, am_ndL, va_rfS, true_and, and_true, Option.toList_some, Option.toList_none, List.cons_append, List.nil_append, Nat.reduceAdd, Nat.reduceLeDiff, Nat.zero_add, Nat.le_refl, c32t (show a ≤ 999 by omega) (by decide), c32t (show b ≤ 999 by omega) (by decide), c32t (show c ≤ 999 by omega) (by decide), bN_T, bN_F, bN_0, nI0_0, nI1_0, nI01a, nI01b, true_or, or_true, false_or, or_false, so0, so1, so49, not_true_eq_false, not_false_eq_true, if_true, if_false]
/-- judge -/
theorem c16f {a b c : Int32} (h : ¬ ((0 ≤ a.toInt ∧ a.toInt ≤ 999) ∧ (0 ≤ b.toInt ∧ b.toInt ≤ 999) ∧ 0 ≤ c.toInt ∧ c.toInt ≤ 999)) : RR 16 0 [.ref 0, .int a, .int b, .int c, .long 0, .long 0, .long 0] [] (SH, (0, 0, sl), M, D, RF) Q ↔ Q (some (.int (-1))) (SH, (0, 0, sl), M, D, RF) := by
  have e := eq_false h
  simp only [r16_0, r16_1, r16_2, r16_3, r16_6, r16_9, r16_10, am_cat0, am_catI, am_catR, am_catD, am_ndI, am_ndR, am_ndL, va_rfS, true_and, and_true, Option.toList_some, Option.toList_none, List.cons_append, List.nil_append, Nat.reduceAdd, Nat.reduceLeDiff, Nat.zero_add, Nat.le_refl, c23, e, bN_T, bN_F, bN_0, nI0_0, nI1_0, nI01a, nI01b, true_or, or_true, false_or, or_false, so0, so1, so49, not_true_eq_false, not_false_eq_true, if_true, if_false]
theorem c16v {a b c : Nat} (ha : a < 1000) (hb : b < 1000) (hc : c < 1000) : RR 16 0 [.ref 0, .int (nI a), .int (nI b), .int (nI c), .long 0, .long 0, .long 0] [] (SH, (0, 0, sl), M, D, RF) Q ↔ RR 16 11 [.ref 0, .int (nI a), .int (nI b), .int (nI c), .long 0, .long 0, .long 0] [] (SH, (0, 0, sl), M, D, RF) Q := by
  have e : ((0 ≤ (nI a).toInt ∧ (nI a).toInt ≤ 999) ∧ (0 ≤ (nI b).toInt ∧ (nI b).toInt ≤ 999) ∧ 0 ≤ (nI c).toInt ∧ (nI c).toInt ≤ 999) = True := eq_true (by rw [nI_ti (by omega), nI_ti (by omega), nI_ti (by omega)]; omega)
  simp only [r16_0, r16_1, r16_2, r16_3, r16_6, r16_9, r16_10, am_cat0, am_catI, am_catR, am_catD, am_ndI, am_ndR, am_ndL, va_rfS, true_and, and_true, Option.toList_some, Option.toList_none, List.cons_append, List.nil_append, Nat.reduceAdd, Nat.reduceLeDiff, Nat.zero_add, Nat.le_refl, c23, e, bN_T, bN_F, bN_0, nI0_0, nI1_0, nI01a, nI01b, true_or, or_true, false_or, or_false, so0, so1, so49, not_true_eq_false, not_false_eq_true, if_true, if_false]
theorem c73f {a b c : Int32} (h : ¬ ((0 ≤ a.toInt ∧ a.toInt ≤ 999) ∧ (0 ≤ b.toInt ∧ b.toInt ≤ 999) ∧ 0 ≤ c.toInt ∧ c.toInt ≤ 999)) : RR 73 0 [.ref 49, .int a, .int b, .int c, .long 0, .long 0, .long 0] [] (SH, (0, 0, sl), M, D, RF) Q ↔ Q (some (.int (-1))) (SH, (0, 0, sl), M, D, RF) := by
  have z0 : (nI 0).toInt = 0 := by decide
  have z9 : (nI 999).toInt = 999 := by decide
  by_cases a0 : (0 ≤ a.toInt ∧ a.toInt ≤ 999)
  · have e0 := eq_true a0
    by_cases a1 : (0 ≤ b.toInt ∧ b.toInt ≤ 999)
    · have e1 := eq_true a1
      have e2 := eq_false (fun z => h ⟨a0, a1, z⟩)
      simp only [r73_0, r73_1, r73_2, r73_5, r73_8, r73_11, r73_12, r73_13, r73_16, r73_19, r73_22, r73_23, r73_24, r73_27, r73_30, r73_33, r73_34, r73_35, r73_36, am_cat0, am_catI, am_catR, am_catD, am_ndI, am_ndR, am_ndL, va_rfS, true_and, and_true, Option.toList_some, Option.toList_none, List.cons_append, List.nil_append, Nat.reduceAdd, Nat.reduceLeDiff, Nat.zero_add, Nat.le_refl, c32, z0, z9, e0, e1, e2, bN_T, bN_F, bN_0, nI0_0, nI1_0, nI01a, nI01b, true_or, or_true, false_or, or_false, so0, so1, so49, not_true_eq_false, not_false_eq_true, if_true, if_false]
    · have e1 := eq_false a1
      simp only [r73_0, r73_1, r73_2, r73_5, r73_8, r73_11, r73_12, r73_13, r73_16, r73_19, r73_22, r73_23, r73_24, r73_27, r73_30, r73_33, r73_34, r73_35, r73_36, am_cat0, am_catI, am_catR, am_catD, am_ndI, am_ndR, am_ndL, va_rfS, true_and, and_true, Option.toList_some, Option.toList_none, List.cons_append, List.nil_append, Nat.reduceAdd, Nat.reduceLeDiff, Nat.zero_add, Nat.le_refl, c32, z0, z9, e0, e1, bN_T, bN_F, bN_0, nI0_0, nI1_0, nI01a, nI01b, true_or, or_true, false_or, or_false, so0, so1, so49, not_true_eq_false, not_false_eq_true, if_true, if_false]
  · have e0 := eq_false a0
    simp only [r73_0, r73_1, r73_2, r73_5, r73_8, r73_11, r73_12, r73_13, r73_16, r73_19, r73_22, r73_23, r73_24, r73_27, r73_30, r73_33, r73_34, r73_35, r73_36, am_cat0, am_catI, am_catR, am_catD, am_ndI, am_ndR, am_ndL, va_rfS, true_and, and_true, Option.toList_some, Option.toList_none, List.cons_append, List.nil_append, Nat.reduceAdd, Nat.reduceLeDiff, Nat.zero_add, Nat.le_refl, c32, z0, z9, e0, bN_T, bN_F, bN_0, nI0_0, nI1_0, nI01a, nI01b, true_or, or_true, false_or, or_false, so0, so1, so49, not_true_eq_false, not_false_eq_true, if_true, if_false]
variable {M0 : Nat → Nat → Int32} {P : Nat → List Nat} {n : Nat}
theorem b9 {a b c : Nat} (ha : a < 1000) (hb : b < 1000) (hc : c < 1000) : a * 1000000 + b * 1000 + c < 1000000000 := by omega
theorem c73t {a b c : Int32} {W V : Nat} {L : List En} {M1 : Nat → Nat → Int32} (hW : W < 1000000000) (hV : V < 1000000000) (h3 : mK M0 D M1 L) (h4 : agS M M1) : RR 73 82 [.ref 49, .int a, .int b, .int c, .int (nI W), .int (nI V), .long 0] [.int (nI (avV V L)), .int (nI W)] (SH, (0, 0, sl), M1, D, RF) (fun rv μ' => rv = some (.int (nI (juA W V L))) ∧ ∃ M', μ' = (SH, (0, 0, sl), M', D, RF) ∧ agS M M') := by
  have h816 := h3.2.2.2.1
  have q3 := cnE_le 3 L
  have q2 := cnE_le 2 L
  obtain ⟨y1, y2⟩ := avV_lt (V := V) (L := L) hV
  have tail : ∀ x : Nat, x < 3 → (RR 73 101 [.ref 49, .int a, .int b, .int c, .int (nI W), .int (nI V), .long 0] [.int (nI x)] (SH, (0, 0, sl), M1, D, RF) (fun rv μ' => rv = some (.int (nI (x + (if 0 < cnE 3 L then 4 else 0) + (if 0 < cnE 2 L then 8 else 0)))) ∧ ∃ M', μ' = (SH, (0, 0, sl), M', D, RF) ∧ agS M M')) := by
    intro x hx
    by_cases k3 : 0 < cnE 3 L
    · have e3 : ¬ nI (cnE 3 L) ≤ 0 := nI_nle k3 (by omega)
      by_cases k2 : 0 < cnE 2 L
      · have e2 : ¬ nI (cnE 2 L) ≤ 0 := nI_nle k2 (by omega)
        simp only [r73_101, r73_103, r73_105, r73_106, r73_107, r73_110, r73_113, r73_114, r73_117, r73_118, r73_119, r73_120, r73_121, r73_124, r73_127, r73_129, r73_132, r73_133, r73_134, am_cat0, am_catI, am_catR, am_catD, am_ndI, am_ndR, am_ndL, va_rfS, true_and, and_true, Option.toList_some, Option.toList_none, List.cons_append, List.nil_append, Nat.reduceAdd, Nat.reduceLeDiff, Nat.zero_add, Nat.le_refl, bN_T, bN_F, bN_0, nI0_0, nI1_0, nI01a, nI01b, true_or, or_true, false_or, or_false, so0, so1, so49, not_true_eq_false, not_false_eq_true, if_true, if_false, c66 h3.2.1 h816 (show 3 < 4 by decide), c66 h3.2.1 h816 (show 2 < 4 by decide), e3, e2, nI_add, am_ndI, k3, k2]
        exact ⟨M1, rfl, h4⟩
      · have e2 : nI (cnE 2 L) ≤ 0 := by rw [show cnE 2 L = 0 by omega]; decide
        simp only [r73_101, r73_103, r73_105, r73_106, r73_107, r73_110, r73_113, r73_114, r73_117, r73_118, r73_119, r73_120, r73_121, r73_124, r73_127, r73_129, r73_132, r73_133, r73_134, am_cat0, am_catI, am_catR, am_catD, am_ndI, am_ndR, am_ndL, va_rfS, true_and, and_true, Option.toList_some, Option.toList_none, List.cons_append, List.nil_append, Nat.reduceAdd, Nat.reduceLeDiff, Nat.zero_add, Nat.le_refl, bN_T, bN_F, bN_0, nI0_0, nI1_0, nI01a, nI01b, true_or, or_true, false_or, or_false, so0, so1, so49, not_true_eq_false, not_false_eq_true, if_true, if_false, c66 h3.2.1 h816 (show 3 < 4 by decide), c66 h3.2.1 h816 (show 2 < 4 by decide), e3, e2, nI_add, am_ndI, k3, k2]
        exact ⟨M1, rfl, h4⟩
    · have e3 : nI (cnE 3 L) ≤ 0 := by rw [show cnE 3 L = 0 by omega]; decide
      by_cases k2 : 0 < cnE 2 L
      · have e2 : ¬ nI (cnE 2 L) ≤ 0 := nI_nle k2 (by omega)
        simp only [r73_101, r73_103, r73_105, r73_106, r73_107, r73_110, r73_113, r73_114, r73_117, r73_118, r73_119, r73_120, r73_121, r73_124, r73_127, r73_129, r73_132, r73_133, r73_134, am_cat0, am_catI, am_catR, am_catD, am_ndI, am_ndR, am_ndL, va_rfS, true_and, and_true, Option.toList_some, Option.toList_none, List.cons_append, List.nil_append, Nat.reduceAdd, Nat.reduceLeDiff, Nat.zero_add, Nat.le_refl, bN_T, bN_F, bN_0, nI0_0, nI1_0, nI01a, nI01b, true_or, or_true, false_or, or_false, so0, so1, so49, not_true_eq_false, not_false_eq_true, if_true, if_false, c66 h3.2.1 h816 (show 3 < 4 by decide), c66 h3.2.1 h816 (show 2 < 4 by decide), e3, e2, nI_add, am_ndI, k3, k2]
        exact ⟨M1, rfl, h4⟩
      · have e2 : nI (cnE 2 L) ≤ 0 := by rw [show cnE 2 L = 0 by omega]; decide
        simp only [r73_101, r73_103, r73_105, r73_106, r73_107, r73_110, r73_113, r73_114, r73_117, r73_118, r73_119, r73_120, r73_121, r73_124, r73_127, r73_129, r73_132, r73_133, r73_134, am_cat0, am_catI, am_catR, am_catD, am_ndI, am_ndR, am_ndL, va_rfS, true_and, and_true, Option.toList_some, Option.toList_none, List.cons_append, List.nil_append, Nat.reduceAdd, Nat.reduceLeDiff, Nat.zero_add, Nat.le_refl, bN_T, bN_F, bN_0, nI0_0, nI1_0, nI01a, nI01b, true_or, or_true, false_or, or_false, so0, so1, so49, not_true_eq_false, not_false_eq_true, if_true, if_false, c66 h3.2.1 h816 (show 3 < 4 by decide), c66 h3.2.1 h816 (show 2 < 4 by decide), e3, e2, nI_add, am_ndI, k3, k2]
        exact ⟨M1, rfl, h4⟩
  unfold juA
  by_cases g1 : avV V L ≤ W
  · have g1' : (nI W < nI (avV V L)) = False := eq_false (by rw [nx_lt (by omega) (by omega)]; omega)
    simp only [am_cat0, am_catI, am_catR, am_catD, am_ndI, am_ndR, am_ndL, va_rfS, true_and, and_true, Option.toList_some, Option.toList_none, List.cons_append, List.nil_append, Nat.reduceAdd, Nat.reduceLeDiff, Nat.zero_add, Nat.le_refl, r73_82, g1', if_false, r73_85, r73_86, g1, if_true]
    have h0 := tail 0 (by decide)
    simp only [Nat.zero_add] at h0
    exact h0
  · have g1' : (nI W < nI (avV V L)) = True := eq_true (by rw [nx_lt (by omega) (by omega)]; omega)
    by_cases g2 : V < W
    · have g2' : (nI (W) ≤ nI V) = False := eq_false (by rw [nx_le (by omega) (by omega)]; omega)
      simp only [am_cat0, am_catI, am_catR, am_catD, am_ndI, am_ndR, am_ndL, va_rfS, true_and, and_true, Option.toList_some, Option.toList_none, List.cons_append, List.nil_append, Nat.reduceAdd, Nat.reduceLeDiff, Nat.zero_add, Nat.le_refl, r73_82, g1', if_true, r73_89, r73_91, r73_93, g2', if_false, r73_96, r73_97, g1, g2]
      exact tail 1 (by decide)
    · have g2' : (nI (W) ≤ nI V) = True := eq_true (by rw [nx_le (by omega) (by omega)]; omega)
      simp only [am_cat0, am_catI, am_catR, am_catD, am_ndI, am_ndR, am_ndL, va_rfS, true_and, and_true, Option.toList_some, Option.toList_none, List.cons_append, List.nil_append, Nat.reduceAdd, Nat.reduceLeDiff, Nat.zero_add, Nat.le_refl, r73_82, g1', if_true, r73_89, r73_91, r73_93, g2', r73_100, g1, g2, if_false]
      exact tail 2 (by decide)
theorem c73v {a b c f g h : Nat} (ha : a < 1000) (hb : b < 1000) (hc : c < 1000) (h2 : bW M0 2) (h9 : bW M0 9) (hB : mBd M0 D M) (hR : mRl M0 M P n) (hr : rlW M0 P n) (hD : ∀ k, k < 96 → Op.cmpValue (FP.dcmp (D 8 k) (D 8 k)) .l = 0) (hv : mV M f g h) : RR 73 0 [.ref 49, .int (nI a), .int (nI b), .int (nI c), .long 0, .long 0, .long 0] [] (SH, (0, 0, sl), M, D, RF) (fun rv μ' => rv = some (.int (nI (juA (a * 1000000 + b * 1000 + c) (f * 1000000 + g * 1000 + h) (wA M0 D P n)))) ∧ ∃ M', μ' = (SH, (0, 0, sl), M', D, RF) ∧ agS M M') := by
  simp only [r73_0, r73_1, r73_2, r73_5, r73_8, r73_11, r73_12, r73_13, r73_16, r73_19, r73_22, r73_23, r73_24, r73_27, r73_30, r73_33, r73_34, r73_35, r73_36, am_cat0, am_catI, am_catR, am_catD, am_ndI, am_ndR, am_ndL, va_rfS, true_and, and_true, Option.toList_some, Option.toList_none, List.cons_append, List.nil_append, Nat.reduceAdd, Nat.reduceLeDiff, Nat.zero_add, Nat.le_refl, c32t (show a ≤ 999 by omega) (by decide), c32t (show b ≤ 999 by omega) (by decide), c32t (show c ≤ 999 by omega) (by decide), bN_T, bN_F, bN_0, nI0_0, nI1_0, nI01a, nI01b, true_or, or_true, false_or, or_false, so0, so1, so49, not_true_eq_false, not_false_eq_true, if_true, if_false]
  refine RR.imp (c59k h2 h9 hB hR hr hD) ?_
  rintro rv μ' ⟨rfl, M1, rfl, h3, h4⟩
  have hv1 := mV_ag h4 hv
  generalize wA M0 D P n = L at *
  have h816 := h3.2.2.2.1
  obtain ⟨v1, v2, v3, v4, v5, v6⟩ := hv1
  have q3 := cnE_le 3 L
  have q2 := cnE_le 2 L
  have eW : 1000000 * a + 1000 * b + c = a * 1000000 + b * 1000 + c := by omega
  have eV : 1000000 * f + 1000 * g + h = f * 1000000 + g * 1000 + h := by omega
  simp only [r73_39, r73_41, r73_42, r73_43, r73_46, r73_47, r73_48, r73_49, r73_50, r73_51, r73_53, r73_55, r73_56, r73_59, r73_60, r73_63, r73_64, r73_67, r73_68, r73_69, r73_70, r73_73, r73_74, r73_76, r73_78, r73_79, am_cat0, am_catI, am_catR, am_catD, am_ndI, am_ndR, am_ndL, va_rfS, true_and, and_true, Option.toList_some, Option.toList_none, List.cons_append, List.nil_append, Nat.reduceAdd, Nat.reduceLeDiff, Nat.zero_add, Nat.le_refl, bN_T, bN_F, bN_0, nI0_0, nI1_0, nI01a, nI01b, true_or, or_true, false_or, or_false, so0, so1, so49, not_true_eq_false, not_false_eq_true, if_true, if_false, v1, v2, v3, pk_mul, nI_add, eW, eV]
  refine c71 h3.2.1 h816 ⟨v1, v2, v3, v4, v5, v6⟩ ?_
  simp only [am_cat0, am_catI, am_catR, am_catD, am_ndI, am_ndR, am_ndL, va_rfS, true_and, and_true, Option.toList_some, Option.toList_none, List.cons_append, List.nil_append, Nat.reduceAdd, Nat.reduceLeDiff, Nat.zero_add, Nat.le_refl]
  exact c73t (b9 ha hb hc) (b9 v4 v5 v6) h3 h4
/-- change, shift: the class -/
theorem c12 {k w : Int32} (h2 : bW M 2) (h9 : bW M 9) (hr : rlW M P n) : RR 12 0 [.ref 0, .int k, .int w, .long 0, .long 0] [] (SH, (0, 0, sl), M, D, RF) (fun rv μ' => rv = some (.int (chR k w (wA M D P n))) ∧ ∃ M', μ' = (SH, (0, 0, sl), M', D, RF) ∧ agD M M') := by
  have z0 : (nI 0).toInt = 0 := by decide
  have z4 : (nI 4).toInt = 4 := by decide
  unfold chR
  by_cases hw : 0 ≤ w.toInt ∧ w.toInt ≤ 4
  · rw [if_pos hw]
    have hw' := eq_true hw
    simp only [r12_0, r12_1, r12_2, r12_3, am_cat0, am_catI, am_catR, am_catD, am_ndI, am_ndR, am_ndL, va_rfS, true_and, and_true, Option.toList_some, Option.toList_none, List.cons_append, List.nil_append, Nat.reduceAdd, Nat.reduceLeDiff, Nat.zero_add, Nat.le_refl, c24, z0, z4, r12_6, hw', bN_T, bN_F, bN_0, nI0_0, nI1_0, nI01a, nI01b, true_or, or_true, false_or, or_false, so0, so1, so49, not_true_eq_false, not_false_eq_true, if_true, if_false, r12_11, r12_12]
    refine RR.imp (c18 h2 h9 hr) ?_
    rintro rv μ' ⟨rfl, M', rfl, h3, h4⟩
    have hag : agD M M' := fun q k a b c d _ => h4 q k a b c d
    generalize wA M D P n = L at *
    have hL := h3.2.1
    by_cases hk : 0 ≤ k.toInt ∧ k.toInt < (L.length : Int)
    · rw [if_pos hk]
      have hk' := eq_true hk
      obtain ⟨i, i1, rfl, i3⟩ := xI hk.1
      have hi : i < L.length := by omega
      have ein : (nI i).toInt.toNat = i := nI_tn i1
      obtain ⟨b1, ⟨a1, a2, a3, a4, a5, a6, a7⟩, -, -⟩ := lsC_k h3 hi
      rw [ein]
      simp only [am_cat0, am_catI, am_catR, am_catD, am_ndI, am_ndR, am_ndL, va_rfS, true_and, and_true, Option.toList_some, Option.toList_none, List.cons_append, List.nil_append, Nat.reduceAdd, Nat.reduceLeDiff, Nat.zero_add, Nat.le_refl, r12_15, r12_16, r12_17, r12_18, so16, c108 h3.1 (show L.length < 2 ^ 31 by omega), hk', r12_21, bN_T, bN_F, bN_0, nI0_0, nI1_0, nI01a, nI01b, true_or, or_true, false_or, or_false, so0, so1, so49, not_true_eq_false, not_false_eq_true, if_true, if_false, r12_27, r12_28, r12_29, s_k h3 hi, r12_32, r12_34, r12_35]
      obtain ⟨v, v1, rfl, v3⟩ := xI hw.1
      have evn : (nI v).toInt.toNat = v := nI_tn v1
      have hv5 : v = 0 ∨ v = 1 ∨ v = 2 ∨ v = 3 ∨ v = 4 := by omega
      rw [evn]
      unfold chV
      have o0 : (((nI 0).toInt - 0).toNat) = 0 := by decide
      have o1 : (((nI 1).toInt - 0).toNat) = 1 := by decide
      have o2 : (((nI 2).toInt - 0).toNat) = 2 := by decide
      have o3 : (((nI 3).toInt - 0).toNat) = 3 := by decide
      have n0 : ¬ ((nI 0).toInt < 0 ∨ 3 < (nI 0).toInt) := by decide
      have n1 : ¬ ((nI 1).toInt < 0 ∨ 3 < (nI 1).toInt) := by decide
      have n2 : ¬ ((nI 2).toInt < 0 ∨ 3 < (nI 2).toInt) := by decide
      have n3 : ¬ ((nI 3).toInt < 0 ∨ 3 < (nI 3).toInt) := by decide
      have n4 : ((nI 4).toInt < 0 ∨ 3 < (nI 4).toInt) := by decide
      have l0 : ([64, 70, 76, 82] : List Nat).getD 0 0 = 64 := rfl
      have l1 : ([64, 70, 76, 82] : List Nat).getD 1 0 = 70 := rfl
      have l2 : ([64, 70, 76, 82] : List Nat).getD 2 0 = 76 := rfl
      have l3 : ([64, 70, 76, 82] : List Nat).getD 3 0 = 82 := rfl
      rcases hv5 with rfl | rfl | rfl | rfl | rfl
      · rw [if_neg n0, o0, l0]
        simp only [r12_64, r12_65, r12_66, am_cat0, am_catI, am_catR, am_catD, am_ndI, am_ndR, am_ndL, va_rfS, true_and, and_true, Option.toList_some, Option.toList_none, List.cons_append, List.nil_append, Nat.reduceAdd, Nat.reduceLeDiff, Nat.zero_add, Nat.le_refl, so16, c_k h3 hi, r12_69, if_true]
        exact ⟨M', rfl, hag⟩
      · rw [if_neg n1, o1, l1]
        simp only [r12_70, r12_71, r12_72, am_cat0, am_catI, am_catR, am_catD, am_ndI, am_ndR, am_ndL, va_rfS, true_and, and_true, Option.toList_some, Option.toList_none, List.cons_append, List.nil_append, Nat.reduceAdd, Nat.reduceLeDiff, Nat.zero_add, Nat.le_refl, so16, w_k h3 hi, r12_75, if_true, if_false, Nat.one_ne_zero]
        exact ⟨M', rfl, hag⟩
      · rw [if_neg n2, o2, l2]
        simp only [r12_76, r12_77, r12_78, am_cat0, am_catI, am_catR, am_catD, am_ndI, am_ndR, am_ndL, va_rfS, true_and, and_true, Option.toList_some, Option.toList_none, List.cons_append, List.nil_append, Nat.reduceAdd, Nat.reduceLeDiff, Nat.zero_add, Nat.le_refl, so16, t_k h3 hi, r12_81]
        exact ⟨rfl, M', rfl, hag⟩
      · rw [if_neg n3, o3, l3]
        rcases sl_m a5 with ⟨g0, gs⟩ | ⟨g0, gs⟩
        · rw [gs]
          simp only [r12_82, r12_84, r12_85, not_true_eq_false, if_false, r12_88, r12_89, r12_105]
          exact ⟨by rw [if_pos g0]; rfl, M', rfl, hag⟩
        · rw [gs]
          have gm : (nI ((L.getD i e0).2.2.2.1 - 1) = -1) = False := nx_im1 (by omega)
          by_cases g1 : (L.getD i e0).2.2.2.1 ≤ 12
          · have g1' : ¬ 12 ≤ (L.getD i e0).2.2.2.1 - 1 := by omega
            simp only [r12_82, r12_84, r12_85, gm, not_false_eq_true, if_true, r12_92, r12_94, am_cat0, am_catI, am_catR, am_catD, am_ndI, am_ndR, am_ndL, va_rfS, true_and, and_true, Option.toList_some, Option.toList_none, List.cons_append, List.nil_append, Nat.reduceAdd, Nat.reduceLeDiff, Nat.zero_add, Nat.le_refl, c27 (show (L.getD i e0).2.2.2.1 - 1 < 2 ^ 31 by omega), r12_97, bN_0, g1', r12_104, r12_105]
            exact ⟨by rw [if_neg g0, if_pos g1]; rfl, M', rfl, hag⟩
          · have g1' : 12 ≤ (L.getD i e0).2.2.2.1 - 1 := by omega
            simp only [r12_82, r12_84, r12_85, gm, not_false_eq_true, if_true, r12_92, r12_94, am_cat0, am_catI, am_catR, am_catD, am_ndI, am_ndR, am_ndL, va_rfS, true_and, and_true, Option.toList_some, Option.toList_none, List.cons_append, List.nil_append, Nat.reduceAdd, Nat.reduceLeDiff, Nat.zero_add, Nat.le_refl, c27 (show (L.getD i e0).2.2.2.1 - 1 < 2 ^ 31 by omega), r12_97, bN_0, g1', not_true_eq_false, if_false, r12_100, r12_101, r12_105]
            exact ⟨by rw [if_neg g0, if_neg g1]; rfl, M', rfl, hag⟩
      · rw [if_pos n4]
        rcases sl_m a5 with ⟨g0, gs⟩ | ⟨g0, gs⟩
        · rw [gs]
          simp only [r12_106, r12_108, r12_109, not_true_eq_false, if_false, r12_112, r12_114, r12_122]
          exact ⟨by rw [if_neg (by decide : ¬ (4 : Nat) = 0), if_neg (by decide : ¬ (4 : Nat) = 1), if_neg (by decide : ¬ (4 : Nat) = 2), if_neg (by decide : ¬ (4 : Nat) = 3), if_pos g0], M', rfl, hag⟩
        · rw [gs]
          have gm : (nI ((L.getD i e0).2.2.2.1 - 1) = -1) = False := nx_im1 (by omega)
          simp only [r12_106, r12_108, r12_109, gm, not_false_eq_true, if_true, r12_117, r12_119, am_cat0, am_catI, am_catR, am_catD, am_ndI, am_ndR, am_ndL, va_rfS, true_and, and_true, Option.toList_some, Option.toList_none, List.cons_append, List.nil_append, Nat.reduceAdd, Nat.reduceLeDiff, Nat.zero_add, Nat.le_refl, c28 (show (L.getD i e0).2.2.2.1 - 1 < 2 ^ 31 by omega), r12_122]
          exact ⟨by rw [if_neg (by decide : ¬ (4 : Nat) = 0), if_neg (by decide : ¬ (4 : Nat) = 1), if_neg (by decide : ¬ (4 : Nat) = 2), if_neg (by decide : ¬ (4 : Nat) = 3), if_neg g0], M', rfl, hag⟩
    · rw [if_neg hk]
      have hk' := eq_false hk
      simp only [am_cat0, am_catI, am_catR, am_catD, am_ndI, am_ndR, am_ndL, va_rfS, true_and, and_true, Option.toList_some, Option.toList_none, List.cons_append, List.nil_append, Nat.reduceAdd, Nat.reduceLeDiff, Nat.zero_add, Nat.le_refl, r12_15, r12_16, r12_17, r12_18, so16, c108 h3.1 (show L.length < 2 ^ 31 by omega), hk', r12_21, bN_T, bN_F, bN_0, nI0_0, nI1_0, nI01a, nI01b, true_or, or_true, false_or, or_false, so0, so1, so49, not_true_eq_false, not_false_eq_true, if_true, if_false, r12_24, r12_26]
      exact ⟨M', rfl, hag⟩
  · rw [if_neg hw]
    have hw' := eq_false hw
    simp only [r12_0, r12_1, r12_2, r12_3, am_cat0, am_catI, am_catR, am_catD, am_ndI, am_ndR, am_ndL, va_rfS, true_and, and_true, Option.toList_some, Option.toList_none, List.cons_append, List.nil_append, Nat.reduceAdd, Nat.reduceLeDiff, Nat.zero_add, Nat.le_refl, c24, z0, z4, r12_6, hw', bN_T, bN_F, bN_0, nI0_0, nI1_0, nI01a, nI01b, true_or, or_true, false_or, or_false, so0, so1, so49, not_true_eq_false, not_false_eq_true, if_true, if_false, r12_9, r12_10]
    exact ⟨M, rfl, fun _ _ _ _ _ _ _ => rfl⟩
theorem c13 {k : Int32} (h2 : bW M 2) (h9 : bW M 9) (hr : rlW M P n) (hD : ∀ k, k < 96 → Op.cmpValue (FP.dcmp (D 8 k) (D 8 k)) .l = 0) (hD9 : ∀ k, k < 96 → Op.cmpValue (FP.dcmp (D 15 k) (D 15 k)) .l = 0) (hS : ∀ i, i < 96 → vf_n64 (FP.dsub (D 15 i) (D 8 i))) : RR 13 0 [.ref 0, .int k, .long 0] [] (SH, (0, 0, sl), M, D, RF) (fun rv μ' => rv = some (.double (shA D k (wA M D P n))) ∧ ∃ M', μ' = (SH, (0, 0, sl), M', D, RF) ∧ agD M M') := by
  simp only [r13_0, r13_1, am_cat0, am_catI, am_catR, am_catD, am_ndI, am_ndR, am_ndL, va_rfS, true_and, and_true, Option.toList_some, Option.toList_none, List.cons_append, List.nil_append, Nat.reduceAdd, Nat.reduceLeDiff, Nat.zero_add, Nat.le_refl, so0]
  refine RR.imp (c18 h2 h9 hr) ?_
  rintro rv μ' ⟨rfl, M', rfl, h3, h4⟩
  have hag : agD M M' := fun q k a b c d _ => h4 q k a b c d
  have h31 := fun x hx => wA31 (M := M) (D := D) (P := P) (n := n) (x := x) hx
  generalize wA M D P n = L at *
  have hL := h3.2.1
  unfold shA
  by_cases hk : 0 ≤ k.toInt ∧ k.toInt < (L.length : Int)
  · have hk' := eq_true hk
    obtain ⟨i, i1, rfl, i3⟩ := xI hk.1
    have hi : i < L.length := by omega
    have ein : (nI i).toInt.toNat = i := nI_tn i1
    have hm31 := h31 _ (getD_mem (d := e0) hi)
    obtain ⟨b1, ⟨a1, a2, a3, a4, a5, a6, a7⟩, -, -⟩ := lsC_k h3 hi
    have hc1 := fun Q => c_k (Q := Q) (D := D) (sl := sl) h3 hi
    have ht1 := fun Q => t_k (Q := Q) (D := D) (sl := sl) h3 hi
    have hs1 := fun Q => s_k (Q := Q) (D := D) (sl := sl) h3 hi
    rw [ein]
    by_cases hc : (L.getD i e0).2.2.2.2 = 31
    · obtain ⟨m1, m2⟩ := hm31 hc
      rw [if_pos ⟨hk, hc⟩]
      have hc' : (nI (L.getD i e0).2.2.2.2 = nI 31) = True := eq_true (by rw [hc])
      generalize hxx : L.getD i e0 = x at *
      have esub : nI x.2.2.2.1 - nI 1 = nI (x.2.2.2.1 - 1) := pk_sub (by omega)
      have h103 := fun Q => c103 (Q := Q) (M := M') (D := D) (sl := sl) a4 (show x.2.2.2.1 - 1 < 12 by omega) rfl rfl (hD _ (by omega)) (hD9 _ (by omega)) (hS (x.2.2.1 * 12 + (x.2.2.2.1 - 1)) (by omega))
      simp only [r13_4, r13_5, r13_6, r13_7, r13_10, r13_13, r13_14, r13_15, r13_18, r13_20, r13_25, r13_26, r13_29, r13_30, r13_31, r13_34, r13_35, r13_36, r13_39, r13_42, am_cat0, am_catI, am_catR, am_catD, am_ndI, am_ndR, am_ndL, va_rfS, true_and, and_true, Option.toList_some, Option.toList_none, List.cons_append, List.nil_append, Nat.reduceAdd, Nat.reduceLeDiff, Nat.zero_add, Nat.le_refl, so16, sf0_0, bN_T, bN_F, bN_0, nI0_0, nI1_0, nI01a, nI01b, true_or, or_true, false_or, or_false, so0, so1, so49, not_true_eq_false, not_false_eq_true, if_true, if_false, c108 h3.1 (show L.length < 2 ^ 31 by omega), hk', hc1, hc', ht1, hs1, esub, h103]
      exact ⟨M', rfl, hag⟩
    · rw [if_neg (fun z => hc z.2)]
      have hc' : (nI (L.getD i e0).2.2.2.2 = nI 31) = False := eq_false (by rw [nx_eq (by omega) (by omega)]; exact hc)
      simp only [r13_4, r13_5, r13_6, r13_7, r13_10, r13_13, r13_14, r13_15, r13_18, r13_20, r13_23, r13_24, am_cat0, am_catI, am_catR, am_catD, am_ndI, am_ndR, am_ndL, va_rfS, true_and, and_true, Option.toList_some, Option.toList_none, List.cons_append, List.nil_append, Nat.reduceAdd, Nat.reduceLeDiff, Nat.zero_add, Nat.le_refl, so16, bN_T, bN_F, bN_0, nI0_0, nI1_0, nI01a, nI01b, true_or, or_true, false_or, or_false, so0, so1, so49, not_true_eq_false, not_false_eq_true, if_true, if_false, c108 h3.1 (show L.length < 2 ^ 31 by omega), hk', hc1, hc']
      exact ⟨M', rfl, hag⟩
  · have hk' := eq_false hk
    rw [if_neg (fun z => hk z.1)]
    simp only [r13_4, r13_5, r13_6, r13_7, r13_10, r13_23, r13_24, am_cat0, am_catI, am_catR, am_catD, am_ndI, am_ndR, am_ndL, va_rfS, true_and, and_true, Option.toList_some, Option.toList_none, List.cons_append, List.nil_append, Nat.reduceAdd, Nat.reduceLeDiff, Nat.zero_add, Nat.le_refl, so16, bN_T, bN_F, bN_0, nI0_0, nI1_0, nI01a, nI01b, true_or, or_true, false_or, or_false, so0, so1, so49, not_true_eq_false, not_false_eq_true, if_true, if_false, c108 h3.1 (show L.length < 2 ^ 31 by omega), hk']
    exact ⟨M', rfl, hag⟩
end CN
