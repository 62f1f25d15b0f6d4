/-! FITS; THE MODEL'S BRANCH -/
section CN
variable {Q : Option Value → amM → Prop} {μ : amM} {S : List (Nat ⊕ (Nat × Nat))} {M : Nat → Nat → Int32} {D : Nat → Nat → UInt64} {F : Nat → Nat → Option Nat} {sl : Nat}
variable {M0 : Nat → Nat → Int32}
theorem c17f {b t m s : Int32} (h : ¬ (((0 ≤ b.toInt ∧ b.toInt ≤ 1) ∧ 0 ≤ t.toInt ∧ t.toInt ≤ 7) ∧ (-1 ≤ s.toInt ∧ s.toInt ≤ 11))) : RR 17 0 [.ref 0, .int b, .int t, .int m, .int s, .long 0] [] (SH, (0, 0, sl), M, D, RF) Q ↔ Q (some (.int (-1))) (SH, (0, 0, sl), M, D, RF) := by
  have z0 : (nI 0).toInt = 0 := by decide
  have z1 : (nI 1).toInt = 1 := by decide
  have z7 : (nI 7).toInt = 7 := by decide
  have z11 : (nI 11).toInt = 11 := by decide
  have zm1 : (-1 : Int32).toInt = -1 := by decide
  by_cases a0 : ((0 ≤ b.toInt ∧ b.toInt ≤ 1) ∧ 0 ≤ t.toInt ∧ t.toInt ≤ 7)
  · have e0 := eq_true a0
    have e1 := eq_false (fun z => h ⟨a0, z⟩)
    simp only [r17_0, r17_1, r17_2, r17_5, r17_8, r17_10, r17_11, r17_13, r17_16, r17_19, r17_20, r17_21, r17_22, r17_25, r17_26, r17_29, r17_31, r17_33, r17_34, r17_37, r17_40, r17_42, r17_43, r17_44, r17_47, r17_49, r17_50, r17_53, r17_54, r17_56, r17_57, r17_60, r17_61, r17_64, r17_65, r17_67, r17_70, r17_73, r17_74, r17_77, r17_78, r17_81, r17_84, r17_87, r17_88, r17_91, r17_92, am_cat0, am_catI, am_catR, am_catD, am_ndI, am_ndR, am_ndL, va_rfS, true_and, and_true, Option.toList_some, Option.toList_none, List.cons_append, List.nil_append, Nat.reduceAdd, Nat.reduceLeDiff, Nat.zero_add, Nat.le_refl, c22, c24, z0, z1, z7, z11, zm1, e0, e1, bN_T, bN_F, bN_0, nI0_0, nI1_0, nI01a, nI01b, true_or, or_true, false_or, or_false, so0, so1, so49, not_true_eq_false, not_false_eq_true, if_true, if_false]
  · have e0 := eq_false a0
    simp only [r17_0, r17_1, r17_2, r17_5, r17_8, r17_10, r17_11, r17_13, r17_16, r17_19, r17_20, r17_21, r17_22, r17_25, r17_26, r17_29, r17_31, r17_33, r17_34, r17_37, r17_40, r17_42, r17_43, r17_44, r17_47, r17_49, r17_50, r17_53, r17_54, r17_56, r17_57, r17_60, r17_61, r17_64, r17_65, r17_67, r17_70, r17_73, r17_74, r17_77, r17_78, r17_81, r17_84, r17_87, r17_88, r17_91, r17_92, am_cat0, am_catI, am_catR, am_catD, am_ndI, am_ndR, am_ndL, va_rfS, true_and, and_true, Option.toList_some, Option.toList_none, List.cons_append, List.nil_append, Nat.reduceAdd, Nat.reduceLeDiff, Nat.zero_add, Nat.le_refl, c22, c24, z0, z1, z7, z11, zm1, e0, bN_T, bN_F, bN_0, nI0_0, nI1_0, nI01a, nI01b, true_or, or_true, false_or, or_false, so0, so1, so49, not_true_eq_false, not_false_eq_true, if_true, if_false]
theorem sg_ok {u : Nat} {m : Prop} {hm : Decidable m} {s : Int32} (hs : (u = 0 ∧ s = -1) ∨ ∃ s', s' < 12 ∧ s = nI s' ∧ u = (if m then 12 + s' else s') + 1) : (-1 ≤ s.toInt ∧ s.toInt ≤ 11) ∧ u < 25 := by
  rcases hs with ⟨rfl, rfl⟩ | ⟨s', h1, rfl, rfl⟩
  · exact ⟨by decide, by decide⟩
  · rw [nI_ti (by omega)]
    refine ⟨by omega, ?_⟩
    by_cases h : m
    · rw [if_pos h]; omega
    · rw [if_neg h]; omega
theorem c17n {b t u : Nat} {m : Prop} {hm : Decidable m} {s : Int32} (hb : b < 2) (ht : t < 8) (hs : (u = 0 ∧ s = -1) ∨ ∃ s', s' < 12 ∧ s = nI s' ∧ u = (if m then 12 + s' else s') + 1) (hw : bW M (mq b)) (hT : ¬ (bTh M (mq b)).testBit t = true) : RR 17 0 [.ref 0, .int (nI b), .int (nI t), .int (@bN m hm), .int s, .long 0] [] (SH, (0, 0, sl), M, D, RF) Q ↔ Q (some (.int (-2))) (SH, (0, 0, sl), M, D, RF) := by
  have z0 : (nI 0).toInt = 0 := by decide
  have z1 : (nI 1).toInt = 1 := by decide
  have z7 : (nI 7).toInt = 7 := by decide
  have z11 : (nI 11).toInt = 11 := by decide
  have zm1 : (-1 : Int32).toInt = -1 := by decide
  have e1 := eq_true (sg_ok hs).1
  simp only [r17_0, r17_1, r17_2, r17_5, r17_8, r17_10, r17_11, r17_13, r17_16, r17_19, r17_20, r17_21, r17_22, r17_25, r17_26, r17_29, r17_31, r17_33, r17_34, r17_37, r17_40, r17_42, r17_43, r17_44, r17_47, r17_49, r17_50, r17_53, r17_54, r17_56, r17_57, r17_60, r17_61, r17_64, r17_65, r17_67, r17_70, r17_73, r17_74, r17_77, r17_78, r17_81, r17_84, r17_87, r17_88, r17_91, r17_92, am_cat0, am_catI, am_catR, am_catD, am_ndI, am_ndR, am_ndL, va_rfS, true_and, and_true, Option.toList_some, Option.toList_none, List.cons_append, List.nil_append, Nat.reduceAdd, Nat.reduceLeDiff, Nat.zero_add, Nat.le_refl, c22t hb ht, c24, z0, z1, z7, z11, zm1, e1, bN_T, bN_F, bN_0, nI0_0, nI1_0, nI01a, nI01b, true_or, or_true, false_or, or_false, so0, so1, so49, not_true_eq_false, not_false_eq_true, if_true, if_false, sf0_0, c95m hb, mq2, c82 (mq_o b) hw ht, hT, Bool.false_eq_true]
theorem c17v {b t u : Nat} {m : Prop} {hm : Decidable m} {s : Int32} {pt : List Nat} (hb : b < 2) (ht : t < 8) (hs : (u = 0 ∧ s = -1) ∨ ∃ s', s' < 12 ∧ s = nI s' ∧ u = (if m then 12 + s' else s') + 1) (hw : bW M (mq b)) (hT : (bTh M (mq b)).testBit t = true) (hp : ptIs M 18 pt) : RR 17 0 [.ref 0, .int (nI b), .int (nI t), .int (@bN m hm), .int s, .long 0] [] (SH, (0, 0, sl), M, D, RF) (fun rv μ' => rv = some (.int (@bN (ftB (nmL (bPk M (mq b) t) t u) pt) (Classical.propDecidable _))) ∧ ∃ M', μ' = (SH, (0, 0, sl), M', D, RF) ∧ agD M M') := by
  have z0 : (nI 0).toInt = 0 := by decide
  have z1 : (nI 1).toInt = 1 := by decide
  have z7 : (nI 7).toInt = 7 := by decide
  have z11 : (nI 11).toInt = 11 := by decide
  have zm1 : (-1 : Int32).toInt = -1 := by decide
  have e1 := eq_true (sg_ok hs).1
  have hu := (sg_ok hs).2
  have hp3 := (hw.2.1 t ht).1
  obtain ⟨n1, n2⟩ := nmL_ok _ (show bPk M (mq b) t < 4 by omega) _ ht _ hu
  have p18 : isPt 18 := Or.inl rfl
  have hpz : ptIs (nzM M (nmL (bPk M (mq b) t) t u)) 18 pt := ⟨by rw [nzM_o (by decide) (by decide)]; exact hp.1, hp.2.1, fun i hi => by rw [nzM_o (by decide) (by decide)]; exact hp.2.2.1 i hi, hp.2.2.2⟩
  have hz := nmIs_z (M := M) n1 n2
  have h134 := fun Q => c134 (Q := Q) (D := D) (sl := sl) p18 hz hpz
  have key : ∀ s2 : Int32, (u = 0 ∧ s2 = -1) ∨ (u ≠ 0 ∧ s2 = nI (u - 1)) → RR 17 70 [.ref 0, .int (nI b), .int (nI t), .int (@bN m hm), .int s, .ref (mq b)] [.int s2, .int (nI t), .int (nI (bPk M (mq b) t)), .ref 46] (SH, (0, 0, sl), M, D, RF) (fun rv μ' => rv = some (.int (@bN (ftB (nmL (bPk M (mq b) t) t u) pt) (Classical.propDecidable _))) ∧ ∃ M', μ' = (SH, (0, 0, sl), M', D, RF) ∧ agD M M') := by
    intro s2 h2
    have h121 := fun Q => c121 (Q := Q) (M := M) (D := D) (sl := sl) (show bPk M (mq b) t < 8 by omega) ht hu h2
    by_cases hf : ftB (nmL (bPk M (mq b) t) t u) pt
    · have hf' := eq_true hf
      simp only [r17_0, r17_1, r17_2, r17_5, r17_8, r17_10, r17_11, r17_13, r17_16, r17_19, r17_20, r17_21, r17_22, r17_25, r17_26, r17_29, r17_31, r17_33, r17_34, r17_37, r17_40, r17_42, r17_43, r17_44, r17_47, r17_49, r17_50, r17_53, r17_54, r17_56, r17_57, r17_60, r17_61, r17_64, r17_65, r17_67, r17_70, r17_73, r17_74, r17_77, r17_78, r17_81, r17_84, r17_87, r17_88, r17_91, r17_92, am_cat0, am_catI, am_catR, am_catD, am_ndI, am_ndR, am_ndL, va_rfS, true_and, and_true, Option.toList_some, Option.toList_none, List.cons_append, List.nil_append, Nat.reduceAdd, Nat.reduceLeDiff, Nat.zero_add, Nat.le_refl, so46, so18, sf0_1, sf0_3, h121, h134, bN_T, bN_F, bN_0, nI0_0, nI1_0, nI01a, nI01b, true_or, or_true, false_or, or_false, so0, so1, so49, not_true_eq_false, not_false_eq_true, if_true, if_false, hf']
      exact ⟨_, rfl, fun q k _ _ c d _ => nzM_o c d⟩
    · have hf' := eq_false hf
      simp only [r17_0, r17_1, r17_2, r17_5, r17_8, r17_10, r17_11, r17_13, r17_16, r17_19, r17_20, r17_21, r17_22, r17_25, r17_26, r17_29, r17_31, r17_33, r17_34, r17_37, r17_40, r17_42, r17_43, r17_44, r17_47, r17_49, r17_50, r17_53, r17_54, r17_56, r17_57, r17_60, r17_61, r17_64, r17_65, r17_67, r17_70, r17_73, r17_74, r17_77, r17_78, r17_81, r17_84, r17_87, r17_88, r17_91, r17_92, am_cat0, am_catI, am_catR, am_catD, am_ndI, am_ndR, am_ndL, va_rfS, true_and, and_true, Option.toList_some, Option.toList_none, List.cons_append, List.nil_append, Nat.reduceAdd, Nat.reduceLeDiff, Nat.zero_add, Nat.le_refl, so46, so18, sf0_1, sf0_3, h121, h134, bN_T, bN_F, bN_0, nI0_0, nI1_0, nI01a, nI01b, true_or, or_true, false_or, or_false, so0, so1, so49, not_true_eq_false, not_false_eq_true, if_true, if_false, hf']
      exact ⟨_, rfl, fun q k _ _ c d _ => nzM_o c d⟩
  rcases hs with ⟨h1, rfl⟩ | ⟨s', h1, rfl, h3⟩
  · have k := key (-1) (Or.inl ⟨h1, rfl⟩)
    simp only [r17_0, r17_1, r17_2, r17_5, r17_8, r17_10, r17_11, r17_13, r17_16, r17_19, r17_20, r17_21, r17_22, r17_25, r17_26, r17_29, r17_31, r17_33, r17_34, r17_37, r17_40, r17_42, r17_43, r17_44, r17_47, r17_49, r17_50, r17_53, r17_54, r17_56, r17_57, r17_60, r17_61, r17_64, r17_65, r17_67, am_cat0, am_catI, am_catR, am_catD, am_ndI, am_ndR, am_ndL, va_rfS, true_and, and_true, Option.toList_some, Option.toList_none, List.cons_append, List.nil_append, Nat.reduceAdd, Nat.reduceLeDiff, Nat.zero_add, Nat.le_refl, c22t hb ht, c24, z0, z1, z7, z11, zm1, e1, bN_T, bN_F, bN_0, nI0_0, nI1_0, nI01a, nI01b, true_or, or_true, false_or, or_false, so0, so1, so49, not_true_eq_false, not_false_eq_true, if_true, if_false, sf0_0, sf0_3, c95m hb, mq2, c82 (mq_o b) hw ht, hT, c84 (mq_o b) ht]
    exact k
  · have hne : (nI s' = -1) = False := nx_im1 (by omega)
    have k := key (nI (if m then 12 + s' else s')) (Or.inr ⟨by omega, by rw [h3, Nat.add_sub_cancel]⟩)
    simp only [r17_0, r17_1, r17_2, r17_5, r17_8, r17_10, r17_11, r17_13, r17_16, r17_19, r17_20, r17_21, r17_22, r17_25, r17_26, r17_29, r17_31, r17_33, r17_34, r17_37, r17_40, r17_42, r17_43, r17_44, r17_47, r17_49, r17_50, r17_53, r17_54, r17_56, r17_57, r17_60, r17_61, r17_64, r17_65, r17_67, am_cat0, am_catI, am_catR, am_catD, am_ndI, am_ndR, am_ndL, va_rfS, true_and, and_true, Option.toList_some, Option.toList_none, List.cons_append, List.nil_append, Nat.reduceAdd, Nat.reduceLeDiff, Nat.zero_add, Nat.le_refl, c22t hb ht, c24, z0, z1, z7, z11, zm1, e1, bN_T, bN_F, bN_0, nI0_0, nI1_0, nI01a, nI01b, true_or, or_true, false_or, or_false, so0, so1, so49, not_true_eq_false, not_false_eq_true, if_true, if_false, sf0_0, sf0_3, c95m hb, mq2, c82 (mq_o b) hw ht, hT, c84 (mq_o b) ht, hne, c26]
    exact k
theorem c74f {b t m s : Int32} (h : ¬ (((0 ≤ b.toInt ∧ b.toInt ≤ 1) ∧ 0 ≤ t.toInt ∧ t.toInt ≤ 7) ∧ (-1 ≤ s.toInt ∧ s.toInt ≤ 11))) : RR 74 0 [.ref 49, .int b, .int t, .int m, .int s, .long 0] [] (SH, (0, 0, sl), M, D, RF) Q ↔ Q (some (.int (-1))) (SH, (0, 0, sl), M, D, RF) := by
  have z0 : (nI 0).toInt = 0 := by decide
  have z1 : (nI 1).toInt = 1 := by decide
  have z7 : (nI 7).toInt = 7 := by decide
  have z11 : (nI 11).toInt = 11 := by decide
  have zm1 : (-1 : Int32).toInt = -1 := by decide
  by_cases a0 : (0 ≤ b.toInt ∧ b.toInt ≤ 1)
  · have e0 := eq_true a0
    by_cases a1 : (0 ≤ t.toInt ∧ t.toInt ≤ 7)
    · have e1 := eq_true a1
      have e2 := eq_false (fun z => h ⟨⟨a0, a1⟩, z⟩)
      simp only [r74_0, r74_1, r74_2, r74_3, r74_6, r74_9, r74_10, r74_11, r74_13, r74_16, r74_19, r74_21, r74_22, r74_24, r74_27, r74_30, r74_31, r74_32, r74_33, r74_36, r74_38, r74_39, r74_40, r74_41, r74_42, r74_43, r74_46, r74_48, r74_49, r74_51, r74_54, r74_55, r74_58, r74_59, r74_62, r74_64, r74_67, r74_68, r74_70, r74_71, r74_73, r74_74, r74_76, r74_77, r74_80, r74_82, r74_83, r74_84, r74_85, r74_87, r74_90, r74_93, r74_94, r74_97, r74_98, am_cat0, am_catI, am_catR, am_catD, am_ndI, am_ndR, am_ndL, va_rfS, true_and, and_true, Option.toList_some, Option.toList_none, List.cons_append, List.nil_append, Nat.reduceAdd, Nat.reduceLeDiff, Nat.zero_add, Nat.le_refl, c32, z0, z1, z7, z11, zm1, e0, e1, e2, bN_T, bN_F, bN_0, nI0_0, nI1_0, nI01a, nI01b, true_or, or_true, false_or, or_false, so0, so1, so49, not_true_eq_false, not_false_eq_true, if_true, if_false]
    · have e1 := eq_false a1
      simp only [r74_0, r74_1, r74_2, r74_3, r74_6, r74_9, r74_10, r74_11, r74_13, r74_16, r74_19, r74_21, r74_22, r74_24, r74_27, r74_30, r74_31, r74_32, r74_33, r74_36, r74_38, r74_39, r74_40, r74_41, r74_42, r74_43, r74_46, r74_48, r74_49, r74_51, r74_54, r74_55, r74_58, r74_59, r74_62, r74_64, r74_67, r74_68, r74_70, r74_71, r74_73, r74_74, r74_76, r74_77, r74_80, r74_82, r74_83, r74_84, r74_85, r74_87, r74_90, r74_93, r74_94, r74_97, r74_98, am_cat0, am_catI, am_catR, am_catD, am_ndI, am_ndR, am_ndL, va_rfS, true_and, and_true, Option.toList_some, Option.toList_none, List.cons_append, List.nil_append, Nat.reduceAdd, Nat.reduceLeDiff, Nat.zero_add, Nat.le_refl, c32, z0, z1, z7, z11, zm1, e0, e1, bN_T, bN_F, bN_0, nI0_0, nI1_0, nI01a, nI01b, true_or, or_true, false_or, or_false, so0, so1, so49, not_true_eq_false, not_false_eq_true, if_true, if_false]
  · have e0 := eq_false a0
    simp only [r74_0, r74_1, r74_2, r74_3, r74_6, r74_9, r74_10, r74_11, r74_13, r74_16, r74_19, r74_21, r74_22, r74_24, r74_27, r74_30, r74_31, r74_32, r74_33, r74_36, r74_38, r74_39, r74_40, r74_41, r74_42, r74_43, r74_46, r74_48, r74_49, r74_51, r74_54, r74_55, r74_58, r74_59, r74_62, r74_64, r74_67, r74_68, r74_70, r74_71, r74_73, r74_74, r74_76, r74_77, r74_80, r74_82, r74_83, r74_84, r74_85, r74_87, r74_90, r74_93, r74_94, r74_97, r74_98, am_cat0, am_catI, am_catR, am_catD, am_ndI, am_ndR, am_ndL, va_rfS, true_and, and_true, Option.toList_some, Option.toList_none, List.cons_append, List.nil_append, Nat.reduceAdd, Nat.reduceLeDiff, Nat.zero_add, Nat.le_refl, c32, z0, z1, z7, z11, zm1, e0, bN_T, bN_F, bN_0, nI0_0, nI1_0, nI01a, nI01b, true_or, or_true, false_or, or_false, so0, so1, so49, not_true_eq_false, not_false_eq_true, if_true, if_false]
theorem c74n {b t u : Nat} {m : Prop} {hm : Decidable m} {s : Int32} (hb : b < 2) (ht : t < 8) (hs : (u = 0 ∧ s = -1) ∨ ∃ s', s' < 12 ∧ s = nI s' ∧ u = (if m then 12 + s' else s') + 1) (hTM : M 50 (8 * b + t) = bN ((bTh M0 (mq b)).testBit t = true)) (hT : ¬ (bTh M0 (mq b)).testBit t = true) : RR 74 0 [.ref 49, .int (nI b), .int (nI t), .int (@bN m hm), .int s, .long 0] [] (SH, (0, 0, sl), M, D, RF) Q ↔ Q (some (.int (-2))) (SH, (0, 0, sl), M, D, RF) := by
  have z0 : (nI 0).toInt = 0 := by decide
  have z1 : (nI 1).toInt = 1 := by decide
  have z7 : (nI 7).toInt = 7 := by decide
  have z11 : (nI 11).toInt = 11 := by decide
  have zm1 : (-1 : Int32).toInt = -1 := by decide
  have e1 := eq_true (sg_ok hs).1
  rw [bN_f hT] at hTM
  simp (disch := omega) only [r74_0, r74_1, r74_2, r74_3, r74_6, r74_9, r74_10, r74_11, r74_13, r74_16, r74_19, r74_21, r74_22, r74_24, r74_27, r74_30, r74_31, r74_32, r74_33, r74_36, r74_38, r74_39, r74_40, r74_41, r74_42, r74_43, r74_46, r74_48, r74_49, r74_51, r74_54, r74_55, r74_58, r74_59, r74_62, r74_64, r74_67, r74_68, r74_70, r74_71, r74_73, r74_74, r74_76, r74_77, r74_80, r74_82, r74_83, r74_84, r74_85, r74_87, r74_90, r74_93, r74_94, r74_97, r74_98, am_cat0, am_catI, am_catR, am_catD, am_ndI, am_ndR, am_ndL, va_rfS, true_and, and_true, Option.toList_some, Option.toList_none, List.cons_append, List.nil_append, Nat.reduceAdd, Nat.reduceLeDiff, Nat.zero_add, Nat.le_refl, c32t (show b ≤ 1 by omega) (by decide), c32t (show t ≤ 7 by omega) (by decide), c32, z0, z1, z7, z11, zm1, e1, bN_T, bN_F, bN_0, nI0_0, nI1_0, nI01a, nI01b, true_or, or_true, false_or, or_false, so0, so1, so49, not_true_eq_false, not_false_eq_true, if_true, if_false, sf49_0, sd50, am_bd, pk_mul, nI_add, bd_n, nI_tn, hTM]
theorem c74v {b t u : Nat} {m : Prop} {hm : Decidable m} {s : Int32} {pt : List Nat} (hb : b < 2) (ht : t < 8) (hs : (u = 0 ∧ s = -1) ∨ ∃ s', s' < 12 ∧ s = nI s' ∧ u = (if m then 12 + s' else s') + 1) (hw : bW M0 (mq b)) (hB : mBt M0 D M b t) (hT : (bTh M0 (mq b)).testBit t = true) (hn : M 59 8 = nI pt.length) (hp12 : pt.length ≤ 12) (hp : ∀ i, i < pt.length → M 58 (96 + i) = nI (pt.getD i 0)) (hp2 : ∀ i, i < pt.length → pt.getD i 0 < 128) : RR 74 0 [.ref 49, .int (nI b), .int (nI t), .int (@bN m hm), .int s, .long 0] [] (SH, (0, 0, sl), M, D, RF) (fun rv μ' => rv = some (.int (@bN (ftB (nmL (bPk M0 (mq b) t) t u) pt) (Classical.propDecidable _))) ∧ ∃ M', μ' = (SH, (0, 0, sl), M', D, RF) ∧ agS M M') := by
  have z0 : (nI 0).toInt = 0 := by decide
  have z1 : (nI 1).toInt = 1 := by decide
  have z7 : (nI 7).toInt = 7 := by decide
  have z11 : (nI 11).toInt = 11 := by decide
  have zm1 : (-1 : Int32).toInt = -1 := by decide
  have e1 := eq_true (sg_ok hs).1
  have hu := (sg_ok hs).2
  have hp3 := (hw.2.1 t ht).1
  have hTM := hB.1
  rw [bN_t hT] at hTM
  have key : RR 74 71 [.ref 49, .int (nI b), .int (nI t), .int (@bN m hm), .int s, .long 0] [.int (nI u)] (SH, (0, 0, sl), M, D, RF) (fun rv μ' => rv = some (.int (@bN (ftB (nmL (bPk M0 (mq b) t) t u) pt) (Classical.propDecidable _))) ∧ ∃ M', μ' = (SH, (0, 0, sl), M', D, RF) ∧ agS M M') := by
    simp (disch := omega) only [r74_71, r74_73, r74_74, r74_76, r74_77, r74_80, r74_82, r74_83, r74_84, r74_85, r74_87, r74_90, r74_93, r74_94, r74_97, r74_98, am_cat0, am_catI, am_catR, am_catD, am_ndI, am_ndR, am_ndL, va_rfS, true_and, and_true, Option.toList_some, Option.toList_none, List.cons_append, List.nil_append, Nat.reduceAdd, Nat.reduceLeDiff, Nat.zero_add, Nat.le_refl, bN_T, bN_F, bN_0, nI0_0, nI1_0, nI01a, nI01b, true_or, or_true, false_or, or_false, so0, so1, so49, not_true_eq_false, not_false_eq_true, if_true, if_false, sf49_9, sd59, am_bd, bd_n, nI_tn, hn]
    refine RR.imp (c48 (fr := 96) hb ht hu hB.2.1 hp3 (Nat.le_refl _) hp12 hp hp2) ?_
    rintro rv μ' ⟨rfl, M', rfl, h3⟩
    by_cases hf : ftB (nmL (bPk M0 (mq b) t) t u) pt
    · have hf' := eq_true hf
      simp only [r74_71, r74_73, r74_74, r74_76, r74_77, r74_80, r74_82, r74_83, r74_84, r74_85, r74_87, r74_90, r74_93, r74_94, r74_97, r74_98, am_cat0, am_catI, am_catR, am_catD, am_ndI, am_ndR, am_ndL, va_rfS, true_and, and_true, Option.toList_some, Option.toList_none, List.cons_append, List.nil_append, Nat.reduceAdd, Nat.reduceLeDiff, Nat.zero_add, Nat.le_refl, bN_T, bN_F, bN_0, nI0_0, nI1_0, nI01a, nI01b, true_or, or_true, false_or, or_false, so0, so1, so49, not_true_eq_false, not_false_eq_true, if_true, if_false, hf']
      exact ⟨M', rfl, fun q k a _ => h3 q k (by omega) (by omega)⟩
    · have hf' := eq_false hf
      simp only [r74_71, r74_73, r74_74, r74_76, r74_77, r74_80, r74_82, r74_83, r74_84, r74_85, r74_87, r74_90, r74_93, r74_94, r74_97, r74_98, am_cat0, am_catI, am_catR, am_catD, am_ndI, am_ndR, am_ndL, va_rfS, true_and, and_true, Option.toList_some, Option.toList_none, List.cons_append, List.nil_append, Nat.reduceAdd, Nat.reduceLeDiff, Nat.zero_add, Nat.le_refl, bN_T, bN_F, bN_0, nI0_0, nI1_0, nI01a, nI01b, true_or, or_true, false_or, or_false, so0, so1, so49, not_true_eq_false, not_false_eq_true, if_true, if_false, hf']
      exact ⟨M', rfl, fun q k a _ => h3 q k (by omega) (by omega)⟩
  rcases hs with ⟨rfl, rfl⟩ | ⟨s', h1, rfl, h3⟩
  · have e0 : ¬ (0 : Int32) ≤ -1 := by decide
    simp (disch := omega) only [r74_0, r74_1, r74_2, r74_3, r74_6, r74_9, r74_10, r74_11, r74_13, r74_16, r74_19, r74_21, r74_22, r74_24, r74_27, r74_30, r74_31, r74_32, r74_33, r74_36, r74_38, r74_39, r74_40, r74_41, r74_42, r74_43, r74_46, r74_48, r74_49, r74_51, r74_54, r74_55, r74_58, r74_59, r74_62, r74_64, r74_67, r74_68, r74_70, am_cat0, am_catI, am_catR, am_catD, am_ndI, am_ndR, am_ndL, va_rfS, true_and, and_true, Option.toList_some, Option.toList_none, List.cons_append, List.nil_append, Nat.reduceAdd, Nat.reduceLeDiff, Nat.zero_add, Nat.le_refl, c32t (show b ≤ 1 by omega) (by decide), c32t (show t ≤ 7 by omega) (by decide), c32, z0, z1, z7, z11, zm1, e1, bN_T, bN_F, bN_0, nI0_0, nI1_0, nI01a, nI01b, true_or, or_true, false_or, or_false, so0, so1, so49, not_true_eq_false, not_false_eq_true, if_true, if_false, sf49_0, sd50, am_bd, pk_mul, nI_add, bd_n, nI_tn, hTM, e0]
    exact key
  · have e0 : (0 : Int32) ≤ nI s' := nI_pos' (by omega)
    by_cases h0 : m
    · rw [if_pos h0] at h3
      have e13 : 13 + s' = u := by omega
      have h0' := eq_true h0
      simp (disch := omega) only [r74_0, r74_1, r74_2, r74_3, r74_6, r74_9, r74_10, r74_11, r74_13, r74_16, r74_19, r74_21, r74_22, r74_24, r74_27, r74_30, r74_31, r74_32, r74_33, r74_36, r74_38, r74_39, r74_40, r74_41, r74_42, r74_43, r74_46, r74_48, r74_49, r74_51, r74_54, r74_55, r74_58, r74_59, r74_62, r74_64, r74_67, r74_68, r74_70, am_cat0, am_catI, am_catR, am_catD, am_ndI, am_ndR, am_ndL, va_rfS, true_and, and_true, Option.toList_some, Option.toList_none, List.cons_append, List.nil_append, Nat.reduceAdd, Nat.reduceLeDiff, Nat.zero_add, Nat.le_refl, c32t (show b ≤ 1 by omega) (by decide), c32t (show t ≤ 7 by omega) (by decide), c32, z0, z1, z7, z11, zm1, e1, bN_T, bN_F, bN_0, nI0_0, nI1_0, nI01a, nI01b, true_or, or_true, false_or, or_false, so0, so1, so49, not_true_eq_false, not_false_eq_true, if_true, if_false, sf49_0, sd50, am_bd, pk_mul, nI_add, bd_n, nI_tn, hTM, e0, h0', e13]
      simp only [h0', bN_T] at key
      exact key
    · rw [if_neg h0] at h3
      have e13 : 1 + s' = u := by omega
      have h0' := eq_false h0
      simp (disch := omega) only [r74_0, r74_1, r74_2, r74_3, r74_6, r74_9, r74_10, r74_11, r74_13, r74_16, r74_19, r74_21, r74_22, r74_24, r74_27, r74_30, r74_31, r74_32, r74_33, r74_36, r74_38, r74_39, r74_40, r74_41, r74_42, r74_43, r74_46, r74_48, r74_49, r74_51, r74_54, r74_55, r74_58, r74_59, r74_62, r74_64, r74_67, r74_68, r74_70, am_cat0, am_catI, am_catR, am_catD, am_ndI, am_ndR, am_ndL, va_rfS, true_and, and_true, Option.toList_some, Option.toList_none, List.cons_append, List.nil_append, Nat.reduceAdd, Nat.reduceLeDiff, Nat.zero_add, Nat.le_refl, c32t (show b ≤ 1 by omega) (by decide), c32t (show t ≤ 7 by omega) (by decide), c32, z0, z1, z7, z11, zm1, e1, bN_T, bN_F, bN_0, nI0_0, nI1_0, nI01a, nI01b, true_or, or_true, false_or, or_false, so0, so1, so49, not_true_eq_false, not_false_eq_true, if_true, if_false, sf49_0, sd50, am_bd, pk_mul, nI_add, bd_n, nI_tn, hTM, e0, h0', e13]
      simp only [h0', bN_F] at key
      exact key
/-- the model's branch: types, modes, constants -/
def b1M (M : Nat → Nat → Int32) (j : Nat) : Nat → Nat → Int32 := fun q k => if (q = 50 ∨ q = 52 ∨ q = 53 ∨ q = 54 ∨ q = 55) ∧ 8 ≤ k ∧ k < 8 + j then (if q = 50 then vp_nar .boolean (M 50 (k - 8)) else M q (k - 8)) else M q k
def b2M (M : Nat → Nat → Int32) (j : Nat) : Nat → Nat → Int32 := fun q k => if q = 56 ∧ 192 ≤ k ∧ k < 192 + j then M 56 (k - 192) else M q k
def b3M (M : Nat → Nat → Int32) (j : Nat) : Nat → Nat → Int32 := fun q k => if q = 51 ∧ 96 ≤ k ∧ k < 96 + j then vp_nar .boolean (M 51 (k - 96)) else M q k
def b3D (D : Nat → Nat → UInt64) (j : Nat) : Nat → Nat → UInt64 := fun q k => if q = 57 ∧ 96 ≤ k ∧ k < 96 + j then D 57 (k - 96) else D q k
theorem b1M_0 : b1M M 0 = M := by funext q k; exact if_neg (fun z => by omega)
theorem b2M_0 : b2M M 0 = M := by funext q k; exact if_neg (fun z => by omega)
theorem b3M_0 : b3M M 0 = M := by funext q k; exact if_neg (fun z => by omega)
theorem b3D_0 : b3D D 0 = D := by funext q k; exact if_neg (fun z => by omega)
theorem b1M_1 {j : Nat} : am_up (am_up (am_up (am_up (am_up (b1M M j) 50 (8 + j) (vp_nar .boolean (M 50 j))) 52 (8 + j) (M 52 j)) 53 (8 + j) (M 53 j)) 54 (8 + j) (M 54 j)) 55 (8 + j) (M 55 j) = b1M M (j + 1) := by
  funext q k
  by_cases hk : k = 8 + j
  · subst hk
    have e8 : 8 + j - 8 = j := by omega
    by_cases g : q = 50 ∨ q = 52 ∨ q = 53 ∨ q = 54 ∨ q = 55
    · have h2 : b1M M (j + 1) q (8 + j) = if q = 50 then vp_nar .boolean (M 50 j) else M q j := by
        unfold b1M
        rw [if_pos ⟨g, by omega, by omega⟩, e8]
      rw [h2]
      rcases g with rfl | rfl | rfl | rfl | rfl
      · rw [up_q (by decide), up_q (by decide), up_q (by decide), up_q (by decide), up_s]; rfl
      · rw [up_q (by decide), up_q (by decide), up_q (by decide), up_s]; rfl
      · rw [up_q (by decide), up_q (by decide), up_s]; rfl
      · rw [up_q (by decide), up_s]; rfl
      · rw [up_s]; rfl
    · have h2 : b1M M (j + 1) q (8 + j) = M q (8 + j) := if_neg (fun z => g z.1)
      rw [h2, up_q (by omega), up_q (by omega), up_q (by omega), up_q (by omega), up_q (by omega)]
      exact if_neg (fun z => g z.1)
  · rw [up_k hk, up_k hk, up_k hk, up_k hk, up_k hk]
    unfold b1M
    by_cases h2 : (q = 50 ∨ q = 52 ∨ q = 53 ∨ q = 54 ∨ q = 55) ∧ 8 ≤ k ∧ k < 8 + j
    · have h3 : (q = 50 ∨ q = 52 ∨ q = 53 ∨ q = 54 ∨ q = 55) ∧ 8 ≤ k ∧ k < 8 + (j + 1) := ⟨h2.1, h2.2.1, by omega⟩
      rw [if_pos h2, if_pos h3]
    · rw [if_neg h2, if_neg (fun z => h2 ⟨z.1, z.2.1, by omega⟩)]
theorem b2M_1 {j : Nat} : am_up (b2M M j) 56 (192 + j) (M 56 j) = b2M M (j + 1) := by
  funext q k
  unfold am_up b2M
  by_cases h1 : q = 56 ∧ k = 192 + j
  · rw [if_pos h1, if_pos ⟨h1.1, by omega, by omega⟩, h1.2, Nat.add_sub_cancel_left]
  · rw [if_neg h1]
    by_cases h2 : q = 56 ∧ 192 ≤ k ∧ k < 192 + j
    · rw [if_pos h2, if_pos ⟨h2.1, h2.2.1, by omega⟩]
    · rw [if_neg h2, if_neg (fun z => by
        by_cases e : k = 192 + j
        · exact h1 ⟨z.1, e⟩
        · exact h2 ⟨z.1, z.2.1, by omega⟩)]
theorem b3M_1 {j : Nat} : am_up (b3M M j) 51 (96 + j) (vp_nar .boolean (M 51 j)) = b3M M (j + 1) := by
  funext q k
  unfold am_up b3M
  by_cases h1 : q = 51 ∧ k = 96 + j
  · rw [if_pos h1, if_pos ⟨h1.1, by omega, by omega⟩, h1.2, Nat.add_sub_cancel_left]
  · rw [if_neg h1]
    by_cases h2 : q = 51 ∧ 96 ≤ k ∧ k < 96 + j
    · rw [if_pos h2, if_pos ⟨h2.1, h2.2.1, by omega⟩]
    · rw [if_neg h2, if_neg (fun z => by
        by_cases e : k = 96 + j
        · exact h1 ⟨z.1, e⟩
        · exact h2 ⟨z.1, z.2.1, by omega⟩)]
theorem b3D_1 {j : Nat} : am_up (b3D D j) 57 (96 + j) (D 57 j) = b3D D (j + 1) := by
  funext q k
  unfold am_up b3D
  by_cases h1 : q = 57 ∧ k = 96 + j
  · rw [if_pos h1, if_pos ⟨h1.1, by omega, by omega⟩, h1.2, Nat.add_sub_cancel_left]
  · rw [if_neg h1]
    by_cases h2 : q = 57 ∧ 96 ≤ k ∧ k < 96 + j
    · rw [if_pos h2, if_pos ⟨h2.1, h2.2.1, by omega⟩]
    · rw [if_neg h2, if_neg (fun z => by
        by_cases e : k = 96 + j
        · exact h1 ⟨z.1, e⟩
        · exact h2 ⟨z.1, z.2.1, by omega⟩)]
theorem b1M_r {j q k : Nat} (h : k < 8) : b1M M j q k = M q k := if_neg (fun z => by omega)
theorem b2M_r {j q k : Nat} (h : k < 192) : b2M M j q k = M q k := if_neg (fun z => by omega)
theorem b3M_r {j q k : Nat} (h : k < 96) : b3M M j q k = M q k := if_neg (fun z => by omega)
theorem b3D_r {j q k : Nat} (h : k < 96) : b3D D j q k = D q k := if_neg (fun z => by omega)
theorem c40a {x1 : Int32} : ∀ (i j : Nat), j + i = 8 → (RR 40 4 [.ref 49, .int x1, .int (nI j)] [] (SH, (0, 0, sl), b1M M j, D, RF) Q ↔ RR 40 93 [.ref 49, .int x1, .int (nI 0)] [] (SH, (0, 0, sl), b1M M 8, D, RF) Q) := by
  intro i
  induction i with
  | zero =>
    intro j h
    have e : j = 8 := by omega
    subst e
    rw [r40_4]
    simp only [r40_5, r40_7, Int32.le_refl, if_true, r40_91, r40_92, am_ndI]
  | succ i ih =>
    intro j h
    have hj : j < 8 := by omega
    rw [r40_4]
    simp (disch := omega) only [r40_5, r40_7, r40_10, r40_11, r40_14, r40_16, r40_17, r40_18, r40_19, r40_22, r40_23, r40_24, r40_25, r40_26, r40_29, r40_31, r40_32, r40_33, r40_34, r40_37, r40_38, r40_39, r40_40, r40_41, r40_44, r40_46, r40_47, r40_48, r40_49, r40_52, r40_53, r40_54, r40_55, r40_56, r40_59, r40_61, r40_62, r40_63, r40_64, r40_67, r40_68, r40_69, r40_70, r40_71, r40_74, r40_76, r40_77, r40_78, r40_79, r40_82, r40_83, r40_84, r40_85, r40_88, am_cat0, am_catI, am_catR, am_catD, am_ndI, am_ndR, am_ndL, va_rfS, true_and, and_true, Option.toList_some, Option.toList_none, List.cons_append, List.nil_append, Nat.reduceAdd, Nat.reduceLeDiff, Nat.zero_add, Nat.le_refl, nx_le, Nat.not_le.mpr hj, if_false, so49, sf49_0, sf49_2, sf49_3, sf49_4, sf49_5, sd50, sd52, sd53, sd54, sd55, sl50, sl52, sl53, sl54, sl55, am_bd, am_bs, bd_n, nI_tn, nI_add, up_q, b1M_r hj, b1M_1]
    exact ih (j + 1) (by omega)
theorem c40b : ∀ (i j c : Nat), j + i = 192 → c ≤ j → (∀ k, k < 192 → M 56 k = -1 ∨ ∃ z, z < 32 ∧ M 56 k = nI z) → (RR 40 93 [.ref 49, .int (nI c), .int (nI j)] [] (SH, (0, 0, sl), b2M M j, D, RF) Q ↔ RR 40 136 [.ref 49, .int (nI (cntF (M 56) i j c)), .int (nI 0)] [] (SH, (0, 0, sl), b2M M 192, D, RF) Q) := by
  intro i
  induction i with
  | zero =>
    intro j c h hc hM
    have e : j = 192 := by omega
    subst e
    rw [r40_93]
    simp only [r40_94, r40_97, Int32.le_refl, if_true, r40_134, r40_135, am_ndI, cntF]
  | succ i ih =>
    intro j c h hc hM
    have hj : j < 192 := by omega
    rw [r40_93]
    rcases hM j hj with e | ⟨z, hz, e⟩
    · have e0 : (-1 : Int32) < 0 := by decide
      have e2 : am_up (b2M M j) 56 (192 + j) (-1) = b2M M (j + 1) := by rw [← e]; exact b2M_1
      have e3 : b2M M (j + 1) 56 j = -1 := by rw [b2M_r hj]; exact e
      simp (disch := omega) only [r40_94, r40_97, r40_100, r40_101, r40_104, r40_107, r40_108, r40_109, r40_110, r40_113, r40_114, r40_115, r40_116, r40_117, r40_120, r40_121, r40_122, r40_125, r40_128, r40_131, am_cat0, am_catI, am_catR, am_catD, am_ndI, am_ndR, am_ndL, va_rfS, true_and, and_true, Option.toList_some, Option.toList_none, List.cons_append, List.nil_append, Nat.reduceAdd, Nat.reduceLeDiff, Nat.zero_add, Nat.le_refl, nx_le, Nat.not_le.mpr hj, if_false, so49, sf49_6, sd56, sl56, am_bd, am_bs, bd_n, nI_tn, nI_add, b2M_r hj, e, e2, e0, if_true, am_ndI]
      rw [cntF, if_pos e]
      exact ih (j + 1) c (by omega) (by omega) hM
    · have e0 : ¬ nI z < 0 := nI_pos (by omega)
      have e2 : am_up (b2M M j) 56 (192 + j) (nI z) = b2M M (j + 1) := by rw [← e]; exact b2M_1
      have e3 : b2M M (j + 1) 56 j = nI z := by rw [b2M_r hj]; exact e
      simp (disch := omega) only [r40_94, r40_97, r40_100, r40_101, r40_104, r40_107, r40_108, r40_109, r40_110, r40_113, r40_114, r40_115, r40_116, r40_117, r40_120, r40_121, r40_122, r40_125, r40_128, r40_131, am_cat0, am_catI, am_catR, am_catD, am_ndI, am_ndR, am_ndL, va_rfS, true_and, and_true, Option.toList_some, Option.toList_none, List.cons_append, List.nil_append, Nat.reduceAdd, Nat.reduceLeDiff, Nat.zero_add, Nat.le_refl, nx_le, Nat.not_le.mpr hj, if_false, so49, sf49_6, sd56, sl56, am_bd, am_bs, bd_n, nI_tn, nI_add, b2M_r hj, e, e2, e0, am_ndI]
      rw [cntF, if_neg (by rw [e]; exact nx_ne1 z (by omega))]
      exact ih (j + 1) (c + 1) (by omega) (by omega) hM
theorem c40c {x1 : Int32} : ∀ (i j : Nat), j + i = 96 → (RR 40 136 [.ref 49, .int x1, .int (nI j)] [] (SH, (0, 0, sl), b3M M j, b3D D j, RF) Q ↔ Q (some (.int x1)) (SH, (0, 0, sl), b3M M 96, b3D D 96, RF)) := by
  intro i
  induction i with
  | zero =>
    intro j h
    have e : j = 96 := by omega
    subst e
    rw [r40_136]
    simp only [r40_137, r40_139, Int32.le_refl, if_true, r40_178, r40_179]
  | succ i ih =>
    intro j h
    have hj : j < 96 := by omega
    rw [r40_136]
    simp (disch := omega) only [r40_137, r40_139, r40_142, r40_143, r40_146, r40_148, r40_149, r40_150, r40_151, r40_154, r40_155, r40_156, r40_157, r40_158, r40_161, r40_163, r40_164, r40_165, r40_166, r40_169, r40_170, r40_171, r40_172, r40_175, am_cat0, am_catI, am_catR, am_catD, am_ndI, am_ndR, am_ndL, va_rfS, true_and, and_true, Option.toList_some, Option.toList_none, List.cons_append, List.nil_append, Nat.reduceAdd, Nat.reduceLeDiff, Nat.zero_add, Nat.le_refl, nx_le, Nat.not_le.mpr hj, if_false, so49, sf49_1, sf49_7, sd51, sl51, sl57, am_bd, am_bs, bd_n, nI_tn, nI_add, b3M_r hj, b3D_r hj, b3M_1, b3D_1]
    exact ih (j + 1) (by omega)
theorem c40 (hM : ∀ k, k < 192 → M 56 k = -1 ∨ ∃ z, z < 32 ∧ M 56 k = nI z) : RR 40 0 [.ref 49, .long 0, .long 0] [] (SH, (0, 0, sl), M, D, RF) Q ↔ Q (some (.int (nI (cntF (M 56) 192 0 0)))) (SH, (0, 0, sl), b3M (b2M (b1M M 8) 192) 96, b3D D 96, RF) := by
  simp only [r40_0, r40_1, r40_2, r40_3, am_cat0, am_catI, am_catR, am_catD, am_ndI, am_ndR, am_ndL, va_rfS, true_and, and_true, Option.toList_some, Option.toList_none, List.cons_append, List.nil_append, Nat.reduceAdd, Nat.reduceLeDiff, Nat.zero_add, Nat.le_refl]
  have h1 := c40a (Q := Q) (M := M) (D := D) (sl := sl) (x1 := nI 0) 8 0 (by omega)
  rw [b1M_0] at h1
  rw [h1]
  have e56 : ∀ k, b1M M 8 56 k = M 56 k := fun k => if_neg (fun z => by omega)
  have h2 := c40b (Q := Q) (M := b1M M 8) (D := D) (sl := sl) 192 0 0 (by omega) (by omega) (fun k hk => by rw [e56]; exact hM k hk)
  rw [b2M_0] at h2
  rw [h2, show b1M M 8 56 = M 56 from funext e56]
  have h3 := c40c (Q := Q) (M := b2M (b1M M 8) 192) (D := D) (sl := sl) (x1 := nI (cntF (M 56) 192 0 0)) 96 0 (by omega)
  rw [b3M_0, b3D_0] at h3
  exact h3
end CN
