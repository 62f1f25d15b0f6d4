/-! CONTRACTS: Pattern, Rule, RuleBook -/
/-- where a letter stands in a name: bit i -/
def plR (l : List Nat) (c : Nat) : Nat → Nat → Nat → Nat
  | 0, _, acc => acc
  | k + 1, i, acc => plR l c k (i + 1) (if l.getD i 0 = c then acc ||| 2 ^ i else acc)
/-- a step of fitting, all steps -/
def ftS (l : List Nat) (c : Nat) (x : Int32) : Int32 := if c = 42 then x ||| -x else if c = 63 then x <<< (nI 1 &&& 31) else (x &&& nI (plR l c l.length 0 0)) <<< (nI 1 &&& 31)
def ftR (l pt : List Nat) : Nat → Nat → Int32 → Int32
  | 0, _, x => x
  | k + 1, i, x => ftR l pt k (i + 1) (ftS l (pt.getD i 0) x)
/-- the pattern pt fits the name l, as the class says it -/
def ftB (l pt : List Nat) : Prop := (ftR l pt pt.length 0 (nI 1) >>> (nI l.length &&& 31)) &&& nI 1 = nI 1
/-- the pattern at q -/
def ptIs (M : Nat → Nat → Int32) (q : Nat) (pt : List Nat) : Prop := M q 1 = nI pt.length ∧ pt.length ≤ 12 ∧ (∀ i, i < pt.length → M (q + 1) i = nI (pt.getD i 0)) ∧ ∀ i, i < pt.length → pt.getD i 0 < 128
theorem plR_lt (l : List Nat) (c : Nat) : ∀ (k i acc : Nat), i + k ≤ 15 → acc < 2 ^ 15 → plR l c k i acc < 2 ^ 15 := by
  intro k
  induction k with
  | zero => intro i acc h ha; exact ha
  | succ k ih =>
    intro i acc h ha
    refine ih _ _ (by omega) ?_
    by_cases e : l.getD i 0 = c
    · rw [if_pos e]
      exact Nat.or_lt_two_pow ha (Nat.pow_lt_pow_right (by omega) (by omega))
    · rw [if_neg e]; exact ha
section CN
variable {Q : Option Value → amM → Prop} {μ : amM} {S : List (Nat ⊕ (Nat × Nat))} {M : Nat → Nat → Int32} {D : Nat → Nat → UInt64} {F : Nat → Nat → Option Nat} {sl : Nat}
variable {q : Nat}
theorem c127o {l : List Nat} {c : Nat} (h : nmIs M l) (hc : c < 65536) : ∀ (k i acc : Nat), i + k = l.length → acc < 2 ^ 15 → (RR 127 4 [.ref 46, .int (nI c), .int (nI acc), .int (nI i)] [] (SH, (0, 0, sl), M, D, RF) Q ↔ Q (some (.int (nI (plR l c k i acc)))) (SH, (0, 0, sl), M, D, RF)) := by
  obtain ⟨h1, h2, h3, h4⟩ := h
  intro k
  induction k with
  | zero =>
    intro i acc hi ha
    have e : i = l.length := by omega
    subst e
    rw [r127_4]
    simp (disch := omega) only [r127_0, r127_1, r127_2, r127_3, r127_5, r127_6, r127_9, r127_12, r127_13, r127_16, r127_17, r127_18, r127_19, r127_22, r127_23, r127_24, r127_25, r127_26, r127_27, r127_28, r127_31, r127_34, r127_35, am_cat0, am_catI, am_catR, am_catD, am_ndI, am_ndR, am_ndL, va_rfS, true_and, and_true, Option.toList_some, Option.toList_none, List.cons_append, List.nil_append, Nat.reduceAdd, Nat.reduceLeDiff, Nat.zero_add, Nat.le_refl, rw_mrg, ite_Q, ite_bN, ite_bN', ib_0b, ib_b0, ib_1b, ib_b1, bN_0, bN_n0, bN_01T, nI1_0, nI0_0, nI01a, nI01b, bN_1, no_or, true_or, or_true, false_or, or_false, ite_not, if_true, if_false, Decidable.not_not, so46, h1, Int32.le_refl, plR]
  | succ k ih =>
    intro i acc hi ha
    have hl : i < l.length := by omega
    have hv := h4 i hl
    have hpw : acc ||| 2 ^ i < 2 ^ 15 := Nat.or_lt_two_pow ha (Nat.pow_lt_pow_right (by omega) (by omega))
    rw [r127_4]
    by_cases e : l.getD i 0 = c
    · simp (disch := omega) only [r127_0, r127_1, r127_2, r127_3, r127_5, r127_6, r127_9, r127_12, r127_13, r127_16, r127_17, r127_18, r127_19, r127_22, r127_23, r127_24, r127_25, r127_26, r127_27, r127_28, r127_31, r127_34, r127_35, am_cat0, am_catI, am_catR, am_catD, am_ndI, am_ndR, am_ndL, va_rfS, true_and, and_true, Option.toList_some, Option.toList_none, List.cons_append, List.nil_append, Nat.reduceAdd, Nat.reduceLeDiff, Nat.zero_add, Nat.le_refl, rw_mrg, ite_Q, ite_bN, ite_bN', ib_0b, ib_b0, ib_1b, ib_b1, bN_0, bN_n0, bN_01T, nI1_0, nI0_0, nI01a, nI01b, bN_1, no_or, true_or, or_true, false_or, or_false, ite_not, if_true, if_false, Decidable.not_not, so46, sf46_0, sd47, am_bd, bd_n, nI_tn, h1, h2 i hl, nx_le, nx_imp, Nat.not_le.mpr hl, e, nx_1t, nx_or, nI_add, not_true_eq_false]
      rw [ih (i + 1) _ (by omega) hpw]
      simp only [plR, e, if_true]
    · simp (disch := omega) only [r127_0, r127_1, r127_2, r127_3, r127_5, r127_6, r127_9, r127_12, r127_13, r127_16, r127_17, r127_18, r127_19, r127_22, r127_23, r127_24, r127_25, r127_26, r127_27, r127_28, r127_31, r127_34, r127_35, am_cat0, am_catI, am_catR, am_catD, am_ndI, am_ndR, am_ndL, va_rfS, true_and, and_true, Option.toList_some, Option.toList_none, List.cons_append, List.nil_append, Nat.reduceAdd, Nat.reduceLeDiff, Nat.zero_add, Nat.le_refl, rw_mrg, ite_Q, ite_bN, ite_bN', ib_0b, ib_b0, ib_1b, ib_b1, bN_0, bN_n0, bN_01T, nI1_0, nI0_0, nI01a, nI01b, bN_1, no_or, true_or, or_true, false_or, or_false, ite_not, if_true, if_false, Decidable.not_not, so46, sf46_0, sd47, am_bd, bd_n, nI_tn, h1, h2 i hl, nx_le, nx_imp, Nat.not_le.mpr hl, e, nI_add, not_false_eq_true]
      rw [ih (i + 1) _ (by omega) ha]
      simp only [plR, e, if_false]
theorem c127 {l : List Nat} {c : Nat} (h : nmIs M l) (hc : c < 65536) : RR 127 0 [.ref 46, .int (nI c), .long 0, .long 0] [] (SH, (0, 0, sl), M, D, RF) Q ↔ Q (some (.int (nI (plR l c l.length 0 0)))) (SH, (0, 0, sl), M, D, RF) := by
  simp only [r127_0, r127_1, r127_2, r127_3, am_cat0, am_catI, am_catR, am_catD, am_ndI, am_ndR, am_ndL, va_rfS, true_and, and_true, Option.toList_some, Option.toList_none, List.cons_append, List.nil_append, Nat.reduceAdd, Nat.reduceLeDiff, Nat.zero_add, Nat.le_refl]
  exact c127o h hc l.length 0 0 (by omega) (by decide)
theorem c134o {l pt : List Nat} (hp : isPt q) (hn : nmIs M l) (hq : ptIs M q pt) : ∀ (k i : Nat) (x : Int32), i + k = pt.length → (RR 134 4 [.ref q, .ref 46, .int x, .int (nI i)] [] (SH, (0, 0, sl), M, D, RF) Q ↔ Q (some (.int (bN ((ftR l pt k i x >>> (nI l.length &&& 31)) &&& nI 1 = nI 1)))) (SH, (0, 0, sl), M, D, RF)) := by
  obtain ⟨p0, p1, p2, p3, p4⟩ := ptF hp
  obtain ⟨h1, h2, h3, h4⟩ := hq
  intro k
  induction k with
  | zero =>
    intro i x hi
    have e : i = pt.length := by omega
    subst e
    rw [r134_4]
    simp (disch := first | assumption | omega) only [r134_0, r134_1, r134_2, r134_3, r134_5, r134_6, r134_9, r134_12, r134_13, r134_16, r134_17, r134_18, r134_20, r134_23, r134_24, r134_25, r134_26, r134_27, r134_28, r134_31, r134_32, r134_35, r134_36, r134_37, r134_39, r134_42, r134_43, r134_44, r134_45, r134_46, r134_49, r134_50, r134_51, r134_52, r134_55, r134_56, r134_57, r134_60, r134_61, r134_62, r134_63, r134_64, r134_67, r134_70, r134_71, r134_72, r134_75, r134_76, r134_77, r134_78, r134_79, r134_82, r134_83, r134_86, r134_87, am_cat0, am_catI, am_catR, am_catD, am_ndI, am_ndR, am_ndL, va_rfS, true_and, and_true, Option.toList_some, Option.toList_none, List.cons_append, List.nil_append, Nat.reduceAdd, Nat.reduceLeDiff, Nat.zero_add, Nat.le_refl, rw_mrg, ite_Q, ite_bN, ite_bN', ib_0b, ib_b0, ib_1b, ib_b1, bN_0, bN_n0, bN_01T, nI1_0, nI0_0, nI01a, nI01b, bN_1, no_or, true_or, or_true, false_or, or_false, ite_not, if_true, if_false, Decidable.not_not, p0, h1, so46, Int32.le_refl, c125 hn, ftR]
    exact bN_Q Iff.rfl
  | succ k ih =>
    intro i x hi
    have hl : i < pt.length := by omega
    have hv := h4 i hl
    rw [r134_4]
    by_cases e : pt.getD i 0 = 42
    · simp (disch := omega) only [r134_0, r134_1, r134_2, r134_3, r134_5, r134_6, r134_9, r134_12, r134_13, r134_16, r134_17, r134_18, r134_20, r134_23, r134_24, r134_25, r134_26, r134_27, r134_28, r134_31, r134_32, r134_35, r134_36, r134_37, r134_39, r134_42, r134_43, r134_44, r134_45, r134_46, r134_49, r134_50, r134_51, r134_52, r134_55, r134_56, r134_57, r134_60, r134_61, r134_62, r134_63, r134_64, r134_67, r134_70, r134_71, r134_72, r134_75, r134_76, r134_77, r134_78, r134_79, r134_82, r134_83, r134_86, r134_87, am_cat0, am_catI, am_catR, am_catD, am_ndI, am_ndR, am_ndL, va_rfS, true_and, and_true, Option.toList_some, Option.toList_none, List.cons_append, List.nil_append, Nat.reduceAdd, Nat.reduceLeDiff, Nat.zero_add, Nat.le_refl, rw_mrg, ite_Q, ite_bN, ite_bN', ib_0b, ib_b0, ib_1b, ib_b1, bN_0, bN_n0, bN_01T, nI1_0, nI0_0, nI01a, nI01b, bN_1, no_or, true_or, or_true, false_or, or_false, ite_not, if_true, if_false, Decidable.not_not, p0, p1, p3, am_bd, bd_n, nI_tn, h1, h3 i hl, nx_le, nx_imp, Nat.not_le.mpr hl, e, nI_add, not_true_eq_false]
      rw [ih (i + 1) _ (by omega)]
      simp only [ftR, ftS, e, if_true]
    · by_cases e2 : pt.getD i 0 = 63
      · simp (disch := omega) only [r134_0, r134_1, r134_2, r134_3, r134_5, r134_6, r134_9, r134_12, r134_13, r134_16, r134_17, r134_18, r134_20, r134_23, r134_24, r134_25, r134_26, r134_27, r134_28, r134_31, r134_32, r134_35, r134_36, r134_37, r134_39, r134_42, r134_43, r134_44, r134_45, r134_46, r134_49, r134_50, r134_51, r134_52, r134_55, r134_56, r134_57, r134_60, r134_61, r134_62, r134_63, r134_64, r134_67, r134_70, r134_71, r134_72, r134_75, r134_76, r134_77, r134_78, r134_79, r134_82, r134_83, r134_86, r134_87, am_cat0, am_catI, am_catR, am_catD, am_ndI, am_ndR, am_ndL, va_rfS, true_and, and_true, Option.toList_some, Option.toList_none, List.cons_append, List.nil_append, Nat.reduceAdd, Nat.reduceLeDiff, Nat.zero_add, Nat.le_refl, rw_mrg, ite_Q, ite_bN, ite_bN', ib_0b, ib_b0, ib_1b, ib_b1, bN_0, bN_n0, bN_01T, nI1_0, nI0_0, nI01a, nI01b, bN_1, no_or, true_or, or_true, false_or, or_false, ite_not, if_true, if_false, Decidable.not_not, p0, p1, p3, am_bd, bd_n, nI_tn, h1, h3 i hl, nx_le, nx_imp, Nat.not_le.mpr hl, e2, nI_add, not_true_eq_false, show ¬ (63 : Nat) = 42 by decide, not_false_eq_true]
        rw [ih (i + 1) _ (by omega)]
        simp only [ftR, ftS, e2, show ¬ (63 : Nat) = 42 by decide, if_true, if_false]
      · simp (disch := omega) only [r134_0, r134_1, r134_2, r134_3, r134_5, r134_6, r134_9, r134_12, r134_13, r134_16, r134_17, r134_18, r134_20, r134_23, r134_24, r134_25, r134_26, r134_27, r134_28, r134_31, r134_32, r134_35, r134_36, r134_37, r134_39, r134_42, r134_43, r134_44, r134_45, r134_46, r134_49, r134_50, r134_51, r134_52, r134_55, r134_56, r134_57, r134_60, r134_61, r134_62, r134_63, r134_64, r134_67, r134_70, r134_71, r134_72, r134_75, r134_76, r134_77, r134_78, r134_79, r134_82, r134_83, r134_86, r134_87, am_cat0, am_catI, am_catR, am_catD, am_ndI, am_ndR, am_ndL, va_rfS, true_and, and_true, Option.toList_some, Option.toList_none, List.cons_append, List.nil_append, Nat.reduceAdd, Nat.reduceLeDiff, Nat.zero_add, Nat.le_refl, rw_mrg, ite_Q, ite_bN, ite_bN', ib_0b, ib_b0, ib_1b, ib_b1, bN_0, bN_n0, bN_01T, nI1_0, nI0_0, nI01a, nI01b, bN_1, no_or, true_or, or_true, false_or, or_false, ite_not, if_true, if_false, Decidable.not_not, p0, p1, p3, am_bd, bd_n, nI_tn, h1, h3 i hl, nx_le, nx_imp, Nat.not_le.mpr hl, e, e2, nI_add, not_false_eq_true, so46, c127 hn]
        rw [ih (i + 1) _ (by omega)]
        simp only [ftR, ftS, e, e2, if_false]
theorem c134 {l pt : List Nat} (hp : isPt q) (hn : nmIs M l) (hq : ptIs M q pt) : RR 134 0 [.ref q, .ref 46, .long 0, .long 0] [] (SH, (0, 0, sl), M, D, RF) Q ↔ Q (some (.int (@bN (ftB l pt) (Classical.propDecidable _)))) (SH, (0, 0, sl), M, D, RF) := by
  simp only [r134_0, r134_1, r134_2, r134_3, am_cat0, am_catI, am_catR, am_catD, am_ndI, am_ndR, am_ndL, va_rfS, true_and, and_true, Option.toList_some, Option.toList_none, List.cons_append, List.nil_append, Nat.reduceAdd, Nat.reduceLeDiff, Nat.zero_add, Nat.le_refl]
  rw [c134o hp hn hq pt.length 0 (nI 1) (by omega)]
  exact bN_Q Iff.rfl
theorem c149 {i : Nat} (hi : i < 8) : RR 149 0 [.ref (22 + 3 * i)] [] (SH, (0, 0, sl), M, D, RF) Q ↔ Q (some (.int (M (22 + 3 * i) 3))) (SH, (0, 0, sl), M, D, RF) := by
  simp only [r149_0, r149_1, r149_4, am_cat0, am_catI, am_catR, am_catD, am_ndI, am_ndR, am_ndL, va_rfS, true_and, and_true, Option.toList_some, Option.toList_none, List.cons_append, List.nil_append, Nat.reduceAdd, Nat.reduceLeDiff, Nat.zero_add, Nat.le_refl, (ruF hi).2.1]
/-- rule i is for the code, and fits -/
def ruA (M : Nat → Nat → Int32) (l pt : List Nat) (i c : Nat) : Prop := ¬ nI c < M (22 + 3 * i) 1 ∧ ¬ M (22 + 3 * i) 2 < nI c ∧ ftB l pt
theorem c148 {i c : Nat} {l pt : List Nat} (hi : i < 8) (hn : nmIs M l) (hq : ptIs M (23 + 3 * i) pt) : RR 148 0 [.ref (22 + 3 * i), .int (nI c), .ref 46] [] (SH, (0, 0, sl), M, D, RF) Q ↔ Q (some (.int (@bN (ruA M l pt i c) (Classical.propDecidable _)))) (SH, (0, 0, sl), M, D, RF) := by
  obtain ⟨u1, u2, u3, u4⟩ := ruF hi
  have hd : Decidable (ftB l pt) := Classical.propDecidable _
  simp only [r148_0, r148_1, r148_2, r148_5, r148_8, r148_9, r148_10, r148_13, r148_16, r148_17, r148_20, r148_21, r148_24, r148_27, r148_28, r148_31, r148_32, am_cat0, am_catI, am_catR, am_catD, am_ndI, am_ndR, am_ndL, va_rfS, true_and, and_true, Option.toList_some, Option.toList_none, List.cons_append, List.nil_append, Nat.reduceAdd, Nat.reduceLeDiff, Nat.zero_add, Nat.le_refl, rw_mrg, ite_Q, ite_bN, ite_bN', ib_0b, ib_b0, ib_1b, ib_b1, bN_0, bN_n0, bN_01T, nI1_0, nI0_0, nI01a, nI01b, bN_1, no_or, true_or, or_true, false_or, or_false, ite_not, if_true, if_false, Decidable.not_not, u2, u3, (ptF u4).1, c134 u4 hn hq]
  refine bN_Q ?_
  simp only [ruA, Int32.not_lt]
/-- the weight by the rules below i, else the own one -/
def owL : List Nat := [0, 3, 3, 1, 3, 3, 3, 0, 3, 0, 3, 1, 0, 0, 0, 0, 0, 0, 0, 0, 3, 0, 3, 1, 2, 1, 3, 3, 0, 3, 0, 2, 2, 1]
noncomputable def ruW (M : Nat → Nat → Int32) (l : List Nat) (P : Nat → List Nat) (c : Nat) : Nat → Int32
  | 0 => nI (owL.getD c 0)
  | i + 1 => @ite _ (ruA M l (P i) i c) (Classical.propDecidable _) (M (22 + 3 * i) 3) (ruW M l P c i)
theorem c29 {c : Nat} (h : c < 64) : RR 29 0 [.int (nI c)] [] μ Q ↔ Q (some (.int (nI (owL.getD c 0)))) μ := by
  have e : (nI c).toInt = (c : Int) := nI_toInt (by omega)
  have key : ∀ c : Nat, c < 64 → (((c : Int) < 1 ∨ 33 < (c : Int)) → owL.getD c 0 = 0) ∧ (¬ ((c : Int) < 1 ∨ 33 < (c : Int)) → (([148, 148, 152, 148, 148, 148, 154, 148, 154, 148, 152, 154, 154, 154, 154, 154, 154, 154, 154, 148, 154, 148, 152, 150, 152, 148, 148, 154, 148, 154, 150, 150, 152] : List Nat).getD ((c : Int) - 1).toNat 0, owL.getD c 0) ∈ [(148, 3), (150, 2), (152, 1), (154, 0)]) := by decide
  obtain ⟨k1, k2⟩ := key c h
  simp only [r29_0, r29_1, e]
  by_cases hc : (c : Int) < 1 ∨ 33 < (c : Int)
  · rw [if_pos hc, k1 hc]
    simp only [r29_148, r29_149, r29_150, r29_151, r29_152, r29_153, r29_154, r29_155, am_cat0, am_catI, am_catR, am_catD, am_ndI, am_ndR, am_ndL, va_rfS, true_and, and_true, Option.toList_some, Option.toList_none, List.cons_append, List.nil_append, Nat.reduceAdd, Nat.reduceLeDiff, Nat.zero_add, Nat.le_refl]
  · rw [if_neg hc]
    have k3 := k2 hc
    generalize hx : ([148, 148, 152, 148, 148, 148, 154, 148, 154, 148, 152, 154, 154, 154, 154, 154, 154, 154, 154, 148, 154, 148, 152, 150, 152, 148, 148, 154, 148, 154, 150, 150, 152] : List Nat).getD ((c : Int) - 1).toNat 0 = x at k3 ⊢
    generalize owL.getD c 0 = y at k3 ⊢
    simp only [List.mem_cons, Prod.mk.injEq, List.not_mem_nil, or_false] at k3
    rcases k3 with ⟨rfl, rfl⟩ | ⟨rfl, rfl⟩ | ⟨rfl, rfl⟩ | ⟨rfl, rfl⟩ <;> simp only [r29_148, r29_149, r29_150, r29_151, r29_152, r29_153, r29_154, r29_155, am_cat0, am_catI, am_catR, am_catD, am_ndI, am_ndR, am_ndL, va_rfS, true_and, and_true, Option.toList_some, Option.toList_none, List.cons_append, List.nil_append, Nat.reduceAdd, Nat.reduceLeDiff, Nat.zero_add, Nat.le_refl]
theorem c30 {c : Nat} (h : c < 64) : RR 30 0 [.int (nI c)] [] μ Q ↔ Q (some (.int (bN (c ∈ [3, 11, 23, 24, 25, 33])))) μ := by
  have e : (nI c).toInt = (c : Int) := nI_toInt (by omega)
  have key : ∀ c : Nat, c < 64 → ((1 : Nat) : Int) + Op.lookupswitch.offset [(3, 59), (11, 59), (23, 59), (24, 59), (25, 59), (33, 59)] 61 (c : Int) = if c ∈ [3, 11, 23, 24, 25, 33] then 60 else 62 := by decide
  simp only [r30_0, r30_1, e, key c h]
  by_cases hc : c ∈ [3, 11, 23, 24, 25, 33]
  · rw [if_pos hc, bN_t hc]
    simp only [show (60 : Int).toNat = 60 from rfl, r30_60, r30_61, r30_62, r30_63, am_cat0, am_catI, am_catR, am_catD, am_ndI, am_ndR, am_ndL, va_rfS, true_and, and_true, Option.toList_some, Option.toList_none, List.cons_append, List.nil_append, Nat.reduceAdd, Nat.reduceLeDiff, Nat.zero_add, Nat.le_refl, rw_mrg, ite_Q, ite_bN, ite_bN', ib_0b, ib_b0, ib_1b, ib_b1, bN_0, bN_n0, bN_01T, nI1_0, nI0_0, nI01a, nI01b, bN_1, no_or, true_or, or_true, false_or, or_false, ite_not, if_true, if_false, Decidable.not_not]
    simp
  · rw [if_neg hc, bN_f hc]
    simp only [show (62 : Int).toNat = 62 from rfl, r30_60, r30_61, r30_62, r30_63, am_cat0, am_catI, am_catR, am_catD, am_ndI, am_ndR, am_ndL, va_rfS, true_and, and_true, Option.toList_some, Option.toList_none, List.cons_append, List.nil_append, Nat.reduceAdd, Nat.reduceLeDiff, Nat.zero_add, Nat.le_refl, rw_mrg, ite_Q, ite_bN, ite_bN', ib_0b, ib_b0, ib_1b, ib_b1, bN_0, bN_n0, bN_01T, nI1_0, nI0_0, nI01a, nI01b, bN_1, no_or, true_or, or_true, false_or, or_false, ite_not, if_true, if_false, Decidable.not_not]
    simp
end CN
