/-! CONTRACTS: Build -/
/-- a build's numbers: the types that are there; packages, flags, parents, which constants stand, as naturals -/
def bTh (M : Nat → Nat → Int32) (q : Nat) : Nat := n32 (M q 0)
def bPk (M : Nat → Nat → Int32) (q t : Nat) : Nat := n32 (M (q + 1) t)
def bFl (M : Nat → Nat → Int32) (q t : Nat) : Nat := n32 (M (q + 2) t)
def bUp (M : Nat → Nat → Int32) (q t : Nat) : Nat := n32 (M (q + 3) t)
def bVa (M : Nat → Nat → Int32) (q t : Nat) : Nat := n32 (M (q + 5) t)
/-- they are as they must be -/
def bW (M : Nat → Nat → Int32) (q : Nat) : Prop := bTh M q < 256 ∧ (∀ t, t < 8 → bPk M q t < 3 ∧ bFl M q t < 16 ∧ bUp M q t < 256 ∧ bVa M q t < 16777216) ∧ ∀ k, k < 192 → M (q + 4) k = -1 ∨ ∃ j, j < 32 ∧ M (q + 4) k = nI j
/-- a member stands in the slot -/
abbrev bHas (M : Nat → Nat → Int32) (q t s : Nat) : Prop := ¬ M (q + 4) (t * 24 + s) = -1
/-- a type that is seen; a member that is seen -/
abbrev bSeen (M : Nat → Nat → Int32) (q t : Nat) : Prop := (bTh M q).testBit t = true ∧ (bFl M q t).testBit 0 = true
def bMo (M : Nat → Nat → Int32) (q t s : Nat) : Nat := n32 (M (q + 4) (t * 24 + s))
abbrev bSh (M : Nat → Nat → Int32) (q t s : Nat) : Prop := bSeen M q t ∧ bHas M q t s ∧ (bMo M q t s / 8 = 3 ∨ bMo M q t s / 8 = 2 ∧ (bFl M q t).testBit 3 = false)
/-- what is above: a step, a round, all rounds -/
def abStep (M : Nat → Nat → Int32) (q u met : Nat) : Nat := if met.testBit u = true then met ||| (bUp M q u &&& bTh M q) else met
def abR (M : Nat → Nat → Int32) (q : Nat) : Nat → Nat → Nat → Nat
  | 0, _, met => met
  | k + 1, u, met => abR M q k (u + 1) (abStep M q u met)
def abO (M : Nat → Nat → Int32) (q : Nat) : Nat → Nat → Nat
  | 0, met => met
  | n + 1, met => abO M q n (abR M q 8 0 met)
def bAb (M : Nat → Nat → Int32) (q t : Nat) : Nat := andNot (abO M q 8 (2 ^ t)) (2 ^ t)
/-- those of them that are seen -/
def saR (M : Nat → Nat → Int32) (q : Nat) : Nat → Nat → Nat → Nat
  | 0, _, met => met
  | k + 1, u, met => saR M q k (u + 1) (if bSeen M q u then met else andNot met (2 ^ u))
def bSa (M : Nat → Nat → Int32) (q t : Nat) : Nat := saR M q 8 0 (bAb M q t)
theorem bTh_e (M : Nat → Nat → Int32) (q : Nat) : M q 0 = nI (bTh M q) := (nI_n32 _).symm
theorem bPk_e (M : Nat → Nat → Int32) (q t : Nat) : M (q + 1) t = nI (bPk M q t) := (nI_n32 _).symm
theorem bFl_e (M : Nat → Nat → Int32) (q t : Nat) : M (q + 2) t = nI (bFl M q t) := (nI_n32 _).symm
theorem bUp_e (M : Nat → Nat → Int32) (q t : Nat) : M (q + 3) t = nI (bUp M q t) := (nI_n32 _).symm
theorem bVa_e (M : Nat → Nat → Int32) (q t : Nat) : M (q + 5) t = nI (bVa M q t) := (nI_n32 _).symm
theorem bMo_e (M : Nat → Nat → Int32) (q t s : Nat) : M (q + 4) (t * 24 + s) = nI (bMo M q t s) := (nI_n32 _).symm
theorem bMo_lt {M : Nat → Nat → Int32} {q t s : Nat} (h : bW M q) (ht : t < 8) (hs : s < 24) (hh : bHas M q t s) : bMo M q t s < 32 := by
  rcases h.2.2 (t * 24 + s) (by omega) with h1 | ⟨j, h1, h2⟩
  · exact absurd h1 hh
  · unfold bMo; rw [n32_of h2 (by omega)]; exact h1
section CN
variable {Q : Option Value → amM → Prop} {μ : amM} {S : List (Nat ⊕ (Nat × Nat))} {M : Nat → Nat → Int32} {D : Nat → Nat → UInt64} {F : Nat → Nat → Option Nat} {sl : Nat}
variable {q : Nat}
theorem c84 {t : Nat} (hq : q = 2 ∨ q = 9) (ht : t < 8) : RR 84 0 [.ref q, .int (nI t)] [] (SH, (0, 0, sl), M, D, RF) Q ↔ Q (some (.int (nI (bPk M q t)))) (SH, (0, 0, sl), M, D, RF) := by
  obtain ⟨b0, ⟨f1, f2, f3, f4, f5, f6⟩, ⟨l1, l2, l3, l4, l5, l6⟩, d1, d2, d3, d4, d5⟩ := bdF hq
  simp (disch := omega) only [r84_0, r84_1, r84_4, r84_5, r84_6, am_cat0, am_catI, am_catR, am_catD, am_ndI, am_ndR, am_ndL, va_rfS, true_and, and_true, Option.toList_some, Option.toList_none, List.cons_append, List.nil_append, Nat.reduceAdd, Nat.reduceLeDiff, Nat.zero_add, Nat.le_refl, b0, f1, d1, am_bd, bd_n, nI_tn, bPk_e M q]
theorem c85 {t : Nat} (hq : q = 2 ∨ q = 9) (ht : t < 8) : RR 85 0 [.ref q, .int (nI t)] [] (SH, (0, 0, sl), M, D, RF) Q ↔ Q (some (.int (nI (bFl M q t)))) (SH, (0, 0, sl), M, D, RF) := by
  obtain ⟨b0, ⟨f1, f2, f3, f4, f5, f6⟩, ⟨l1, l2, l3, l4, l5, l6⟩, d1, d2, d3, d4, d5⟩ := bdF hq
  simp (disch := omega) only [r85_0, r85_1, r85_4, r85_5, r85_6, am_cat0, am_catI, am_catR, am_catD, am_ndI, am_ndR, am_ndL, va_rfS, true_and, and_true, Option.toList_some, Option.toList_none, List.cons_append, List.nil_append, Nat.reduceAdd, Nat.reduceLeDiff, Nat.zero_add, Nat.le_refl, b0, f2, d2, am_bd, bd_n, nI_tn, bFl_e M q]
theorem c82 {t : Nat} (hq : q = 2 ∨ q = 9) (hw : bW M q) (ht : t < 8) : RR 82 0 [.ref q, .int (nI t)] [] (SH, (0, 0, sl), M, D, RF) Q ↔ Q (some (.int (bN ((bTh M q).testBit t = true)))) (SH, (0, 0, sl), M, D, RF) := by
  obtain ⟨b0, ⟨f1, f2, f3, f4, f5, f6⟩, ⟨l1, l2, l3, l4, l5, l6⟩, d1, d2, d3, d4, d5⟩ := bdF hq
  have h1 := hw.1
  simp (disch := omega) only [r82_0, r82_1, r82_4, r82_5, r82_6, r82_7, r82_8, r82_9, r82_12, r82_13, r82_16, r82_17, am_cat0, am_catI, am_catR, am_catD, am_ndI, am_ndR, am_ndL, va_rfS, true_and, and_true, Option.toList_some, Option.toList_none, List.cons_append, List.nil_append, Nat.reduceAdd, Nat.reduceLeDiff, Nat.zero_add, Nat.le_refl, rw_mrg, ite_Q, ite_bN, ite_bN', ib_0b, ib_b0, ib_1b, ib_b1, bN_0, bN_n0, bN_01T, nI1_0, nI0_0, nI01a, nI01b, bN_1, no_or, true_or, or_true, false_or, or_false, ite_not, if_true, if_false, Decidable.not_not, b0, bTh_e M q, nx_tb]
  refine bN_Q ?_
  by_cases h : (bTh M q).testBit t = true <;> simp [h, nI_01n]
theorem c83 {t : Nat} (hq : q = 2 ∨ q = 9) (hw : bW M q) (ht : t < 8) : RR 83 0 [.ref q, .int (nI t)] [] (SH, (0, 0, sl), M, D, RF) Q ↔ Q (some (.int (bN (bSeen M q t)))) (SH, (0, 0, sl), M, D, RF) := by
  obtain ⟨b0, ⟨f1, f2, f3, f4, f5, f6⟩, ⟨l1, l2, l3, l4, l5, l6⟩, d1, d2, d3, d4, d5⟩ := bdF hq
  have h1 := hw.1
  have h2 := (hw.2.1 t ht).2.1
  simp (disch := omega) only [r83_0, r83_1, r83_4, r83_5, r83_6, r83_7, r83_8, r83_9, r83_12, r83_13, r83_16, r83_17, r83_18, r83_19, r83_20, r83_23, r83_24, r83_27, r83_28, am_cat0, am_catI, am_catR, am_catD, am_ndI, am_ndR, am_ndL, va_rfS, true_and, and_true, Option.toList_some, Option.toList_none, List.cons_append, List.nil_append, Nat.reduceAdd, Nat.reduceLeDiff, Nat.zero_add, Nat.le_refl, rw_mrg, ite_Q, ite_bN, ite_bN', ib_0b, ib_b0, ib_1b, ib_b1, bN_0, bN_n0, bN_01T, nI1_0, nI0_0, nI01a, nI01b, bN_1, no_or, true_or, or_true, false_or, or_false, ite_not, if_true, if_false, Decidable.not_not, b0, f2, d2, am_bd, bd_n, nI_tn, bTh_e M q, bFl_e M q, nx_tb, nx_t1]
  refine bN_Q ?_
  by_cases h : (bTh M q).testBit t = true <;> simp [h, nI_01n, bSeen]
theorem c88 {t s : Nat} (hq : q = 2 ∨ q = 9) (ht : t < 8) (hs : s < 24) : RR 88 0 [.ref q, .int (nI t), .int (nI s)] [] (SH, (0, 0, sl), M, D, RF) Q ↔ Q (some (.int (bN (bHas M q t s)))) (SH, (0, 0, sl), M, D, RF) := by
  obtain ⟨b0, ⟨f1, f2, f3, f4, f5, f6⟩, ⟨l1, l2, l3, l4, l5, l6⟩, d1, d2, d3, d4, d5⟩ := bdF hq
  simp (disch := omega) only [r88_0, r88_1, r88_4, r88_5, r88_7, r88_8, r88_9, r88_10, r88_11, r88_12, r88_15, r88_16, r88_19, r88_20, am_cat0, am_catI, am_catR, am_catD, am_ndI, am_ndR, am_ndL, va_rfS, true_and, and_true, Option.toList_some, Option.toList_none, List.cons_append, List.nil_append, Nat.reduceAdd, Nat.reduceLeDiff, Nat.zero_add, Nat.le_refl, rw_mrg, ite_Q, ite_bN, ite_bN', ib_0b, ib_b0, ib_1b, ib_b1, bN_0, bN_n0, bN_01T, nI1_0, nI0_0, nI01a, nI01b, bN_1, no_or, true_or, or_true, false_or, or_false, ite_not, if_true, if_false, Decidable.not_not, b0, f4, d4, am_bd, bd_n, nI_tn, pk_mul, nI_add]
theorem c90 {t s : Nat} (hq : q = 2 ∨ q = 9) (hw : bW M q) (ht : t < 8) (hs : s < 24) (hh : bHas M q t s) : RR 90 0 [.ref q, .int (nI t), .int (nI s)] [] (SH, (0, 0, sl), M, D, RF) Q ↔ Q (some (.int (nI (bMo M q t s / 8)))) (SH, (0, 0, sl), M, D, RF) := by
  obtain ⟨b0, ⟨f1, f2, f3, f4, f5, f6⟩, ⟨l1, l2, l3, l4, l5, l6⟩, d1, d2, d3, d4, d5⟩ := bdF hq
  have h1 := bMo_lt hw ht hs hh
  simp (disch := omega) only [r90_0, r90_1, r90_4, r90_5, r90_7, r90_8, r90_9, r90_10, r90_11, r90_13, r90_14, am_cat0, am_catI, am_catR, am_catD, am_ndI, am_ndR, am_ndL, va_rfS, true_and, and_true, Option.toList_some, Option.toList_none, List.cons_append, List.nil_append, Nat.reduceAdd, Nat.reduceLeDiff, Nat.zero_add, Nat.le_refl, b0, f4, d4, am_bd, bd_n, nI_tn, pk_mul, nI_add, bMo_e M q, nx_dv, nx_0, Nat.reduceEqDiff, not_false_eq_true]
theorem c91 {t s : Nat} (hq : q = 2 ∨ q = 9) (hw : bW M q) (ht : t < 8) (hs : s < 24) (hh : bHas M q t s) : RR 91 0 [.ref q, .int (nI t), .int (nI s)] [] (SH, (0, 0, sl), M, D, RF) Q ↔ Q (some (.int (nI (bMo M q t s % 8)))) (SH, (0, 0, sl), M, D, RF) := by
  obtain ⟨b0, ⟨f1, f2, f3, f4, f5, f6⟩, ⟨l1, l2, l3, l4, l5, l6⟩, d1, d2, d3, d4, d5⟩ := bdF hq
  have h1 := bMo_lt hw ht hs hh
  simp (disch := omega) only [r91_0, r91_1, r91_4, r91_5, r91_7, r91_8, r91_9, r91_10, r91_11, r91_13, r91_14, am_cat0, am_catI, am_catR, am_catD, am_ndI, am_ndR, am_ndL, va_rfS, true_and, and_true, Option.toList_some, Option.toList_none, List.cons_append, List.nil_append, Nat.reduceAdd, Nat.reduceLeDiff, Nat.zero_add, Nat.le_refl, b0, f4, d4, am_bd, bd_n, nI_tn, pk_mul, nI_add, bMo_e M q, nx_rm, nx_0, Nat.reduceEqDiff, not_false_eq_true]
theorem c89 {t s : Nat} (hq : q = 2 ∨ q = 9) (hw : bW M q) (ht : t < 8) (hs : s < 24) : RR 89 0 [.ref q, .int (nI t), .int (nI s), .long 0] [] (SH, (0, 0, sl), M, D, RF) Q ↔ Q (some (.int (bN (bSh M q t s)))) (SH, (0, 0, sl), M, D, RF) := by
  obtain ⟨b0, ⟨f1, f2, f3, f4, f5, f6⟩, ⟨l1, l2, l3, l4, l5, l6⟩, d1, d2, d3, d4, d5⟩ := bdF hq
  have h2 := (hw.2.1 t ht).2.1
  by_cases hh : bHas M q t s
  · have h1 := bMo_lt hw ht hs hh
    simp (disch := first | assumption | omega) only [r89_0, r89_1, r89_2, r89_5, r89_8, r89_9, r89_10, r89_11, r89_14, r89_17, r89_18, r89_19, r89_20, r89_21, r89_22, r89_25, r89_26, r89_27, r89_28, r89_31, r89_32, r89_33, r89_36, r89_37, r89_40, r89_41, r89_42, r89_44, r89_45, r89_48, r89_49, r89_52, r89_53, am_cat0, am_catI, am_catR, am_catD, am_ndI, am_ndR, am_ndL, va_rfS, true_and, and_true, Option.toList_some, Option.toList_none, List.cons_append, List.nil_append, Nat.reduceAdd, Nat.reduceLeDiff, Nat.zero_add, Nat.le_refl, rw_mrg, ite_Q, ite_bN, ite_bN', ib_0b, ib_b0, ib_1b, ib_b1, bN_0, bN_n0, bN_01T, nI1_0, nI0_0, nI01a, nI01b, bN_1, no_or, true_or, or_true, false_or, or_false, ite_not, if_true, if_false, Decidable.not_not, b0, f2, d2, am_bd, bd_n, nI_tn, c83, c88, c90, bFl_e M q, nx_t8, nx_imp]
  · simp (disch := first | assumption | omega) only [r89_0, r89_1, r89_2, r89_5, r89_8, r89_9, r89_10, r89_11, r89_14, r89_17, r89_18, r89_19, r89_20, r89_21, r89_22, r89_25, r89_26, r89_27, r89_28, r89_31, r89_32, r89_33, r89_36, r89_37, r89_40, r89_41, r89_42, r89_44, r89_45, r89_48, r89_49, r89_52, r89_53, am_cat0, am_catI, am_catR, am_catD, am_ndI, am_ndR, am_ndL, va_rfS, true_and, and_true, Option.toList_some, Option.toList_none, List.cons_append, List.nil_append, Nat.reduceAdd, Nat.reduceLeDiff, Nat.zero_add, Nat.le_refl, rw_mrg, ite_Q, ite_bN, ite_bN', ib_0b, ib_b0, ib_1b, ib_b1, bN_0, bN_n0, bN_01T, nI1_0, nI0_0, nI01a, nI01b, bN_1, no_or, true_or, or_true, false_or, or_false, ite_not, if_true, if_false, Decidable.not_not, b0, c83, c88, hh, ite_self]
    rw [bN_f (p := bSh M q t s) (fun z => hh z.2.1)]
theorem c92 {t s : Nat} (hq : q = 2 ∨ q = 9) (hw : bW M q) (ht : t < 8) (hs : s < 24) : RR 92 0 [.ref q, .int (nI t), .int (nI s)] [] (SH, (0, 0, sl), M, D, RF) Q ↔ Q (some (.int (bN ((bVa M q t).testBit s = true)))) (SH, (0, 0, sl), M, D, RF) := by
  obtain ⟨b0, ⟨f1, f2, f3, f4, f5, f6⟩, ⟨l1, l2, l3, l4, l5, l6⟩, d1, d2, d3, d4, d5⟩ := bdF hq
  have h1 := (hw.2.1 t ht).2.2.2
  simp (disch := omega) only [r92_0, r92_1, r92_4, r92_5, r92_6, r92_7, r92_8, r92_9, r92_10, r92_11, r92_14, r92_15, r92_18, r92_19, am_cat0, am_catI, am_catR, am_catD, am_ndI, am_ndR, am_ndL, va_rfS, true_and, and_true, Option.toList_some, Option.toList_none, List.cons_append, List.nil_append, Nat.reduceAdd, Nat.reduceLeDiff, Nat.zero_add, Nat.le_refl, rw_mrg, ite_Q, ite_bN, ite_bN', ib_0b, ib_b0, ib_1b, ib_b1, bN_0, bN_n0, bN_01T, nI1_0, nI0_0, nI01a, nI01b, bN_1, no_or, true_or, or_true, false_or, or_false, ite_not, if_true, if_false, Decidable.not_not, b0, f5, d5, am_bd, bd_n, nI_tn, bVa_e M q, nx_tb]
  refine bN_Q ?_
  by_cases h : (bVa M q t).testBit s = true <;> simp [h, nI_01n]
theorem c93 {t s : Nat} (hq : q = 2 ∨ q = 9) (ht : t < 8) (hs : s < 12) : RR 93 0 [.ref q, .int (nI t), .int (nI s)] [] (SH, (0, 0, sl), M, D, RF) Q ↔ Q (some (.double (D (q + 6) (t * 12 + s)))) (SH, (0, 0, sl), M, D, RF) := by
  obtain ⟨b0, ⟨f1, f2, f3, f4, f5, f6⟩, ⟨l1, l2, l3, l4, l5, l6⟩, d1, d2, d3, d4, d5⟩ := bdF hq
  simp (disch := omega) only [r93_0, r93_1, r93_4, r93_5, r93_7, r93_8, r93_9, r93_10, r93_11, am_cat0, am_catI, am_catR, am_catD, am_ndI, am_ndR, am_ndL, va_rfS, true_and, and_true, Option.toList_some, Option.toList_none, List.cons_append, List.nil_append, Nat.reduceAdd, Nat.reduceLeDiff, Nat.zero_add, Nat.le_refl, b0, f6, l6, am_bs, bd_n, nI_tn, pk_mul, nI_add]
theorem abStep_lt {u met : Nat} (hw : bW M q) (h : met < 256) : abStep M q u met < 256 := by
  unfold abStep
  by_cases h1 : met.testBit u = true
  · rw [if_pos h1]; exact or_lt8 h (and_lt8 hw.1)
  · rw [if_neg h1]; exact h
theorem abR_lt (hw : bW M q) : ∀ (k u met : Nat), met < 256 → abR M q k u met < 256 := by
  intro k
  induction k with
  | zero => intro u met h; exact h
  | succ k ih => intro u met h; exact ih _ _ (abStep_lt hw h)
theorem abO_lt (hw : bW M q) : ∀ (n met : Nat), met < 256 → abO M q n met < 256 := by
  intro n
  induction n with
  | zero => intro met h; exact h
  | succ n ih => intro met h; exact ih _ (abR_lt hw _ _ _ h)
theorem c86i (hq : q = 2 ∨ q = 9) (hw : bW M q) {t r : Int32} : ∀ (k u met : Nat), u + k = 8 → met < 256 → (RR 86 15 [.ref q, .int t, .int (nI met), .int r, .int (nI u)] [] (SH, (0, 0, sl), M, D, RF) Q ↔ RR 86 53 [.ref q, .int t, .int (nI (abR M q k u met)), .int r, .int (nI 8)] [] (SH, (0, 0, sl), M, D, RF) Q) := by
  obtain ⟨b0, ⟨f1, f2, f3, f4, f5, f6⟩, ⟨l1, l2, l3, l4, l5, l6⟩, d1, d2, d3, d4, d5⟩ := bdF hq
  intro k
  induction k with
  | zero =>
    intro u met h hm
    have hu : u = 8 := by omega
    subst hu
    rw [r86_15]
    simp only [r86_0, r86_1, r86_2, r86_3, r86_4, r86_5, r86_6, r86_7, r86_9, r86_12, r86_13, r86_17, r86_19, r86_22, r86_23, r86_25, r86_26, r86_27, r86_28, r86_29, r86_32, r86_33, r86_34, r86_37, r86_39, r86_40, r86_41, r86_44, r86_45, r86_46, r86_47, r86_50, r86_56, r86_59, r86_60, r86_61, r86_62, r86_63, r86_64, r86_65, r86_66, am_cat0, am_catI, am_catR, am_catD, am_ndI, am_ndR, am_ndL, va_rfS, true_and, and_true, Option.toList_some, Option.toList_none, List.cons_append, List.nil_append, Nat.reduceAdd, Nat.reduceLeDiff, Nat.zero_add, Nat.le_refl, rw_mrg, ite_Q, ite_bN, ite_bN', ib_0b, ib_b0, ib_1b, ib_b1, bN_0, bN_n0, bN_01T, nI1_0, nI0_0, nI01a, nI01b, bN_1, no_or, true_or, or_true, false_or, or_false, ite_not, if_true, if_false, Decidable.not_not, Int32.le_refl, abR]
  | succ k ih =>
    intro u met h hm
    have h1 := hw.1
    rw [r86_15]
    by_cases hb : met.testBit u = true
    · simp (disch := omega) only [r86_0, r86_1, r86_2, r86_3, r86_4, r86_5, r86_6, r86_7, r86_9, r86_12, r86_13, r86_17, r86_19, r86_22, r86_23, r86_25, r86_26, r86_27, r86_28, r86_29, r86_32, r86_33, r86_34, r86_37, r86_39, r86_40, r86_41, r86_44, r86_45, r86_46, r86_47, r86_50, r86_56, r86_59, r86_60, r86_61, r86_62, r86_63, r86_64, r86_65, r86_66, am_cat0, am_catI, am_catR, am_catD, am_ndI, am_ndR, am_ndL, va_rfS, true_and, and_true, Option.toList_some, Option.toList_none, List.cons_append, List.nil_append, Nat.reduceAdd, Nat.reduceLeDiff, Nat.zero_add, Nat.le_refl, rw_mrg, ite_Q, ite_bN, ite_bN', ib_0b, ib_b0, ib_1b, ib_b1, bN_0, bN_n0, bN_01T, nI1_0, nI0_0, nI01a, nI01b, bN_1, no_or, true_or, or_true, false_or, or_false, ite_not, if_true, if_false, Decidable.not_not, b0, f3, d3, am_bd, bd_n, nI_tn, nx_le, nx_tb, hb, bUp_e M q, bTh_e M q, nx_and, nx_or, nI_add, Nat.not_le.mpr (show u < 8 by omega), am_ndI]
      have h2 := ih (u + 1) (abStep M q u met) (by omega) (abStep_lt hw hm)
      simp only [abStep, hb, if_true] at h2
      simp only [abR, abStep, hb, if_true]
      exact h2
    · simp (disch := omega) only [r86_0, r86_1, r86_2, r86_3, r86_4, r86_5, r86_6, r86_7, r86_9, r86_12, r86_13, r86_17, r86_19, r86_22, r86_23, r86_25, r86_26, r86_27, r86_28, r86_29, r86_32, r86_33, r86_34, r86_37, r86_39, r86_40, r86_41, r86_44, r86_45, r86_46, r86_47, r86_50, r86_56, r86_59, r86_60, r86_61, r86_62, r86_63, r86_64, r86_65, r86_66, am_cat0, am_catI, am_catR, am_catD, am_ndI, am_ndR, am_ndL, va_rfS, true_and, and_true, Option.toList_some, Option.toList_none, List.cons_append, List.nil_append, Nat.reduceAdd, Nat.reduceLeDiff, Nat.zero_add, Nat.le_refl, rw_mrg, ite_Q, ite_bN, ite_bN', ib_0b, ib_b0, ib_1b, ib_b1, bN_0, bN_n0, bN_01T, nI1_0, nI0_0, nI01a, nI01b, bN_1, no_or, true_or, or_true, false_or, or_false, ite_not, if_true, if_false, Decidable.not_not, nx_le, nx_tb, hb, nI_01n, nI_add, Nat.not_le.mpr (show u < 8 by omega), am_ndI, not_false_eq_true]
      have h2 := ih (u + 1) (abStep M q u met) (by omega) (abStep_lt hw hm)
      simp only [abStep, hb, if_false] at h2
      simp only [abR, abStep, hb, if_false]
      exact h2
theorem c86o (hq : q = 2 ∨ q = 9) (hw : bW M q) {t : Nat} (ht : t < 8) : ∀ (k r met : Nat) (v : Value), r + k = 8 → met < 256 → (RR 86 6 [.ref q, .int (nI t), .int (nI met), .int (nI r), v] [] (SH, (0, 0, sl), M, D, RF) Q ↔ Q (some (.int (nI (andNot (abO M q k met) (2 ^ t))))) (SH, (0, 0, sl), M, D, RF)) := by
  intro k
  induction k with
  | zero =>
    intro r met v h hm
    have hu : r = 8 := by omega
    subst hu
    rw [r86_6]
    simp (disch := omega) only [r86_0, r86_1, r86_2, r86_3, r86_4, r86_5, r86_7, r86_9, r86_12, r86_13, r86_17, r86_19, r86_22, r86_23, r86_25, r86_26, r86_27, r86_28, r86_29, r86_32, r86_33, r86_34, r86_37, r86_39, r86_40, r86_41, r86_44, r86_45, r86_46, r86_47, r86_50, r86_53, r86_56, r86_59, r86_60, r86_61, r86_62, r86_63, r86_64, r86_65, r86_66, am_cat0, am_catI, am_catR, am_catD, am_ndI, am_ndR, am_ndL, va_rfS, true_and, and_true, Option.toList_some, Option.toList_none, List.cons_append, List.nil_append, Nat.reduceAdd, Nat.reduceLeDiff, Nat.zero_add, Nat.le_refl, rw_mrg, ite_Q, ite_bN, ite_bN', ib_0b, ib_b0, ib_1b, ib_b1, bN_0, bN_n0, bN_01T, nI1_0, nI0_0, nI01a, nI01b, bN_1, no_or, true_or, or_true, false_or, or_false, ite_not, if_true, if_false, Decidable.not_not, Int32.le_refl, abO, nx_1t, nx_an]
  | succ k ih =>
    intro r met v h hm
    rw [r86_6]
    simp (disch := omega) only [r86_0, r86_1, r86_2, r86_3, r86_4, r86_5, r86_7, r86_9, r86_12, r86_13, r86_17, r86_19, r86_22, r86_23, r86_25, r86_26, r86_27, r86_28, r86_29, r86_32, r86_33, r86_34, r86_37, r86_39, r86_40, r86_41, r86_44, r86_45, r86_46, r86_47, r86_50, r86_56, r86_59, r86_60, r86_61, r86_62, r86_63, r86_64, r86_65, r86_66, am_cat0, am_catI, am_catR, am_catD, am_ndI, am_ndR, am_ndL, va_rfS, true_and, and_true, Option.toList_some, Option.toList_none, List.cons_append, List.nil_append, Nat.reduceAdd, Nat.reduceLeDiff, Nat.zero_add, Nat.le_refl, rw_mrg, ite_Q, ite_bN, ite_bN', ib_0b, ib_b0, ib_1b, ib_b1, bN_0, bN_n0, bN_01T, nI1_0, nI0_0, nI01a, nI01b, bN_1, no_or, true_or, or_true, false_or, or_false, ite_not, if_true, if_false, Decidable.not_not, nx_le, Nat.not_le.mpr (show r < 8 by omega)]
    rw [c86i hq hw 8 0 met (by omega) hm]
    simp (disch := omega) only [r86_53, r86_56, am_ndI, nI_add]
    exact ih (r + 1) _ _ (by omega) (abR_lt hw _ _ _ hm)
theorem c86 (hq : q = 2 ∨ q = 9) (hw : bW M q) {t : Nat} (ht : t < 8) : RR 86 0 [.ref q, .int (nI t), .long 0, .long 0, .long 0] [] (SH, (0, 0, sl), M, D, RF) Q ↔ Q (some (.int (nI (bAb M q t)))) (SH, (0, 0, sl), M, D, RF) := by
  have h2 : 2 ^ t < 256 := Nat.pow_lt_pow_right (m := t) (n := 8) (by omega) ht
  simp (disch := omega) only [r86_0, r86_1, r86_2, r86_3, r86_4, r86_5, am_cat0, am_catI, am_catR, am_catD, am_ndI, am_ndR, am_ndL, va_rfS, true_and, and_true, Option.toList_some, Option.toList_none, List.cons_append, List.nil_append, Nat.reduceAdd, Nat.reduceLeDiff, Nat.zero_add, Nat.le_refl, nx_1t]
  exact c86o hq hw ht 8 0 _ _ (by omega) h2
theorem andNot_lt {a b n : Nat} (h : a < n) : andNot a b < n := Nat.lt_of_le_of_lt (andNot_le a b) h
theorem bAb_lt (hw : bW M q) {t : Nat} (ht : t < 8) : bAb M q t < 256 := andNot_lt (abO_lt hw _ _ (Nat.pow_lt_pow_right (m := t) (n := 8) (by omega) ht))
theorem c87o (hq : q = 2 ∨ q = 9) (hw : bW M q) {t : Int32} : ∀ (k u met : Nat), u + k = 8 → met < 256 → (RR 87 8 [.ref q, .int t, .int (nI met), .int (nI u)] [] (SH, (0, 0, sl), M, D, RF) Q ↔ Q (some (.int (nI (saR M q k u met)))) (SH, (0, 0, sl), M, D, RF)) := by
  intro k
  induction k with
  | zero =>
    intro u met h hm
    have hu : u = 8 := by omega
    subst hu
    rw [r87_8]
    simp (disch := omega) only [r87_0, r87_1, r87_2, r87_5, r87_6, r87_7, r87_9, r87_11, r87_14, r87_15, r87_16, r87_19, r87_22, r87_23, r87_24, r87_25, r87_26, r87_27, r87_28, r87_29, r87_30, r87_33, r87_36, r87_37, am_cat0, am_catI, am_catR, am_catD, am_ndI, am_ndR, am_ndL, va_rfS, true_and, and_true, Option.toList_some, Option.toList_none, List.cons_append, List.nil_append, Nat.reduceAdd, Nat.reduceLeDiff, Nat.zero_add, Nat.le_refl, rw_mrg, ite_Q, ite_bN, ite_bN', ib_0b, ib_b0, ib_1b, ib_b1, bN_0, bN_n0, bN_01T, nI1_0, nI0_0, nI01a, nI01b, bN_1, no_or, true_or, or_true, false_or, or_false, ite_not, if_true, if_false, Decidable.not_not, Int32.le_refl, saR]
  | succ k ih =>
    intro u met h hm
    rw [r87_8]
    by_cases hb0 : bSeen M q u
    · have hb := eq_true hb0
      simp (disch := first | assumption | omega) only [r87_0, r87_1, r87_2, r87_5, r87_6, r87_7, r87_9, r87_11, r87_14, r87_15, r87_16, r87_19, r87_22, r87_23, r87_24, r87_25, r87_26, r87_27, r87_28, r87_29, r87_30, r87_33, r87_36, r87_37, am_cat0, am_catI, am_catR, am_catD, am_ndI, am_ndR, am_ndL, va_rfS, true_and, and_true, Option.toList_some, Option.toList_none, List.cons_append, List.nil_append, Nat.reduceAdd, Nat.reduceLeDiff, Nat.zero_add, Nat.le_refl, rw_mrg, ite_Q, ite_bN, ite_bN', ib_0b, ib_b0, ib_1b, ib_b1, bN_0, bN_n0, bN_01T, nI1_0, nI0_0, nI01a, nI01b, bN_1, no_or, true_or, or_true, false_or, or_false, ite_not, if_true, if_false, Decidable.not_not, nx_le, Nat.not_le.mpr (show u < 8 by omega), c83, hb, nI_add, not_true_eq_false, (bdF hq).1]
      have h2 := ih (u + 1) met (by omega) hm
      rw [h2]
      simp only [saR, hb, if_true]
    · have hb := eq_false hb0
      simp (disch := first | assumption | omega) only [r87_0, r87_1, r87_2, r87_5, r87_6, r87_7, r87_9, r87_11, r87_14, r87_15, r87_16, r87_19, r87_22, r87_23, r87_24, r87_25, r87_26, r87_27, r87_28, r87_29, r87_30, r87_33, r87_36, r87_37, am_cat0, am_catI, am_catR, am_catD, am_ndI, am_ndR, am_ndL, va_rfS, true_and, and_true, Option.toList_some, Option.toList_none, List.cons_append, List.nil_append, Nat.reduceAdd, Nat.reduceLeDiff, Nat.zero_add, Nat.le_refl, rw_mrg, ite_Q, ite_bN, ite_bN', ib_0b, ib_b0, ib_1b, ib_b1, bN_0, bN_n0, bN_01T, nI1_0, nI0_0, nI01a, nI01b, bN_1, no_or, true_or, or_true, false_or, or_false, ite_not, if_true, if_false, Decidable.not_not, nx_le, Nat.not_le.mpr (show u < 8 by omega), c83, hb, nI_add, not_false_eq_true, (bdF hq).1, nx_1t, nx_an]
      have h2 := ih (u + 1) (andNot met (2 ^ u)) (by omega) (andNot_lt hm)
      rw [h2]
      simp only [saR, hb, if_false]
theorem c87 (hq : q = 2 ∨ q = 9) (hw : bW M q) {t : Nat} (ht : t < 8) : RR 87 0 [.ref q, .int (nI t), .long 0, .long 0] [] (SH, (0, 0, sl), M, D, RF) Q ↔ Q (some (.int (nI (bSa M q t)))) (SH, (0, 0, sl), M, D, RF) := by
  simp (disch := first | assumption | omega) only [r87_0, r87_1, r87_2, r87_5, r87_6, r87_7, am_cat0, am_catI, am_catR, am_catD, am_ndI, am_ndR, am_ndL, va_rfS, true_and, and_true, Option.toList_some, Option.toList_none, List.cons_append, List.nil_append, Nat.reduceAdd, Nat.reduceLeDiff, Nat.zero_add, Nat.le_refl, c86, (bdF hq).1]
  exact c87o hq hw 8 0 _ (by omega) (bAb_lt hw ht)
/-- how many are not -1 -/
def cntF (f : Nat → Int32) : Nat → Nat → Nat → Nat
  | 0, _, c => c
  | k + 1, i, c => cntF f k (i + 1) (if f i = -1 then c else c + 1)
theorem c81o (hq : q = 2 ∨ q = 9) : ∀ (k i c : Nat), i + k = 192 → c ≤ i → (RR 81 4 [.ref q, .int (nI c), .int (nI i)] [] (SH, (0, 0, sl), M, D, RF) Q ↔ Q (some (.int (nI (cntF (M (q + 4)) k i c)))) (SH, (0, 0, sl), M, D, RF)) := by
  obtain ⟨b0, ⟨f1, f2, f3, f4, f5, f6⟩, ⟨l1, l2, l3, l4, l5, l6⟩, d1, d2, d3, d4, d5⟩ := bdF hq
  intro k
  induction k with
  | zero =>
    intro i c h hc
    have hu : i = 192 := by omega
    subst hu
    rw [r81_4]
    simp (disch := omega) only [r81_0, r81_1, r81_2, r81_3, r81_5, r81_8, r81_11, r81_12, r81_15, r81_16, r81_17, r81_18, r81_21, r81_24, r81_27, r81_30, r81_31, am_cat0, am_catI, am_catR, am_catD, am_ndI, am_ndR, am_ndL, va_rfS, true_and, and_true, Option.toList_some, Option.toList_none, List.cons_append, List.nil_append, Nat.reduceAdd, Nat.reduceLeDiff, Nat.zero_add, Nat.le_refl, rw_mrg, ite_Q, ite_bN, ite_bN', ib_0b, ib_b0, ib_1b, ib_b1, bN_0, bN_n0, bN_01T, nI1_0, nI0_0, nI01a, nI01b, bN_1, no_or, true_or, or_true, false_or, or_false, ite_not, if_true, if_false, Decidable.not_not, Int32.le_refl, cntF]
  | succ k ih =>
    intro i c h hc
    rw [r81_4]
    by_cases hb : M (q + 4) i = -1
    · simp (disch := omega) only [r81_0, r81_1, r81_2, r81_3, r81_5, r81_8, r81_11, r81_12, r81_15, r81_16, r81_17, r81_18, r81_21, r81_24, r81_27, r81_30, r81_31, am_cat0, am_catI, am_catR, am_catD, am_ndI, am_ndR, am_ndL, va_rfS, true_and, and_true, Option.toList_some, Option.toList_none, List.cons_append, List.nil_append, Nat.reduceAdd, Nat.reduceLeDiff, Nat.zero_add, Nat.le_refl, rw_mrg, ite_Q, ite_bN, ite_bN', ib_0b, ib_b0, ib_1b, ib_b1, bN_0, bN_n0, bN_01T, nI1_0, nI0_0, nI01a, nI01b, bN_1, no_or, true_or, or_true, false_or, or_false, ite_not, if_true, if_false, Decidable.not_not, b0, f4, d4, am_bd, bd_n, nI_tn, nx_le, hb, nI_add, Nat.not_le.mpr (show i < 192 by omega)]
      rw [ih (i + 1) c (by omega) (by omega)]
      simp only [cntF, hb, if_true]
    · simp (disch := omega) only [r81_0, r81_1, r81_2, r81_3, r81_5, r81_8, r81_11, r81_12, r81_15, r81_16, r81_17, r81_18, r81_21, r81_24, r81_27, r81_30, r81_31, am_cat0, am_catI, am_catR, am_catD, am_ndI, am_ndR, am_ndL, va_rfS, true_and, and_true, Option.toList_some, Option.toList_none, List.cons_append, List.nil_append, Nat.reduceAdd, Nat.reduceLeDiff, Nat.zero_add, Nat.le_refl, rw_mrg, ite_Q, ite_bN, ite_bN', ib_0b, ib_b0, ib_1b, ib_b1, bN_0, bN_n0, bN_01T, nI1_0, nI0_0, nI01a, nI01b, bN_1, no_or, true_or, or_true, false_or, or_false, ite_not, if_true, if_false, Decidable.not_not, b0, f4, d4, am_bd, bd_n, nI_tn, nx_le, hb, nI_add, Nat.not_le.mpr (show i < 192 by omega)]
      rw [ih (i + 1) (c + 1) (by omega) (by omega)]
      simp only [cntF, hb, if_false]
theorem c81 (hq : q = 2 ∨ q = 9) : RR 81 0 [.ref q, .long 0, .long 0] [] (SH, (0, 0, sl), M, D, RF) Q ↔ Q (some (.int (nI (cntF (M (q + 4)) 192 0 0)))) (SH, (0, 0, sl), M, D, RF) := by
  simp only [r81_0, r81_1, r81_2, r81_3, am_cat0, am_catI, am_catR, am_catD, am_ndI, am_ndR, am_ndL, va_rfS, true_and, and_true, Option.toList_some, Option.toList_none, List.cons_append, List.nil_append, Nat.reduceAdd, Nat.reduceLeDiff, Nat.zero_add, Nat.le_refl]
  exact c81o hq 192 0 0 (by omega) (by omega)
/-- writes -/
def smM (M : Nat → Nat → Int32) (q t s : Nat) (mode : Int32) : Nat → Nat → Int32 := am_up (am_up M (q + 4) (t * 24 + s) mode) (q + 5) t (nI (andNot (bVa M q t) (2 ^ s)))
theorem c78 (hq : q = 2 ∨ q = 9) {t s : Nat} {mode : Int32} (ht : t < 8) (hs : s < 24) : RR 78 0 [.ref q, .int (nI t), .int (nI s), .int mode] [] (SH, (0, 0, sl), M, D, RF) Q ↔ Q none (SH, (0, 0, sl), smM M q t s mode, D, RF) := by
  obtain ⟨b0, ⟨f1, f2, f3, f4, f5, f6⟩, ⟨l1, l2, l3, l4, l5, l6⟩, d1, d2, d3, d4, d5⟩ := bdF hq
  simp (disch := omega) only [r78_0, r78_1, r78_4, r78_5, r78_7, r78_8, r78_9, r78_10, r78_11, r78_12, r78_13, r78_16, r78_17, r78_18, r78_19, r78_20, r78_21, r78_22, r78_23, r78_24, r78_25, r78_26, am_cat0, am_catI, am_catR, am_catD, am_ndI, am_ndR, am_ndL, va_rfS, true_and, and_true, Option.toList_some, Option.toList_none, List.cons_append, List.nil_append, Nat.reduceAdd, Nat.reduceLeDiff, Nat.zero_add, Nat.le_refl, b0, f4, f5, d5, l4, l5, am_bd, am_bs, bd_n, nI_tn, pk_mul, nI_add, up_q, bVa_e M q, nx_1t, nx_an, smM]
def scM (M : Nat → Nat → Int32) (q t s : Nat) : Nat → Nat → Int32 := am_up M (q + 5) t (nI (bVa M q t ||| 2 ^ s))
theorem c79 (hq : q = 2 ∨ q = 9) {t s : Nat} {v : UInt64} (ht : t < 8) (hs : s < 12) : RR 79 0 [.ref q, .int (nI t), .int (nI s), .double v, .long 0] [] (SH, (0, 0, sl), M, D, RF) Q ↔ Q none (SH, (0, 0, sl), scM M q t s, am_up D (q + 6) (t * 12 + s) v, RF) := by
  obtain ⟨b0, ⟨f1, f2, f3, f4, f5, f6⟩, ⟨l1, l2, l3, l4, l5, l6⟩, d1, d2, d3, d4, d5⟩ := bdF hq
  simp (disch := omega) only [r79_0, r79_1, r79_4, r79_5, r79_7, r79_8, r79_9, r79_10, r79_11, r79_12, r79_13, r79_16, r79_17, r79_18, r79_19, r79_20, r79_21, r79_22, r79_23, r79_24, am_cat0, am_catI, am_catR, am_catD, am_ndI, am_ndR, am_ndL, va_rfS, true_and, and_true, Option.toList_some, Option.toList_none, List.cons_append, List.nil_append, Nat.reduceAdd, Nat.reduceLeDiff, Nat.zero_add, Nat.le_refl, b0, f5, f6, d5, l5, l6, am_bd, am_bs, bd_n, nI_tn, pk_mul, nI_add, bVa_e M q, nx_1t, nx_or, scM]
def stM (M : Nat → Nat → Int32) (q t p u : Nat) : Nat → Nat → Int32 := am_up (am_up (am_up (am_up M q 0 (nI (bTh M q ||| 2 ^ t))) (q + 1) t (nI (p / 16))) (q + 2) t (nI (p % 16))) (q + 3) t (nI u)
theorem c76 (hq : q = 2 ∨ q = 9) {t p f u : Nat} {ab : Int32} (ht : t < 8) (hp : p < 48) (hab : (ab = -1 ∧ u = f) ∨ ∃ a, a < 8 ∧ ab = nI a ∧ u = f ||| 2 ^ a) : RR 76 0 [.ref q, .int (nI t), .int (nI p), .int ab, .int (nI f)] [] (SH, (0, 0, sl), M, D, RF) Q ↔ Q none (SH, (0, 0, sl), stM M q t p u, D, RF) := by
  obtain ⟨b0, ⟨f1, f2, f3, f4, f5, f6⟩, ⟨l1, l2, l3, l4, l5, l6⟩, d1, d2, d3, d4, d5⟩ := bdF hq
  rcases hab with ⟨rfl, rfl⟩ | ⟨a, ha, rfl, rfl⟩
  · simp (disch := omega) only [r76_0, r76_1, r76_1i, r76_2, r76_5, r76_6, r76_7, r76_8, r76_9, r76_12, r76_13, r76_16, r76_17, r76_18, r76_20, r76_21, r76_22, r76_23, r76_26, r76_27, r76_28, r76_30, r76_31, r76_32, r76_33, r76_36, r76_37, r76_38, r76_41, r76_43, r76_46, r76_48, r76_49, r76_50, r76_51, r76_52, r76_53, am_cat0, am_catI, am_catR, am_catD, am_ndI, am_ndR, am_ndL, va_rfS, true_and, and_true, Option.toList_some, Option.toList_none, List.cons_append, List.nil_append, Nat.reduceAdd, Nat.reduceLeDiff, Nat.zero_add, Nat.le_refl, rw_mrg, ite_Q, ite_bN, ite_bN', ib_0b, ib_b0, ib_1b, ib_b1, bN_0, bN_n0, bN_01T, nI1_0, nI0_0, nI01a, nI01b, bN_1, no_or, true_or, or_true, false_or, or_false, ite_not, if_true, if_false, Decidable.not_not, b0, f1, f2, f3, l1, l2, l3, am_bs, bd_n, nI_tn, bTh_e M q, nx_1t, nx_or, nx_dv, nx_rm2, nx_0, Nat.reduceEqDiff, not_false_eq_true, show ¬ (0 : Int32) ≤ -1 by decide, stM]
  · have h0 : (0 : Int32) ≤ nI a := nI_pos' (by omega)
    simp (disch := omega) only [r76_0, r76_1, r76_1i, r76_2, r76_5, r76_6, r76_7, r76_8, r76_9, r76_12, r76_13, r76_16, r76_17, r76_18, r76_20, r76_21, r76_22, r76_23, r76_26, r76_27, r76_28, r76_30, r76_31, r76_32, r76_33, r76_36, r76_37, r76_38, r76_41, r76_43, r76_46, r76_48, r76_49, r76_50, r76_51, r76_52, r76_53, am_cat0, am_catI, am_catR, am_catD, am_ndI, am_ndR, am_ndL, va_rfS, true_and, and_true, Option.toList_some, Option.toList_none, List.cons_append, List.nil_append, Nat.reduceAdd, Nat.reduceLeDiff, Nat.zero_add, Nat.le_refl, rw_mrg, ite_Q, ite_bN, ite_bN', ib_0b, ib_b0, ib_1b, ib_b1, bN_0, bN_n0, bN_01T, nI1_0, nI0_0, nI01a, nI01b, bN_1, no_or, true_or, or_true, false_or, or_false, ite_not, if_true, if_false, Decidable.not_not, b0, f1, f2, f3, l1, l2, l3, am_bs, bd_n, nI_tn, bTh_e M q, nx_1t, nx_or, nx_dv, nx_rm2, nx_0, Nat.reduceEqDiff, not_false_eq_true, h0, stM]
def drR (q t : Nat) : Nat → Nat → (Nat → Nat → Int32) → Nat → Nat → Int32
  | 0, _, M => M
  | k + 1, s, M => drR q t k (s + 1) (smM M q t s (-1))
theorem c77o (hq : q = 2 ∨ q = 9) {t : Nat} (ht : t < 8) : ∀ (k s : Nat) (M : Nat → Nat → Int32), s + k = 24 → (RR 77 16 [.ref q, .int (nI t), .int (nI s)] [] (SH, (0, 0, sl), M, D, RF) Q ↔ Q none (SH, (0, 0, sl), drR q t k s M, D, RF)) := by
  intro k
  induction k with
  | zero =>
    intro s M h
    have hu : s = 24 := by omega
    subst hu
    rw [r77_16]
    simp (disch := omega) only [r77_0, r77_1, r77_1i, r77_2, r77_5, r77_6, r77_7, r77_8, r77_9, r77_10, r77_11, r77_14, r77_15, r77_17, r77_19, r77_22, r77_23, r77_24, r77_25, r77_26, r77_29, r77_32, r77_35, am_cat0, am_catI, am_catR, am_catD, am_ndI, am_ndR, am_ndL, va_rfS, true_and, and_true, Option.toList_some, Option.toList_none, List.cons_append, List.nil_append, Nat.reduceAdd, Nat.reduceLeDiff, Nat.zero_add, Nat.le_refl, rw_mrg, ite_Q, ite_bN, ite_bN', ib_0b, ib_b0, ib_1b, ib_b1, bN_0, bN_n0, bN_01T, nI1_0, nI0_0, nI01a, nI01b, bN_1, no_or, true_or, or_true, false_or, or_false, ite_not, if_true, if_false, Decidable.not_not, Int32.le_refl, drR]
  | succ k ih =>
    intro s M h
    rw [r77_16]
    simp (disch := first | assumption | omega) only [r77_0, r77_1, r77_1i, r77_2, r77_5, r77_6, r77_7, r77_8, r77_9, r77_10, r77_11, r77_14, r77_15, r77_17, r77_19, r77_22, r77_23, r77_24, r77_25, r77_26, r77_29, r77_32, r77_35, am_cat0, am_catI, am_catR, am_catD, am_ndI, am_ndR, am_ndL, va_rfS, true_and, and_true, Option.toList_some, Option.toList_none, List.cons_append, List.nil_append, Nat.reduceAdd, Nat.reduceLeDiff, Nat.zero_add, Nat.le_refl, rw_mrg, ite_Q, ite_bN, ite_bN', ib_0b, ib_b0, ib_1b, ib_b1, bN_0, bN_n0, bN_01T, nI1_0, nI0_0, nI01a, nI01b, bN_1, no_or, true_or, or_true, false_or, or_false, ite_not, if_true, if_false, Decidable.not_not, nx_le, Nat.not_le.mpr (show s < 24 by omega), c78, nI_add, (bdF hq).1]
    rw [ih (s + 1) _ (by omega), drR]
theorem c77 (hq : q = 2 ∨ q = 9) {t : Nat} (ht : t < 8) : RR 77 0 [.ref q, .int (nI t), .long 0] [] (SH, (0, 0, sl), M, D, RF) Q ↔ Q none (SH, (0, 0, sl), drR q t 24 0 (am_up M q 0 (nI (andNot (bTh M q) (2 ^ t)))), D, RF) := by
  simp (disch := omega) only [r77_0, r77_1, r77_1i, r77_2, r77_5, r77_6, r77_7, r77_8, r77_9, r77_10, r77_11, r77_14, r77_15, r77_17, r77_19, r77_22, r77_23, r77_24, r77_25, r77_26, r77_29, r77_32, r77_35, am_cat0, am_catI, am_catR, am_catD, am_ndI, am_ndR, am_ndL, va_rfS, true_and, and_true, Option.toList_some, Option.toList_none, List.cons_append, List.nil_append, Nat.reduceAdd, Nat.reduceLeDiff, Nat.zero_add, Nat.le_refl, (bdF hq).1, bTh_e M q, nx_1t, nx_an]
  exact c77o hq ht 24 0 _ (by omega)
theorem rw_cpI {mi pc ix q0 q1 n : Nat} {L st : List Value} {b : Nat × Nat × Nat} {F : Nat → Nat → Option Nat} (hp : prog mi pc = some (.invokestatic ix, 3, [7])) (hn : n < 2 ^ 31) (h0 : S[q0]? = some (.inr (0, n))) (h1 : S[q1]? = some (.inr (0, n))) : RR mi pc L (.int (nI n) :: .int (nI 0) :: .ref q1 :: .int (nI 0) :: .ref q0 :: st) (S, b, M, D, F) Q ↔ am_cat st ≤ 8 ∧ RR mi (pc + 3) L st (S, b, am_cpy M q0 q1 0 0 n, D, F) Q := by
  refine rw_c hp ?_
  show am_copy (pc + 3) L (.int (nI n) :: .int (nI 0) :: .ref q1 :: .int (nI 0) :: .ref q0 :: st) (S, b, M, D, F) = _
  unfold am_copy
  dsimp only
  rw [h0, h1]
  have e0 : (nI 0).toInt = 0 := by decide
  have en : (nI n).toInt = (n : Int) := nI_toInt hn
  simp only [e0, en]
  by_cases hc : am_cat st ≤ 8
  · rw [if_pos ⟨hc, trivial, by omega, by omega, by omega, by omega, by omega⟩, if_pos hc]; rfl
  · rw [if_neg (fun z => hc z.1), if_neg hc]
theorem rw_cpD {mi pc ix q0 q1 n : Nat} {L st : List Value} {b : Nat × Nat × Nat} {F : Nat → Nat → Option Nat} (hp : prog mi pc = some (.invokestatic ix, 3, [7])) (hn : n < 2 ^ 31) (h0 : S[q0]? = some (.inr (3, n))) (h1 : S[q1]? = some (.inr (3, n))) : RR mi pc L (.int (nI n) :: .int (nI 0) :: .ref q1 :: .int (nI 0) :: .ref q0 :: st) (S, b, M, D, F) Q ↔ am_cat st ≤ 8 ∧ RR mi (pc + 3) L st (S, b, M, am_cpy D q0 q1 0 0 n, F) Q := by
  refine rw_c hp ?_
  show am_copy (pc + 3) L (.int (nI n) :: .int (nI 0) :: .ref q1 :: .int (nI 0) :: .ref q0 :: st) (S, b, M, D, F) = _
  unfold am_copy
  dsimp only
  rw [h0, h1]
  have e0 : (nI 0).toInt = 0 := by decide
  have en : (nI n).toInt = (n : Int) := nI_toInt hn
  simp only [e0, en]
  by_cases hc : am_cat st ≤ 8
  · rw [if_pos ⟨hc, trivial, by omega, by omega, by omega, by omega, by omega⟩, if_pos hc]; rfl
  · rw [if_neg (fun z => hc z.1), if_neg hc]
/-- NEW becomes as OLD -/
def beM (M : Nat → Nat → Int32) : Nat → Nat → Int32 := am_cpy (am_cpy (am_cpy (am_cpy (am_cpy (am_up M 9 0 (M 2 0)) 3 10 0 0 8) 4 11 0 0 8) 5 12 0 0 8) 6 13 0 0 192) 7 14 0 0 8
theorem c80 : RR 80 0 [.ref 9, .ref 2] [] (SH, (0, 0, sl), M, D, RF) Q ↔ Q none (SH, (0, 0, sl), beM M, am_cpy D 8 15 0 0 96, RF) := by
  simp (disch := decide) only [r80_0, r80_1, r80_2, r80_5, r80_8, r80_9, r80_12, r80_13, r80_14, r80_17, r80_18, r80_23, r80_24, r80_27, r80_28, r80_29, r80_32, r80_33, r80_38, r80_39, r80_42, r80_43, r80_44, r80_47, r80_48, r80_53, r80_54, r80_57, r80_58, r80_59, r80_62, r80_63, r80_69, r80_70, r80_73, r80_74, r80_75, r80_78, r80_79, r80_84, r80_85, r80_88, r80_89, r80_90, r80_93, r80_94, r80_99, am_cat0, am_catI, am_catR, am_catD, am_ndI, am_ndR, am_ndL, va_rfS, true_and, and_true, Option.toList_some, Option.toList_none, List.cons_append, List.nil_append, Nat.reduceAdd, Nat.reduceLeDiff, Nat.zero_add, Nat.le_refl, so2, so9, sf2_1, sf2_2, sf2_3, sf2_4, sf2_5, sf2_6, sf9_1, sf9_2, sf9_3, sf9_4, sf9_5, sf9_6, rw_cpI p80_20 (by decide) (S := SH) (q0 := 3) (q1 := 10) rfl rfl, rw_cpI p80_35 (by decide) (S := SH) (q0 := 4) (q1 := 11) rfl rfl, rw_cpI p80_50 (by decide) (S := SH) (q0 := 5) (q1 := 12) rfl rfl, rw_cpI p80_66 (by decide) (S := SH) (q0 := 6) (q1 := 13) rfl rfl, rw_cpI p80_81 (by decide) (S := SH) (q0 := 7) (q1 := 14) rfl rfl, rw_cpD p80_96 (by decide) (S := SH) (q0 := 8) (q1 := 15) rfl rfl, beM]
end CN
