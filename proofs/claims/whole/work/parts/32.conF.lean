/-! CONTRACTS: Comparison -/
/-- the memory with the listing's rows written -/
def liM (M : Nat → Nat → Int32) (R : List Nat) : Nat → Nat → Int32 := fun q k => if q = 16 ∧ k = 1 then nI R.length else if q = 17 ∧ k < R.length then nI (R.getD k 0) else M q k
theorem liM_0 (M : Nat → Nat → Int32) : am_up M 16 1 (nI 0) = liM M [] := by
  funext q k
  simp [liM, am_up]
theorem liM_1 (M : Nat → Nat → Int32) (l : List Nat) (c : Nat) : am_up (am_up (liM M l) 17 l.length (nI c)) 16 1 (nI (l.length + 1)) = liM M (l ++ [c]) := by
  funext q k
  simp only [am_up, liM, List.length_append, List.length_singleton]
  by_cases h1 : q = 16 ∧ k = 1
  · rw [if_pos h1, if_pos h1]
  · rw [if_neg h1, if_neg h1]
    by_cases h2 : q = 17 ∧ k = l.length
    · obtain ⟨rfl, rfl⟩ := h2
      simp
    · rw [if_neg h2]
      by_cases h3 : q = 17 ∧ k < l.length
      · obtain ⟨rfl, h3⟩ := h3
        have h4 : k < l.length + 1 := by omega
        simp [h3, h4, List.getElem?_append_left h3]
      · have h4 : ¬ (q = 17 ∧ k < l.length + 1) := fun z => by
          by_cases e : k = l.length
          · exact h2 ⟨z.1, e⟩
          · exact h3 ⟨z.1, by omega⟩
        simp [h1, h3, h4]
theorem liM_L (M : Nat → Nat → Int32) (l : List Nat) : liM M l 16 1 = nI l.length := by simp [liM]
theorem liM_o {M : Nat → Nat → Int32} {l : List Nat} {q k : Nat} (h1 : q ≠ 16) (h2 : q ≠ 17) : liM M l q k = M q k := by simp [liM, h1, h2]
theorem liM_f {M : Nat → Nat → Int32} {l : List Nat} {q : Nat} (h1 : q ≠ 16) (h2 : q ≠ 17) : liM M l q = M q := by funext k; exact liM_o h1 h2
section LI
variable {M : Nat → Nat → Int32} {R : List Nat} {q t s : Nat}
theorem li_n {q : Nat} (hq : q = 2 ∨ q = 9) : (q ≠ 16 ∧ q + 1 ≠ 16 ∧ q + 2 ≠ 16 ∧ q + 3 ≠ 16 ∧ q + 4 ≠ 16 ∧ q + 5 ≠ 16) ∧ (q ≠ 17 ∧ q + 1 ≠ 17 ∧ q + 2 ≠ 17 ∧ q + 3 ≠ 17 ∧ q + 4 ≠ 17 ∧ q + 5 ≠ 17) := by omega
theorem li_Th (hq : q = 2 ∨ q = 9) : bTh (liM M R) q = bTh M q := by unfold bTh; rw [liM_o (by omega) (by omega)]
theorem li_Pk (hq : q = 2 ∨ q = 9) : bPk (liM M R) q t = bPk M q t := by unfold bPk; rw [liM_o (by omega) (by omega)]
theorem li_Fl (hq : q = 2 ∨ q = 9) : bFl (liM M R) q t = bFl M q t := by unfold bFl; rw [liM_o (by omega) (by omega)]
theorem li_Up (hq : q = 2 ∨ q = 9) : bUp (liM M R) q t = bUp M q t := by unfold bUp; rw [liM_o (by omega) (by omega)]
theorem li_Va (hq : q = 2 ∨ q = 9) : bVa (liM M R) q t = bVa M q t := by unfold bVa; rw [liM_o (by omega) (by omega)]
theorem li_Mo (hq : q = 2 ∨ q = 9) : bMo (liM M R) q t s = bMo M q t s := by unfold bMo; rw [liM_o (by omega) (by omega)]
theorem li_Ha (hq : q = 2 ∨ q = 9) : bHas (liM M R) q t s = bHas M q t s := by unfold bHas; rw [liM_o (by omega) (by omega)]
theorem li_W (hq : q = 2 ∨ q = 9) (h : bW M q) : bW (liM M R) q := by
  refine ⟨by rw [li_Th hq]; exact h.1, fun t ht => ?_, fun k hk => ?_⟩
  · rw [li_Pk hq, li_Fl hq, li_Up hq, li_Va hq]; exact h.2.1 t ht
  · rw [liM_o (by omega) (by omega)]; exact h.2.2 k hk
theorem li_Se (hq : q = 2 ∨ q = 9) : bSeen (liM M R) q t = bSeen M q t := by unfold bSeen; rw [li_Th hq, li_Fl hq]
theorem li_Sh (hq : q = 2 ∨ q = 9) : bSh (liM M R) q t s = bSh M q t s := by unfold bSh; rw [li_Se hq, li_Ha hq, li_Mo hq, li_Fl hq]
theorem li_St (hq : q = 2 ∨ q = 9) {u met : Nat} : abStep (liM M R) q u met = abStep M q u met := by unfold abStep; rw [li_Up hq, li_Th hq]
theorem li_R (hq : q = 2 ∨ q = 9) : ∀ (k u met : Nat), abR (liM M R) q k u met = abR M q k u met := by
  intro k
  induction k with
  | zero => intro u met; rfl
  | succ k ih => intro u met; rw [abR, abR, ih, li_St hq]
theorem li_O (hq : q = 2 ∨ q = 9) : ∀ (n met : Nat), abO (liM M R) q n met = abO M q n met := by
  intro n
  induction n with
  | zero => intro met; rfl
  | succ n ih => intro met; rw [abO, abO, ih, li_R hq]
theorem li_Ab (hq : q = 2 ∨ q = 9) : bAb (liM M R) q t = bAb M q t := by unfold bAb; rw [li_O hq]
theorem li_sR (hq : q = 2 ∨ q = 9) : ∀ (k u met : Nat), saR (liM M R) q k u met = saR M q k u met := by
  intro k
  induction k with
  | zero => intro u met; rfl
  | succ k ih =>
    intro u met
    rw [saR, saR, ih]
    congr 1
    by_cases h : bSeen M q u
    · rw [if_pos h, if_pos (by rw [li_Se hq]; exact h)]
    · rw [if_neg h, if_neg (by rw [li_Se hq]; exact h)]
theorem li_Sa (hq : q = 2 ∨ q = 9) : bSa (liM M R) q t = bSa M q t := by unfold bSa; rw [li_sR hq, li_Ab hq]
end LI
/-- one row, or none -/
def oN (a : Prop) [Decidable a] (x : Nat × Nat) : List (Nat × Nat) := if a then [x] else []
def oR (a : Prop) [Decidable a] (r : Nat) : List Nat := if a then [r] else []
theorem oN_map {a : Prop} {h : Decidable a} {x : Nat × Nat} {f : Nat × Nat → Nat} : (@oN a h x).map f = @oR a h (f x) := by unfold oN oR; by_cases e : a <;> simp [e]
theorem oN_len {a : Prop} {h : Decidable a} {x : Nat × Nat} : (@oN a h x).length ≤ 1 := by unfold oN; by_cases e : a <;> simp [e]
/-- the row of a change of what is in OLD -/
def rwO (M : Nat → Nat → Int32) (t : Nat) (z : Nat × Nat) : Nat := rE 0 (bPk M 2 t) t 0 z.1 z.2
def rwN (M : Nat → Nat → Int32) (t : Nat) (z : Nat × Nat) : Nat := rE 0 (bPk M 9 t) t 0 z.1 z.2
def csO (M : Nat → Nat → Int32) (t : Nat) : List (Nat × Nat) := if bSeen M 2 t then [(if (bTh M 9).testBit t = true then 2 else 1, 0)] else []
def csN (M : Nat → Nat → Int32) (t : Nat) : List (Nat × Nat) := if bSeen M 2 t then [] else if bSeen M 9 t then [(3, 0)] else []
def ctL (M : Nat → Nat → Int32) (t : Nat) : List (Nat × Nat) := oN (¬ bPk M 2 t = bPk M 9 t) (4, 0) ++ oN ((andNot (bFl M 2 t) (bFl M 9 t) ||| andNot (bFl M 9 t) (bFl M 2 t)).testBit 1 = true) (5, 0) ++ oN ((andNot (bFl M 9 t) (bFl M 2 t)).testBit 2 = true) (6, 0) ++ oN ((andNot (bFl M 2 t) (bFl M 9 t)).testBit 2 = true) (7, 0) ++ oN ((andNot (bFl M 9 t) (bFl M 2 t)).testBit 3 = true) (8, 0) ++ oN ((andNot (bFl M 2 t) (bFl M 9 t)).testBit 3 = true) (9, 0) ++ oN (¬ andNot (bSa M 2 t) (bAb M 9 t) = 0) (10, 0) ++ oN (¬ andNot (bSa M 9 t) (bAb M 2 t) = 0) (11, 0)
section CN
variable {Q : Option Value → amM → Prop} {μ : amM} {S : List (Nat ⊕ (Nat × Nat))} {M : Nat → Nat → Int32} {D : Nat → Nat → UInt64} {F : Nat → Nat → Option Nat} {sl : Nat}
variable {R : List Nat}
theorem c95 {b : Nat} (hb : b < 2) : RR 95 0 [.ref 1, .int (nI b)] [] (SH, (0, 0, sl), M, D, RF) Q ↔ Q (some (.ref (if b = 0 then 2 else 9))) (SH, (0, 0, sl), M, D, RF) := by
  have h : b = 0 ∨ b = 1 := by omega
  rcases h with rfl | rfl
  · simp only [r95_0, r95_1, r95_4, r95_5, r95_8, r95_11, r95_12, r95_15, am_cat0, am_catI, am_catR, am_catD, am_ndI, am_ndR, am_ndL, va_rfS, true_and, and_true, Option.toList_some, Option.toList_none, List.cons_append, List.nil_append, Nat.reduceAdd, Nat.reduceLeDiff, Nat.zero_add, Nat.le_refl, rw_mrg, ite_Q, ite_bN, ite_bN', ib_0b, ib_b0, ib_1b, ib_b1, bN_0, bN_n0, bN_01T, nI1_0, nI0_0, nI01a, nI01b, bN_1, no_or, true_or, or_true, false_or, or_false, ite_not, if_true, if_false, Decidable.not_not, so1, sf1_0, sf1_1]
  · simp only [r95_0, r95_1, r95_4, r95_5, r95_8, r95_11, r95_12, r95_15, am_cat0, am_catI, am_catR, am_catD, am_ndI, am_ndR, am_ndL, va_rfS, true_and, and_true, Option.toList_some, Option.toList_none, List.cons_append, List.nil_append, Nat.reduceAdd, Nat.reduceLeDiff, Nat.zero_add, Nat.le_refl, rw_mrg, ite_Q, ite_bN, ite_bN', ib_0b, ib_b0, ib_1b, ib_b1, bN_0, bN_n0, bN_01T, nI1_0, nI0_0, nI01a, nI01b, bN_1, no_or, true_or, or_true, false_or, or_false, ite_not, if_true, if_false, Decidable.not_not, so1, sf1_0, sf1_1]
    simp
theorem c109l {c p t m : Nat} {s : Int32} (hn : R.length < 816) (hc : c < 64) (hp : p < 4) (ht : t < 8) (hm : m < 32) (hs : s + nI 1 = nI m) : RR 109 0 [.ref 16, .int (nI c), .int (nI p), .int (nI t), .int s] [] (SH, (0, 0, sl), liM M R, D, RF) Q ↔ Q none (SH, (0, 0, sl), liM M (R ++ [rE 0 p t 0 c m]), D, RF) := by
  rw [c109 (liM_L M R) hn hc hp ht hm hs, liM_1]
theorem c104 {a : Prop} {ha : Decidable a} {c t m : Nat} {s : Int32} (hw : bW M 2) (hc : c < 64) (ht : t < 8) (hm : m < 32) (hs : s + nI 1 = nI m) (hn : (R ++ @oR a ha (rwO M t (c, m))).length ≤ 816) : RR 104 0 [.ref 1, .int (@bN a ha), .int (nI c), .int (nI t), .int s] [] (SH, (0, 0, sl), liM M R, D, RF) Q ↔ Q none (SH, (0, 0, sl), liM M (R ++ @oR a ha (rwO M t (c, m))), D, RF) := by
  have hp := (hw.2.1 t ht).1
  unfold oR at hn ⊢
  by_cases h : a
  · rw [if_pos h] at hn ⊢
    have hn2 : R.length < 816 := by simp at hn; omega
    simp (disch := first | assumption | omega) only [r104_0, r104_1, r104_4, r104_5, r104_8, r104_9, r104_10, r104_13, r104_14, r104_17, r104_18, r104_20, r104_23, am_cat0, am_catI, am_catR, am_catD, am_ndI, am_ndR, am_ndL, va_rfS, true_and, and_true, Option.toList_some, Option.toList_none, List.cons_append, List.nil_append, Nat.reduceAdd, Nat.reduceLeDiff, Nat.zero_add, Nat.le_refl, rw_mrg, ite_Q, ite_bN, ite_bN', ib_0b, ib_b0, ib_1b, ib_b1, bN_0, bN_n0, bN_01T, nI1_0, nI0_0, nI01a, nI01b, bN_1, no_or, true_or, or_true, false_or, or_false, ite_not, if_true, if_false, Decidable.not_not, bN_t h, so1, sf1_2, sf1_0, so16, so2, c84 (Or.inl rfl), li_Pk (Or.inl rfl), c109l hn2 hc (show bPk M 2 t < 4 by omega) ht hm hs, rwO]
  · rw [if_neg h, List.append_nil]
    simp only [r104_0, r104_1, r104_4, r104_5, r104_8, r104_9, r104_10, r104_13, r104_14, r104_17, r104_18, r104_20, r104_23, am_cat0, am_catI, am_catR, am_catD, am_ndI, am_ndR, am_ndL, va_rfS, true_and, and_true, Option.toList_some, Option.toList_none, List.cons_append, List.nil_append, Nat.reduceAdd, Nat.reduceLeDiff, Nat.zero_add, Nat.le_refl, rw_mrg, ite_Q, ite_bN, ite_bN', ib_0b, ib_b0, ib_1b, ib_b1, bN_0, bN_n0, bN_01T, nI1_0, nI0_0, nI01a, nI01b, bN_1, no_or, true_or, or_true, false_or, or_false, ite_not, if_true, if_false, Decidable.not_not, bN_f h]
theorem c97 {t : Nat} (h2 : bW M 2) (h9 : bW M 9) (ht : t < 8) (hn : (R ++ (csO M t).map (rwO M t) ++ (csN M t).map (rwN M t)).length ≤ 816) : RR 97 0 [.ref 1, .int (nI t), .long 0] [] (SH, (0, 0, sl), liM M R, D, RF) Q ↔ Q none (SH, (0, 0, sl), liM M (R ++ (csO M t).map (rwO M t) ++ (csN M t).map (rwN M t)), D, RF) := by
  have hp2 := (h2.2.1 t ht).1
  have hp9 := (h9.2.1 t ht).1
  have hL2 := li_W (R := R) (Or.inl rfl) h2
  have hL9 := li_W (R := R) (Or.inr rfl) h9
  have es : (-1 : Int32) + nI 1 = nI 0 := by decide
  by_cases hs0 : bSeen M 2 t
  · have hs := eq_true hs0
    have e1 : csO M t = [(if (bTh M 9).testBit t = true then 2 else 1, 0)] := if_pos hs0
    have e2 : csN M t = [] := if_pos hs0
    rw [e1, e2] at hn ⊢
    have hn2 : R.length < 816 := by simp at hn; omega
    by_cases hT : (bTh M 9).testBit t = true
    · simp (disch := first | assumption | omega) only [r97_0, r97_1, r97_4, r97_5, r97_8, r97_11, r97_12, r97_15, r97_16, r97_19, r97_22, r97_23, r97_26, r97_27, r97_28, r97_29, r97_32, r97_33, r97_34, r97_37, r97_38, r97_41, r97_42, r97_43, r97_46, r97_49, r97_50, r97_53, r97_54, r97_57, r97_60, r97_61, r97_64, r97_65, r97_66, r97_69, r97_70, r97_73, r97_74, r97_75, r97_78, am_cat0, am_catI, am_catR, am_catD, am_ndI, am_ndR, am_ndL, va_rfS, true_and, and_true, Option.toList_some, Option.toList_none, List.cons_append, List.nil_append, Nat.reduceAdd, Nat.reduceLeDiff, Nat.zero_add, Nat.le_refl, rw_mrg, ite_Q, ite_bN, ite_bN', ib_0b, ib_b0, ib_1b, ib_b1, bN_0, bN_n0, bN_01T, nI1_0, nI0_0, nI01a, nI01b, bN_1, no_or, true_or, or_true, false_or, or_false, ite_not, if_true, if_false, Decidable.not_not, so1, sf1_0, sf1_1, sf1_2, so2, so9, so16, c83 (Or.inl rfl) hL2 ht, c82 (Or.inr rfl) hL9 ht, c84 (Or.inl rfl), li_Se (Or.inl rfl), li_Th (Or.inr rfl), li_Pk (Or.inl rfl), hs, hT, not_true_eq_false, not_false_eq_true, c109l hn2 (show 2 < 64 by decide) (show bPk M 2 t < 4 by omega) ht (show 0 < 32 by decide) es]
      simp [hT, rwO]
    · simp (disch := first | assumption | omega) only [r97_0, r97_1, r97_4, r97_5, r97_8, r97_11, r97_12, r97_15, r97_16, r97_19, r97_22, r97_23, r97_26, r97_27, r97_28, r97_29, r97_32, r97_33, r97_34, r97_37, r97_38, r97_41, r97_42, r97_43, r97_46, r97_49, r97_50, r97_53, r97_54, r97_57, r97_60, r97_61, r97_64, r97_65, r97_66, r97_69, r97_70, r97_73, r97_74, r97_75, r97_78, am_cat0, am_catI, am_catR, am_catD, am_ndI, am_ndR, am_ndL, va_rfS, true_and, and_true, Option.toList_some, Option.toList_none, List.cons_append, List.nil_append, Nat.reduceAdd, Nat.reduceLeDiff, Nat.zero_add, Nat.le_refl, rw_mrg, ite_Q, ite_bN, ite_bN', ib_0b, ib_b0, ib_1b, ib_b1, bN_0, bN_n0, bN_01T, nI1_0, nI0_0, nI01a, nI01b, bN_1, no_or, true_or, or_true, false_or, or_false, ite_not, if_true, if_false, Decidable.not_not, so1, sf1_0, sf1_1, sf1_2, so2, so9, so16, c83 (Or.inl rfl) hL2 ht, c82 (Or.inr rfl) hL9 ht, c84 (Or.inl rfl), li_Se (Or.inl rfl), li_Th (Or.inr rfl), li_Pk (Or.inl rfl), hs, hT, not_true_eq_false, not_false_eq_true, c109l hn2 (show 1 < 64 by decide) (show bPk M 2 t < 4 by omega) ht (show 0 < 32 by decide) es]
      simp [hT, rwO]
  · have hs := eq_false hs0
    have e1 : csO M t = [] := if_neg hs0
    have e2 : csN M t = if bSeen M 9 t then [(3, 0)] else [] := if_neg hs0
    rw [e1, e2] at hn ⊢
    by_cases hN0 : bSeen M 9 t
    · have hN := eq_true hN0
      rw [if_pos hN0] at hn ⊢
      have hn2 : R.length < 816 := by simp at hn; omega
      simp (disch := first | assumption | omega) only [r97_0, r97_1, r97_4, r97_5, r97_8, r97_11, r97_12, r97_15, r97_16, r97_19, r97_22, r97_23, r97_26, r97_27, r97_28, r97_29, r97_32, r97_33, r97_34, r97_37, r97_38, r97_41, r97_42, r97_43, r97_46, r97_49, r97_50, r97_53, r97_54, r97_57, r97_60, r97_61, r97_64, r97_65, r97_66, r97_69, r97_70, r97_73, r97_74, r97_75, r97_78, am_cat0, am_catI, am_catR, am_catD, am_ndI, am_ndR, am_ndL, va_rfS, true_and, and_true, Option.toList_some, Option.toList_none, List.cons_append, List.nil_append, Nat.reduceAdd, Nat.reduceLeDiff, Nat.zero_add, Nat.le_refl, rw_mrg, ite_Q, ite_bN, ite_bN', ib_0b, ib_b0, ib_1b, ib_b1, bN_0, bN_n0, bN_01T, nI1_0, nI0_0, nI01a, nI01b, bN_1, no_or, true_or, or_true, false_or, or_false, ite_not, if_true, if_false, Decidable.not_not, so1, sf1_0, sf1_1, sf1_2, so2, so9, so16, c83 (Or.inl rfl) hL2 ht, c83 (Or.inr rfl) hL9 ht, c84 (Or.inr rfl), li_Se (Or.inl rfl), li_Se (Or.inr rfl), li_Pk (Or.inr rfl), hs, hN, not_true_eq_false, not_false_eq_true, c109l hn2 (show 3 < 64 by decide) (show bPk M 9 t < 4 by omega) ht (show 0 < 32 by decide) es]
      simp [rwN]
    · have hN := eq_false hN0
      rw [if_neg hN0] at hn ⊢
      simp (disch := first | assumption | omega) only [r97_0, r97_1, r97_4, r97_5, r97_8, r97_11, r97_12, r97_15, r97_16, r97_19, r97_22, r97_23, r97_26, r97_27, r97_28, r97_29, r97_32, r97_33, r97_34, r97_37, r97_38, r97_41, r97_42, r97_43, r97_46, r97_49, r97_50, r97_53, r97_54, r97_57, r97_60, r97_61, r97_64, r97_65, r97_66, r97_69, r97_70, r97_73, r97_74, r97_75, r97_78, am_cat0, am_catI, am_catR, am_catD, am_ndI, am_ndR, am_ndL, va_rfS, true_and, and_true, Option.toList_some, Option.toList_none, List.cons_append, List.nil_append, Nat.reduceAdd, Nat.reduceLeDiff, Nat.zero_add, Nat.le_refl, rw_mrg, ite_Q, ite_bN, ite_bN', ib_0b, ib_b0, ib_1b, ib_b1, bN_0, bN_n0, bN_01T, nI1_0, nI0_0, nI01a, nI01b, bN_1, no_or, true_or, or_true, false_or, or_false, ite_not, if_true, if_false, Decidable.not_not, so1, sf1_0, sf1_1, sf1_2, so2, so9, so16, c83 (Or.inl rfl) hL2 ht, c83 (Or.inr rfl) hL9 ht, li_Se (Or.inl rfl), li_Se (Or.inr rfl), hs, hN, not_true_eq_false, not_false_eq_true]
      simp
theorem ct_len (M : Nat → Nat → Int32) (t : Nat) : (ctL M t).length ≤ 8 := by
  unfold ctL
  simp only [List.length_append]
  have h := fun (a : Prop) (ha : Decidable a) (x : Nat × Nat) => @oN_len a ha x
  have h1 := h (¬ bPk M 2 t = bPk M 9 t) inferInstance (4, 0)
  have h2 := h ((andNot (bFl M 2 t) (bFl M 9 t) ||| andNot (bFl M 9 t) (bFl M 2 t)).testBit 1 = true) inferInstance (5, 0)
  have h3 := h ((andNot (bFl M 9 t) (bFl M 2 t)).testBit 2 = true) inferInstance (6, 0)
  have h4 := h ((andNot (bFl M 2 t) (bFl M 9 t)).testBit 2 = true) inferInstance (7, 0)
  have h5 := h ((andNot (bFl M 9 t) (bFl M 2 t)).testBit 3 = true) inferInstance (8, 0)
  have h6 := h ((andNot (bFl M 2 t) (bFl M 9 t)).testBit 3 = true) inferInstance (9, 0)
  have h7 := h (¬ andNot (bSa M 2 t) (bAb M 9 t) = 0) inferInstance (10, 0)
  have h8 := h (¬ andNot (bSa M 9 t) (bAb M 2 t) = 0) inferInstance (11, 0)
  omega
theorem bSa_le (M : Nat → Nat → Int32) (q : Nat) : ∀ (k u met : Nat), saR M q k u met ≤ met := by
  intro k
  induction k with
  | zero => intro u met; exact Nat.le_refl _
  | succ k ih =>
    intro u met
    rw [saR]
    refine Nat.le_trans (ih _ _) ?_
    by_cases h : bSeen M q u
    · rw [if_pos h]; exact Nat.le_refl _
    · rw [if_neg h]; exact andNot_le _ _
end CN
