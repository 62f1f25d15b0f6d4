/-! CONTRACTS: Name, Pattern, Rule, RuleBook, Listing -/
/-- the memory with a name written -/
def nzM (M : Nat → Nat → Int32) (l : List Nat) : Nat → Nat → Int32 := fun q k => if q = 46 ∧ k = 1 then nI l.length else if q = 47 ∧ k < l.length then nI (l.getD k 0) else M q k
theorem nzM_0 (M : Nat → Nat → Int32) : am_up M 46 1 (nI 0) = nzM M [] := by
  funext q k
  simp [nzM, am_up]
theorem nzM_1 (M : Nat → Nat → Int32) (l : List Nat) (c : Nat) : am_up (am_up (nzM M l) 47 l.length (nI c)) 46 1 (nI (l.length + 1)) = nzM M (l ++ [c]) := by
  funext q k
  simp only [am_up, nzM, List.length_append, List.length_singleton]
  by_cases h1 : q = 46 ∧ k = 1
  · rw [if_pos h1, if_pos h1]
  · rw [if_neg h1, if_neg h1]
    by_cases h2 : q = 47 ∧ k = l.length
    · obtain ⟨rfl, rfl⟩ := h2
      simp
    · rw [if_neg h2]
      by_cases h3 : q = 47 ∧ k < l.length
      · obtain ⟨rfl, h3⟩ := h3
        have h4 : k < l.length + 1 := by omega
        simp [h3, h4, List.getElem?_append_left h3]
      · have h4 : ¬ (q = 47 ∧ k < l.length + 1) := fun z => by
          by_cases e : k = l.length
          · exact h2 ⟨z.1, e⟩
          · exact h3 ⟨z.1, by omega⟩
        simp [h1, h3, h4]
theorem nzM_L (M : Nat → Nat → Int32) (l : List Nat) : nzM M l 46 1 = nI l.length := by simp [nzM]
theorem nzM_o {M : Nat → Nat → Int32} {l : List Nat} {q k : Nat} (h1 : q ≠ 46) (h2 : q ≠ 47) : nzM M l q k = M q k := by simp [nzM, h1, h2]
theorem nzM_nm (M : Nat → Nat → Int32) (l l2 : List Nat) : nzM (nzM M l) l2 46 1 = nI l2.length := by simp [nzM]
/-- what the name is -/
def nmIs (M : Nat → Nat → Int32) (l : List Nat) : Prop := M 46 1 = nI l.length ∧ (∀ i, i < l.length → M 47 i = nI (l.getD i 0)) ∧ l.length ≤ 15 ∧ ∀ i, i < l.length → l.getD i 0 < 128
theorem nmIs_z {M : Nat → Nat → Int32} {l : List Nat} (h : l.length ≤ 15) (h2 : ∀ i, i < l.length → l.getD i 0 < 128) : nmIs (nzM M l) l := ⟨nzM_L M l, fun i hi => by simp [nzM, hi], h, h2⟩
section CN
variable {Q : Option Value → amM → Prop} {μ : amM} {S : List (Nat ⊕ (Nat × Nat))} {M : Nat → Nat → Int32} {D : Nat → Nat → UInt64} {F : Nat → Nat → Option Nat} {sl : Nat}

theorem c122 {l : List Nat} {c : Nat} (hl : l.length < 15) (hc : c < 65536) : RR 122 0 [.ref 46, .int (nI c)] [] (SH, (0, 0, sl), nzM M l, D, RF) Q ↔ Q none (SH, (0, 0, sl), nzM M (l ++ [c]), D, RF) := by
  simp (disch := omega) only [r122_0, r122_1, r122_4, r122_6, r122_9, r122_10, r122_13, r122_14, r122_17, r122_18, r122_19, r122_20, r122_20i, r122_21, r122_24, r122_25, r122_26, r122_29, am_cat0, am_catI, am_catR, am_catD, am_ndI, am_ndR, am_ndL, va_rfS, true_and, and_true, Option.toList_some, Option.toList_none, List.cons_append, List.nil_append, Nat.reduceAdd, Nat.reduceLeDiff, Nat.zero_add, Nat.le_refl, rw_mrg, ite_Q, ite_bN, ite_bN', ib_0b, ib_b0, ib_1b, ib_b1, bN_0, bN_n0, bN_01T, nI1_0, nI0_0, nI01a, nI01b, bN_1, no_or, true_or, or_true, false_or, or_false, ite_not, if_true, if_false, Decidable.not_not, so46, sf46_0, nzM_L, nx_le, Nat.not_le.mpr (show l.length < 15 by omega), sl47, am_bs, bd_n, nI_tn, nx_nc, up_q, nI_add, nzM_1]
theorem c125 {l : List Nat} (h : nmIs M l) : RR 125 0 [.ref 46] [] (SH, (0, 0, sl), M, D, RF) Q ↔ Q (some (.int (nI l.length))) (SH, (0, 0, sl), M, D, RF) := by
  simp only [r125_0, r125_1, r125_4, am_cat0, am_catI, am_catR, am_catD, am_ndI, am_ndR, am_ndL, va_rfS, true_and, and_true, Option.toList_some, Option.toList_none, List.cons_append, List.nil_append, Nat.reduceAdd, Nat.reduceLeDiff, Nat.zero_add, Nat.le_refl, so46, h.1]
theorem c126 {l : List Nat} {i : Nat} (h : nmIs M l) (hi : i < l.length) : RR 126 0 [.ref 46, .int (nI i)] [] (SH, (0, 0, sl), M, D, RF) Q ↔ Q (some (.int (nI (l.getD i 0)))) (SH, (0, 0, sl), M, D, RF) := by
  have h1 := h.2.2.1
  have h2 := h.2.2.2 i hi
  simp (disch := omega) only [r126_0, r126_1, r126_4, r126_5, r126_6, am_cat0, am_catI, am_catR, am_catD, am_ndI, am_ndR, am_ndL, va_rfS, true_and, and_true, Option.toList_some, Option.toList_none, List.cons_append, List.nil_append, Nat.reduceAdd, Nat.reduceLeDiff, Nat.zero_add, Nat.le_refl, so46, sf46_0, sd47, am_bd, bd_n, nI_tn, h.2.1 i hi, nx_chr]
/-- the texts' ends: of a field, of a method -/
theorem c123 {s : Nat} (h : s < 12) : RR 123 0 [.int (nI s)] [] μ Q ↔ Q (some (.ref (1000001 + (3 + s % 3)))) μ := by
  have h3 : s % 3 = 0 ∨ s % 3 = 1 ∨ s % 3 = 2 := by omega
  have e : ¬ nI 3 = 0 := by decide
  simp (disch := omega) only [r123_0, r123_1, r123_2, nx_rm, e, not_false_eq_true, true_and]
  rcases h3 with h3 | h3 | h3
  · rw [h3, r123_3]
    have o : ((3 : Nat) : Int) + Op.lookupswitch.offset [(0, 25), (1, 28)] 31 (nI 0).toInt = 28 := by decide
    rw [o]
    simp only [show (28 : Int).toNat = 28 from rfl, r123_28, r123_30, r123_31, r123_33, r123_34, r123_36]
    simp
  · rw [h3, r123_3]
    have o : ((3 : Nat) : Int) + Op.lookupswitch.offset [(0, 25), (1, 28)] 31 (nI 1).toInt = 31 := by decide
    rw [o]
    simp only [show (31 : Int).toNat = 31 from rfl, r123_28, r123_30, r123_31, r123_33, r123_34, r123_36]
    simp
  · rw [h3, r123_3]
    have o : ((3 : Nat) : Int) + Op.lookupswitch.offset [(0, 25), (1, 28)] 31 (nI 2).toInt = 34 := by decide
    rw [o]
    simp only [show (34 : Int).toNat = 34 from rfl, r123_28, r123_30, r123_31, r123_33, r123_34, r123_36]
    simp
theorem c124 {s : Nat} (h : s < 12) : RR 124 0 [.int (nI s)] [] μ Q ↔ Q (some (.ref (1000001 + s % 3))) μ := by
  have h3 : s % 3 = 0 ∨ s % 3 = 1 ∨ s % 3 = 2 := by omega
  have e : ¬ nI 3 = 0 := by decide
  simp (disch := omega) only [r124_0, r124_1, r124_2, nx_rm, e, not_false_eq_true, true_and]
  rcases h3 with h3 | h3 | h3
  · rw [h3, r124_3]
    have o : ((3 : Nat) : Int) + Op.lookupswitch.offset [(0, 25), (1, 28)] 31 (nI 0).toInt = 28 := by decide
    rw [o]
    simp only [show (28 : Int).toNat = 28 from rfl, r124_28, r124_30, r124_31, r124_33, r124_34, r124_36]
    simp
  · rw [h3, r124_3]
    have o : ((3 : Nat) : Int) + Op.lookupswitch.offset [(0, 25), (1, 28)] 31 (nI 1).toInt = 31 := by decide
    rw [o]
    simp only [show (31 : Int).toNat = 31 from rfl, r124_28, r124_30, r124_31, r124_33, r124_34, r124_36]
    simp
  · rw [h3, r124_3]
    have o : ((3 : Nat) : Int) + Op.lookupswitch.offset [(0, 25), (1, 28)] 31 (nI 2).toInt = 34 := by decide
    rw [o]
    simp only [show (34 : Int).toNat = 34 from rfl, r124_28, r124_30, r124_31, r124_33, r124_34, r124_36]
    simp
theorem strs_ok : am_strs.length = 13 ∧ ∀ i, i < 13 → (am_strs.getD i []).length ≤ 12 ∧ ∀ j, j < (am_strs.getD i []).length → (am_strs.getD i []).getD j 0 < 128 := by
  refine ⟨rfl, ?_⟩
  decide
theorem drop_getD {l : List Nat} {j : Nat} (h : j < l.length) : [l.getD j 0] ++ l.drop (j + 1) = l.drop j := by
  rw [List.drop_eq_getElem_cons h, List.getD_eq_getElem?_getD, List.getElem?_eq_getElem h]
  rfl
/-- the loop over a text -/
theorem c121l {x1 x2 x3 : Int32} {i : Nat} (hi : i < 13) : ∀ (k j : Nat) (l : List Nat), j + k = (am_strs.getD i []).length → l.length + k ≤ 15 → (RR 121 83 [.ref 46, .int x1, .int x2, .int x3, .ref (1000001 + i), .int (nI j)] [] (SH, (0, 0, sl), nzM M l, D, RF) Q ↔ Q none (SH, (0, 0, sl), nzM M (l ++ (am_strs.getD i []).drop j), D, RF)) := by
  obtain ⟨hn, hs⟩ := strs_ok
  obtain ⟨hs1, hs2⟩ := hs i hi
  intro k
  induction k with
  | zero =>
    intro j l h hl
    have hj : j = (am_strs.getD i []).length := by omega
    rw [r121_83]
    simp (disch := omega) only [r121_85, r121_87, r121_90, r121_110, am_cat0, am_catI, am_catR, am_catD, am_ndI, am_ndR, am_ndL, va_rfS, true_and, and_true, Option.toList_some, Option.toList_none, List.cons_append, List.nil_append, Nat.reduceAdd, Nat.reduceLeDiff, Nat.zero_add, Nat.le_refl, rw_mrg, ite_Q, ite_bN, ite_bN', ib_0b, ib_b0, ib_1b, ib_b1, bN_0, bN_n0, bN_01T, nI1_0, nI0_0, nI01a, nI01b, bN_1, no_or, true_or, or_true, false_or, or_false, ite_not, if_true, if_false, Decidable.not_not, Nat.add_sub_cancel_left, hn, hi, Nat.le_add_right, nx_le, hj]
    rw [List.drop_length, List.append_nil]
  | succ k ih =>
    intro j l h hl
    have hj : j < (am_strs.getD i []).length := by omega
    have hc := hs2 j hj
    have hjt : (nI j).toInt = (j : Int) := nI_toInt (by omega)
    have hjn : (nI j).toInt.toNat = j := nI_tn (by omega)
    rw [r121_83]
    simp (disch := omega) only [r121_85, r121_87, r121_90, r121_93, r121_94, r121_96, r121_98, r121_101, r121_104, r121_107, am_cat0, am_catI, am_catR, am_catD, am_ndI, am_ndR, am_ndL, va_rfS, true_and, and_true, Option.toList_some, Option.toList_none, List.cons_append, List.nil_append, Nat.reduceAdd, Nat.reduceLeDiff, Nat.zero_add, Nat.le_refl, rw_mrg, ite_Q, ite_bN, ite_bN', ib_0b, ib_b0, ib_1b, ib_b1, bN_0, bN_n0, bN_01T, nI1_0, nI0_0, nI01a, nI01b, bN_1, no_or, true_or, or_true, false_or, or_false, ite_not, if_true, if_false, Decidable.not_not, Nat.add_sub_cancel_left, hn, hi, Nat.le_add_right, nx_le, Nat.not_le.mpr hj, hjn, c122, so46, nI_add]
    have e0 : (0 ≤ (nI j).toInt ∧ (nI j).toInt < ((am_strs.getD i []).length : Int)) := by rw [hjt]; omega
    simp only [e0, and_self, true_and]
    rw [ih (j + 1) _ (by omega) (by simp; omega)]
    rw [List.append_assoc]
    rw [drop_getD hj]
/-- the name of a type (m = 0) or of a member -/
def nmL (p t m : Nat) : List Nat := [97 + p, 46, 65 + t] ++ (if m = 0 then [] else [46, 97 + (m - 1) % 12 / 3] ++ am_strs.getD (if 12 < m then (m - 1) % 12 % 3 else 3 + (m - 1) % 12 % 3) [])
theorem c121 {p t m : Nat} {s : Int32} (hp : p < 8) (ht : t < 8) (hm : m < 25) (hs : (m = 0 ∧ s = -1) ∨ (m ≠ 0 ∧ s = nI (m - 1))) : RR 121 0 [.ref 46, .int (nI p), .int (nI t), .int s, .long 0, .long 0] [] (SH, (0, 0, sl), M, D, RF) Q ↔ Q none (SH, (0, 0, sl), nzM M (nmL p t m), D, RF) := by
  have e3 : ¬ nI 3 = 0 := by decide
  rcases hs with ⟨rfl, rfl⟩ | ⟨h0, rfl⟩
  · simp (disch := first | omega | decide | (simp only [List.length_append, List.length_cons, List.length_nil]; omega)) only [r121_0, r121_1, r121_2, r121_5, r121_6, r121_8, r121_9, r121_10, r121_11, r121_14, r121_15, r121_17, r121_20, r121_21, r121_23, r121_24, r121_25, r121_26, r121_29, r121_30, r121_31, r121_34, r121_35, r121_37, r121_40, r121_41, r121_43, r121_44, r121_47, r121_48, r121_49, r121_50, r121_51, r121_54, r121_55, r121_58, r121_61, r121_62, r121_65, r121_68, r121_71, r121_72, r121_75, r121_78, r121_80, r121_81, r121_85, r121_87, r121_90, r121_93, r121_94, r121_96, r121_98, r121_101, r121_104, r121_107, r121_110, am_cat0, am_catI, am_catR, am_catD, am_ndI, am_ndR, am_ndL, va_rfS, true_and, and_true, Option.toList_some, Option.toList_none, List.cons_append, List.nil_append, Nat.reduceAdd, Nat.reduceLeDiff, Nat.zero_add, Nat.le_refl, rw_mrg, ite_Q, ite_bN, ite_bN', ib_0b, ib_b0, ib_1b, ib_b1, bN_0, bN_n0, bN_01T, nI1_0, nI0_0, nI01a, nI01b, bN_1, no_or, true_or, or_true, false_or, or_false, ite_not, if_true, if_false, Decidable.not_not, so46, nzM_0, c122, nI_add, nx_i2c, List.cons_append, List.nil_append]
    simp [nmL]
  · by_cases hb : 12 < m
    · have hb2 : 12 ≤ m - 1 := by omega
      have hb3 := eq_true hb2
      simp (disch := first | omega | decide | (simp only [List.length_append, List.length_cons, List.length_nil]; omega)) only [r121_0, r121_1, r121_2, r121_5, r121_6, r121_8, r121_9, r121_10, r121_11, r121_14, r121_15, r121_17, r121_20, r121_21, r121_23, r121_24, r121_25, r121_26, r121_29, r121_30, r121_31, r121_34, r121_35, r121_37, r121_40, r121_41, r121_43, r121_44, r121_47, r121_48, r121_49, r121_50, r121_51, r121_54, r121_55, r121_58, r121_61, r121_62, r121_65, r121_68, r121_71, r121_72, r121_75, r121_78, r121_80, r121_81, r121_85, r121_87, r121_90, r121_93, r121_94, r121_96, r121_98, r121_101, r121_104, r121_107, r121_110, am_cat0, am_catI, am_catR, am_catD, am_ndI, am_ndR, am_ndL, va_rfS, true_and, and_true, Option.toList_some, Option.toList_none, List.cons_append, List.nil_append, Nat.reduceAdd, Nat.reduceLeDiff, Nat.zero_add, Nat.le_refl, rw_mrg, ite_Q, ite_bN, ite_bN', ib_0b, ib_b0, ib_1b, ib_b1, bN_0, bN_n0, bN_01T, nI1_0, nI0_0, nI01a, nI01b, bN_1, no_or, true_or, or_true, false_or, or_false, ite_not, if_true, if_false, Decidable.not_not, so46, nzM_0, c122, c124, c27, c28, hb3, nI_add, nx_i2c, nx_im1, nx_dv, e3, not_false_eq_true, not_true_eq_false, List.cons_append, List.nil_append]
      have hi : (m - 1) % 12 % 3 < 13 := by omega
      have hl := (strs_ok.2 _ hi).1
      have hl2 : (am_strs.getD ((m - 1) % 12 % 3) []).length ≤ 10 := by
        have : (m - 1) % 12 % 3 < 3 := by omega
        exact (by decide : ∀ i, i < 3 → (am_strs.getD i []).length ≤ 10) _ this
      rw [c121l hi (am_strs.getD ((m - 1) % 12 % 3) []).length 0 _ (by omega) (by show 5 + _ ≤ 15; omega)]
      simp [nmL, h0, hb]
    · have hb2 : ¬ 12 ≤ m - 1 := by omega
      have hb3 := eq_false hb2
      simp (disch := first | omega | decide | (simp only [List.length_append, List.length_cons, List.length_nil]; omega)) only [r121_0, r121_1, r121_2, r121_5, r121_6, r121_8, r121_9, r121_10, r121_11, r121_14, r121_15, r121_17, r121_20, r121_21, r121_23, r121_24, r121_25, r121_26, r121_29, r121_30, r121_31, r121_34, r121_35, r121_37, r121_40, r121_41, r121_43, r121_44, r121_47, r121_48, r121_49, r121_50, r121_51, r121_54, r121_55, r121_58, r121_61, r121_62, r121_65, r121_68, r121_71, r121_72, r121_75, r121_78, r121_80, r121_81, r121_85, r121_87, r121_90, r121_93, r121_94, r121_96, r121_98, r121_101, r121_104, r121_107, r121_110, am_cat0, am_catI, am_catR, am_catD, am_ndI, am_ndR, am_ndL, va_rfS, true_and, and_true, Option.toList_some, Option.toList_none, List.cons_append, List.nil_append, Nat.reduceAdd, Nat.reduceLeDiff, Nat.zero_add, Nat.le_refl, rw_mrg, ite_Q, ite_bN, ite_bN', ib_0b, ib_b0, ib_1b, ib_b1, bN_0, bN_n0, bN_01T, nI1_0, nI0_0, nI01a, nI01b, bN_1, no_or, true_or, or_true, false_or, or_false, ite_not, if_true, if_false, Decidable.not_not, so46, nzM_0, c122, c123, c27, c28, hb3, nI_add, nx_i2c, nx_im1, nx_dv, e3, not_false_eq_true, not_true_eq_false, List.cons_append, List.nil_append]
      have hi : 3 + (m - 1) % 12 % 3 < 13 := by omega
      have hl2 : (am_strs.getD (3 + (m - 1) % 12 % 3) []).length ≤ 10 := by
        have : (m - 1) % 12 % 3 < 3 := by omega
        exact (by decide : ∀ i, i < 3 → (am_strs.getD (3 + i) []).length ≤ 10) _ this
      rw [c121l hi (am_strs.getD (3 + (m - 1) % 12 % 3) []).length 0 _ (by omega) (by show 5 + _ ≤ 15; omega)]
      simp [nmL, h0, hb]
end CN
