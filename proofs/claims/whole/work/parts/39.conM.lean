/-! THE REPORT'S LOOPS; the desk's calls on the list -/
theorem ls_p {M : Nat → Nat → Int32} {T : List Nat} {L : List En} (h : lsC M L) : lsC (puT M T) L := Pr_ls (Pr_T M T) h
theorem ls_z {M : Nat → Nat → Int32} {l : List Nat} {L : List En} (h : lsC M L) : lsC (nzM M l) L := Pr_ls (Pr_z M l) h
theorem puM_e (M : Nat → Nat → Int32) (c : Nat) : puM M c = puT M [c] := rfl
section CN
variable {Q : Option Value → amM → Prop} {μ : amM} {S : List (Nat ⊕ (Nat × Nat))} {M : Nat → Nat → Int32} {D : Nat → Nat → UInt64} {F : Nat → Nat → Option Nat} {sl : Nat}

theorem c139o {L : List En} : ∀ (j k : Nat) (M : Nat → Nat → Int32), lsC M L → k + j = L.length → RR 139 2 [.ref 48, .ref 16, .ref 46, .int (nI k)] [] (SH, (0, 0, sl), M, D, RF) (fun rv μ' => rv = none ∧ ∃ M', μ' = (SH, (0, 0, sl), M', D, RF) ∧ Pr M M' (lnA (L.drop k) ++ (dgL (cnE 3 L) ++ ([32] ++ (dgL (cnE 2 L) ++ ([32] ++ dgL (cnE 1 L))))))) := by
  intro j
  induction j with
  | zero =>
    intro k M h hk
    have e : k = L.length := by omega
    subst e
    have hL := h.2.1
    have q3 := cnE_le 3 L
    have q2 := cnE_le 2 L
    have q1 := cnE_le 1 L
    rw [r139_2]
    simp only [r139_3, r139_4, r139_7, r139_66, r139_67, r139_68, r139_69, am_cat0, am_catI, am_catR, am_catD, am_ndI, am_ndR, am_ndL, va_rfS, true_and, and_true, Option.toList_some, Option.toList_none, List.cons_append, List.nil_append, Nat.reduceAdd, Nat.reduceLeDiff, Nat.zero_add, Nat.le_refl, so16, so48, c107, h.1, Int32.le_refl, if_true, c118 h (show 3 < 4 by decide), r139_72, c145 (show cnE 3 L < 10000 by omega), r139_75, r139_76, r139_78, c142, puM_e, puT_a]
    simp only [r139_81, r139_82, r139_83, r139_84, am_cat0, am_catI, am_catR, am_catD, am_ndI, am_ndR, am_ndL, va_rfS, true_and, and_true, Option.toList_some, Option.toList_none, List.cons_append, List.nil_append, Nat.reduceAdd, Nat.reduceLeDiff, Nat.zero_add, Nat.le_refl, so16, so48, c118 (ls_p h) (show 2 < 4 by decide), r139_87, c145 (show cnE 2 L < 10000 by omega), r139_90, r139_91, r139_93, c142, puM_e, puT_a]
    simp only [r139_96, r139_97, r139_98, r139_99, am_cat0, am_catI, am_catR, am_catD, am_ndI, am_ndR, am_ndL, va_rfS, true_and, and_true, Option.toList_some, Option.toList_none, List.cons_append, List.nil_append, Nat.reduceAdd, Nat.reduceLeDiff, Nat.zero_add, Nat.le_refl, so16, so48, c118 (ls_p h) (show 1 < 4 by decide), r139_102, c145 (show cnE 1 L < 10000 by omega), r139_105, puT_a]
    refine ⟨_, rfl, ?_⟩
    rw [List.drop_length]
    have h2 := Pr_T M (dgL (cnE 3 L) ++ [32] ++ dgL (cnE 2 L) ++ [32] ++ dgL (cnE 1 L))
    simpa only [lnA, List.nil_append, List.append_assoc, List.cons_append] using h2
  | succ j ih =>
    intro k M h hk
    have hl : k < L.length := by omega
    have hL := h.2.1
    obtain ⟨-, hx, -, -⟩ := lsC_k h hl
    obtain ⟨a1, a2, a3, a4, a5, a6, a7⟩ := hx
    obtain ⟨n1, n2⟩ := nmL_ok _ (show (L.getD k e0).2.1 < 4 by omega) _ a4 _ a5
    rw [r139_2]
    simp (disch := omega) only [r139_3, r139_4, r139_7, am_cat0, am_catI, am_catR, am_catD, am_ndI, am_ndR, am_ndL, va_rfS, true_and, and_true, Option.toList_some, Option.toList_none, List.cons_append, List.nil_append, Nat.reduceAdd, Nat.reduceLeDiff, Nat.zero_add, Nat.le_refl, so16, c107, h.1, nx_le, Nat.not_le.mpr hl, if_false, r139_10, r139_11, r139_12, r139_13, w_k h hl, r139_16, c141 (show (L.getD k e0).1 < 4 by omega), r139_19, so48, c142, puM_e, puT_a, r139_22, r139_23, r139_25, r139_28, r139_29, r139_30, r139_31, List.cons_append, List.nil_append]
    have h1 : lsC (puT M [soC (L.getD k e0).1, 32]) L := ls_p h
    simp only [n_k h1 hl, am_cat0, am_catI, am_catR, am_catD, am_ndI, am_ndR, am_ndL, va_rfS, true_and, and_true, Option.toList_some, Option.toList_none, List.cons_append, List.nil_append, Nat.reduceAdd, Nat.reduceLeDiff, Nat.zero_add, Nat.le_refl, r139_34, r139_35, r139_36, so48, so46, c144 (nmIs_z n1 n2), r139_39, r139_40, r139_42, c142, puM_e, puT_a]
    have h2 := fun T => ls_p (T := T) (ls_z (l := nmL (L.getD k e0).2.1 (L.getD k e0).2.2.1 (L.getD k e0).2.2.2.1) h1)
    simp only [r139_45, r139_46, r139_47, r139_48, am_cat0, am_catI, am_catR, am_catD, am_ndI, am_ndR, am_ndL, va_rfS, true_and, and_true, Option.toList_some, Option.toList_none, List.cons_append, List.nil_append, Nat.reduceAdd, Nat.reduceLeDiff, Nat.zero_add, Nat.le_refl, so16, c_k (h2 _) hl, r139_51, so48, c145 (show (L.getD k e0).2.2.2.2 < 10000 by omega), r139_54, r139_55, r139_57, c142, puM_e, puT_a, r139_60, r139_63, nI_add, am_ndR]
    refine RR.imp (ih (k + 1) _ (h2 _) (by omega)) ?_
    rintro rv μ' ⟨rfl, M', rfl, h3⟩
    refine ⟨rfl, M', rfl, ?_⟩
    have h4 := Pr_t (Pr_t (Pr_t (Pr_T M [soC (L.getD k e0).1, 32]) (Pr_z _ (nmL (L.getD k e0).2.1 (L.getD k e0).2.2.1 (L.getD k e0).2.2.2.1))) (Pr_T _ _)) h3
    rw [drop_e hl, lnA]
    simpa only [lnT, List.append_assoc, List.nil_append, List.append_nil, List.cons_append] using h4
theorem c139 {L : List En} (h : lsC M L) : RR 139 0 [.ref 48, .ref 16, .ref 46, .long 0] [] (SH, (0, 0, sl), M, D, RF) (fun rv μ' => rv = none ∧ ∃ M', μ' = (SH, (0, 0, sl), M', D, RF) ∧ Pr M M' (liT L)) := by
  simp only [r139_0, r139_1, am_cat0, am_catI, am_catR, am_catD, am_ndI, am_ndR, am_ndL, va_rfS, true_and, and_true, Option.toList_some, Option.toList_none, List.cons_append, List.nil_append, Nat.reduceAdd, Nat.reduceLeDiff, Nat.zero_add, Nat.le_refl, am_ndR]
  exact c139o L.length 0 M h (by omega)
theorem c140o {L : List En} {a : Nat} (ha : a < 2 ^ 30) (ha2 : a / 1000000 < 10000) : ∀ (j k : Nat) (M : Nat → Nat → Int32), lsC M L → k + j = L.length → RR 140 9 [.ref 48, .ref 16, .ref 46, .int (nI a), .int (nI k)] [] (SH, (0, 0, sl), M, D, RF) (fun rv μ' => rv = none ∧ ∃ M', μ' = (SH, (0, 0, sl), M', D, RF) ∧ Pr M M' (jsA k (L.drop k) ++ jsE a)) := by
  intro j
  induction j with
  | zero =>
    intro k M h hk
    have e : k = L.length := by omega
    subst e
    have hL := h.2.1
    have e6 : ¬ nI 1000000 = 0 := by decide
    have e3 : ¬ nI 1000 = 0 := by decide
    have hd : a / 1000 < 2 ^ 31 := by omega
    rw [r140_9]
    simp (disch := omega) only [r140_11, r140_12, r140_15, r140_90, r140_91, r140_93, r140_96, r140_97, r140_98, r140_100, r140_101, r140_104, r140_105, r140_107, r140_110, r140_111, r140_112, r140_115, r140_116, r140_119, r140_120, r140_123, r140_124, r140_126, r140_129, r140_130, r140_131, r140_134, r140_135, r140_138, r140_139, r140_141, r140_144, am_cat0, am_catI, am_catR, am_catD, am_ndI, am_ndR, am_ndL, va_rfS, true_and, and_true, Option.toList_some, Option.toList_none, List.cons_append, List.nil_append, Nat.reduceAdd, Nat.reduceLeDiff, Nat.zero_add, Nat.le_refl, so16, so48, c107, h.1, Int32.le_refl, if_true, c143 (show 11 < 13 by decide), c143 (show 12 < 13 by decide), e6, e3, not_false_eq_true, nx_dv, nx_rm2, c145 ha2, c145 (show a / 1000 % 1000 < 10000 by omega), c145 (show a % 1000 < 10000 by omega), c142, puM_e, puT_a]
    refine ⟨_, rfl, ?_⟩
    rw [List.drop_length]
    have h2 := Pr_T M (am_strs.getD 11 [] ++ dgL (a / 1000000) ++ [46] ++ dgL (a / 1000 % 1000) ++ [46] ++ dgL (a % 1000) ++ am_strs.getD 12 [])
    simpa only [jsA, jsE, List.nil_append, List.append_assoc, List.cons_append] using h2
  | succ j ih =>
    intro k M h hk
    have hl : k < L.length := by omega
    have hL := h.2.1
    obtain ⟨-, hx, -, -⟩ := lsC_k h hl
    obtain ⟨a1, a2, a3, a4, a5, a6, a7⟩ := hx
    obtain ⟨n1, n2⟩ := nmL_ok _ (show (L.getD k e0).2.1 < 4 by omega) _ a4 _ a5
    rw [r140_9]
    simp (disch := omega) only [r140_11, r140_12, r140_15, am_cat0, am_catI, am_catR, am_catD, am_ndI, am_ndR, am_ndL, va_rfS, true_and, and_true, Option.toList_some, Option.toList_none, List.cons_append, List.nil_append, Nat.reduceAdd, Nat.reduceLeDiff, Nat.zero_add, Nat.le_refl, so16, c107, h.1, nx_le, Nat.not_le.mpr hl, if_false, r140_18, r140_19]
    have hs : RR 140 21 [.ref 48, .ref 16, .ref 46, .int (nI a), .int (nI k)] [.int (nI k), .ref 48] (SH, (0, 0, sl), M, D, RF) (fun rv μ' => rv = none ∧ ∃ M', μ' = (SH, (0, 0, sl), M', D, RF) ∧ Pr M M' (jsA k (L.drop k) ++ jsE a)) ↔ RR 140 31 [.ref 48, .ref 16, .ref 46, .int (nI a), .int (nI k)] [.ref (1000001 + (if k = 0 then 7 else 8)), .ref 48] (SH, (0, 0, sl), M, D, RF) (fun rv μ' => rv = none ∧ ∃ M', μ' = (SH, (0, 0, sl), M', D, RF) ∧ Pr M M' (jsA k (L.drop k) ++ jsE a)) := by
      by_cases hk0 : k = 0
      · subst hk0
        simp only [r140_21, nI0_0, not_true_eq_false, if_false, r140_24, r140_26, if_true, Nat.reduceAdd]
      · have e : (nI k = 0) = False := eq_false (by rw [nx_0 (by omega)]; exact hk0)
        simp only [r140_21, e, not_false_eq_true, if_true, r140_29, hk0, if_false]
    rw [hs]
    have hi : (if k = 0 then 7 else 8) < 13 := by by_cases hk0 : k = 0 <;> simp [hk0]
    simp only [r140_31, am_cat0, am_catI, am_catR, am_catD, am_ndI, am_ndR, am_ndL, va_rfS, true_and, and_true, Option.toList_some, Option.toList_none, List.cons_append, List.nil_append, Nat.reduceAdd, Nat.reduceLeDiff, Nat.zero_add, Nat.le_refl, so48, c143 hi, r140_34, r140_35, r140_36, r140_38, so16, w_k (ls_p h) hl, r140_41, c145 (show (L.getD k e0).1 < 10000 by omega), puT_a, r140_44, r140_45, r140_47, c143 (show 9 < 13 by decide), r140_50, r140_51, r140_53, r140_54]
    have h1 := fun T => ls_p (T := T) h
    simp only [n_k (h1 _) hl, am_cat0, am_catI, am_catR, am_catD, am_ndI, am_ndR, am_ndL, va_rfS, true_and, and_true, Option.toList_some, Option.toList_none, List.cons_append, List.nil_append, Nat.reduceAdd, Nat.reduceLeDiff, Nat.zero_add, Nat.le_refl, r140_57, r140_58, r140_59, so48, so46, c144 (nmIs_z n1 n2), r140_62, r140_63, r140_65, c143 (show 10 < 13 by decide), puT_a]
    have h2 := fun T T' => ls_p (T := T) (ls_z (l := nmL (L.getD k e0).2.1 (L.getD k e0).2.2.1 (L.getD k e0).2.2.2.1) (h1 T'))
    simp only [r140_68, r140_69, r140_70, r140_72, am_cat0, am_catI, am_catR, am_catD, am_ndI, am_ndR, am_ndL, va_rfS, true_and, and_true, Option.toList_some, Option.toList_none, List.cons_append, List.nil_append, Nat.reduceAdd, Nat.reduceLeDiff, Nat.zero_add, Nat.le_refl, so16, c_k (h2 _ _) hl, r140_75, so48, c145 (show (L.getD k e0).2.2.2.2 < 10000 by omega), r140_78, r140_79, r140_81, c142, puM_e, puT_a, r140_84, r140_87, nI_add, am_ndI]
    refine RR.imp (ih (k + 1) _ (h2 _ _) (by omega)) ?_
    rintro rv μ' ⟨rfl, M', rfl, h3⟩
    refine ⟨rfl, M', rfl, ?_⟩
    have h4 := Pr_t (Pr_t (Pr_t (Pr_T M _) (Pr_z _ (nmL (L.getD k e0).2.1 (L.getD k e0).2.2.1 (L.getD k e0).2.2.2.1))) (Pr_T _ _)) h3
    rw [drop_e hl, jsA]
    simpa only [jsT, List.append_assoc, List.nil_append, List.append_nil, List.cons_append] using h4
theorem c140 {L : List En} {a : Nat} (ha : a < 2 ^ 30) (ha2 : a / 1000000 < 10000) (h : lsC M L) : RR 140 0 [.ref 48, .ref 16, .ref 46, .int (nI a), .long 0] [] (SH, (0, 0, sl), M, D, RF) (fun rv μ' => rv = none ∧ ∃ M', μ' = (SH, (0, 0, sl), M', D, RF) ∧ Pr M M' (jsO L a)) := by
  simp only [r140_0, r140_1, r140_3, r140_6, r140_7, am_cat0, am_catI, am_catR, am_catD, am_ndI, am_ndR, am_ndL, va_rfS, true_and, and_true, Option.toList_some, Option.toList_none, List.cons_append, List.nil_append, Nat.reduceAdd, Nat.reduceLeDiff, Nat.zero_add, Nat.le_refl, so48, c143 (show 6 < 13 by decide), am_ndI]
  refine RR.imp (c140o ha ha2 L.length 0 _ (ls_p h) (by omega)) ?_
  rintro rv μ' ⟨rfl, M', rfl, h3⟩
  refine ⟨rfl, M', rfl, ?_⟩
  have h4 := Pr_t (Pr_T M _) h3
  rw [List.drop_zero] at h4
  exact h4
/-- what a report answers -/
def rpA (k : Int32) (T : List Nat) : Int32 := if k = -1 then nI T.length else puF k T 0 (-2)
def agD (M M' : Nat → Nat → Int32) : Prop := ∀ q k, q ≠ 16 → q ≠ 17 → q ≠ 46 → q ≠ 47 → q ≠ 48 → M' q k = M q k
theorem avV_lt {V : Nat} {L : List En} (h : V < 1000000000) : avV V L < 2 ^ 30 ∧ avV V L / 1000000 < 10000 := by
  unfold avV
  by_cases h1 : 0 < cnE 3 L ∧ 1000000 ≤ V
  · rw [if_pos h1]; omega
  · rw [if_neg h1]
    by_cases h2 : 0 < cnE 3 L ∨ adB L = true
    · rw [if_pos h2]; omega
    · rw [if_neg h2]; omega
theorem c14 {P : Nat → List Nat} {n V : Nat} {j : Prop} {hj : Decidable j} {k : Int32} (h2 : bW M 2) (h9 : bW M 9) (hr : rlW M P n) (hV : M 0 5 = nI V) (hV2 : V < 1000000000) : RR 14 0 [.ref 0, .int (@bN j hj), .int k, .long 0] [] (SH, (0, 0, sl), M, D, RF) (fun rv μ' => rv = some (.int (rpA k (if j then jsO (wA M D P n) (avV V (wA M D P n)) else liT (wA M D P n)))) ∧ ∃ M', μ' = (SH, (0, 0, sl), M', D, RF) ∧ agD M M') := by
  simp only [r14_0, r14_1, am_cat0, am_catI, am_catR, am_catD, am_ndI, am_ndR, am_ndL, va_rfS, true_and, and_true, Option.toList_some, Option.toList_none, List.cons_append, List.nil_append, Nat.reduceAdd, Nat.reduceLeDiff, Nat.zero_add, Nat.le_refl, so0]
  refine RR.imp (c18 h2 h9 hr) ?_
  rintro rv μ' ⟨rfl, M1, rfl, h3, h4⟩
  generalize wA M D P n = L at *
  have hl : ∀ (x : Int32), lsC (am_up (am_up (am_up M1 48 0 k) 48 1 (nI 0)) 48 2 x) L := fun x => ⟨by rw [up_q (by decide), up_q (by decide), up_q (by decide)]; exact h3.1, h3.2.1, h3.2.2.1, fun k hk => by rw [up_q (by decide), up_q (by decide), up_q (by decide)]; exact h3.2.2.2 k hk⟩
  have hv : ∀ (x : Int32), am_up (am_up (am_up M1 48 0 k) 48 1 (nI 0)) 48 2 x 0 5 = nI V := fun x => by rw [up_q (by decide), up_q (by decide), up_q (by decide), h4 _ _ (by decide) (by decide) (by decide) (by decide)]; exact hV
  obtain ⟨v1, v2⟩ := avV_lt (L := L) hV2
  have fin : ∀ (T : List Nat) (M' : Nat → Nat → Int32), Pr (am_up (am_up (am_up M1 48 0 k) 48 1 (nI 0)) 48 2 (-2)) M' T → RR 14 49 [.ref 0, .int (@bN j hj), .int k, .ref 16] [] (SH, (0, 0, sl), M', D, RF) (fun rv μ' => rv = some (.int (rpA k T)) ∧ ∃ M', μ' = (SH, (0, 0, sl), M', D, RF) ∧ agD M M') := by
    intro T M' hp
    obtain ⟨p1, p2, p3⟩ := hp
    obtain ⟨p4, p5⟩ := p1 0 (by rw [up_k (by decide), up_s])
    rw [up_k (by decide), up_k (by decide), up_s, up_s] at p5
    rw [Nat.zero_add] at p4
    have hag : agD M M' := fun q k a b c d e => by
      rw [p3 q k e c d, up_q e, up_q e, up_q e]
      exact h4 q k a b c d
    by_cases hk : k = -1
    · simp only [r14_49, r14_50, r14_51, r14_54, r14_55, r14_58, r14_61, r14_71, am_cat0, am_catI, am_catR, am_catD, am_ndI, am_ndR, am_ndL, va_rfS, true_and, and_true, Option.toList_some, Option.toList_none, List.cons_append, List.nil_append, Nat.reduceAdd, Nat.reduceLeDiff, Nat.zero_add, Nat.le_refl, rw_mrg, ite_Q, ite_bN, ite_bN', ib_0b, ib_b0, ib_1b, ib_b1, bN_0, bN_n0, bN_01T, nI1_0, nI0_0, nI01a, nI01b, bN_1, no_or, true_or, or_true, false_or, or_false, ite_not, if_true, if_false, Decidable.not_not, so0, so48, sf0_4, c137, hk, p4]
      exact ⟨by rw [rpA, if_pos rfl], M', rfl, hag⟩
    · have hk' := eq_false hk
      have hk2 : ¬ k = nI 4294967295 := hk
      simp only [r14_49, r14_50, r14_51, r14_64, r14_65, r14_68, r14_71, am_cat0, am_catI, am_catR, am_catD, am_ndI, am_ndR, am_ndL, va_rfS, true_and, and_true, Option.toList_some, Option.toList_none, List.cons_append, List.nil_append, Nat.reduceAdd, Nat.reduceLeDiff, Nat.zero_add, Nat.le_refl, rw_mrg, ite_Q, ite_bN, ite_bN', ib_0b, ib_b0, ib_1b, ib_b1, bN_0, bN_n0, bN_01T, nI1_0, nI0_0, nI01a, nI01b, bN_1, no_or, true_or, or_true, false_or, or_false, ite_not, if_true, if_false, Decidable.not_not, so0, so48, sf0_4, c138, hk', p5, not_false_eq_true]
      exact ⟨by rw [rpA, if_neg hk], M', rfl, hag⟩
  by_cases hj0 : j
  · simp only [r14_4, r14_5, r14_6, r14_9, r14_10, r14_13, r14_14, r14_17, r14_18, r14_21, r14_22, r14_23, r14_26, r14_27, r14_28, r14_31, am_cat0, am_catI, am_catR, am_catD, am_ndI, am_ndR, am_ndL, va_rfS, true_and, and_true, Option.toList_some, Option.toList_none, List.cons_append, List.nil_append, Nat.reduceAdd, Nat.reduceLeDiff, Nat.zero_add, Nat.le_refl, rw_mrg, ite_Q, ite_bN, ite_bN', ib_0b, ib_b0, ib_1b, ib_b1, bN_0, bN_n0, bN_01T, nI1_0, nI0_0, nI01a, nI01b, bN_1, no_or, true_or, or_true, false_or, or_false, ite_not, if_true, if_false, Decidable.not_not, so0, so16, so46, so48, sf0_3, sf0_4, c136, bN_t hj0, c19 (hl _) (hv _) hV2, hj0]
    refine RR.imp (c140 v1 v2 (hl _)) ?_
    rintro rv μ' ⟨rfl, M', rfl, h5⟩
    have h6 := fin _ _ h5
    rw [bN_t hj0] at h6
    simp only [r14_34, am_cat0, am_catI, am_catR, am_catD, am_ndI, am_ndR, am_ndL, va_rfS, true_and, and_true, Option.toList_some, Option.toList_none, List.cons_append, List.nil_append, Nat.reduceAdd, Nat.reduceLeDiff, Nat.zero_add, Nat.le_refl]
    exact h6
  · simp only [r14_4, r14_5, r14_6, r14_9, r14_10, r14_13, r14_14, r14_37, r14_38, r14_41, r14_42, r14_43, r14_46, am_cat0, am_catI, am_catR, am_catD, am_ndI, am_ndR, am_ndL, va_rfS, true_and, and_true, Option.toList_some, Option.toList_none, List.cons_append, List.nil_append, Nat.reduceAdd, Nat.reduceLeDiff, Nat.zero_add, Nat.le_refl, rw_mrg, ite_Q, ite_bN, ite_bN', ib_0b, ib_b0, ib_1b, ib_b1, bN_0, bN_n0, bN_01T, nI1_0, nI0_0, nI01a, nI01b, bN_1, no_or, true_or, or_true, false_or, or_false, ite_not, if_true, if_false, Decidable.not_not, so0, so16, so46, so48, sf0_3, sf0_4, c136, bN_f hj0, hj0]
    refine RR.imp (c139 (hl _)) ?_
    rintro rv μ' ⟨rfl, M', rfl, h5⟩
    have h6 := fin _ _ h5
    rw [bN_f hj0] at h6
    exact ⟨rfl, h6⟩
theorem c11 {P : Nat → List Nat} {n : Nat} (h2 : bW M 2) (h9 : bW M 9) (hr : rlW M P n) : RR 11 0 [.ref 0] [] (SH, (0, 0, sl), M, D, RF) (fun rv μ' => rv = some (.int (nI (wA M D P n).length)) ∧ ∃ M', μ' = (SH, (0, 0, sl), M', D, RF) ∧ agD M M') := by
  simp only [r11_0, r11_1, am_cat0, am_catI, am_catR, am_catD, am_ndI, am_ndR, am_ndL, va_rfS, true_and, and_true, Option.toList_some, Option.toList_none, List.cons_append, List.nil_append, Nat.reduceAdd, Nat.reduceLeDiff, Nat.zero_add, Nat.le_refl, so0]
  refine RR.imp (c18 h2 h9 hr) ?_
  rintro rv μ' ⟨rfl, M1, rfl, h3, h4⟩
  simp only [r11_4, r11_7, am_cat0, am_catI, am_catR, am_catD, am_ndI, am_ndR, am_ndL, va_rfS, true_and, and_true, Option.toList_some, Option.toList_none, List.cons_append, List.nil_append, Nat.reduceAdd, Nat.reduceLeDiff, Nat.zero_add, Nat.le_refl, so16, c107, h3.1]
  exact ⟨M1, rfl, fun q k a b c d _ => h4 q k a b c d⟩
theorem c15 {P : Nat → List Nat} {n V : Nat} (h2 : bW M 2) (h9 : bW M 9) (hr : rlW M P n) (hV : M 0 5 = nI V) (hV2 : V < 1000000000) : RR 15 0 [.ref 0] [] (SH, (0, 0, sl), M, D, RF) (fun rv μ' => rv = some (.int (nI (avV V (wA M D P n)))) ∧ ∃ M', μ' = (SH, (0, 0, sl), M', D, RF) ∧ agD M M') := by
  simp only [r15_0, r15_1, r15_2, am_cat0, am_catI, am_catR, am_catD, am_ndI, am_ndR, am_ndL, va_rfS, true_and, and_true, Option.toList_some, Option.toList_none, List.cons_append, List.nil_append, Nat.reduceAdd, Nat.reduceLeDiff, Nat.zero_add, Nat.le_refl, so0]
  refine RR.imp (c18 h2 h9 hr) ?_
  rintro rv μ' ⟨rfl, M1, rfl, h3, h4⟩
  have hv : M1 0 5 = nI V := by rw [h4 _ _ (by decide) (by decide) (by decide) (by decide)]; exact hV
  simp only [r15_5, r15_8, am_cat0, am_catI, am_catR, am_catD, am_ndI, am_ndR, am_ndL, va_rfS, true_and, and_true, Option.toList_some, Option.toList_none, List.cons_append, List.nil_append, Nat.reduceAdd, Nat.reduceLeDiff, Nat.zero_add, Nat.le_refl, so0, so16, c19 h3 hv hV2]
  exact ⟨M1, rfl, fun q k a b c d _ => h4 q k a b c d⟩
/-- what judge answers -/
def juA (W V : Nat) (L : List En) : Nat := (if avV V L ≤ W then 0 else if V < W then 1 else 2) + (if 0 < cnE 3 L then 4 else 0) + (if 0 < cnE 2 L then 8 else 0)
theorem c16 {P : Nat → List Nat} {n V a b c : Nat} (ha : a < 1000) (hb : b < 1000) (hc : c < 1000) (h2 : bW M 2) (h9 : bW M 9) (hr : rlW M P n) (hV : M 0 5 = nI V) (hV2 : V < 1000000000) : RR 16 11 [.ref 0, .int (nI a), .int (nI b), .int (nI c), .long 0, .long 0, .long 0] [] (SH, (0, 0, sl), M, D, RF) (fun rv μ' => rv = some (.int (nI (juA (a * 1000000 + b * 1000 + c) V (wA M D P n)))) ∧ ∃ M', μ' = (SH, (0, 0, sl), M', D, RF) ∧ agD M M') := by
  simp only [r16_11, r16_12, am_cat0, am_catI, am_catR, am_catD, am_ndI, am_ndR, am_ndL, va_rfS, true_and, and_true, Option.toList_some, Option.toList_none, List.cons_append, List.nil_append, Nat.reduceAdd, Nat.reduceLeDiff, Nat.zero_add, Nat.le_refl, so0]
  refine RR.imp (c18 h2 h9 hr) ?_
  rintro rv μ' ⟨rfl, M1, rfl, h3, h4⟩
  have hag : agD M M1 := fun q k a b c d _ => h4 q k a b c d
  have hv : M1 0 5 = nI V := by rw [h4 _ _ (by decide) (by decide) (by decide) (by decide)]; exact hV
  generalize wA M D P n = L at *
  obtain ⟨v1, v2⟩ := avV_lt (L := L) hV2
  have hL := h3.2.1
  have q3 := cnE_le 3 L
  have q2 := cnE_le 2 L
  simp (disch := omega) only [r16_15, r16_17, r16_18, r16_19, r16_20, r16_23, r16_25, r16_27, r16_28, r16_30, r16_33, am_cat0, am_catI, am_catR, am_catD, am_ndI, am_ndR, am_ndL, va_rfS, true_and, and_true, Option.toList_some, Option.toList_none, List.cons_append, List.nil_append, Nat.reduceAdd, Nat.reduceLeDiff, Nat.zero_add, Nat.le_refl, rw_mrg, ite_Q, ite_bN, ite_bN', ib_0b, ib_b0, ib_1b, ib_b1, bN_0, bN_n0, bN_01T, nI1_0, nI0_0, nI01a, nI01b, bN_1, no_or, true_or, or_true, false_or, or_false, ite_not, if_true, if_false, Decidable.not_not, so0, so16, c25, pk_mul, nI_add, c19 h3 hv hV2, nx_lt, am_ndI, am_ndR]
  have tail : ∀ x : Nat, x < 3 → (RR 16 54 [.ref 0, .int (nI a), .int (nI b), .int (nI c), .ref 16, .int (nI (a * 1000000 + b * 1000 + c)), .long 0] [.int (nI x)] (SH, (0, 0, sl), M1, D, RF) (fun rv μ' => rv = some (.int (nI (x + (if 0 < cnE 3 L then 4 else 0) + (if 0 < cnE 2 L then 8 else 0)))) ∧ ∃ M', μ' = (SH, (0, 0, sl), M', D, RF) ∧ agD M M')) := by
    intro x hx
    by_cases k3 : 0 < cnE 3 L
    · have e3 : ¬ nI (cnE 3 L) ≤ 0 := nI_nle k3 (by omega)
      by_cases k2 : 0 < cnE 2 L
      · have e2 : ¬ nI (cnE 2 L) ≤ 0 := nI_nle k2 (by omega)
        simp (disch := omega) only [r16_54, r16_56, r16_58, r16_59, r16_62, r16_65, r16_68, r16_70, r16_71, r16_74, r16_77, r16_80, r16_82, am_cat0, am_catI, am_catR, am_catD, am_ndI, am_ndR, am_ndL, va_rfS, true_and, and_true, Option.toList_some, Option.toList_none, List.cons_append, List.nil_append, Nat.reduceAdd, Nat.reduceLeDiff, Nat.zero_add, Nat.le_refl, rw_mrg, ite_Q, ite_bN, ite_bN', ib_0b, ib_b0, ib_1b, ib_b1, bN_0, bN_n0, bN_01T, nI1_0, nI0_0, nI01a, nI01b, bN_1, no_or, true_or, or_true, false_or, or_false, ite_not, if_true, if_false, Decidable.not_not, so16, c118 h3 (show 3 < 4 by decide), c118 h3 (show 2 < 4 by decide), e3, e2, nI_add, am_ndI, k3, k2]
        exact ⟨M1, rfl, hag⟩
      · have e2 : nI (cnE 2 L) ≤ 0 := by rw [show cnE 2 L = 0 by omega]; decide
        simp (disch := omega) only [r16_54, r16_56, r16_58, r16_59, r16_62, r16_65, r16_68, r16_70, r16_71, r16_74, r16_77, r16_80, r16_82, am_cat0, am_catI, am_catR, am_catD, am_ndI, am_ndR, am_ndL, va_rfS, true_and, and_true, Option.toList_some, Option.toList_none, List.cons_append, List.nil_append, Nat.reduceAdd, Nat.reduceLeDiff, Nat.zero_add, Nat.le_refl, rw_mrg, ite_Q, ite_bN, ite_bN', ib_0b, ib_b0, ib_1b, ib_b1, bN_0, bN_n0, bN_01T, nI1_0, nI0_0, nI01a, nI01b, bN_1, no_or, true_or, or_true, false_or, or_false, ite_not, if_true, if_false, Decidable.not_not, so16, c118 h3 (show 3 < 4 by decide), c118 h3 (show 2 < 4 by decide), e3, e2, nI_add, am_ndI, k3, k2, Nat.add_zero]
        exact ⟨M1, rfl, hag⟩
    · have e3 : nI (cnE 3 L) ≤ 0 := by rw [show cnE 3 L = 0 by omega]; decide
      by_cases k2 : 0 < cnE 2 L
      · have e2 : ¬ nI (cnE 2 L) ≤ 0 := nI_nle k2 (by omega)
        simp (disch := omega) only [r16_54, r16_56, r16_58, r16_59, r16_62, r16_65, r16_68, r16_70, r16_71, r16_74, r16_77, r16_80, r16_82, am_cat0, am_catI, am_catR, am_catD, am_ndI, am_ndR, am_ndL, va_rfS, true_and, and_true, Option.toList_some, Option.toList_none, List.cons_append, List.nil_append, Nat.reduceAdd, Nat.reduceLeDiff, Nat.zero_add, Nat.le_refl, rw_mrg, ite_Q, ite_bN, ite_bN', ib_0b, ib_b0, ib_1b, ib_b1, bN_0, bN_n0, bN_01T, nI1_0, nI0_0, nI01a, nI01b, bN_1, no_or, true_or, or_true, false_or, or_false, ite_not, if_true, if_false, Decidable.not_not, so16, c118 h3 (show 3 < 4 by decide), c118 h3 (show 2 < 4 by decide), e3, e2, nI_add, am_ndI, k3, k2, Nat.add_zero]
        exact ⟨M1, rfl, hag⟩
      · have e2 : nI (cnE 2 L) ≤ 0 := by rw [show cnE 2 L = 0 by omega]; decide
        simp (disch := omega) only [r16_54, r16_56, r16_58, r16_59, r16_62, r16_65, r16_68, r16_70, r16_71, r16_74, r16_77, r16_80, r16_82, am_cat0, am_catI, am_catR, am_catD, am_ndI, am_ndR, am_ndL, va_rfS, true_and, and_true, Option.toList_some, Option.toList_none, List.cons_append, List.nil_append, Nat.reduceAdd, Nat.reduceLeDiff, Nat.zero_add, Nat.le_refl, rw_mrg, ite_Q, ite_bN, ite_bN', ib_0b, ib_b0, ib_1b, ib_b1, bN_0, bN_n0, bN_01T, nI1_0, nI0_0, nI01a, nI01b, bN_1, no_or, true_or, or_true, false_or, or_false, ite_not, if_true, if_false, Decidable.not_not, so16, c118 h3 (show 3 < 4 by decide), c118 h3 (show 2 < 4 by decide), e3, e2, nI_add, am_ndI, k3, k2, Nat.add_zero]
        exact ⟨M1, rfl, hag⟩
  unfold juA
  by_cases g1 : avV V L ≤ a * 1000000 + b * 1000 + c
  · have g1' : ¬ a * 1000000 + b * 1000 + c < avV V L := by omega
    simp only [g1, g1', if_true, if_false, r16_36, r16_37]
    exact tail 0 (by decide)
  · have g1' : a * 1000000 + b * 1000 + c < avV V L := by omega
    simp only [g1, g1', if_true, if_false, r16_40, r16_42, r16_43, am_cat0, am_catI, am_catR, am_catD, am_ndI, am_ndR, am_ndL, va_rfS, true_and, and_true, Option.toList_some, Option.toList_none, List.cons_append, List.nil_append, Nat.reduceAdd, Nat.reduceLeDiff, Nat.zero_add, Nat.le_refl, so0, hv, r16_46]
    by_cases g2 : V < a * 1000000 + b * 1000 + c
    · have g2' : ¬ nI (a * 1000000 + b * 1000 + c) ≤ nI V := by rw [nx_le (by omega) (by omega)]; omega
      simp only [g2, g2', if_true, if_false, r16_49, r16_50]
      exact tail 1 (by decide)
    · have g2' : nI (a * 1000000 + b * 1000 + c) ≤ nI V := by rw [nx_le (by omega) (by omega)]; omega
      simp only [g2, g2', if_true, if_false, r16_53]
      exact tail 2 (by decide)
end CN
