/-! CONTRACTS: writes of Pattern, Rule, RuleBook; RuleBook.weigh; Listing -/
/-- a row of the listing in parts: lightness, package, type, place, code, slot + 1 -/
def rE (lt p t pl c m : Nat) : Nat := lt * 2097152 + p * 524288 + t * 65536 + pl * 2048 + c * 32 + m
def lR (M : Nat → Nat → Int32) (k : Nat) : Nat := n32 (M 17 k)
theorem lR_e (M : Nat → Nat → Int32) (k : Nat) : M 17 k = nI (lR M k) := (nI_n32 _).symm
/-- the place of a member among its type's names -/
def plO (m : Nat) : Nat := if m = 0 then 0 else 1 + (m - 1) % 12 / 3 * 6 + (if 12 < m then (m - 1) % 12 % 3 else 3 + ((m - 1) % 12 + 1) % 3)
theorem or_sum (a b k : Nat) (h : b < 2 ^ k) : a * 2 ^ k ||| b = a * 2 ^ k + b := by
  rw [Nat.mul_comm]
  exact (Nat.two_pow_add_eq_or_of_lt h a).symm
theorem rE_or {p t c m : Nat} (ht : t < 8) (hc : c < 64) (hm : m < 32) : p * 2 ^ 19 ||| t * 2 ^ 16 ||| c * 2 ^ 5 ||| m = rE 0 p t 0 c m := by
  rw [or_sum p (t * 2 ^ 16) 19 (by omega)]
  have e1 : p * 2 ^ 19 + t * 2 ^ 16 = (p * 8 + t) * 2 ^ 16 := by omega
  rw [e1, or_sum (p * 8 + t) (c * 2 ^ 5) 16 (by omega)]
  have e2 : (p * 8 + t) * 2 ^ 16 + c * 2 ^ 5 = ((p * 8 + t) * 2048 + c) * 2 ^ 5 := by
    have key : ∀ z : Nat, z * 2 ^ 16 + c * 2 ^ 5 = (z * 2048 + c) * 2 ^ 5 := fun z => by
      rw [Nat.add_mul (z * 2048) c, Nat.mul_assoc z]
    exact key _
  rw [e2, or_sum _ m 5 (by omega)]
  unfold rE
  omega
/-- insertion: at is one behind the place that is tried -/
def inR : Nat → (Nat → Nat → Int32) → Int32 → Nat → Nat → Int32
  | 0, M, row => am_up M 17 0 row
  | a + 1, M, row => if row < M 17 a then inR a (am_up M 17 (a + 1) (M 17 a)) row else am_up M 17 (a + 1) row
theorem inR_o : ∀ (a : Nat) (M : Nat → Nat → Int32) (row : Int32) (q k : Nat), q ≠ 17 → inR a M row q k = M q k := by
  intro a
  induction a with
  | zero => intro M row q k h; exact up_q h
  | succ a ih =>
    intro M row q k h
    unfold inR
    by_cases e : row < M 17 a
    · rw [if_pos e, ih _ _ _ _ h, up_q h]
    · rw [if_neg e, up_q h]
section CN
variable {Q : Option Value → amM → Prop} {μ : amM} {S : List (Nat ⊕ (Nat × Nat))} {M : Nat → Nat → Int32} {D : Nat → Nat → UInt64} {F : Nat → Nat → Option Nat} {sl : Nat}
variable {q : Nat}
theorem c129 (hp : isPt q) : RR 129 0 [.ref q] [] (SH, (0, 0, sl), M, D, RF) Q ↔ Q (some (.int (M q 1))) (SH, (0, 0, sl), M, D, RF) := by
  simp only [r129_0, r129_1, r129_4, am_cat0, am_catI, am_catR, am_catD, am_ndI, am_ndR, am_ndL, va_rfS, true_and, and_true, Option.toList_some, Option.toList_none, List.cons_append, List.nil_append, Nat.reduceAdd, Nat.reduceLeDiff, Nat.zero_add, Nat.le_refl, (ptF hp).1]
theorem c130 (hp : isPt q) : RR 130 0 [.ref q] [] (SH, (0, 0, sl), M, D, RF) Q ↔ Q (some (.int (bN (M q 1 = nI 12)))) (SH, (0, 0, sl), M, D, RF) := by
  simp only [r130_0, r130_1, r130_4, r130_6, r130_9, r130_10, r130_13, r130_14, am_cat0, am_catI, am_catR, am_catD, am_ndI, am_ndR, am_ndL, va_rfS, true_and, and_true, Option.toList_some, Option.toList_none, List.cons_append, List.nil_append, Nat.reduceAdd, Nat.reduceLeDiff, Nat.zero_add, Nat.le_refl, rw_mrg, ite_Q, ite_bN, ite_bN', ib_0b, ib_b0, ib_1b, ib_b1, bN_0, bN_n0, bN_01T, nI1_0, nI0_0, nI01a, nI01b, bN_1, no_or, true_or, or_true, false_or, or_false, ite_not, if_true, if_false, Decidable.not_not, (ptF hp).1]
theorem c131 {n c : Nat} (hp : isPt q) (h : M q 1 = nI n) (hn : n < 12) (hc : c < 65536) : RR 131 0 [.ref q, .int (nI c)] [] (SH, (0, 0, sl), M, D, RF) Q ↔ Q none (SH, (0, 0, sl), am_up (am_up M (q + 1) n (nI c)) q 1 (nI (n + 1)), D, RF) := by
  obtain ⟨p0, p1, p2, p3, p4⟩ := ptF hp
  simp (disch := omega) only [r131_0, r131_1, r131_4, r131_6, r131_9, r131_10, r131_13, r131_14, r131_17, r131_18, r131_19, r131_20, r131_20i, r131_21, r131_24, r131_25, r131_26, r131_29, am_cat0, am_catI, am_catR, am_catD, am_ndI, am_ndR, am_ndL, va_rfS, true_and, and_true, Option.toList_some, Option.toList_none, List.cons_append, List.nil_append, Nat.reduceAdd, Nat.reduceLeDiff, Nat.zero_add, Nat.le_refl, rw_mrg, ite_Q, ite_bN, ite_bN', ib_0b, ib_b0, ib_1b, ib_b1, bN_0, bN_n0, bN_01T, nI1_0, nI0_0, nI01a, nI01b, bN_1, no_or, true_or, or_true, false_or, or_false, ite_not, if_true, if_false, Decidable.not_not, p0, p1, p2, am_bs, bd_n, nI_tn, h, nx_le, Nat.not_le.mpr hn, nx_nc, up_q, nI_add]
theorem c132 (hp : isPt q) : RR 132 0 [.ref q] [] (SH, (0, 0, sl), M, D, RF) Q ↔ Q none (SH, (0, 0, sl), am_up M q 1 (nI 0), D, RF) := by
  simp only [r132_0, r132_1, r132_2, r132_5, am_cat0, am_catI, am_catR, am_catD, am_ndI, am_ndR, am_ndL, va_rfS, true_and, and_true, Option.toList_some, Option.toList_none, List.cons_append, List.nil_append, Nat.reduceAdd, Nat.reduceLeDiff, Nat.zero_add, Nat.le_refl, (ptF hp).1]
/-- the letters are characters -/
def ptW (M : Nat → Nat → Int32) (q : Nat) : Prop := ∀ i, i < 12 → ∃ c, c < 65536 ∧ M (q + 1) i = nI c
theorem rw_cpC {mi pc ix q0 q1 n : Nat} {L st : List Value} {b : Nat × Nat × Nat} {F : Nat → Nat → Option Nat} (hp : prog mi pc = some (.invokestatic ix, 3, [7])) (hn : n < 2 ^ 31) (h0 : S[q0]? = some (.inr (1, n))) (h1 : S[q1]? = some (.inr (1, n))) (hf : ∀ i, i < n → ∃ c, c < 65536 ∧ M q0 i = nI c) : RR mi pc L (.int (nI n) :: .int (nI 0) :: .ref q1 :: .int (nI 0) :: .ref q0 :: st) (S, b, M, D, F) Q ↔ am_cat st ≤ 8 ∧ RR mi (pc + 3) L st (S, b, am_cpy M q0 q1 0 0 n, D, F) Q := by
  refine rw_c hp ?_
  show am_copy (pc + 3) L (.int (nI n) :: .int (nI 0) :: .ref q1 :: .int (nI 0) :: .ref q0 :: st) (S, b, M, D, F) = _
  unfold am_copy
  dsimp only
  rw [h0, h1]
  have e0 : (nI 0).toInt = 0 := by decide
  have en : (nI n).toInt = (n : Int) := nI_toInt hn
  simp only [e0, en]
  have hff : ∀ i, i < (n : Int).toNat → fits .char (.int (M q0 ((0 : Int).toNat + i))) = true := by
    intro i hi
    obtain ⟨c, hc, h⟩ := hf i (by omega)
    rw [show (0 : Int).toNat + i = i by simp, h]
    exact (pk_charN hc).2
  by_cases hc : am_cat st ≤ 8
  · rw [if_pos ⟨hc, trivial, by omega, by omega, by omega, by omega, by omega⟩, if_pos hc, if_neg (by decide), if_pos ⟨trivial, hff⟩]; rfl
  · rw [if_neg (fun z => hc z.1), if_neg hc]
theorem c133 (hp : isPt q) (hq : q ≠ 18) (hw : ptW M 18) : RR 133 0 [.ref q, .ref 18] [] (SH, (0, 0, sl), M, D, RF) Q ↔ Q none (SH, (0, 0, sl), am_cpy (am_up M q 1 (M 18 1)) 19 (q + 1) 0 0 12, D, RF) := by
  obtain ⟨p0, p1, p2, p3, p4⟩ := ptF hp
  have h19 : SH[19]? = some (.inr (1, 12)) := rfl
  have hq1 : 19 ≠ q := by rcases hp with h | h | h | h | h | h | h | h | h <;> omega
  simp only [r133_0, r133_1, r133_2, r133_5, r133_8, r133_9, r133_12, r133_13, r133_14, r133_17, r133_18, r133_23, am_cat0, am_catI, am_catR, am_catD, am_ndI, am_ndR, am_ndL, va_rfS, true_and, and_true, Option.toList_some, Option.toList_none, List.cons_append, List.nil_append, Nat.reduceAdd, Nat.reduceLeDiff, Nat.zero_add, Nat.le_refl, p0, p1, so18, sf18_0]
  rw [rw_cpC p133_20 (by decide) h19 p4 (fun i hi => by rw [up_q hq1]; exact hw i hi)]
  simp only [r133_0, r133_1, r133_2, r133_5, r133_8, r133_9, r133_12, r133_13, r133_14, r133_17, r133_18, r133_23, am_cat0, am_catI, am_catR, am_catD, am_ndI, am_ndR, am_ndL, va_rfS, true_and, and_true, Option.toList_some, Option.toList_none, List.cons_append, List.nil_append, Nat.reduceAdd, Nat.reduceLeDiff, Nat.zero_add, Nat.le_refl]
theorem c147 {i : Nat} {lo hi we : Int32} (h : i < 8) (hw : ptW M 18) : RR 147 0 [.ref (22 + 3 * i), .ref 18, .int lo, .int hi, .int we] [] (SH, (0, 0, sl), M, D, RF) Q ↔ Q none (SH, (0, 0, sl), am_up (am_up (am_up (am_cpy (am_up M (23 + 3 * i) 1 (M 18 1)) 19 (24 + 3 * i) 0 0 12) (22 + 3 * i) 1 lo) (22 + 3 * i) 2 hi) (22 + 3 * i) 3 we, D, RF) := by
  obtain ⟨u1, u2, u3, u4⟩ := ruF h
  have e : 23 + 3 * i + 1 = 24 + 3 * i := by omega
  simp only [r147_0, r147_1, r147_4, r147_5, r147_8, r147_9, r147_10, r147_13, r147_14, r147_15, r147_18, r147_19, r147_21, r147_24, am_cat0, am_catI, am_catR, am_catD, am_ndI, am_ndR, am_ndL, va_rfS, true_and, and_true, Option.toList_some, Option.toList_none, List.cons_append, List.nil_append, Nat.reduceAdd, Nat.reduceLeDiff, Nat.zero_add, Nat.le_refl, u2, u3, (ptF u4).1, c133 u4 (by omega) hw, e]
theorem c151 : RR 151 0 [.ref 20] [] (SH, (0, 0, sl), M, D, RF) Q ↔ Q (some (.int (M 20 1))) (SH, (0, 0, sl), M, D, RF) := by simp only [r151_0, r151_1, r151_4, am_cat0, am_catI, am_catR, am_catD, am_ndI, am_ndR, am_ndL, va_rfS, true_and, and_true, Option.toList_some, Option.toList_none, List.cons_append, List.nil_append, Nat.reduceAdd, Nat.reduceLeDiff, Nat.zero_add, Nat.le_refl, so20]
theorem c152 : RR 152 0 [.ref 20] [] (SH, (0, 0, sl), M, D, RF) Q ↔ Q (some (.int (bN (M 20 1 = nI 8)))) (SH, (0, 0, sl), M, D, RF) := by simp only [r152_0, r152_1, r152_4, r152_6, r152_9, r152_10, r152_13, r152_14, am_cat0, am_catI, am_catR, am_catD, am_ndI, am_ndR, am_ndL, va_rfS, true_and, and_true, Option.toList_some, Option.toList_none, List.cons_append, List.nil_append, Nat.reduceAdd, Nat.reduceLeDiff, Nat.zero_add, Nat.le_refl, rw_mrg, ite_Q, ite_bN, ite_bN', ib_0b, ib_b0, ib_1b, ib_b1, bN_0, bN_n0, bN_01T, nI1_0, nI0_0, nI01a, nI01b, bN_1, no_or, true_or, or_true, false_or, or_false, ite_not, if_true, if_false, Decidable.not_not, so20]
theorem c154 : RR 154 0 [.ref 20] [] (SH, (0, 0, sl), M, D, RF) Q ↔ Q none (SH, (0, 0, sl), am_up M 20 1 (nI 0), D, RF) := by simp only [r154_0, r154_1, r154_2, r154_5, am_cat0, am_catI, am_catR, am_catD, am_ndI, am_ndR, am_ndL, va_rfS, true_and, and_true, Option.toList_some, Option.toList_none, List.cons_append, List.nil_append, Nat.reduceAdd, Nat.reduceLeDiff, Nat.zero_add, Nat.le_refl, so20]
theorem c153 {n : Nat} {lo hi we : Int32} (h : M 20 1 = nI n) (hn : n < 8) (hw : ptW M 18) : RR 153 0 [.ref 20, .ref 18, .int lo, .int hi, .int we] [] (SH, (0, 0, sl), M, D, RF) Q ↔ Q none (SH, (0, 0, sl), am_up (am_up (am_up (am_up (am_cpy (am_up M (23 + 3 * n) 1 (M 18 1)) 19 (24 + 3 * n) 0 0 12) (22 + 3 * n) 1 lo) (22 + 3 * n) 2 hi) (22 + 3 * n) 3 we) 20 1 (nI (n + 1)), D, RF) := by
  obtain ⟨u1, u2, u3, u4⟩ := ruF hn
  have hg : ∀ (z : Nat → Nat → Int32), am_cpy z 19 (24 + 3 * n) 0 0 12 20 1 = z 20 1 := fun z => by unfold am_cpy; rw [am_row_ne (by omega)]
  simp (disch := omega) only [r153_0, r153_1, r153_4, r153_6, r153_9, r153_10, r153_13, r153_14, r153_17, r153_18, r153_19, r153_20, r153_21, r153_23, r153_26, r153_27, r153_27i, r153_28, r153_31, r153_32, r153_33, r153_36, am_cat0, am_catI, am_catR, am_catD, am_ndI, am_ndR, am_ndL, va_rfS, true_and, and_true, Option.toList_some, Option.toList_none, List.cons_append, List.nil_append, Nat.reduceAdd, Nat.reduceLeDiff, Nat.zero_add, Nat.le_refl, rw_mrg, ite_Q, ite_bN, ite_bN', ib_0b, ib_b0, ib_1b, ib_b1, bN_0, bN_n0, bN_01T, nI1_0, nI0_0, nI01a, nI01b, bN_1, no_or, true_or, or_true, false_or, or_false, ite_not, if_true, if_false, Decidable.not_not, so20, sf20_0, sl21, am_bs, bd_n, nI_tn, h, nx_le, Nat.not_le.mpr hn, u1, u2, c147 hn hw, up_q, hg, nI_add]
theorem c155o {c : Nat} {l : List Nat} {P : Nat → List Nat} (hn : nmIs M l) (hc : c < 64) : ∀ (k : Nat), k ≤ 8 → (∀ i, i < k → ptIs M (23 + 3 * i) (P i)) → (RR 155 7 [.ref 20, .int (nI c), .ref 46, .int (nI k - 1)] [] (SH, (0, 0, sl), M, D, RF) Q ↔ Q (some (.int (ruW M l P c k))) (SH, (0, 0, sl), M, D, RF)) := by
  intro k
  induction k with
  | zero =>
    intro hk hP
    have e : nI 0 - 1 = -1 := by decide
    have e2 : (-1 : Int32) < 0 := by decide
    rw [e, r155_7]
    simp only [r155_0, r155_1, r155_4, r155_5, r155_6, r155_8, r155_11, r155_12, r155_15, r155_16, r155_17, r155_18, r155_19, r155_22, r155_25, r155_26, r155_29, r155_30, r155_31, r155_34, r155_35, r155_38, r155_41, r155_42, r155_45, am_cat0, am_catI, am_catR, am_catD, am_ndI, am_ndR, am_ndL, va_rfS, true_and, and_true, Option.toList_some, Option.toList_none, List.cons_append, List.nil_append, Nat.reduceAdd, Nat.reduceLeDiff, Nat.zero_add, Nat.le_refl, rw_mrg, ite_Q, ite_bN, ite_bN', ib_0b, ib_b0, ib_1b, ib_b1, bN_0, bN_n0, bN_01T, nI1_0, nI0_0, nI01a, nI01b, bN_1, no_or, true_or, or_true, false_or, or_false, ite_not, if_true, if_false, Decidable.not_not, e2, c29 hc, ruW]
  | succ k ih =>
    intro hk hP
    have h1 := ih (by omega) (fun i hi => hP i (by omega))
    have hk8 : k < 8 := by omega
    obtain ⟨u1, u2, u3, u4⟩ := ruF hk8
    have e2 : ¬ nI k < 0 := nI_pos (by omega)
    rw [nI_pred, r155_7]
    by_cases ha : ruA M l (P k) k c
    · simp (disch := omega) only [r155_0, r155_1, r155_4, r155_5, r155_6, r155_8, r155_11, r155_12, r155_15, r155_16, r155_17, r155_18, r155_19, r155_22, r155_25, r155_26, r155_29, r155_30, r155_31, r155_34, r155_35, r155_38, r155_41, r155_42, r155_45, am_cat0, am_catI, am_catR, am_catD, am_ndI, am_ndR, am_ndL, va_rfS, true_and, and_true, Option.toList_some, Option.toList_none, List.cons_append, List.nil_append, Nat.reduceAdd, Nat.reduceLeDiff, Nat.zero_add, Nat.le_refl, rw_mrg, ite_Q, ite_bN, ite_bN', ib_0b, ib_b0, ib_1b, ib_b1, bN_0, bN_n0, bN_01T, nI1_0, nI0_0, nI01a, nI01b, bN_1, no_or, true_or, or_true, false_or, or_false, ite_not, if_true, if_false, Decidable.not_not, e2, so20, sf20_0, sl21, am_bs, bd_n, nI_tn, u1, u2, c148 hk8 hn (hP k (by omega)), c149 hk8, ha, not_true_eq_false, not_false_eq_true]
      rw [ruW, if_pos ha]
    · simp (disch := omega) only [r155_0, r155_1, r155_4, r155_5, r155_6, r155_8, r155_11, r155_12, r155_15, r155_16, r155_17, r155_18, r155_19, r155_22, r155_25, r155_26, r155_29, r155_30, r155_31, r155_34, r155_35, r155_38, r155_41, r155_42, r155_45, am_cat0, am_catI, am_catR, am_catD, am_ndI, am_ndR, am_ndL, va_rfS, true_and, and_true, Option.toList_some, Option.toList_none, List.cons_append, List.nil_append, Nat.reduceAdd, Nat.reduceLeDiff, Nat.zero_add, Nat.le_refl, rw_mrg, ite_Q, ite_bN, ite_bN', ib_0b, ib_b0, ib_1b, ib_b1, bN_0, bN_n0, bN_01T, nI1_0, nI0_0, nI01a, nI01b, bN_1, no_or, true_or, or_true, false_or, or_false, ite_not, if_true, if_false, Decidable.not_not, e2, so20, sf20_0, sl21, am_bs, bd_n, nI_tn, u1, u2, c148 hk8 hn (hP k (by omega)), ha, not_true_eq_false, not_false_eq_true]
      rw [ruW, if_neg ha, nx_dec]
      exact h1
theorem c155 {c n : Nat} {l : List Nat} {P : Nat → List Nat} (hn : nmIs M l) (hc : c < 64) (h : M 20 1 = nI n) (hn8 : n ≤ 8) (hP : ∀ i, i < n → ptIs M (23 + 3 * i) (P i)) : RR 155 0 [.ref 20, .int (nI c), .ref 46, .long 0] [] (SH, (0, 0, sl), M, D, RF) Q ↔ Q (some (.int (ruW M l P c n))) (SH, (0, 0, sl), M, D, RF) := by
  simp only [r155_0, r155_1, r155_4, r155_5, r155_6, am_cat0, am_catI, am_catR, am_catD, am_ndI, am_ndR, am_ndL, va_rfS, true_and, and_true, Option.toList_some, Option.toList_none, List.cons_append, List.nil_append, Nat.reduceAdd, Nat.reduceLeDiff, Nat.zero_add, Nat.le_refl, so20, h]
  exact c155o hn hc n hn8 hP
theorem c106 : RR 106 0 [.ref 16] [] (SH, (0, 0, sl), M, D, RF) Q ↔ Q none (SH, (0, 0, sl), am_up M 16 1 (nI 0), D, RF) := by simp only [r106_0, r106_1, r106_2, r106_5, am_cat0, am_catI, am_catR, am_catD, am_ndI, am_ndR, am_ndL, va_rfS, true_and, and_true, Option.toList_some, Option.toList_none, List.cons_append, List.nil_append, Nat.reduceAdd, Nat.reduceLeDiff, Nat.zero_add, Nat.le_refl, so16]
theorem c107 : RR 107 0 [.ref 16] [] (SH, (0, 0, sl), M, D, RF) Q ↔ Q (some (.int (M 16 1))) (SH, (0, 0, sl), M, D, RF) := by simp only [r107_0, r107_1, r107_4, am_cat0, am_catI, am_catR, am_catD, am_ndI, am_ndR, am_ndL, va_rfS, true_and, and_true, Option.toList_some, Option.toList_none, List.cons_append, List.nil_append, Nat.reduceAdd, Nat.reduceLeDiff, Nat.zero_add, Nat.le_refl, so16]
theorem c108 {k : Int32} {n : Nat} (h : M 16 1 = nI n) (hn : n < 2 ^ 31) : RR 108 0 [.ref 16, .int k] [] (SH, (0, 0, sl), M, D, RF) Q ↔ Q (some (.int (bN (0 ≤ k.toInt ∧ k.toInt < (n : Int))))) (SH, (0, 0, sl), M, D, RF) := by
  simp only [r108_0, r108_1, r108_4, r108_5, r108_6, r108_9, r108_12, r108_13, r108_16, r108_17, am_cat0, am_catI, am_catR, am_catD, am_ndI, am_ndR, am_ndL, va_rfS, true_and, and_true, Option.toList_some, Option.toList_none, List.cons_append, List.nil_append, Nat.reduceAdd, Nat.reduceLeDiff, Nat.zero_add, Nat.le_refl, rw_mrg, ite_Q, ite_bN, ite_bN', ib_0b, ib_b0, ib_1b, ib_b1, bN_0, bN_n0, bN_01T, nI1_0, nI0_0, nI01a, nI01b, bN_1, no_or, true_or, or_true, false_or, or_false, ite_not, if_true, if_false, Decidable.not_not, so16, h]
  refine bN_Q ?_
  have e : (nI n).toInt = (n : Int) := nI_toInt hn
  simp only [Int32.lt_iff_toInt_lt, Int32.le_iff_toInt_le, e]
  have e0 : (0 : Int32).toInt = 0 := by decide
  rw [e0]
  omega
theorem c114 {k : Nat} (hk : k < 816) (hr : lR M k < 2 ^ 31) : RR 114 0 [.ref 16, .int (nI k)] [] (SH, (0, 0, sl), M, D, RF) Q ↔ Q (some (.int (nI (lR M k / 32 % 64)))) (SH, (0, 0, sl), M, D, RF) := by
  simp (disch := omega) only [r114_0, r114_1, r114_4, r114_5, r114_6, r114_7, r114_8, r114_10, r114_11, am_cat0, am_catI, am_catR, am_catD, am_ndI, am_ndR, am_ndL, va_rfS, true_and, and_true, Option.toList_some, Option.toList_none, List.cons_append, List.nil_append, Nat.reduceAdd, Nat.reduceLeDiff, Nat.zero_add, Nat.le_refl, so16, sf16_0, sd17, am_bd, bd_n, nI_tn, lR_e M, nx_shr, nx_m63, Nat.reducePow]
theorem c115 {k : Nat} (hk : k < 816) (hr : lR M k < 8388608) : RR 115 0 [.ref 16, .int (nI k)] [] (SH, (0, 0, sl), M, D, RF) Q ↔ Q (some (.int (nI (3 - lR M k / 2097152)))) (SH, (0, 0, sl), M, D, RF) := by
  simp (disch := omega) only [r115_0, r115_1, r115_2, r115_5, r115_6, r115_7, r115_9, r115_10, r115_11, am_cat0, am_catI, am_catR, am_catD, am_ndI, am_ndR, am_ndL, va_rfS, true_and, and_true, Option.toList_some, Option.toList_none, List.cons_append, List.nil_append, Nat.reduceAdd, Nat.reduceLeDiff, Nat.zero_add, Nat.le_refl, so16, sf16_0, sd17, am_bd, bd_n, nI_tn, lR_e M, nx_shr, Nat.reducePow, pk_sub]
theorem c116 {k : Nat} (hk : k < 816) (hr : lR M k < 2 ^ 31) : RR 116 0 [.ref 16, .int (nI k)] [] (SH, (0, 0, sl), M, D, RF) Q ↔ Q (some (.int (nI (lR M k / 65536 % 8)))) (SH, (0, 0, sl), M, D, RF) := by
  simp (disch := omega) only [r116_0, r116_1, r116_4, r116_5, r116_6, r116_8, r116_9, r116_11, r116_12, am_cat0, am_catI, am_catR, am_catD, am_ndI, am_ndR, am_ndL, va_rfS, true_and, and_true, Option.toList_some, Option.toList_none, List.cons_append, List.nil_append, Nat.reduceAdd, Nat.reduceLeDiff, Nat.zero_add, Nat.le_refl, so16, sf16_0, sd17, am_bd, bd_n, nI_tn, lR_e M, nx_shr, nx_m7, Nat.reducePow]
theorem c117 {k : Nat} (hk : k < 816) : RR 117 0 [.ref 16, .int (nI k)] [] (SH, (0, 0, sl), M, D, RF) Q ↔ Q (some (.int (nI (lR M k % 32) - nI 1))) (SH, (0, 0, sl), M, D, RF) := by
  simp (disch := omega) only [r117_0, r117_1, r117_4, r117_5, r117_6, r117_8, r117_9, r117_10, r117_11, am_cat0, am_catI, am_catR, am_catD, am_ndI, am_ndR, am_ndL, va_rfS, true_and, and_true, Option.toList_some, Option.toList_none, List.cons_append, List.nil_append, Nat.reduceAdd, Nat.reduceLeDiff, Nat.zero_add, Nat.le_refl, so16, sf16_0, sd17, am_bd, bd_n, nI_tn, lR_e M, nx_m31]
theorem c109 {n c p t m : Nat} {s : Int32} (h : M 16 1 = nI n) (hn : n < 816) (hc : c < 64) (hp : p < 4) (ht : t < 8) (hm : m < 32) (hs : s + nI 1 = nI m) : RR 109 0 [.ref 16, .int (nI c), .int (nI p), .int (nI t), .int s] [] (SH, (0, 0, sl), M, D, RF) Q ↔ Q none (SH, (0, 0, sl), am_up (am_up M 17 n (nI (rE 0 p t 0 c m))) 16 1 (nI (n + 1)), D, RF) := by
  simp (disch := omega) only [r109_0, r109_1, r109_4, r109_7, r109_10, r109_11, r109_14, r109_15, r109_18, r109_19, r109_21, r109_22, r109_23, r109_25, r109_26, r109_27, r109_28, r109_29, r109_30, r109_31, r109_33, r109_34, r109_35, r109_36, r109_37, r109_38, r109_38i, r109_39, r109_42, r109_43, r109_44, r109_47, am_cat0, am_catI, am_catR, am_catD, am_ndI, am_ndR, am_ndL, va_rfS, true_and, and_true, Option.toList_some, Option.toList_none, List.cons_append, List.nil_append, Nat.reduceAdd, Nat.reduceLeDiff, Nat.zero_add, Nat.le_refl, rw_mrg, ite_Q, ite_bN, ite_bN', ib_0b, ib_b0, ib_1b, ib_b1, bN_0, bN_n0, bN_01T, nI1_0, nI0_0, nI01a, nI01b, bN_1, no_or, true_or, or_true, false_or, or_false, ite_not, if_true, if_false, Decidable.not_not, so16, sf16_0, sl17, am_bs, bd_n, nI_tn, h, nx_le, Nat.not_le.mpr hn, nx_shl, hs, nx_or, rE_or, up_q, nI_add]
theorem c110 {m : Nat} {s : Int32} (hm : m < 25) (hs : (m = 0 ∧ s = -1) ∨ (m ≠ 0 ∧ s = nI (m - 1))) : RR 110 0 [.int s, .long 0, .long 0] [] (S, (0, 0, sl), M, D, F) Q ↔ Q (some (.int (nI (plO m)))) (S, (0, 0, sl), M, D, F) := by
  have e3 : ¬ nI 3 = 0 := by decide
  rcases hs with ⟨rfl, rfl⟩ | ⟨h0, rfl⟩
  · simp only [r110_0, r110_1, r110_2, r110_5, r110_6, r110_7, r110_8, r110_11, r110_12, r110_13, r110_16, r110_19, r110_20, r110_21, r110_22, r110_25, r110_26, r110_27, r110_28, r110_29, r110_30, r110_31, r110_32, r110_33, r110_34, r110_35, r110_36, r110_37, r110_39, r110_40, r110_41, r110_42, r110_43, am_cat0, am_catI, am_catR, am_catD, am_ndI, am_ndR, am_ndL, va_rfS, true_and, and_true, Option.toList_some, Option.toList_none, List.cons_append, List.nil_append, Nat.reduceAdd, Nat.reduceLeDiff, Nat.zero_add, Nat.le_refl, rw_mrg, ite_Q, ite_bN, ite_bN', ib_0b, ib_b0, ib_1b, ib_b1, bN_0, bN_n0, bN_01T, nI1_0, nI0_0, nI01a, nI01b, bN_1, no_or, true_or, or_true, false_or, or_false, ite_not, if_true, if_false, Decidable.not_not]
    simp [plO]
  · have h12 : (12 ≤ m - 1) = (12 < m) := propext ⟨by omega, by omega⟩
    by_cases hb : 12 < m
    · simp (disch := omega) only [r110_0, r110_1, r110_2, r110_5, r110_6, r110_7, r110_8, r110_11, r110_12, r110_13, r110_16, r110_19, r110_20, r110_21, r110_22, r110_25, r110_26, r110_27, r110_28, r110_29, r110_30, r110_31, r110_32, r110_33, r110_34, r110_35, r110_36, r110_37, r110_39, r110_40, r110_41, r110_42, r110_43, am_cat0, am_catI, am_catR, am_catD, am_ndI, am_ndR, am_ndL, va_rfS, true_and, and_true, Option.toList_some, Option.toList_none, List.cons_append, List.nil_append, Nat.reduceAdd, Nat.reduceLeDiff, Nat.zero_add, Nat.le_refl, rw_mrg, ite_Q, ite_bN, ite_bN', ib_0b, ib_b0, ib_1b, ib_b1, bN_0, bN_n0, bN_01T, nI1_0, nI0_0, nI01a, nI01b, bN_1, no_or, true_or, or_true, false_or, or_false, ite_not, if_true, if_false, Decidable.not_not, nx_im1, c28, c27, h12, hb, e3, nx_rm3, nx_dv, pk_mul, nI_add, not_true_eq_false, not_false_eq_true]
      simp [plO, h0, hb]
    · simp (disch := omega) only [r110_0, r110_1, r110_2, r110_5, r110_6, r110_7, r110_8, r110_11, r110_12, r110_13, r110_16, r110_19, r110_20, r110_21, r110_22, r110_25, r110_26, r110_27, r110_28, r110_29, r110_30, r110_31, r110_32, r110_33, r110_34, r110_35, r110_36, r110_37, r110_39, r110_40, r110_41, r110_42, r110_43, am_cat0, am_catI, am_catR, am_catD, am_ndI, am_ndR, am_ndL, va_rfS, true_and, and_true, Option.toList_some, Option.toList_none, List.cons_append, List.nil_append, Nat.reduceAdd, Nat.reduceLeDiff, Nat.zero_add, Nat.le_refl, rw_mrg, ite_Q, ite_bN, ite_bN', ib_0b, ib_b0, ib_1b, ib_b1, bN_0, bN_n0, bN_01T, nI1_0, nI0_0, nI01a, nI01b, bN_1, no_or, true_or, or_true, false_or, or_false, ite_not, if_true, if_false, Decidable.not_not, nx_im1, c28, c27, h12, hb, e3, nx_rm3, nx_dv, pk_mul, nI_add, not_true_eq_false, not_false_eq_true]
      simp [plO, h0, hb]
theorem c112o {row : Int32} : ∀ (a : Nat) (M : Nat → Nat → Int32), a < 816 → (RR 112 5 [.ref 16, .int row, .int (nI a)] [] (SH, (0, 0, sl), M, D, RF) Q ↔ Q none (SH, (0, 0, sl), am_up (inR a M row) 16 1 (M 16 1 + nI 1), D, RF)) := by
  intro a
  induction a with
  | zero =>
    intro M ha
    have e : nI 0 ≤ 0 := by decide
    rw [r112_5]
    simp (disch := omega) only [r112_0, r112_1, r112_4, r112_6, r112_9, r112_10, r112_13, r112_14, r112_15, r112_16, r112_17, r112_18, r112_21, r112_22, r112_25, r112_26, r112_27, r112_30, r112_31, r112_32, r112_33, r112_34, r112_35, r112_38, r112_41, r112_42, r112_45, r112_46, r112_47, r112_48, r112_49, r112_49i, r112_50, r112_53, r112_54, r112_55, r112_58, am_cat0, am_catI, am_catR, am_catD, am_ndI, am_ndR, am_ndL, va_rfS, true_and, and_true, Option.toList_some, Option.toList_none, List.cons_append, List.nil_append, Nat.reduceAdd, Nat.reduceLeDiff, Nat.zero_add, Nat.le_refl, rw_mrg, ite_Q, ite_bN, ite_bN', ib_0b, ib_b0, ib_1b, ib_b1, bN_0, bN_n0, bN_01T, nI1_0, nI0_0, nI01a, nI01b, bN_1, no_or, true_or, or_true, false_or, or_false, ite_not, if_true, if_false, Decidable.not_not, e, so16, sf16_0, sl17, am_bs, bd_n, nI_tn, up_q, inR]
  | succ a ih =>
    intro M ha
    have e : ¬ nI (a + 1) ≤ 0 := nI_nle (by omega) (by omega)
    have e1 : nI (a + 1) - nI 1 = nI a := nI_pred a
    have e2 : nI (a + 1) + (-1) = nI a := pk_m1 a
    rw [r112_5]
    by_cases hr : row < M 17 a
    · have hr2 : ¬ M 17 a ≤ row := Int32.not_le.mpr hr
      simp (disch := omega) only [r112_0, r112_1, r112_4, r112_6, r112_9, r112_10, r112_13, r112_14, r112_15, r112_16, r112_17, r112_18, r112_21, r112_22, r112_25, r112_26, r112_27, r112_30, r112_31, r112_32, r112_33, r112_34, r112_35, r112_38, r112_41, r112_42, r112_45, r112_46, r112_47, r112_48, r112_49, r112_49i, r112_50, r112_53, r112_54, r112_55, r112_58, am_cat0, am_catI, am_catR, am_catD, am_ndI, am_ndR, am_ndL, va_rfS, true_and, and_true, Option.toList_some, Option.toList_none, List.cons_append, List.nil_append, Nat.reduceAdd, Nat.reduceLeDiff, Nat.zero_add, Nat.le_refl, rw_mrg, ite_Q, ite_bN, ite_bN', ib_0b, ib_b0, ib_1b, ib_b1, bN_0, bN_n0, bN_01T, nI1_0, nI0_0, nI01a, nI01b, bN_1, no_or, true_or, or_true, false_or, or_false, ite_not, if_true, if_false, Decidable.not_not, e, e1, e2, so16, sf16_0, sd17, sl17, am_bd, am_bs, bd_n, nI_tn, hr2]
      rw [ih _ (by omega)]
      simp (disch := omega) only [inR, hr, if_true, up_q]
    · have hr2 : M 17 a ≤ row := Int32.not_lt.mp hr
      simp (disch := omega) only [r112_0, r112_1, r112_4, r112_6, r112_9, r112_10, r112_13, r112_14, r112_15, r112_16, r112_17, r112_18, r112_21, r112_22, r112_25, r112_26, r112_27, r112_30, r112_31, r112_32, r112_33, r112_34, r112_35, r112_38, r112_41, r112_42, r112_45, r112_46, r112_47, r112_48, r112_49, r112_49i, r112_50, r112_53, r112_54, r112_55, r112_58, am_cat0, am_catI, am_catR, am_catD, am_ndI, am_ndR, am_ndL, va_rfS, true_and, and_true, Option.toList_some, Option.toList_none, List.cons_append, List.nil_append, Nat.reduceAdd, Nat.reduceLeDiff, Nat.zero_add, Nat.le_refl, rw_mrg, ite_Q, ite_bN, ite_bN', ib_0b, ib_b0, ib_1b, ib_b1, bN_0, bN_n0, bN_01T, nI1_0, nI0_0, nI01a, nI01b, bN_1, no_or, true_or, or_true, false_or, or_false, ite_not, if_true, if_false, Decidable.not_not, e, e1, so16, sf16_0, sd17, sl17, am_bd, am_bs, bd_n, nI_tn, hr2, up_q, inR, hr]
theorem c112 {row : Int32} {n : Nat} (h : M 16 1 = nI n) (hn : n < 816) : RR 112 0 [.ref 16, .int row, .long 0] [] (SH, (0, 0, sl), M, D, RF) Q ↔ Q none (SH, (0, 0, sl), am_up (inR n M row) 16 1 (nI (n + 1)), D, RF) := by
  simp only [r112_0, r112_1, r112_4, am_cat0, am_catI, am_catR, am_catD, am_ndI, am_ndR, am_ndL, va_rfS, true_and, and_true, Option.toList_some, Option.toList_none, List.cons_append, List.nil_append, Nat.reduceAdd, Nat.reduceLeDiff, Nat.zero_add, Nat.le_refl, so16, h]
  rw [c112o n M hn, h, nI_add]
end CN
