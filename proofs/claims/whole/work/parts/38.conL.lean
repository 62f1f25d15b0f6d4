/-! COUNTS, ADVICE, REPORT -/
def cnE (w : Nat) : List En → Nat
  | [] => 0
  | x :: L => (if x.1 = w then 1 else 0) + cnE w L
def adB : List En → Bool
  | [] => false
  | x :: L => decide (x.2.2.2.2 ∈ [3, 11, 23, 24, 25, 33]) || adB L
theorem cnE_le (w : Nat) : ∀ L, cnE w L ≤ L.length := by
  intro L
  induction L with
  | nil => exact Nat.le_refl _
  | cons x L ih =>
    rw [cnE, List.length_cons]
    by_cases h : x.1 = w
    · rw [if_pos h]; omega
    · rw [if_neg h]; omega
theorem drop_e {L : List En} {k : Nat} (h : k < L.length) : L.drop k = L.getD k e0 :: L.drop (k + 1) := by
  rw [List.drop_eq_getElem_cons h, List.getD_eq_getElem?_getD, List.getElem?_eq_getElem h]
  rfl
/-- the version that is advised; V: the one that was set -/
def avV (V : Nat) (L : List En) : Nat := if 0 < cnE 3 L ∧ 1000000 ≤ V then (V / 1000000 + 1) * 1000000 else if 0 < cnE 3 L ∨ adB L = true then (V / 1000 + 1) * 1000 else V + 1
/-- a letter is put; a text is put -/
def puM (M : Nat → Nat → Int32) (c : Nat) : Nat → Nat → Int32 := am_up (if M 48 1 = M 48 0 then am_up M 48 2 (nI c) else M) 48 1 (M 48 1 + nI 1)
def puT (M : Nat → Nat → Int32) (T : List Nat) : Nat → Nat → Int32 := T.foldl puM M
theorem puT_a (M : Nat → Nat → Int32) (T T' : List Nat) : puT (puT M T) T' = puT M (T ++ T') := by unfold puT; rw [List.foldl_append]
theorem puM_o {M : Nat → Nat → Int32} {c q k : Nat} (h : q ≠ 48) : puM M c q k = M q k := by
  unfold puM
  rw [up_q h]
  by_cases e : M 48 1 = M 48 0
  · rw [if_pos e, up_q h]
  · rw [if_neg e]
theorem puT_o {q k : Nat} (h : q ≠ 48) : ∀ (T : List Nat) (M : Nat → Nat → Int32), puT M T q k = M q k := by
  intro T
  induction T with
  | nil => intro M; rfl
  | cons c T ih => intro M; exact (ih (puM M c)).trans (puM_o h)
/-- what is found -/
def puF (W : Int32) : List Nat → Nat → Int32 → Int32
  | [], _, f => f
  | c :: T, n, f => puF W T (n + 1) (if nI n = W then nI c else f)
theorem puF_a (W : Int32) : ∀ (T T' : List Nat) (n : Nat) (f : Int32), puF W (T ++ T') n f = puF W T' (n + T.length) (puF W T n f) := by
  intro T
  induction T with
  | nil => intro T' n f; rfl
  | cons c T ih =>
    intro T' n f
    rw [List.cons_append, puF, ih, puF, List.length_cons, Nat.add_right_comm, Nat.add_assoc n]
theorem puT_v : ∀ (T : List Nat) (M : Nat → Nat → Int32) (n : Nat), M 48 1 = nI n → puT M T 48 1 = nI (n + T.length) ∧ puT M T 48 2 = puF (M 48 0) T n (M 48 2) ∧ puT M T 48 0 = M 48 0 := by
  intro T
  induction T with
  | nil => intro M n h; exact ⟨h, rfl, rfl⟩
  | cons c T ih =>
    intro M n h
    have e1 : puM M c 48 1 = nI (n + 1) := by unfold puM; rw [up_s, h, nI_add]
    have e0 : puM M c 48 0 = M 48 0 := by
      unfold puM
      rw [up_k (by decide)]
      by_cases e : M 48 1 = M 48 0
      · rw [if_pos e, up_k (by decide)]
      · rw [if_neg e]
    have e2 : puM M c 48 2 = if nI n = M 48 0 then nI c else M 48 2 := by
      unfold puM
      rw [up_k (by decide), h]
      by_cases e : nI n = M 48 0
      · rw [if_pos e, if_pos e, up_s]
      · rw [if_neg e, if_neg e]
    obtain ⟨i1, i2, i3⟩ := ih (puM M c) (n + 1) e1
    refine ⟨?_, ?_, i3.trans e0⟩
    · show puT (puM M c) T 48 1 = _
      rw [i1, List.length_cons]
      congr 1
      omega
    · show puT (puM M c) T 48 2 = _
      rw [i2, e0, e2, puF]
/-- between M and M' the text T was put -/
def Pr (M M' : Nat → Nat → Int32) (T : List Nat) : Prop := (∀ n, M 48 1 = nI n → M' 48 1 = nI (n + T.length) ∧ M' 48 2 = puF (M 48 0) T n (M 48 2)) ∧ M' 48 0 = M 48 0 ∧ ∀ q k, q ≠ 48 → q ≠ 46 → q ≠ 47 → M' q k = M q k
theorem Pr_T (M : Nat → Nat → Int32) (T : List Nat) : Pr M (puT M T) T := by
  refine ⟨fun n h => ⟨(puT_v T M n h).1, (puT_v T M n h).2.1⟩, (puT_v T M (n32 (M 48 1)) (nI_n32 _).symm).2.2, fun q k h _ _ => puT_o h T M⟩
theorem Pr_z (M : Nat → Nat → Int32) (l : List Nat) : Pr M (nzM M l) [] := ⟨fun n h => ⟨by rw [nzM_o (by decide) (by decide)]; exact h, nzM_o (by decide) (by decide)⟩, nzM_o (by decide) (by decide), fun q k _ a b => nzM_o a b⟩
theorem Pr_t {M M1 M2 : Nat → Nat → Int32} {T T' : List Nat} (h : Pr M M1 T) (h2 : Pr M1 M2 T') : Pr M M2 (T ++ T') := by
  refine ⟨fun n hn => ?_, h2.2.1.trans h.2.1, fun q k a b c => (h2.2.2 q k a b c).trans (h.2.2 q k a b c)⟩
  obtain ⟨a1, a2⟩ := h.1 n hn
  obtain ⟨b1, b2⟩ := h2.1 _ a1
  rw [List.length_append, ← Nat.add_assoc, puF_a]
  rw [h.2.1] at b2
  rw [a2] at b2
  exact ⟨b1, b2⟩
theorem Pr_ls {M M' : Nat → Nat → Int32} {T : List Nat} {L : List En} (h : Pr M M' T) (hl : lsC M L) : lsC M' L := by
  obtain ⟨h1, h2, h3, h4⟩ := hl
  exact ⟨by rw [h.2.2 _ _ (by decide) (by decide) (by decide)]; exact h1, h2, h3, fun k hk => by rw [h.2.2 _ _ (by decide) (by decide) (by decide)]; exact h4 k hk⟩
/-- the digits of a number -/
def dgL (n : Nat) : List Nat := (if 1000 ≤ n then [48 + n / 1000 % 10] else []) ++ ((if 100 ≤ n then [48 + n / 100 % 10] else []) ++ ((if 10 ≤ n then [48 + n / 10 % 10] else []) ++ [48 + n % 10]))
def soC (w : Nat) : Nat := if w = 3 then 66 else if w = 2 then 87 else 78
def lnT (x : En) : List Nat := [soC x.1, 32] ++ (nmL x.2.1 x.2.2.1 x.2.2.2.1 ++ ([32] ++ (dgL x.2.2.2.2 ++ [10])))
def lnA : List En → List Nat
  | [] => []
  | x :: L => lnT x ++ lnA L
def liT (L : List En) : List Nat := lnA L ++ (dgL (cnE 3 L) ++ ([32] ++ (dgL (cnE 2 L) ++ ([32] ++ dgL (cnE 1 L)))))
def jsT (k : Nat) (x : En) : List Nat := am_strs.getD (if k = 0 then 7 else 8) [] ++ (dgL x.1 ++ (am_strs.getD 9 [] ++ (nmL x.2.1 x.2.2.1 x.2.2.2.1 ++ (am_strs.getD 10 [] ++ (dgL x.2.2.2.2 ++ [125])))))
def jsA : Nat → List En → List Nat
  | _, [] => []
  | k, x :: L => jsT k x ++ jsA (k + 1) L
def jsE (a : Nat) : List Nat := am_strs.getD 11 [] ++ (dgL (a / 1000000) ++ ([46] ++ (dgL (a / 1000 % 1000) ++ ([46] ++ (dgL (a % 1000) ++ am_strs.getD 12 [])))))
def jsO (L : List En) (a : Nat) : List Nat := am_strs.getD 6 [] ++ (jsA 0 L ++ jsE a)
section CN
variable {Q : Option Value → amM → Prop} {μ : amM} {S : List (Nat ⊕ (Nat × Nat))} {M : Nat → Nat → Int32} {D : Nat → Nat → UInt64} {F : Nat → Nat → Option Nat} {sl : Nat}

theorem lsC_k {L : List En} {k : Nat} (h : lsC M L) (hk : k < L.length) : k < 816 ∧ okE (L.getD k e0) ∧ lR M k = eR (L.getD k e0) ∧ M 17 k = nI (eR (L.getD k e0)) := by
  obtain ⟨h1, h2, h3, h4⟩ := h
  have hx := h3 _ (getD_mem (d := e0) hk)
  have := eR_lt hx
  exact ⟨by omega, hx, n32_of (h4 k hk) (by omega), h4 k hk⟩
theorem w_k {L : List En} {k : Nat} (h : lsC M L) (hk : k < L.length) : RR 115 0 [.ref 16, .int (nI k)] [] (SH, (0, 0, sl), M, D, RF) Q ↔ Q (some (.int (nI (L.getD k e0).1))) (SH, (0, 0, sl), M, D, RF) := by
  obtain ⟨h1, h2, h3, h4⟩ := lsC_k h hk
  have h5 := eR_lt h2
  rw [c115 h1 (by rw [h3]; omega), h3]
  obtain ⟨a1, a2, a3, a4, a5, a6, a7⟩ := h2
  unfold eR
  rw [rE_l (by omega) a4 (plO_lt _ a5) (by omega) (by omega)]
  have e : 3 - (3 - (L.getD k e0).1) = (L.getD k e0).1 := by omega
  rw [e]
theorem c_k {L : List En} {k : Nat} (h : lsC M L) (hk : k < L.length) : RR 114 0 [.ref 16, .int (nI k)] [] (SH, (0, 0, sl), M, D, RF) Q ↔ Q (some (.int (nI (L.getD k e0).2.2.2.2))) (SH, (0, 0, sl), M, D, RF) := by
  obtain ⟨h1, h2, h3, h4⟩ := lsC_k h hk
  have h5 := eR_lt h2
  rw [c114 h1 (by rw [h3]; omega), h3]
  obtain ⟨a1, a2, a3, a4, a5, a6, a7⟩ := h2
  unfold eR
  rw [rE_c (by omega) (by omega)]
theorem t_k {L : List En} {k : Nat} (h : lsC M L) (hk : k < L.length) : RR 116 0 [.ref 16, .int (nI k)] [] (SH, (0, 0, sl), M, D, RF) Q ↔ Q (some (.int (nI (L.getD k e0).2.2.1))) (SH, (0, 0, sl), M, D, RF) := by
  obtain ⟨h1, h2, h3, h4⟩ := lsC_k h hk
  have h5 := eR_lt h2
  rw [c116 h1 (by rw [h3]; omega), h3]
  obtain ⟨a1, a2, a3, a4, a5, a6, a7⟩ := h2
  unfold eR
  rw [rE_t a4 (plO_lt _ a5) (by omega) (by omega)]
theorem s_k {L : List En} {k : Nat} (h : lsC M L) (hk : k < L.length) : RR 117 0 [.ref 16, .int (nI k)] [] (SH, (0, 0, sl), M, D, RF) Q ↔ Q (some (.int (nI (L.getD k e0).2.2.2.1 - nI 1))) (SH, (0, 0, sl), M, D, RF) := by
  obtain ⟨h1, h2, h3, h4⟩ := lsC_k h hk
  rw [c117 h1, h3]
  obtain ⟨a1, a2, a3, a4, a5, a6, a7⟩ := h2
  unfold eR
  rw [rE_m (by omega)]
theorem n_k {L : List En} {k : Nat} (h : lsC M L) (hk : k < L.length) : RR 113 0 [.ref 16, .int (nI k), .ref 46] [] (SH, (0, 0, sl), M, D, RF) Q ↔ Q none (SH, (0, 0, sl), nzM M (nmL (L.getD k e0).2.1 (L.getD k e0).2.2.1 (L.getD k e0).2.2.2.1), D, RF) := by
  obtain ⟨h1, h2, h3, h4⟩ := lsC_k h hk
  obtain ⟨a1, a2, a3, a4, a5, a6, a7⟩ := h2
  exact c113 h1 (by omega) (by omega) a4 (plO_lt _ a5) (by omega) a5 h4
theorem c118o {L : List En} {w : Nat} (h : lsC M L) (hw : w < 4) : ∀ (j k c : Nat), k + j = L.length → (RR 118 4 [.ref 16, .int (nI w), .int (nI c), .int (nI k)] [] (SH, (0, 0, sl), M, D, RF) Q ↔ Q (some (.int (nI (c + cnE w (L.drop k))))) (SH, (0, 0, sl), M, D, RF)) := by
  intro j
  induction j with
  | zero =>
    intro k c hk
    have e : k = L.length := by omega
    subst e
    rw [r118_4]
    simp only [r118_0, r118_1, r118_2, r118_3, r118_5, r118_6, r118_9, r118_12, r118_13, r118_14, r118_17, r118_18, r118_21, r118_24, r118_27, r118_30, r118_31, am_cat0, am_catI, am_catR, am_catD, am_ndI, am_ndR, am_ndL, va_rfS, true_and, and_true, Option.toList_some, Option.toList_none, List.cons_append, List.nil_append, Nat.reduceAdd, Nat.reduceLeDiff, Nat.zero_add, Nat.le_refl, so16, h.1, Int32.le_refl, if_true, List.drop_length, cnE, Nat.add_zero]
  | succ j ih =>
    intro k c hk
    have hl : k < L.length := by omega
    have hL := h.2.1
    obtain ⟨-, hx, -, -⟩ := lsC_k h hl
    have hx1 := hx.2.1
    rw [r118_4]
    by_cases e : (L.getD k e0).1 = w
    · simp (disch := omega) only [r118_0, r118_1, r118_2, r118_3, r118_5, r118_6, r118_9, r118_12, r118_13, r118_14, r118_17, r118_18, r118_21, r118_24, r118_27, r118_30, r118_31, am_cat0, am_catI, am_catR, am_catD, am_ndI, am_ndR, am_ndL, va_rfS, true_and, and_true, Option.toList_some, Option.toList_none, List.cons_append, List.nil_append, Nat.reduceAdd, Nat.reduceLeDiff, Nat.zero_add, Nat.le_refl, so16, h.1, nx_le, Nat.not_le.mpr hl, if_false, if_true, w_k h hl, nx_imp, e, not_true_eq_false, am_ndI, nI_add]
      rw [ih (k + 1) (c + 1) (by omega), drop_e hl, cnE, if_pos e]
      have e2 : c + 1 + cnE w (L.drop (k + 1)) = c + (1 + cnE w (L.drop (k + 1))) := by omega
      rw [e2]
    · simp (disch := omega) only [r118_0, r118_1, r118_2, r118_3, r118_5, r118_6, r118_9, r118_12, r118_13, r118_14, r118_17, r118_18, r118_21, r118_24, r118_27, r118_30, r118_31, am_cat0, am_catI, am_catR, am_catD, am_ndI, am_ndR, am_ndL, va_rfS, true_and, and_true, Option.toList_some, Option.toList_none, List.cons_append, List.nil_append, Nat.reduceAdd, Nat.reduceLeDiff, Nat.zero_add, Nat.le_refl, so16, h.1, nx_le, Nat.not_le.mpr hl, if_false, if_true, w_k h hl, nx_imp, e, not_false_eq_true, am_ndI, nI_add]
      rw [ih (k + 1) c (by omega), drop_e hl, cnE, if_neg e, Nat.zero_add]
theorem c118 {L : List En} {w : Nat} (h : lsC M L) (hw : w < 4) : RR 118 0 [.ref 16, .int (nI w), .long 0, .long 0] [] (SH, (0, 0, sl), M, D, RF) Q ↔ Q (some (.int (nI (cnE w L)))) (SH, (0, 0, sl), M, D, RF) := by
  simp only [r118_0, r118_1, r118_2, r118_3, am_cat0, am_catI, am_catR, am_catD, am_ndI, am_ndR, am_ndL, va_rfS, true_and, and_true, Option.toList_some, Option.toList_none, List.cons_append, List.nil_append, Nat.reduceAdd, Nat.reduceLeDiff, Nat.zero_add, Nat.le_refl]
  rw [c118o h hw L.length 0 0 (by omega), Nat.zero_add, List.drop_zero]
theorem c119o {L : List En} (h : lsC M L) : ∀ (j k : Nat), k + j = L.length → (RR 119 2 [.ref 16, .int (nI k)] [] (SH, (0, 0, sl), M, D, RF) Q ↔ Q (some (.int (bN (adB (L.drop k) = true)))) (SH, (0, 0, sl), M, D, RF)) := by
  intro j
  induction j with
  | zero =>
    intro k hk
    have e : k = L.length := by omega
    subst e
    rw [r119_2]
    simp only [r119_0, r119_1, r119_3, r119_4, r119_7, r119_10, r119_11, r119_12, r119_15, r119_18, r119_21, r119_22, r119_23, r119_26, r119_29, r119_30, am_cat0, am_catI, am_catR, am_catD, am_ndI, am_ndR, am_ndL, va_rfS, true_and, and_true, Option.toList_some, Option.toList_none, List.cons_append, List.nil_append, Nat.reduceAdd, Nat.reduceLeDiff, Nat.zero_add, Nat.le_refl, rw_mrg, ite_Q, ite_bN, ite_bN', ib_0b, ib_b0, ib_1b, ib_b1, bN_0, bN_n0, bN_01T, nI1_0, nI0_0, nI01a, nI01b, bN_1, no_or, true_or, or_true, false_or, or_false, ite_not, if_true, if_false, Decidable.not_not, so16, h.1, Int32.le_refl, List.drop_length, adB]
    rw [bN_f (p := false = true) (by decide)]
  | succ j ih =>
    intro k hk
    have hl : k < L.length := by omega
    have hL := h.2.1
    obtain ⟨-, hx, -, -⟩ := lsC_k h hl
    have hx1 := hx.2.2.2.2.2.2
    rw [r119_2]
    by_cases e0' : (L.getD k e0).2.2.2.2 ∈ [3, 11, 23, 24, 25, 33]
    · simp (disch := omega) only [r119_0, r119_1, r119_3, r119_4, r119_7, r119_10, r119_11, r119_12, r119_15, r119_18, r119_21, r119_22, r119_23, r119_26, r119_29, r119_30, am_cat0, am_catI, am_catR, am_catD, am_ndI, am_ndR, am_ndL, va_rfS, true_and, and_true, Option.toList_some, Option.toList_none, List.cons_append, List.nil_append, Nat.reduceAdd, Nat.reduceLeDiff, Nat.zero_add, Nat.le_refl, rw_mrg, ite_Q, ite_bN, ite_bN', ib_0b, ib_b0, ib_1b, ib_b1, bN_0, bN_n0, bN_01T, nI1_0, nI0_0, nI01a, nI01b, bN_1, no_or, true_or, or_true, false_or, or_false, ite_not, if_true, if_false, Decidable.not_not, so16, h.1, nx_le, Nat.not_le.mpr hl, c_k h hl, c30, bN_t e0', not_true_eq_false]
      rw [drop_e hl, adB, bN_t (by rw [decide_eq_true e0', Bool.true_or])]
    · simp (disch := omega) only [r119_0, r119_1, r119_3, r119_4, r119_7, r119_10, r119_11, r119_12, r119_15, r119_18, r119_21, r119_22, r119_23, r119_26, r119_29, r119_30, am_cat0, am_catI, am_catR, am_catD, am_ndI, am_ndR, am_ndL, va_rfS, true_and, and_true, Option.toList_some, Option.toList_none, List.cons_append, List.nil_append, Nat.reduceAdd, Nat.reduceLeDiff, Nat.zero_add, Nat.le_refl, rw_mrg, ite_Q, ite_bN, ite_bN', ib_0b, ib_b0, ib_1b, ib_b1, bN_0, bN_n0, bN_01T, nI1_0, nI0_0, nI01a, nI01b, bN_1, no_or, true_or, or_true, false_or, or_false, ite_not, if_true, if_false, Decidable.not_not, so16, h.1, nx_le, Nat.not_le.mpr hl, c_k h hl, c30, bN_f e0', not_false_eq_true, am_ndR, nI_add]
      rw [ih (k + 1) (by omega), drop_e hl, adB]
      exact bN_Q (by rw [decide_eq_false e0', Bool.false_or])
theorem c119 {L : List En} (h : lsC M L) : RR 119 0 [.ref 16, .long 0] [] (SH, (0, 0, sl), M, D, RF) Q ↔ Q (some (.int (bN (adB L = true)))) (SH, (0, 0, sl), M, D, RF) := by
  simp only [r119_0, r119_1, am_cat0, am_catI, am_catR, am_catD, am_ndI, am_ndR, am_ndL, va_rfS, true_and, and_true, Option.toList_some, Option.toList_none, List.cons_append, List.nil_append, Nat.reduceAdd, Nat.reduceLeDiff, Nat.zero_add, Nat.le_refl, am_ndR]
  rw [c119o h L.length 0 (by omega), List.drop_zero]
theorem c19 {L : List En} {V : Nat} (h : lsC M L) (hV : M 0 5 = nI V) (hV2 : V < 1000000000) : RR 19 0 [.ref 0, .ref 16, .long 0] [] (SH, (0, 0, sl), M, D, RF) Q ↔ Q (some (.int (nI (avV V L)))) (SH, (0, 0, sl), M, D, RF) := by
  have hL := h.2.1
  have hc := cnE_le 3 L
  have e6 : ¬ nI 1000000 = 0 := by decide
  have e3 : ¬ nI 1000 = 0 := by decide
  by_cases h3 : 0 < cnE 3 L
  · have e0 : ¬ nI (cnE 3 L) ≤ 0 := nI_nle h3 (by omega)
    by_cases hb : 1000000 ≤ V
    · simp (disch := omega) only [r19_0, r19_1, r19_2, r19_5, r19_8, r19_9, r19_12, r19_13, r19_14, r19_15, r19_18, r19_19, r19_22, r19_24, r19_27, r19_28, r19_31, r19_33, r19_34, r19_35, r19_36, r19_38, r19_39, r19_40, r19_41, r19_44, r19_45, r19_48, r19_51, r19_52, r19_55, r19_58, r19_59, r19_60, r19_61, r19_64, r19_65, r19_66, r19_67, r19_70, r19_71, r19_72, am_cat0, am_catI, am_catR, am_catD, am_ndI, am_ndR, am_ndL, va_rfS, true_and, and_true, Option.toList_some, Option.toList_none, List.cons_append, List.nil_append, Nat.reduceAdd, Nat.reduceLeDiff, Nat.zero_add, Nat.le_refl, rw_mrg, ite_Q, ite_bN, ite_bN', ib_0b, ib_b0, ib_1b, ib_b1, bN_0, bN_n0, bN_01T, nI1_0, nI0_0, nI01a, nI01b, bN_1, no_or, true_or, or_true, false_or, or_false, ite_not, if_true, if_false, Decidable.not_not, so0, so16, c118 h (show 3 < 4 by decide), e0, hV, nx_lt, Nat.not_lt.mpr hb, e6, not_false_eq_true, nx_dv, nI_add, pk_mul, am_ndR]
      rw [avV, if_pos ⟨h3, hb⟩]
    · have hb2 : V < 1000000 := by omega
      simp (disch := omega) only [r19_0, r19_1, r19_2, r19_5, r19_8, r19_9, r19_12, r19_13, r19_14, r19_15, r19_18, r19_19, r19_22, r19_24, r19_27, r19_28, r19_31, r19_33, r19_34, r19_35, r19_36, r19_38, r19_39, r19_40, r19_41, r19_44, r19_45, r19_48, r19_51, r19_52, r19_55, r19_58, r19_59, r19_60, r19_61, r19_64, r19_65, r19_66, r19_67, r19_70, r19_71, r19_72, am_cat0, am_catI, am_catR, am_catD, am_ndI, am_ndR, am_ndL, va_rfS, true_and, and_true, Option.toList_some, Option.toList_none, List.cons_append, List.nil_append, Nat.reduceAdd, Nat.reduceLeDiff, Nat.zero_add, Nat.le_refl, rw_mrg, ite_Q, ite_bN, ite_bN', ib_0b, ib_b0, ib_1b, ib_b1, bN_0, bN_n0, bN_01T, nI1_0, nI0_0, nI01a, nI01b, bN_1, no_or, true_or, or_true, false_or, or_false, ite_not, if_true, if_false, Decidable.not_not, so0, so16, c118 h (show 3 < 4 by decide), e0, hV, nx_lt, hb2, e3, not_false_eq_true, nx_dv, nI_add, pk_mul, am_ndR]
      rw [avV, if_neg (fun z => hb z.2), if_pos (Or.inl h3)]
  · have e0 : nI (cnE 3 L) ≤ 0 := by rw [show cnE 3 L = 0 by omega]; decide
    by_cases hb : adB L = true
    · simp (disch := omega) only [r19_0, r19_1, r19_2, r19_5, r19_8, r19_9, r19_12, r19_13, r19_14, r19_15, r19_18, r19_19, r19_22, r19_24, r19_27, r19_28, r19_31, r19_33, r19_34, r19_35, r19_36, r19_38, r19_39, r19_40, r19_41, r19_44, r19_45, r19_48, r19_51, r19_52, r19_55, r19_58, r19_59, r19_60, r19_61, r19_64, r19_65, r19_66, r19_67, r19_70, r19_71, r19_72, am_cat0, am_catI, am_catR, am_catD, am_ndI, am_ndR, am_ndL, va_rfS, true_and, and_true, Option.toList_some, Option.toList_none, List.cons_append, List.nil_append, Nat.reduceAdd, Nat.reduceLeDiff, Nat.zero_add, Nat.le_refl, rw_mrg, ite_Q, ite_bN, ite_bN', ib_0b, ib_b0, ib_1b, ib_b1, bN_0, bN_n0, bN_01T, nI1_0, nI0_0, nI01a, nI01b, bN_1, no_or, true_or, or_true, false_or, or_false, ite_not, if_true, if_false, Decidable.not_not, so0, so16, c118 h (show 3 < 4 by decide), e0, hV, c119 h, bN_t hb, e3, not_false_eq_true, nx_dv, nI_add, pk_mul, am_ndR]
      rw [avV, if_neg (fun z => h3 z.1), if_pos (Or.inr hb)]
    · simp (disch := omega) only [r19_0, r19_1, r19_2, r19_5, r19_8, r19_9, r19_12, r19_13, r19_14, r19_15, r19_18, r19_19, r19_22, r19_24, r19_27, r19_28, r19_31, r19_33, r19_34, r19_35, r19_36, r19_38, r19_39, r19_40, r19_41, r19_44, r19_45, r19_48, r19_51, r19_52, r19_55, r19_58, r19_59, r19_60, r19_61, r19_64, r19_65, r19_66, r19_67, r19_70, r19_71, r19_72, am_cat0, am_catI, am_catR, am_catD, am_ndI, am_ndR, am_ndL, va_rfS, true_and, and_true, Option.toList_some, Option.toList_none, List.cons_append, List.nil_append, Nat.reduceAdd, Nat.reduceLeDiff, Nat.zero_add, Nat.le_refl, rw_mrg, ite_Q, ite_bN, ite_bN', ib_0b, ib_b0, ib_1b, ib_b1, bN_0, bN_n0, bN_01T, nI1_0, nI0_0, nI01a, nI01b, bN_1, no_or, true_or, or_true, false_or, or_false, ite_not, if_true, if_false, Decidable.not_not, so0, so16, c118 h (show 3 < 4 by decide), e0, hV, c119 h, bN_f hb, not_false_eq_true, nI_add, am_ndR]
      rw [avV, if_neg (fun z => h3 z.1), if_neg (fun z => z.elim h3 hb)]
theorem c136 {k : Int32} : RR 136 0 [.ref 48, .int k] [] (SH, (0, 0, sl), M, D, RF) Q ↔ Q none (SH, (0, 0, sl), am_up (am_up (am_up M 48 0 k) 48 1 (nI 0)) 48 2 (-2), D, RF) := by
  simp only [r136_0, r136_1, r136_2, r136_5, r136_6, r136_7, r136_10, r136_11, r136_13, r136_16, am_cat0, am_catI, am_catR, am_catD, am_ndI, am_ndR, am_ndL, va_rfS, true_and, and_true, Option.toList_some, Option.toList_none, List.cons_append, List.nil_append, Nat.reduceAdd, Nat.reduceLeDiff, Nat.zero_add, Nat.le_refl, so48]
theorem c137 : RR 137 0 [.ref 48] [] (SH, (0, 0, sl), M, D, RF) Q ↔ Q (some (.int (M 48 1))) (SH, (0, 0, sl), M, D, RF) := by simp only [r137_0, r137_1, r137_4, am_cat0, am_catI, am_catR, am_catD, am_ndI, am_ndR, am_ndL, va_rfS, true_and, and_true, Option.toList_some, Option.toList_none, List.cons_append, List.nil_append, Nat.reduceAdd, Nat.reduceLeDiff, Nat.zero_add, Nat.le_refl, so48]
theorem c138 : RR 138 0 [.ref 48] [] (SH, (0, 0, sl), M, D, RF) Q ↔ Q (some (.int (M 48 2))) (SH, (0, 0, sl), M, D, RF) := by simp only [r138_0, r138_1, r138_4, am_cat0, am_catI, am_catR, am_catD, am_ndI, am_ndR, am_ndL, va_rfS, true_and, and_true, Option.toList_some, Option.toList_none, List.cons_append, List.nil_append, Nat.reduceAdd, Nat.reduceLeDiff, Nat.zero_add, Nat.le_refl, so48]
theorem c141 {w : Nat} (h : w < 4) : RR 141 0 [.int (nI w)] [] μ Q ↔ Q (some (.int (nI (soC w)))) μ := by
  have hw : w = 0 ∨ w = 1 ∨ w = 2 ∨ w = 3 := by omega
  have e1 : (nI 0 = nI 3) = False := eq_false (by decide)
  have e2 : (nI 0 = nI 2) = False := eq_false (by decide)
  have e3 : (nI 1 = nI 3) = False := eq_false (by decide)
  have e4 : (nI 1 = nI 2) = False := eq_false (by decide)
  have e5 : (nI 2 = nI 3) = False := eq_false (by decide)
  rcases hw with rfl | rfl | rfl | rfl <;> simp (disch := omega) only [r141_0, r141_1, r141_2, r141_5, r141_7, r141_10, r141_11, r141_12, r141_15, r141_17, r141_20, r141_22, am_cat0, am_catI, am_catR, am_catD, am_ndI, am_ndR, am_ndL, va_rfS, true_and, and_true, Option.toList_some, Option.toList_none, List.cons_append, List.nil_append, Nat.reduceAdd, Nat.reduceLeDiff, Nat.zero_add, Nat.le_refl, rw_mrg, ite_Q, ite_bN, ite_bN', ib_0b, ib_b0, ib_1b, ib_b1, bN_0, bN_n0, bN_01T, nI1_0, nI0_0, nI01a, nI01b, bN_1, no_or, true_or, or_true, false_or, or_false, ite_not, if_true, if_false, Decidable.not_not, e1, e2, e3, e4, e5, not_true_eq_false, not_false_eq_true, nx_chr] <;> rfl
theorem c142 {c : Nat} : RR 142 0 [.ref 48, .int (nI c)] [] (SH, (0, 0, sl), M, D, RF) Q ↔ Q none (SH, (0, 0, sl), puM M c, D, RF) := by
  by_cases e : M 48 1 = M 48 0
  · simp (disch := decide) only [r142_0, r142_1, r142_4, r142_5, r142_8, r142_11, r142_12, r142_13, r142_16, r142_17, r142_17i, r142_18, r142_21, r142_22, r142_23, r142_26, am_cat0, am_catI, am_catR, am_catD, am_ndI, am_ndR, am_ndL, va_rfS, true_and, and_true, Option.toList_some, Option.toList_none, List.cons_append, List.nil_append, Nat.reduceAdd, Nat.reduceLeDiff, Nat.zero_add, Nat.le_refl, rw_mrg, ite_Q, ite_bN, ite_bN', ib_0b, ib_b0, ib_1b, ib_b1, bN_0, bN_n0, bN_01T, nI1_0, nI0_0, nI01a, nI01b, bN_1, no_or, true_or, or_true, false_or, or_false, ite_not, if_true, if_false, Decidable.not_not, so48, e, not_true_eq_false, up_k]
    unfold puM
    rw [if_pos e, e]
  · simp (disch := decide) only [r142_0, r142_1, r142_4, r142_5, r142_8, r142_11, r142_12, r142_13, r142_16, r142_17, r142_17i, r142_18, r142_21, r142_22, r142_23, r142_26, am_cat0, am_catI, am_catR, am_catD, am_ndI, am_ndR, am_ndL, va_rfS, true_and, and_true, Option.toList_some, Option.toList_none, List.cons_append, List.nil_append, Nat.reduceAdd, Nat.reduceLeDiff, Nat.zero_add, Nat.le_refl, rw_mrg, ite_Q, ite_bN, ite_bN', ib_0b, ib_b0, ib_1b, ib_b1, bN_0, bN_n0, bN_01T, nI1_0, nI0_0, nI01a, nI01b, bN_1, no_or, true_or, or_true, false_or, or_false, ite_not, if_true, if_false, Decidable.not_not, so48, e, not_false_eq_true]
    unfold puM
    rw [if_neg e]
theorem puT_s (M : Nat → Nat → Int32) (T : List Nat) (c : Nat) : puM (puT M T) c = puT M (T ++ [c]) := by rw [← puT_a]; rfl
theorem c143o {i : Nat} (hi : i < 13) : ∀ (k j : Nat) (M : Nat → Nat → Int32), j + k = (am_strs.getD i []).length → (RR 143 2 [.ref 48, .ref (1000001 + i), .int (nI j)] [] (SH, (0, 0, sl), M, D, RF) Q ↔ Q none (SH, (0, 0, sl), puT M ((am_strs.getD i []).drop j), D, RF)) := by
  obtain ⟨hn, hs⟩ := strs_ok
  obtain ⟨hs1, hs2⟩ := hs i hi
  intro k
  induction k with
  | zero =>
    intro j M h
    have hj : j = (am_strs.getD i []).length := by omega
    rw [r143_2]
    simp (disch := omega) only [r143_0, r143_1, r143_3, r143_4, r143_7, r143_10, r143_11, r143_12, r143_13, r143_16, r143_19, r143_22, r143_25, am_cat0, am_catI, am_catR, am_catD, am_ndI, am_ndR, am_ndL, va_rfS, true_and, and_true, Option.toList_some, Option.toList_none, List.cons_append, List.nil_append, Nat.reduceAdd, Nat.reduceLeDiff, Nat.zero_add, Nat.le_refl, rw_mrg, ite_Q, ite_bN, ite_bN', ib_0b, ib_b0, ib_1b, ib_b1, bN_0, bN_n0, bN_01T, nI1_0, nI0_0, nI01a, nI01b, bN_1, no_or, true_or, or_true, false_or, or_false, ite_not, if_true, if_false, Decidable.not_not, Nat.add_sub_cancel_left, hn, hi, Nat.le_add_right, nx_le, hj]
    rw [List.drop_length]
    rfl
  | succ k ih =>
    intro j M h
    have hj : j < (am_strs.getD i []).length := by omega
    have hjt : (nI j).toInt = (j : Int) := nI_toInt (by omega)
    have hjn : (nI j).toInt.toNat = j := nI_tn (by omega)
    rw [r143_2]
    simp (disch := omega) only [r143_0, r143_1, r143_3, r143_4, r143_7, r143_10, r143_11, r143_12, r143_13, r143_16, r143_19, r143_22, r143_25, am_cat0, am_catI, am_catR, am_catD, am_ndI, am_ndR, am_ndL, va_rfS, true_and, and_true, Option.toList_some, Option.toList_none, List.cons_append, List.nil_append, Nat.reduceAdd, Nat.reduceLeDiff, Nat.zero_add, Nat.le_refl, rw_mrg, ite_Q, ite_bN, ite_bN', ib_0b, ib_b0, ib_1b, ib_b1, bN_0, bN_n0, bN_01T, nI1_0, nI0_0, nI01a, nI01b, bN_1, no_or, true_or, or_true, false_or, or_false, ite_not, if_true, if_false, Decidable.not_not, Nat.add_sub_cancel_left, hn, hi, Nat.le_add_right, nx_le, Nat.not_le.mpr hj, hjn, so48, c142, am_ndR, nI_add]
    have e0 : (0 ≤ (nI j).toInt ∧ (nI j).toInt < ((am_strs.getD i []).length : Int)) := by rw [hjt]; omega
    simp only [e0, and_self, true_and]
    rw [ih (j + 1) _ (by omega)]
    have e1 := drop_getD hj
    rw [← e1]
    rfl
theorem c143 {i : Nat} (hi : i < 13) : RR 143 0 [.ref 48, .ref (1000001 + i), .long 0] [] (SH, (0, 0, sl), M, D, RF) Q ↔ Q none (SH, (0, 0, sl), puT M (am_strs.getD i []), D, RF) := by
  simp only [r143_0, r143_1, am_cat0, am_catI, am_catR, am_catD, am_ndI, am_ndR, am_ndL, va_rfS, true_and, and_true, Option.toList_some, Option.toList_none, List.cons_append, List.nil_append, Nat.reduceAdd, Nat.reduceLeDiff, Nat.zero_add, Nat.le_refl]
  rw [c143o hi (am_strs.getD i []).length 0 M (by omega), List.drop_zero]
theorem nm_p {l T : List Nat} (h : nmIs M l) : nmIs (puT M T) l := ⟨by rw [puT_o (by decide)]; exact h.1, fun i hi => by rw [puT_o (by decide)]; exact h.2.1 i hi, h.2.2⟩
theorem c144o {l : List Nat} : ∀ (k j : Nat) (M : Nat → Nat → Int32), nmIs M l → j + k = l.length → (RR 144 2 [.ref 48, .ref 46, .int (nI j)] [] (SH, (0, 0, sl), M, D, RF) Q ↔ Q none (SH, (0, 0, sl), puT M (l.drop j), D, RF)) := by
  intro k
  induction k with
  | zero =>
    intro j M hn h
    have hj : j = l.length := by omega
    rw [r144_2]
    simp (disch := omega) only [r144_0, r144_1, r144_3, r144_4, r144_7, r144_10, r144_11, r144_12, r144_13, r144_16, r144_19, r144_22, r144_25, am_cat0, am_catI, am_catR, am_catD, am_ndI, am_ndR, am_ndL, va_rfS, true_and, and_true, Option.toList_some, Option.toList_none, List.cons_append, List.nil_append, Nat.reduceAdd, Nat.reduceLeDiff, Nat.zero_add, Nat.le_refl, rw_mrg, ite_Q, ite_bN, ite_bN', ib_0b, ib_b0, ib_1b, ib_b1, bN_0, bN_n0, bN_01T, nI1_0, nI0_0, nI01a, nI01b, bN_1, no_or, true_or, or_true, false_or, or_false, ite_not, if_true, if_false, Decidable.not_not, so46, c125 hn, hj, Int32.le_refl]
    rw [List.drop_length]
    rfl
  | succ k ih =>
    intro j M hn h
    have hj : j < l.length := by omega
    have hl := hn.2.2.1
    rw [r144_2]
    simp (disch := omega) only [r144_0, r144_1, r144_3, r144_4, r144_7, r144_10, r144_11, r144_12, r144_13, r144_16, r144_19, r144_22, r144_25, am_cat0, am_catI, am_catR, am_catD, am_ndI, am_ndR, am_ndL, va_rfS, true_and, and_true, Option.toList_some, Option.toList_none, List.cons_append, List.nil_append, Nat.reduceAdd, Nat.reduceLeDiff, Nat.zero_add, Nat.le_refl, rw_mrg, ite_Q, ite_bN, ite_bN', ib_0b, ib_b0, ib_1b, ib_b1, bN_0, bN_n0, bN_01T, nI1_0, nI0_0, nI01a, nI01b, bN_1, no_or, true_or, or_true, false_or, or_false, ite_not, if_true, if_false, Decidable.not_not, so46, so48, c125 hn, c126 hn hj, nx_le, Nat.not_le.mpr hj, c142, am_ndR, nI_add]
    have h2 : nmIs (puM M (l.getD j 0)) l := nm_p (T := [l.getD j 0]) hn
    rw [ih (j + 1) _ h2 (by omega)]
    have e1 := drop_getD hj
    rw [← e1]
    rfl
theorem c144 {l : List Nat} (hn : nmIs M l) : RR 144 0 [.ref 48, .ref 46, .long 0] [] (SH, (0, 0, sl), M, D, RF) Q ↔ Q none (SH, (0, 0, sl), puT M l, D, RF) := by
  simp only [r144_0, r144_1, am_cat0, am_catI, am_catR, am_catD, am_ndI, am_ndR, am_ndL, va_rfS, true_and, and_true, Option.toList_some, Option.toList_none, List.cons_append, List.nil_append, Nat.reduceAdd, Nat.reduceLeDiff, Nat.zero_add, Nat.le_refl]
  rw [c144o l.length 0 M hn (by omega), List.drop_zero]
theorem c145s {n u : Nat} (hn : n < 2 ^ 31) (hu : 0 < u) (hu2 : u ≤ 1000) : RR 145 4 [.ref 48, .int (nI n), .int (nI u)] [] (SH, (0, 0, sl), M, D, RF) Q ↔ RR 145 4 [.ref 48, .int (nI n), .int (nI (u / 10))] [] (SH, (0, 0, sl), puT M (if u ≤ n ∨ u = 1 then [48 + n / u % 10] else []), D, RF) Q := by
  have e0 : ¬ nI u ≤ 0 := nI_nle hu (by omega)
  have e1 : ¬ nI u = 0 := by rw [nx_0 (by omega)]; omega
  have e2 : ¬ nI 10 = 0 := by decide
  have hd : n / u < 2 ^ 31 := Nat.lt_of_le_of_lt (Nat.div_le_self _ _) hn
  rw [r145_4]
  by_cases h : u ≤ n
  · rw [if_pos (Or.inl h)]
    have h' : u ≤ n := h
    simp (disch := omega) only [r145_0, r145_3, r145_5, r145_8, r145_9, r145_10, r145_13, r145_14, r145_15, r145_18, r145_19, r145_21, r145_22, r145_23, r145_24, r145_26, r145_27, r145_28, r145_29, r145_32, r145_33, r145_35, r145_36, r145_37, r145_40, am_cat0, am_catI, am_catR, am_catD, am_ndI, am_ndR, am_ndL, va_rfS, true_and, and_true, Option.toList_some, Option.toList_none, List.cons_append, List.nil_append, Nat.reduceAdd, Nat.reduceLeDiff, Nat.zero_add, Nat.le_refl, rw_mrg, ite_Q, ite_bN, ite_bN', ib_0b, ib_b0, ib_1b, ib_b1, bN_0, bN_n0, bN_01T, nI1_0, nI0_0, nI01a, nI01b, bN_1, no_or, true_or, or_true, false_or, or_false, ite_not, if_true, if_false, Decidable.not_not, e0, e1, e2, not_false_eq_true, nx_le, h', nx_dv, nx_rm, nx_rm2, nI_add, nx_i2c, so48, c142, am_ndI]
    rfl
  · by_cases h1 : u = 1
    · rw [if_pos (Or.inr h1)]
      have h1' : (nI u = nI 1) = True := eq_true (by rw [h1])
      simp (disch := omega) only [r145_0, r145_3, r145_5, r145_8, r145_9, r145_10, r145_13, r145_14, r145_15, r145_18, r145_19, r145_21, r145_22, r145_23, r145_24, r145_26, r145_27, r145_28, r145_29, r145_32, r145_33, r145_35, r145_36, r145_37, r145_40, am_cat0, am_catI, am_catR, am_catD, am_ndI, am_ndR, am_ndL, va_rfS, true_and, and_true, Option.toList_some, Option.toList_none, List.cons_append, List.nil_append, Nat.reduceAdd, Nat.reduceLeDiff, Nat.zero_add, Nat.le_refl, rw_mrg, ite_Q, ite_bN, ite_bN', ib_0b, ib_b0, ib_1b, ib_b1, bN_0, bN_n0, bN_01T, nI1_0, nI0_0, nI01a, nI01b, bN_1, no_or, true_or, or_true, false_or, or_false, ite_not, if_true, if_false, Decidable.not_not, e0, e1, e2, not_false_eq_true, not_true_eq_false, nx_le, h, h1', nx_dv, nx_rm, nx_rm2, nI_add, nx_i2c, so48, c142, am_ndI]
      rfl
    · rw [if_neg (fun z => z.elim h h1)]
      have h1' : (nI u = nI 1) = False := eq_false (by rw [nx_eq (by omega) (by omega)]; exact h1)
      simp (disch := omega) only [r145_0, r145_3, r145_5, r145_8, r145_9, r145_10, r145_13, r145_14, r145_15, r145_18, r145_19, r145_21, r145_22, r145_23, r145_24, r145_26, r145_27, r145_28, r145_29, r145_32, r145_33, r145_35, r145_36, r145_37, r145_40, am_cat0, am_catI, am_catR, am_catD, am_ndI, am_ndR, am_ndL, va_rfS, true_and, and_true, Option.toList_some, Option.toList_none, List.cons_append, List.nil_append, Nat.reduceAdd, Nat.reduceLeDiff, Nat.zero_add, Nat.le_refl, rw_mrg, ite_Q, ite_bN, ite_bN', ib_0b, ib_b0, ib_1b, ib_b1, bN_0, bN_n0, bN_01T, nI1_0, nI0_0, nI01a, nI01b, bN_1, no_or, true_or, or_true, false_or, or_false, ite_not, if_true, if_false, Decidable.not_not, e0, e1, e2, not_false_eq_true, not_true_eq_false, nx_le, h, h1', nx_dv, am_ndI]
      rfl
theorem c145 {n : Nat} (hn : n < 10000) : RR 145 0 [.ref 48, .int (nI n), .long 0] [] (SH, (0, 0, sl), M, D, RF) Q ↔ Q none (SH, (0, 0, sl), puT M (dgL n), D, RF) := by
  simp only [r145_0, r145_3, am_cat0, am_catI, am_catR, am_catD, am_ndI, am_ndR, am_ndL, va_rfS, true_and, and_true, Option.toList_some, Option.toList_none, List.cons_append, List.nil_append, Nat.reduceAdd, Nat.reduceLeDiff, Nat.zero_add, Nat.le_refl, am_ndI]
  rw [c145s (by omega) (by decide) (by decide), c145s (by omega) (by decide) (by decide), c145s (by omega) (by decide) (by decide), c145s (by omega) (by decide) (by decide)]
  have e0 : nI (1000 / 10 / 10 / 10 / 10) ≤ 0 := by decide
  rw [r145_4]
  simp only [r145_5, e0, if_true, r145_40, puT_a]
  simp [dgL, Nat.div_one]
end CN
