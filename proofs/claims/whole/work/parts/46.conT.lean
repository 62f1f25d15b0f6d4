/-! THE MODEL: what it tells -/
def tlM (M : Nat → Nat → Int32) (c : Nat) : Nat → Nat → Int32 := am_up (if M 49 26 = M 49 25 then am_up M 49 27 (nI c) else M) 49 26 (M 49 26 + nI 1)
def tlT (M : Nat → Nat → Int32) (T : List Nat) : Nat → Nat → Int32 := T.foldl tlM M
theorem tlT_a (M : Nat → Nat → Int32) (T T' : List Nat) : tlT (tlT M T) T' = tlT M (T ++ T') := by unfold tlT; rw [List.foldl_append]
theorem tlM_e (M : Nat → Nat → Int32) (c : Nat) : tlM M c = tlT M [c] := rfl
theorem tlM_o {M : Nat → Nat → Int32} {c q k : Nat} (h : ¬ (q = 49 ∧ 25 ≤ k)) : tlM M c q k = M q k := by
  unfold tlM
  rw [up_n (fun z => h ⟨z.1, by omega⟩)]
  by_cases e : M 49 26 = M 49 25
  · rw [if_pos e, up_n (fun z => h ⟨z.1, by omega⟩)]
  · rw [if_neg e]
theorem tlT_o {q k : Nat} (h : ¬ (q = 49 ∧ 25 ≤ k)) : ∀ (T : List Nat) (M : Nat → Nat → Int32), tlT M T q k = M q k := by
  intro T
  induction T with
  | nil => intro M; rfl
  | cons c T ih => intro M; exact (ih (tlM M c)).trans (tlM_o h)
theorem tlT_v : ∀ (T : List Nat) (M : Nat → Nat → Int32) (n : Nat), M 49 26 = nI n → tlT M T 49 26 = nI (n + T.length) ∧ tlT M T 49 27 = puF (M 49 25) T n (M 49 27) ∧ tlT M T 49 25 = M 49 25 := by
  intro T
  induction T with
  | nil => intro M n h; exact ⟨h, rfl, rfl⟩
  | cons c T ih =>
    intro M n h
    have e1 : tlM M c 49 26 = nI (n + 1) := by unfold tlM; rw [up_s, h, nI_add]
    have e0 : tlM M c 49 25 = M 49 25 := by
      unfold tlM
      rw [up_k (by decide)]
      by_cases e : M 49 26 = M 49 25
      · rw [if_pos e, up_k (by decide)]
      · rw [if_neg e]
    have e2 : tlM M c 49 27 = if nI n = M 49 25 then nI c else M 49 27 := by
      unfold tlM
      rw [up_k (by decide), h]
      by_cases e : nI n = M 49 25
      · rw [if_pos e, if_pos e, up_s]
      · rw [if_neg e, if_neg e]
    obtain ⟨i1, i2, i3⟩ := ih (tlM M c) (n + 1) e1
    refine ⟨?_, ?_, i3.trans e0⟩
    · show tlT (tlM M c) T 49 26 = _
      rw [i1, List.length_cons]
      congr 1
      omega
    · show tlT (tlM M c) T 49 27 = _
      rw [i2, e0, e2, puF]
/-- between M and M' the model told the text T -/
def Mr (M M' : Nat → Nat → Int32) (T : List Nat) : Prop := (∀ n, M 49 26 = nI n → M' 49 26 = nI (n + T.length) ∧ M' 49 27 = puF (M 49 25) T n (M 49 27)) ∧ M' 49 25 = M 49 25 ∧ ∀ q k, ¬ (q = 49 ∧ 25 ≤ k) → q ≠ 68 → M' q k = M q k
theorem Mr_T (M : Nat → Nat → Int32) (T : List Nat) : Mr M (tlT M T) T := by
  refine ⟨fun n h => ⟨(tlT_v T M n h).1, (tlT_v T M n h).2.1⟩, (tlT_v T M (n32 (M 49 26)) (nI_n32 _).symm).2.2, fun q k h _ => tlT_o h T M⟩
theorem Mr_x (M : Nat → Nat → Int32) (l : List Nat) : Mr M (txM M l) [] := ⟨fun n h => ⟨by rw [txM_o (by decide)]; exact h, txM_o (by decide)⟩, txM_o (by decide), fun q k _ b => txM_o b⟩
theorem Mr_t {M M1 M2 : Nat → Nat → Int32} {T T' : List Nat} (h : Mr M M1 T) (h2 : Mr M1 M2 T') : Mr M M2 (T ++ T') := by
  refine ⟨fun n hn => ?_, h2.2.1.trans h.2.1, fun q k a b => (h2.2.2 q k a b).trans (h.2.2 q k a b)⟩
  obtain ⟨a1, a2⟩ := h.1 n hn
  obtain ⟨b1, b2⟩ := h2.1 _ a1
  rw [List.length_append, ← Nat.add_assoc, puF_a]
  rw [h.2.1] at b2
  rw [a2] at b2
  exact ⟨b1, b2⟩
/-- the packages of the list's entries are those of M0 -/
def gpL (M0 : Nat → Nat → Int32) (L : List En) : Prop := ∀ x ∈ L, x.2.1 = gP M0 x.2.2.2.2 x.2.2.1
theorem gpL_w {M0 : Nat → Nat → Int32} {P : Nat → List Nat} {n : Nat} : ∀ (G : List (Nat × Nat × Nat)) (L : List En), gpL M0 L → gpL M0 (G.foldl (stE M0 P n) L) := by
  intro G
  induction G with
  | nil => intro L h; exact h
  | cons g G ih =>
    intro L h
    rw [List.foldl_cons]
    apply ih
    intro x hx
    unfold stE at hx
    by_cases e : n32 (ruW M0 (nmL (gP M0 g.1 g.2.1) g.2.1 g.2.2) P g.1 n) = 0
    · rw [if_pos e] at hx; exact h x hx
    · rw [if_neg e] at hx
      rcases insE_mem hx with rfl | hx
      · rfl
      · exact h x hx
/-- all that the model's telling needs -/
def mK (M0 : Nat → Nat → Int32) (D : Nat → Nat → UInt64) (M : Nat → Nat → Int32) (L : List En) : Prop := mBd M0 D M ∧ lsM M L ∧ gpL M0 L ∧ L.length ≤ 816 ∧ bW M0 2 ∧ bW M0 9
theorem mK_r {M0 M M' : Nat → Nat → Int32} {D : Nat → Nat → UInt64} {L : List En} {T : List Nat} (h : Mr M M' T) (k : mK M0 D M L) : mK M0 D M' L := by
  obtain ⟨k1, ⟨k2, k3, k4, k5⟩, k6⟩ := k
  refine ⟨mBd_ag k1 (fun q k a b => h.2.2 q k (by omega) (by omega)), ⟨by rw [h.2.2 _ _ (by omega) (by omega)]; exact k2, k3, k4, fun k hk => ?_⟩, k6⟩
  have h5 := k5 k hk
  unfold mRw at h5 ⊢
  rw [h.2.2 _ _ (by omega) (by omega), h.2.2 _ _ (by omega) (by omega), h.2.2 _ _ (by omega) (by omega), h.2.2 _ _ (by omega) (by omega), h.2.2 _ _ (by omega) (by omega)]
  exact h5
theorem mK_T {M0 M : Nat → Nat → Int32} {D : Nat → Nat → UInt64} {L : List En} {T : List Nat} (k : mK M0 D M L) : mK M0 D (tlT M T) L := mK_r (Mr_T M T) k
theorem mK_x {M0 M : Nat → Nat → Int32} {D : Nat → Nat → UInt64} {L : List En} {l : List Nat} (k : mK M0 D M L) : mK M0 D (txM M l) L := mK_r (Mr_x M l) k
/-- the version that was set -/
def mV (M : Nat → Nat → Int32) (f g h : Nat) : Prop := M 49 14 = nI f ∧ M 49 15 = nI g ∧ M 49 16 = nI h ∧ f < 1000 ∧ g < 1000 ∧ h < 1000
theorem mV_r {M M' : Nat → Nat → Int32} {f g h : Nat} {T : List Nat} (r : Mr M M' T) (k : mV M f g h) : mV M' f g h := by
  obtain ⟨k1, k2, k3, k4⟩ := k
  exact ⟨by rw [r.2.2 _ _ (by omega) (by omega)]; exact k1, by rw [r.2.2 _ _ (by omega) (by omega)]; exact k2, by rw [r.2.2 _ _ (by omega) (by omega)]; exact k3, k4⟩
theorem mV_ag {M M' : Nat → Nat → Int32} {f g h : Nat} (r : agS M M') (k : mV M f g h) : mV M' f g h := by
  obtain ⟨k1, k2, k3, k4⟩ := k
  exact ⟨by rw [r _ _ (by omega) (by omega)]; exact k1, by rw [r _ _ (by omega) (by omega)]; exact k2, by rw [r _ _ (by omega) (by omega)]; exact k3, k4⟩
section CN
variable {Q : Option Value → amM → Prop} {μ : amM} {S : List (Nat ⊕ (Nat × Nat))} {M : Nat → Nat → Int32} {D : Nat → Nat → UInt64} {F : Nat → Nat → Option Nat} {sl : Nat}
variable {M0 : Nat → Nat → Int32}
theorem c63 {c : Nat} : RR 63 0 [.ref 49, .int (nI c)] [] (SH, (0, 0, sl), M, D, RF) Q ↔ Q none (SH, (0, 0, sl), tlM M c, D, RF) := by
  by_cases e : M 49 26 = M 49 25
  · simp (disch := decide) only [r63_0, r63_1, r63_4, r63_5, r63_8, r63_11, r63_12, r63_13, r63_16, r63_17, r63_17i, r63_18, r63_21, r63_22, r63_23, r63_26, am_cat0, am_catI, am_catR, am_catD, am_ndI, am_ndR, am_ndL, va_rfS, true_and, and_true, Option.toList_some, Option.toList_none, List.cons_append, List.nil_append, Nat.reduceAdd, Nat.reduceLeDiff, Nat.zero_add, Nat.le_refl, rw_mrg, ite_Q, ite_bN, ite_bN', ib_0b, ib_b0, ib_1b, ib_b1, bN_0, bN_n0, bN_01T, nI1_0, nI0_0, nI01a, nI01b, bN_1, no_or, true_or, or_true, false_or, or_false, ite_not, if_true, if_false, Decidable.not_not, so49, e, not_true_eq_false, up_k]
    unfold tlM
    rw [if_pos e, e]
  · simp (disch := decide) only [r63_0, r63_1, r63_4, r63_5, r63_8, r63_11, r63_12, r63_13, r63_16, r63_17, r63_17i, r63_18, r63_21, r63_22, r63_23, r63_26, am_cat0, am_catI, am_catR, am_catD, am_ndI, am_ndR, am_ndL, va_rfS, true_and, and_true, Option.toList_some, Option.toList_none, List.cons_append, List.nil_append, Nat.reduceAdd, Nat.reduceLeDiff, Nat.zero_add, Nat.le_refl, rw_mrg, ite_Q, ite_bN, ite_bN', ib_0b, ib_b0, ib_1b, ib_b1, bN_0, bN_n0, bN_01T, nI1_0, nI0_0, nI01a, nI01b, bN_1, no_or, true_or, or_true, false_or, or_false, ite_not, if_true, if_false, Decidable.not_not, so49, e, not_false_eq_true]
    unfold tlM
    rw [if_neg e]
theorem c64a {n p : Nat} (hn : n < 10000) (hp : 0 < p) (hp2 : p ≤ 1000) : RR 64 2 [.ref 49, .int (nI n), .int (nI p)] [] (SH, (0, 0, sl), M, D, RF) Q ↔ if n / p ≤ 9 then RR 64 18 [.ref 49, .int (nI n), .int (nI p)] [] (SH, (0, 0, sl), M, D, RF) Q else RR 64 2 [.ref 49, .int (nI n), .int (nI (p * 10))] [] (SH, (0, 0, sl), M, D, RF) Q := by
  have e1 : ¬ nI p = 0 := by rw [nx_0 (by omega)]; omega
  have hd : n / p < 10000 := Nat.lt_of_le_of_lt (Nat.div_le_self _ _) hn
  rw [r64_2]
  simp (disch := omega) only [r64_3, r64_4, r64_5, r64_7, r64_10, r64_11, r64_13, r64_14, r64_15, am_cat0, am_catI, am_catR, am_catD, am_ndI, am_ndR, am_ndL, va_rfS, true_and, and_true, Option.toList_some, Option.toList_none, List.cons_append, List.nil_append, Nat.reduceAdd, Nat.reduceLeDiff, Nat.zero_add, Nat.le_refl, e1, not_false_eq_true, nx_dv, nx_le, pk_mul]
theorem c64b {n p : Nat} (hn : n < 10000) (hp : 0 < p) (hp2 : p ≤ 1000) : RR 64 18 [.ref 49, .int (nI n), .int (nI p)] [] (SH, (0, 0, sl), M, D, RF) Q ↔ RR 64 18 [.ref 49, .int (nI n), .int (nI (p / 10))] [] (SH, (0, 0, sl), tlT M [48 + n / p % 10], D, RF) Q := by
  have e0 : ¬ nI p ≤ 0 := nI_nle hp (by omega)
  have e1 : ¬ nI p = 0 := by rw [nx_0 (by omega)]; omega
  have e2 : ¬ nI 10 = 0 := by decide
  have hd : n / p < 10000 := Nat.lt_of_le_of_lt (Nat.div_le_self _ _) hn
  rw [r64_18]
  simp (disch := omega) only [r64_19, r64_22, r64_23, r64_25, r64_26, r64_27, r64_28, r64_30, r64_31, r64_32, r64_35, r64_36, r64_38, r64_39, r64_40, am_cat0, am_catI, am_catR, am_catD, am_ndI, am_ndR, am_ndL, va_rfS, true_and, and_true, Option.toList_some, Option.toList_none, List.cons_append, List.nil_append, Nat.reduceAdd, Nat.reduceLeDiff, Nat.zero_add, Nat.le_refl, e0, e1, e2, if_false, not_false_eq_true, nx_dv, nx_rm, nx_rm2, nI_add, so49, c63]
  rfl
theorem c64z {n : Nat} : RR 64 18 [.ref 49, .int (nI n), .int (nI 0)] [] (SH, (0, 0, sl), M, D, RF) Q ↔ Q none (SH, (0, 0, sl), M, D, RF) := by
  have e0 : nI 0 ≤ 0 := by decide
  rw [r64_18]
  simp only [r64_19, e0, if_true, r64_43]
theorem c64 {n : Nat} (hn : n < 10000) : RR 64 0 [.ref 49, .int (nI n), .long 0] [] (SH, (0, 0, sl), M, D, RF) Q ↔ Q none (SH, (0, 0, sl), tlT M (dgL n), D, RF) := by
  simp only [r64_0, r64_1, am_cat0, am_catI, am_catR, am_catD, am_ndI, am_ndR, am_ndL, va_rfS, true_and, and_true, Option.toList_some, Option.toList_none, List.cons_append, List.nil_append, Nat.reduceAdd, Nat.reduceLeDiff, Nat.zero_add, Nat.le_refl]
  have d1 : n / 1 = n := Nat.div_one n
  have hz : ∀ M, RR 64 18 [.ref 49, .int (nI n), .int (nI (1 / 10))] [] (SH, (0, 0, sl), M, D, RF) Q ↔ Q none (SH, (0, 0, sl), M, D, RF) := fun M => c64z
  have h1 : ∀ M, RR 64 18 [.ref 49, .int (nI n), .int (nI 1)] [] (SH, (0, 0, sl), M, D, RF) Q ↔ Q none (SH, (0, 0, sl), tlT M [48 + n % 10], D, RF) := fun M => by
    rw [c64b hn (by decide) (by decide), hz, d1]
  have h2 : ∀ M, RR 64 18 [.ref 49, .int (nI n), .int (nI 10)] [] (SH, (0, 0, sl), M, D, RF) Q ↔ Q none (SH, (0, 0, sl), tlT M [48 + n / 10 % 10, 48 + n % 10], D, RF) := fun M => by
    rw [c64b hn (by decide) (by decide), show (10 : Nat) / 10 = 1 from rfl, h1, tlT_a]
    rfl
  have h3 : ∀ M, RR 64 18 [.ref 49, .int (nI n), .int (nI 100)] [] (SH, (0, 0, sl), M, D, RF) Q ↔ Q none (SH, (0, 0, sl), tlT M [48 + n / 100 % 10, 48 + n / 10 % 10, 48 + n % 10], D, RF) := fun M => by
    rw [c64b hn (by decide) (by decide), show (100 : Nat) / 10 = 10 from rfl, h2, tlT_a]
    rfl
  have h4 : ∀ M, RR 64 18 [.ref 49, .int (nI n), .int (nI 1000)] [] (SH, (0, 0, sl), M, D, RF) Q ↔ Q none (SH, (0, 0, sl), tlT M [48 + n / 1000 % 10, 48 + n / 100 % 10, 48 + n / 10 % 10, 48 + n % 10], D, RF) := fun M => by
    rw [c64b hn (by decide) (by decide), show (1000 : Nat) / 10 = 100 from rfl, h3, tlT_a]
    rfl
  have m1 : 1 * 10 = 10 := rfl
  have m2 : 10 * 10 = 100 := rfl
  have m3 : 100 * 10 = 1000 := rfl
  rw [c64a hn (by decide) (by decide), d1]
  unfold dgL
  by_cases g1 : n ≤ 9
  · rw [if_pos g1, h1, if_neg (by omega), if_neg (by omega), if_neg (by omega)]
    rfl
  · rw [if_neg g1, m1, c64a hn (by decide) (by decide)]
    by_cases g2 : n / 10 ≤ 9
    · rw [if_pos g2, h2, if_neg (by omega), if_neg (by omega), if_pos (by omega)]
      rfl
    · rw [if_neg g2, m2, c64a hn (by decide) (by decide)]
      by_cases g3 : n / 100 ≤ 9
      · rw [if_pos g3, h3, if_neg (by omega), if_pos (by omega), if_pos (by omega)]
        rfl
      · rw [if_neg g3, m3, c64a hn (by decide) (by decide), if_pos (by omega), h4, if_pos (by omega), if_pos (by omega), if_pos (by omega)]
        rfl
theorem c65o {l : List Nat} {x1 : Int32} (hl : l.length ≤ 15) (hc : ∀ i, i < l.length → l.getD i 0 < 128) : ∀ (j k : Nat) (M : Nat → Nat → Int32), (∀ i, i < l.length → M 68 i = nI (l.getD i 0)) → k + j = l.length → (RR 65 34 [.ref 49, .int x1, .int (nI l.length), .int (nI k)] [] (SH, (0, 0, sl), M, D, RF) Q ↔ Q none (SH, (0, 0, sl), tlT M (l.drop k), D, RF)) := by
  intro j
  induction j with
  | zero =>
    intro k M hM h
    have hk : k = l.length := by omega
    subst hk
    rw [r65_34]
    simp only [r65_35, r65_36, Int32.le_refl, if_true, r65_55]
    rw [List.drop_length]
    rfl
  | succ j ih =>
    intro k M hM h
    have hk : k < l.length := by omega
    have h2 : ∀ i, i < l.length → tlM M (l.getD k 0) 68 i = nI (l.getD i 0) := fun i hi => by rw [tlM_o (by omega)]; exact hM i hi
    rw [r65_34]
    simp (disch := omega) only [r65_35, r65_36, nx_le, Nat.not_le.mpr hk, if_false, r65_39, r65_40, r65_41, r65_44, r65_45, r65_46, r65_49, r65_52, am_cat0, am_catI, am_catR, am_catD, am_ndI, am_ndR, am_ndL, va_rfS, true_and, and_true, Option.toList_some, Option.toList_none, List.cons_append, List.nil_append, Nat.reduceAdd, Nat.reduceLeDiff, Nat.zero_add, Nat.le_refl, so49, sf49_23, sd68, am_bd, bd_n, nI_tn, hM k hk, c63, nI_add]
    rw [ih (k + 1) _ h2 (by omega)]
    have e1 := drop_getD hk
    rw [← e1]
    rfl
theorem c65 {L : List En} {k : Nat} (h : mK M0 D M L) (hk : k < L.length) : RR 65 0 [.ref 49, .int (nI k), .long 0, .long 0] [] (SH, (0, 0, sl), M, D, RF) Q ↔ Q none (SH, (0, 0, sl), tlT (txM M (nmL (L.getD k e0).2.1 (L.getD k e0).2.2.1 (L.getD k e0).2.2.2.1)) (nmL (L.getD k e0).2.1 (L.getD k e0).2.2.1 (L.getD k e0).2.2.2.1), D, RF) := by
  obtain ⟨hB, hl, hg, h816, h2, h9⟩ := h
  have hx := getD_mem (d := e0) hk
  have ho := hl.2.2.1 _ hx
  have hgp := hg _ hx
  obtain ⟨w1, w2, w3, w4, w5⟩ := hl.2.2.2 k hk
  generalize L.getD k e0 = x at *
  obtain ⟨o1, o2, o3, o4, o5, o6, o7⟩ := ho
  obtain ⟨n1, n2⟩ := nmL_ok _ (show x.2.1 < 4 by omega) _ o4 _ o5
  have key : ∀ b, b < 2 → M 53 (8 * b + x.2.2.1) = nI x.2.1 → (RR 65 16 [.ref 49, .int (nI k), .long 0, .long 0] [.int (nI b), .ref 49] (SH, (0, 0, sl), M, D, RF) Q ↔ Q none (SH, (0, 0, sl), tlT (txM M (nmL x.2.1 x.2.2.1 x.2.2.2.1)) (nmL x.2.1 x.2.2.1 x.2.2.2.1), D, RF)) := by
    intro b hb hp
    simp (disch := omega) only [r65_16, r65_17, r65_20, r65_21, r65_22, r65_23, r65_26, r65_27, r65_28, r65_31, r65_32, r65_33, am_cat0, am_catI, am_catR, am_catD, am_ndI, am_ndR, am_ndL, va_rfS, true_and, and_true, Option.toList_some, Option.toList_none, List.cons_append, List.nil_append, Nat.reduceAdd, Nat.reduceLeDiff, Nat.zero_add, Nat.le_refl, so49, sf49_18, sf49_19, sd64, sd65, am_bd, bd_n, nI_tn, w2, w3, c46 hb o4 o5 hp o3]
    rw [c65o n1 n2 (nmL x.2.1 x.2.2.1 x.2.2.2.1).length 0 _ (fun i hi => txM_g hi) (by omega), List.drop_zero]
  by_cases hc3 : x.2.2.2.2 = 3
  · have e3 : (nI x.2.2.2.2 = nI 3) = True := eq_true (by rw [hc3])
    have hk1408 : k < 1408 := by omega
    simp (disch := omega) only [r65_0, r65_1, r65_2, r65_5, r65_6, r65_7, r65_8, r65_11, r65_12, am_cat0, am_catI, am_catR, am_catD, am_ndI, am_ndR, am_ndL, va_rfS, true_and, and_true, Option.toList_some, Option.toList_none, List.cons_append, List.nil_append, Nat.reduceAdd, Nat.reduceLeDiff, Nat.zero_add, Nat.le_refl, so49, sf49_17, sd63, am_bd, bd_n, nI_tn, w1, e3, not_true_eq_false, if_false]
    refine key 1 (by decide) ?_
    rw [(hB 1 (by decide) _ o4).2.1, hgp]
    unfold gP mq
    rw [if_neg (by decide), if_pos hc3]
  · have e3 : (nI x.2.2.2.2 = nI 3) = False := eq_false (by rw [nx_eq (by omega) (by decide)]; exact hc3)
    simp (disch := omega) only [r65_0, r65_1, r65_2, r65_5, r65_6, r65_7, r65_8, r65_15, am_cat0, am_catI, am_catR, am_catD, am_ndI, am_ndR, am_ndL, va_rfS, true_and, and_true, Option.toList_some, Option.toList_none, List.cons_append, List.nil_append, Nat.reduceAdd, Nat.reduceLeDiff, Nat.zero_add, Nat.le_refl, so49, sf49_17, sd63, am_bd, bd_n, nI_tn, w1, e3, not_false_eq_true, if_true]
    refine key 0 (by decide) ?_
    rw [(hB 0 (by decide) _ o4).2.1, hgp]
    unfold gP mq
    rw [if_pos rfl, if_neg hc3]
theorem c66o {L : List En} {w : Nat} (h : lsM M L) (h816 : L.length ≤ 816) (hw : w < 4) : ∀ (j k c : Nat), k + j = L.length → (RR 66 4 [.ref 49, .int (nI w), .int (nI c), .int (nI k)] [] (SH, (0, 0, sl), M, D, RF) Q ↔ Q (some (.int (nI (c + cnE w (L.drop k))))) (SH, (0, 0, sl), M, D, RF)) := by
  intro j
  induction j with
  | zero =>
    intro k c hk
    have e : k = L.length := by omega
    subst e
    rw [r66_4]
    simp only [r66_0, r66_1, r66_2, r66_3, r66_5, r66_6, r66_9, r66_12, r66_13, r66_16, r66_17, r66_18, r66_19, r66_22, r66_25, r66_28, r66_31, r66_32, am_cat0, am_catI, am_catR, am_catD, am_ndI, am_ndR, am_ndL, va_rfS, true_and, and_true, Option.toList_some, Option.toList_none, List.cons_append, List.nil_append, Nat.reduceAdd, Nat.reduceLeDiff, Nat.zero_add, Nat.le_refl, so49, h.1, Int32.le_refl, if_true, List.drop_length, cnE, Nat.add_zero]
  | succ j ih =>
    intro k c hk
    have hl : k < L.length := by omega
    have hx := h.2.2.1 _ (getD_mem (d := e0) hl)
    have hx1 := hx.2.1
    have hw4 := (h.2.2.2 k hl).2.2.2.1
    rw [r66_4]
    by_cases e : (L.getD k e0).1 = w
    · simp (disch := omega) only [r66_0, r66_1, r66_2, r66_3, r66_5, r66_6, r66_9, r66_12, r66_13, r66_16, r66_17, r66_18, r66_19, r66_22, r66_25, r66_28, r66_31, r66_32, am_cat0, am_catI, am_catR, am_catD, am_ndI, am_ndR, am_ndL, va_rfS, true_and, and_true, Option.toList_some, Option.toList_none, List.cons_append, List.nil_append, Nat.reduceAdd, Nat.reduceLeDiff, Nat.zero_add, Nat.le_refl, so49, sf49_20, sd66, am_bd, bd_n, nI_tn, h.1, nx_le, Nat.not_le.mpr hl, if_false, if_true, hw4, nx_imp, e, not_true_eq_false, am_ndI, nI_add]
      rw [ih (k + 1) (c + 1) (by omega), drop_e hl, cnE, if_pos e]
      have e2 : c + 1 + cnE w (L.drop (k + 1)) = c + (1 + cnE w (L.drop (k + 1))) := by omega
      rw [e2]
    · simp (disch := omega) only [r66_0, r66_1, r66_2, r66_3, r66_5, r66_6, r66_9, r66_12, r66_13, r66_16, r66_17, r66_18, r66_19, r66_22, r66_25, r66_28, r66_31, r66_32, am_cat0, am_catI, am_catR, am_catD, am_ndI, am_ndR, am_ndL, va_rfS, true_and, and_true, Option.toList_some, Option.toList_none, List.cons_append, List.nil_append, Nat.reduceAdd, Nat.reduceLeDiff, Nat.zero_add, Nat.le_refl, so49, sf49_20, sd66, am_bd, bd_n, nI_tn, h.1, nx_le, Nat.not_le.mpr hl, if_false, if_true, hw4, nx_imp, e, not_false_eq_true, am_ndI, nI_add]
      rw [ih (k + 1) c (by omega), drop_e hl, cnE, if_neg e, Nat.zero_add]
theorem c66 {L : List En} {w : Nat} (h : lsM M L) (h816 : L.length ≤ 816) (hw : w < 4) : RR 66 0 [.ref 49, .int (nI w), .long 0, .long 0] [] (SH, (0, 0, sl), M, D, RF) Q ↔ Q (some (.int (nI (cnE w L)))) (SH, (0, 0, sl), M, D, RF) := by
  simp only [r66_0, r66_1, r66_2, r66_3, am_cat0, am_catI, am_catR, am_catD, am_ndI, am_ndR, am_ndL, va_rfS, true_and, and_true, Option.toList_some, Option.toList_none, List.cons_append, List.nil_append, Nat.reduceAdd, Nat.reduceLeDiff, Nat.zero_add, Nat.le_refl]
  rw [c66o h h816 hw L.length 0 0 (by omega), Nat.zero_add, List.drop_zero]
theorem c71o {L : List En} {x1 : Int32} (h : lsM M L) (h816 : L.length ≤ 816) (k : ∀ v4 : Value, RR 71 91 [.ref 49, .int x1, .int (bN (adB L = true)), .int (nI L.length), v4] [] (SH, (0, 0, sl), M, D, RF) Q) : ∀ (j i : Nat) (a : Bool) (v4 : Value), i + j = L.length → (a || adB (L.drop i)) = adB L → RR 71 26 [.ref 49, .int x1, .int (bN (a = true)), .int (nI i), v4] [] (SH, (0, 0, sl), M, D, RF) Q := by
  intro j
  induction j with
  | zero =>
    intro i a v4 hi ha
    have e : i = L.length := by omega
    subst e
    rw [List.drop_length, adB, Bool.or_false] at ha
    subst ha
    rw [r71_26]
    simp only [r71_27, r71_28, r71_31, am_cat0, am_catI, am_catR, am_catD, am_ndI, am_ndR, am_ndL, va_rfS, true_and, and_true, Option.toList_some, Option.toList_none, List.cons_append, List.nil_append, Nat.reduceAdd, Nat.reduceLeDiff, Nat.zero_add, Nat.le_refl, so49, h.1, Int32.le_refl, if_true]
    exact k v4
  | succ j ih =>
    intro i a v4 hi ha
    have hl : i < L.length := by omega
    have hx := h.2.2.1 _ (getD_mem (d := e0) hl)
    have hx1 := hx.2.2.2.2.2.2
    have hw1 := (h.2.2.2 i hl).1
    rw [drop_e hl, adB] at ha
    rw [r71_26]
    generalize (L.getD i e0).2.2.2.2 = c at *
    have yes : c ∈ [3, 11, 23, 24, 25, 33] → RR 71 83 [.ref 49, .int x1, .int (bN (a = true)), .int (nI i), .int (nI c)] [] (SH, (0, 0, sl), M, D, RF) Q := by
      intro hc
      simp only [r71_83, r71_84, r71_85, r71_88, am_ndI, nI_add]
      have h2 := ih (i + 1) true (.int (nI c)) (by omega) (by rw [decide_eq_true hc] at ha; simpa using ha)
      rw [bN_t (p := true = true) rfl] at h2
      exact h2
    have no : ¬ c ∈ [3, 11, 23, 24, 25, 33] → RR 71 85 [.ref 49, .int x1, .int (bN (a = true)), .int (nI i), .int (nI c)] [] (SH, (0, 0, sl), M, D, RF) Q := by
      intro hc
      simp only [r71_85, r71_88, am_ndI, nI_add]
      exact ih (i + 1) a (.int (nI c)) (by omega) (by rw [decide_eq_false hc, Bool.false_or] at ha; exact ha)
    simp (disch := omega) only [r71_27, r71_28, r71_31, r71_34, r71_35, r71_38, r71_39, r71_40, r71_42, r71_44, r71_45, r71_48, r71_50, r71_52, r71_55, r71_57, r71_59, r71_62, r71_64, r71_66, r71_69, r71_71, r71_73, r71_76, r71_78, r71_80, am_cat0, am_catI, am_catR, am_catD, am_ndI, am_ndR, am_ndL, va_rfS, true_and, and_true, Option.toList_some, Option.toList_none, List.cons_append, List.nil_append, Nat.reduceAdd, Nat.reduceLeDiff, Nat.zero_add, Nat.le_refl, so49, sf49_17, sd63, am_bd, bd_n, nI_tn, h.1, nx_le, Nat.not_le.mpr hl, if_false, hw1, nx_imp]
    by_cases g1 : c = 3
    · rw [if_pos g1]; exact yes (by rw [g1]; decide)
    · rw [if_neg g1]
      by_cases g2 : c = 11
      · rw [if_pos g2]; exact yes (by rw [g2]; decide)
      · rw [if_neg g2]
        by_cases g3 : c = 23
        · rw [if_pos g3]; exact yes (by rw [g3]; decide)
        · rw [if_neg g3]
          by_cases g4 : c = 24
          · rw [if_pos g4]; exact yes (by rw [g4]; decide)
          · rw [if_neg g4]
            by_cases g5 : c = 25
            · rw [if_pos g5]; exact yes (by rw [g5]; decide)
            · rw [if_neg g5]
              by_cases g6 : c = 33
              · rw [if_neg (fun z => z g6)]; exact yes (by rw [g6]; decide)
              · rw [if_pos g6]
                refine no (fun z => ?_)
                simp only [List.mem_cons, List.not_mem_nil, or_false] at z
                omega
theorem c71 {L : List En} {f g h : Nat} (hl : lsM M L) (h816 : L.length ≤ 816) (hv : mV M f g h) (k : Q (some (.int (nI (avV (f * 1000000 + g * 1000 + h) L)))) (SH, (0, 0, sl), M, D, RF)) : RR 71 0 [.ref 49, .long 0, .long 0, .long 0, .long 0] [] (SH, (0, 0, sl), M, D, RF) Q := by
  obtain ⟨v1, v2, v3, v4, v5, v6⟩ := hv
  have hc := cnE_le 3 L
  simp only [r71_0, r71_2, r71_3, r71_6, r71_7, r71_10, r71_11, r71_14, r71_15, r71_16, r71_17, r71_20, r71_21, r71_22, r71_23, r71_24, r71_25, am_cat0, am_catI, am_catR, am_catD, am_ndI, am_ndR, am_ndL, va_rfS, true_and, and_true, Option.toList_some, Option.toList_none, List.cons_append, List.nil_append, Nat.reduceAdd, Nat.reduceLeDiff, Nat.zero_add, Nat.le_refl, so49, v1, v2, v3, pk_mul, nI_add]
  have h0 := c71o (Q := Q) (D := D) (sl := sl) (x1 := nI (1000000 * f + 1000 * g + h)) hl h816 ?_ L.length 0 false (.long 0) (by omega) (by rw [List.drop_zero, Bool.false_or])
  · rw [bN_f (p := false = true) (by decide)] at h0
    exact h0
  · intro v4'
    generalize hV : f * 1000000 + g * 1000 + h = V at k
    have d1 : V / 1000000 = f := by omega
    have d2 : V / 1000 = f * 1000 + g := by omega
    unfold avV at k
    rw [d1, d2] at k
    by_cases k3 : 0 < cnE 3 L
    · have e3 : ¬ nI (cnE 3 L) ≤ 0 := nI_nle k3 (by omega)
      have e3p : 0 < nI (cnE 3 L) := Int32.not_le.mp e3
      by_cases hf : 0 < f
      · have ef : ¬ nI f ≤ 0 := nI_nle hf (by omega)
        rw [if_pos ⟨k3, by omega⟩] at k
        simp only [r71_91, r71_92, r71_93, r71_96, r71_99, r71_100, r71_103, r71_106, r71_108, r71_109, r71_112, r71_113, r71_114, r71_115, r71_116, r71_117, r71_118, r71_121, r71_124, r71_125, r71_128, r71_130, r71_131, r71_134, r71_135, r71_138, r71_139, r71_142, r71_143, r71_144, r71_145, r71_146, r71_147, r71_148, r71_149, r71_150, am_cat0, am_catI, am_catR, am_catD, am_ndI, am_ndR, am_ndL, va_rfS, true_and, and_true, Option.toList_some, Option.toList_none, List.cons_append, List.nil_append, Nat.reduceAdd, Nat.reduceLeDiff, Nat.zero_add, Nat.le_refl, so49, c66 hl h816 (show 3 < 4 by decide), e3, e3p, ef, if_false, v1, pk_mul, nI_add]
        rw [Nat.mul_comm 1000000]
        exact k
      · have ef : nI f ≤ 0 := by rw [show f = 0 by omega]; decide
        rw [if_neg (fun z => hf (by omega)), if_pos (Or.inl k3)] at k
        simp only [r71_91, r71_92, r71_93, r71_96, r71_99, r71_100, r71_103, r71_106, r71_108, r71_109, r71_112, r71_113, r71_114, r71_115, r71_116, r71_117, r71_118, r71_121, r71_124, r71_125, r71_128, r71_130, r71_131, r71_134, r71_135, r71_138, r71_139, r71_142, r71_143, r71_144, r71_145, r71_146, r71_147, r71_148, r71_149, r71_150, am_cat0, am_catI, am_catR, am_catD, am_ndI, am_ndR, am_ndL, va_rfS, true_and, and_true, Option.toList_some, Option.toList_none, List.cons_append, List.nil_append, Nat.reduceAdd, Nat.reduceLeDiff, Nat.zero_add, Nat.le_refl, so49, c66 hl h816 (show 3 < 4 by decide), e3, e3p, ef, if_false, if_true, not_false_eq_true, not_true_eq_false, v1, v2, pk_mul, nI_add]
        rw [show 1000000 * f + 1000 * (g + 1) = (f * 1000 + g + 1) * 1000 by omega]
        exact k
    · have e3 : nI (cnE 3 L) ≤ 0 := by rw [show cnE 3 L = 0 by omega]; decide
      have e3p : ¬ 0 < nI (cnE 3 L) := Int32.not_lt.mpr e3
      rw [if_neg (fun z => k3 z.1)] at k
      by_cases hb : adB L = true
      · rw [if_pos (Or.inr hb)] at k
        simp only [r71_91, r71_92, r71_93, r71_96, r71_99, r71_100, r71_103, r71_106, r71_108, r71_109, r71_112, r71_113, r71_114, r71_115, r71_116, r71_117, r71_118, r71_121, r71_124, r71_125, r71_128, r71_130, r71_131, r71_134, r71_135, r71_138, r71_139, r71_142, r71_143, r71_144, r71_145, r71_146, r71_147, r71_148, r71_149, r71_150, am_cat0, am_catI, am_catR, am_catD, am_ndI, am_ndR, am_ndL, va_rfS, true_and, and_true, Option.toList_some, Option.toList_none, List.cons_append, List.nil_append, Nat.reduceAdd, Nat.reduceLeDiff, Nat.zero_add, Nat.le_refl, so49, c66 hl h816 (show 3 < 4 by decide), e3, e3p, if_false, if_true, not_false_eq_true, not_true_eq_false, bN_t hb, nI1_0, v1, v2, pk_mul, nI_add]
        rw [show 1000000 * f + 1000 * (g + 1) = (f * 1000 + g + 1) * 1000 by omega]
        exact k
      · rw [if_neg (fun z => z.elim k3 hb)] at k
        simp only [r71_91, r71_92, r71_93, r71_96, r71_99, r71_100, r71_103, r71_106, r71_108, r71_109, r71_112, r71_113, r71_114, r71_115, r71_116, r71_117, r71_118, r71_121, r71_124, r71_125, r71_128, r71_130, r71_131, r71_134, r71_135, r71_138, r71_139, r71_142, r71_143, r71_144, r71_145, r71_146, r71_147, r71_148, r71_149, r71_150, am_cat0, am_catI, am_catR, am_catD, am_ndI, am_ndR, am_ndL, va_rfS, true_and, and_true, Option.toList_some, Option.toList_none, List.cons_append, List.nil_append, Nat.reduceAdd, Nat.reduceLeDiff, Nat.zero_add, Nat.le_refl, so49, c66 hl h816 (show 3 < 4 by decide), e3, e3p, if_false, if_true, not_false_eq_true, not_true_eq_false, bN_f hb, nI0_0, pk_mul, nI_add]
        rw [show 1000000 * f + 1000 * g + h + 1 = V + 1 by omega]
        exact k
end CN
