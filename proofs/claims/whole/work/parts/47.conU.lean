/-! THE MODEL: the calls on the list -/
theorem xI {x : Int32} (h : 0 ≤ x.toInt) : ∃ n : Nat, n < 2 ^ 31 ∧ x = nI n ∧ x.toInt = (n : Int) := by
  have h1 := Int32.toInt_lt x
  refine ⟨x.toInt.toNat, by omega, ?_, by omega⟩
  apply Int32.toInt_inj.mp
  rw [nI_toInt (by omega)]
  omega
theorem str6 : am_strs.getD 6 [] = [123, 34, 99, 104, 97, 110, 103, 101, 115, 34, 58, 91] := rfl
theorem str7 : am_strs.getD 7 [] = [123, 34, 119, 34, 58] := rfl
theorem str8 : am_strs.getD 8 [] = [44, 123, 34, 119, 34, 58] := rfl
theorem str9 : am_strs.getD 9 [] = [44, 34, 110, 34, 58, 34] := rfl
theorem str10 : am_strs.getD 10 [] = [34, 44, 34, 99, 34, 58] := rfl
theorem str11 : am_strs.getD 11 [] = [93, 44, 34, 97, 100, 118, 105, 99, 101, 34, 58, 34] := rfl
theorem str12 : am_strs.getD 12 [] = [34, 125] := rfl
theorem wA_len {M0 : Nat → Nat → Int32} {D : Nat → Nat → UInt64} {P : Nat → List Nat} {n : Nat} : (wA M0 D P n).length ≤ 816 := by
  have h1 := fl_le (M0 := M0) (P := P) (n := n) (gA M0 D 8 0) []
  have h2 := gA_len M0 D 8 0
  rw [List.length_nil] at h1
  unfold wA
  omega
/-- what change answers -/
def chV (w : Nat) (x : En) : Int32 := if w = 0 then nI x.2.2.2.2 else if w = 1 then nI x.1 else if w = 2 then nI x.2.2.1 else if w = 3 then nI (if x.2.2.2.1 = 0 then 0 else if x.2.2.2.1 ≤ 12 then 1 else 2) else if x.2.2.2.1 = 0 then -2 else nI ((x.2.2.2.1 - 1) % 12)
def chR (k w : Int32) (L : List En) : Int32 := if 0 ≤ w.toInt ∧ w.toInt ≤ 4 then (if 0 ≤ k.toInt ∧ k.toInt < (L.length : Int) then chV w.toInt.toNat (L.getD k.toInt.toNat e0) else -2) else -1
/-- what shift answers -/
def shA (D : Nat → Nat → UInt64) (k : Int32) (L : List En) : UInt64 := if (0 ≤ k.toInt ∧ k.toInt < (L.length : Int)) ∧ (L.getD k.toInt.toNat e0).2.2.2.2 = 31 then FP.dsub (D 15 ((L.getD k.toInt.toNat e0).2.2.1 * 12 + ((L.getD k.toInt.toNat e0).2.2.2.1 - 1))) (D 8 ((L.getD k.toInt.toNat e0).2.2.1 * 12 + ((L.getD k.toInt.toNat e0).2.2.2.1 - 1))) else FP.dconst0
theorem wA_mem {M0 : Nat → Nat → Int32} {P : Nat → List Nat} {n : Nat} : ∀ (G : List (Nat × Nat × Nat)) (L : List En) (x : En), x ∈ G.foldl (stE M0 P n) L → x ∈ L ∨ eZ x ∈ G := by
  intro G
  induction G with
  | nil => intro L x h; exact Or.inl h
  | cons g G ih =>
    intro L x h
    rw [List.foldl_cons] at h
    rcases ih _ _ h with h1 | h1
    · unfold stE at h1
      by_cases e : n32 (ruW M0 (nmL (gP M0 g.1 g.2.1) g.2.1 g.2.2) P g.1 n) = 0
      · rw [if_pos e] at h1; exact Or.inl h1
      · rw [if_neg e] at h1
        rcases insE_mem h1 with rfl | h1
        · exact Or.inr List.mem_cons_self
        · exact Or.inl h1
    · exact Or.inr (List.mem_cons_of_mem _ h1)
theorem cm31 {M : Nat → Nat → Int32} {D : Nat → Nat → UInt64} {t s : Nat} {z : Nat × Nat} (h : z ∈ cmL M D t s) (h31 : z.1 = 31) : s < 12 ∧ z.2 = s + 1 := by
  refine ⟨?_, ((cm_srt M D t s).2 z h).1⟩
  apply Classical.byContradiction
  intro hs
  have oN_m : ∀ (a : Prop) (ha : Decidable a) (x y : Nat × Nat), y ∈ @oN a ha x → y = x := by
    intro a ha x y hy
    unfold oN at hy
    by_cases e : a
    · rw [if_pos e] at hy; simpa using hy
    · rw [if_neg e] at hy; cases hy
  unfold cmL at h
  by_cases h2 : bSh M 2 t s
  · rw [if_pos h2] at h
    by_cases h9 : bSh M 9 t s
    · rw [if_pos h9] at h
      unfold cmS at h
      rw [if_pos (by omega)] at h
      simp only [List.mem_append] at h
      rcases h with ((((h | h) | h) | h) | h) | (h | h) <;> (have e := oN_m _ _ _ _ h; rw [e] at h31; revert h31; simp)
    · rw [if_neg h9] at h
      simp only [List.mem_append] at h
      rcases h with (h | h) | h <;> (have e := oN_m _ _ _ _ h; rw [e] at h31; revert h31; simp)
  · rw [if_neg h2] at h
    by_cases h9 : bSh M 9 t s
    · rw [if_pos h9] at h
      by_cases e : 12 ≤ s ∧ (bMo M 9 t s % 8).testBit 1 = true
      · rw [if_pos e] at h
        have e := List.mem_singleton.mp h
        rw [e] at h31
        revert h31
        simp
      · rw [if_neg e] at h
        have e := List.mem_singleton.mp h
        rw [e] at h31
        revert h31
        simp
    · rw [if_neg h9] at h
      cases h
theorem gT31 {M : Nat → Nat → Int32} {D : Nat → Nat → UInt64} {t : Nat} {z : Nat × Nat} (h31 : z.1 = 31) : ∀ (k s : Nat), z ∈ gT M D t k s → 1 ≤ z.2 ∧ z.2 ≤ 12 := by
  intro k
  induction k with
  | zero => intro s h; cases h
  | succ k ih =>
    intro s h
    rw [gT, List.mem_append] at h
    rcases h with h | h
    · have := cm31 h h31; omega
    · exact ih _ h
theorem gU31 {M : Nat → Nat → Int32} {D : Nat → Nat → UInt64} {t : Nat} {z : Nat × Nat} (h : z ∈ gU M D t) (h31 : z.1 = 31) : 1 ≤ z.2 ∧ z.2 ≤ 12 := by
  unfold gU at h
  by_cases e : bSeen M 2 t ∧ bSeen M 9 t
  · rw [if_pos e, List.mem_append] at h
    rcases h with h | h
    · have := (ct_srt M t).2 z h; omega
    · exact gT31 h31 _ _ h
  · rw [if_neg e] at h
    exfalso
    revert h
    unfold csO csN
    by_cases a : bSeen M 2 t
    · rw [if_pos a, if_pos a]
      by_cases b : (bTh M 9).testBit t = true
      · rw [if_pos b]; intro h; have e := List.mem_singleton.mp h; rw [e] at h31; cases h31
      · rw [if_neg b]; intro h; have e := List.mem_singleton.mp h; rw [e] at h31; cases h31
    · rw [if_neg a, if_neg a]
      by_cases b : bSeen M 9 t
      · rw [if_pos b]; intro h; have e := List.mem_singleton.mp h; rw [e] at h31; cases h31
      · rw [if_neg b]; intro h; cases h
theorem gA31 {M : Nat → Nat → Int32} {D : Nat → Nat → UInt64} {z : Nat × Nat × Nat} (h31 : z.1 = 31) : ∀ (k t : Nat), z ∈ gA M D k t → 1 ≤ z.2.2 ∧ z.2.2 ≤ 12 := by
  intro k
  induction k with
  | zero => intro t h; cases h
  | succ k ih =>
    intro t h
    rw [gA, List.mem_append] at h
    rcases h with h | h
    · obtain ⟨x, hx, rfl⟩ := List.mem_map.mp h
      exact gU31 (z := x) hx h31
    · exact ih _ h
theorem wA31 {M : Nat → Nat → Int32} {D : Nat → Nat → UInt64} {P : Nat → List Nat} {n : Nat} {x : En} (h : x ∈ wA M D P n) (h31 : x.2.2.2.2 = 31) : 1 ≤ x.2.2.2.1 ∧ x.2.2.2.1 ≤ 12 := by
  rcases wA_mem _ _ _ h with h1 | h1
  · cases h1
  · exact gA31 (z := eZ x) h31 _ _ h1
section CN
variable {Q : Option Value → amM → Prop} {μ : amM} {S : List (Nat ⊕ (Nat × Nat))} {M : Nat → Nat → Int32} {D : Nat → Nat → UInt64} {F : Nat → Nat → Option Nat} {sl : Nat}
variable {M0 : Nat → Nat → Int32} {P : Nat → List Nat} {n : Nat}
theorem c68 {c : Nat} : RR 68 0 [.ref 49, .int (nI c)] [] (SH, (0, 0, sl), M, D, RF) Q ↔ Q none (SH, (0, 0, sl), tlT M [34, c, 34, 58], D, RF) := by
  simp only [r68_0, r68_1, r68_3, r68_6, r68_7, r68_8, r68_11, r68_12, r68_14, r68_17, r68_18, r68_20, r68_23, am_cat0, am_catI, am_catR, am_catD, am_ndI, am_ndR, am_ndL, va_rfS, true_and, and_true, Option.toList_some, Option.toList_none, List.cons_append, List.nil_append, Nat.reduceAdd, Nat.reduceLeDiff, Nat.zero_add, Nat.le_refl, so49, c63]
  rfl
theorem c67o {L : List En} : ∀ (j k : Nat) (M : Nat → Nat → Int32), mK M0 D M L → k + j = L.length → RR 67 2 [.ref 49, .int (nI k)] [] (SH, (0, 0, sl), M, D, RF) (fun rv μ' => rv = none ∧ ∃ M', μ' = (SH, (0, 0, sl), M', D, RF) ∧ Mr M M' (lnA (L.drop k) ++ (dgL (cnE 3 L) ++ ([32] ++ (dgL (cnE 2 L) ++ ([32] ++ dgL (cnE 1 L))))))) := by
  intro j
  induction j with
  | zero =>
    intro k M h hk
    have e : k = L.length := by omega
    subst e
    have hL := h.2.2.2.1
    have q3 := cnE_le 3 L
    have q2 := cnE_le 2 L
    have q1 := cnE_le 1 L
    have hK := fun T => mK_T (T := T) h
    rw [r67_2]
    simp only [r67_3, r67_4, r67_7, r67_85, r67_86, r67_87, am_cat0, am_catI, am_catR, am_catD, am_ndI, am_ndR, am_ndL, va_rfS, true_and, and_true, Option.toList_some, Option.toList_none, List.cons_append, List.nil_append, Nat.reduceAdd, Nat.reduceLeDiff, Nat.zero_add, Nat.le_refl, so49, h.2.1.1, Int32.le_refl, if_true, c66 h.2.1 hL (show 3 < 4 by decide), r67_90, r67_91, r67_92, r67_93, c64 (show cnE 3 L < 10000 by omega), r67_96, r67_97, r67_99, c63, tlM_e, tlT_a]
    simp only [r67_102, r67_103, r67_104, am_cat0, am_catI, am_catR, am_catD, am_ndI, am_ndR, am_ndL, va_rfS, true_and, and_true, Option.toList_some, Option.toList_none, List.cons_append, List.nil_append, Nat.reduceAdd, Nat.reduceLeDiff, Nat.zero_add, Nat.le_refl, so49, c66 (hK _).2.1 hL (show 2 < 4 by decide), r67_107, r67_108, r67_109, r67_110, c64 (show cnE 2 L < 10000 by omega), r67_113, r67_114, r67_116, c63, tlM_e, tlT_a]
    simp only [r67_119, r67_120, r67_121, am_cat0, am_catI, am_catR, am_catD, am_ndI, am_ndR, am_ndL, va_rfS, true_and, and_true, Option.toList_some, Option.toList_none, List.cons_append, List.nil_append, Nat.reduceAdd, Nat.reduceLeDiff, Nat.zero_add, Nat.le_refl, so49, c66 (hK _).2.1 hL (show 1 < 4 by decide), r67_124, r67_125, r67_126, r67_127, c64 (show cnE 1 L < 10000 by omega), r67_130, tlT_a]
    refine ⟨_, rfl, ?_⟩
    rw [List.drop_length]
    have h2 := Mr_T M (dgL (cnE 3 L) ++ [32] ++ dgL (cnE 2 L) ++ [32] ++ dgL (cnE 1 L))
    simpa only [lnA, List.nil_append, List.append_assoc, List.cons_append] using h2
  | succ j ih =>
    intro k M h hk
    have hl : k < L.length := by omega
    have hL := h.2.2.2.1
    have hx := h.2.1.2.2.1 _ (getD_mem (d := e0) hl)
    obtain ⟨a1, a2, a3, a4, a5, a6, a7⟩ := hx
    obtain ⟨w1, w2, w3, w4, w5⟩ := h.2.1.2.2.2 k hl
    rw [r67_2]
    simp (disch := omega) only [r67_3, r67_4, r67_7, am_cat0, am_catI, am_catR, am_catD, am_ndI, am_ndR, am_ndL, va_rfS, true_and, and_true, Option.toList_some, Option.toList_none, List.cons_append, List.nil_append, Nat.reduceAdd, Nat.reduceLeDiff, Nat.zero_add, Nat.le_refl, so49, h.2.1.1, nx_le, Nat.not_le.mpr hl, if_false]
    have hw : ∀ Q, RR 67 10 [.ref 49, .int (nI k)] [] (SH, (0, 0, sl), M, D, RF) Q ↔ RR 67 43 [.ref 49, .int (nI k)] [.int (nI (soC (L.getD k e0).1)), .ref 49] (SH, (0, 0, sl), M, D, RF) Q := by
      intro Q
      unfold soC
      by_cases g3 : (L.getD k e0).1 = 3
      · have e3 : (nI (L.getD k e0).1 = nI 3) = True := eq_true (by rw [g3])
        rw [if_pos g3]
        simp (disch := omega) only [r67_10, r67_11, r67_12, r67_15, r67_16, r67_17, r67_18, r67_21, r67_23, r67_26, r67_27, r67_30, r67_31, r67_32, r67_33, r67_36, r67_38, r67_41, am_cat0, am_catI, am_catR, am_catD, am_ndI, am_ndR, am_ndL, va_rfS, true_and, and_true, Option.toList_some, Option.toList_none, List.cons_append, List.nil_append, Nat.reduceAdd, Nat.reduceLeDiff, Nat.zero_add, Nat.le_refl, so49, sf49_20, sd66, am_bd, bd_n, nI_tn, w4, e3, not_true_eq_false, if_false]
      · have e3 : (nI (L.getD k e0).1 = nI 3) = False := eq_false (by rw [nx_eq (by omega) (by omega)]; exact g3)
        rw [if_neg g3]
        by_cases g2 : (L.getD k e0).1 = 2
        · have e2 : (nI (L.getD k e0).1 = nI 2) = True := eq_true (by rw [g2])
          rw [if_pos g2]
          simp (disch := omega) only [r67_10, r67_11, r67_12, r67_15, r67_16, r67_17, r67_18, r67_21, r67_23, r67_26, r67_27, r67_30, r67_31, r67_32, r67_33, r67_36, r67_38, r67_41, am_cat0, am_catI, am_catR, am_catD, am_ndI, am_ndR, am_ndL, va_rfS, true_and, and_true, Option.toList_some, Option.toList_none, List.cons_append, List.nil_append, Nat.reduceAdd, Nat.reduceLeDiff, Nat.zero_add, Nat.le_refl, so49, sf49_20, sd66, am_bd, bd_n, nI_tn, w4, e3, e2, not_true_eq_false, not_false_eq_true, if_false, if_true]
        · have e2 : (nI (L.getD k e0).1 = nI 2) = False := eq_false (by rw [nx_eq (by omega) (by omega)]; exact g2)
          rw [if_neg g2]
          simp (disch := omega) only [r67_10, r67_11, r67_12, r67_15, r67_16, r67_17, r67_18, r67_21, r67_23, r67_26, r67_27, r67_30, r67_31, r67_32, r67_33, r67_36, r67_38, r67_41, am_cat0, am_catI, am_catR, am_catD, am_ndI, am_ndR, am_ndL, va_rfS, true_and, and_true, Option.toList_some, Option.toList_none, List.cons_append, List.nil_append, Nat.reduceAdd, Nat.reduceLeDiff, Nat.zero_add, Nat.le_refl, so49, sf49_20, sd66, am_bd, bd_n, nI_tn, w4, e3, e2, not_false_eq_true, if_true]
    rw [hw]
    simp only [r67_43, r67_46, r67_47, r67_49, r67_52, r67_53, r67_54, am_cat0, am_catI, am_catR, am_catD, am_ndI, am_ndR, am_ndL, va_rfS, true_and, and_true, Option.toList_some, Option.toList_none, List.cons_append, List.nil_append, Nat.reduceAdd, Nat.reduceLeDiff, Nat.zero_add, Nat.le_refl, so49, c63, tlM_e, tlT_a]
    have h1 := fun T => mK_T (T := T) h
    simp only [c65 (h1 _) hl, am_cat0, am_catI, am_catR, am_catD, am_ndI, am_ndR, am_ndL, va_rfS, true_and, and_true, Option.toList_some, Option.toList_none, List.cons_append, List.nil_append, Nat.reduceAdd, Nat.reduceLeDiff, Nat.zero_add, Nat.le_refl, r67_57, r67_58, r67_60, so49, c63, tlM_e, tlT_a]
    have h2 := fun T T' => mK_T (T := T) (mK_x (l := nmL (L.getD k e0).2.1 (L.getD k e0).2.2.1 (L.getD k e0).2.2.2.1) (h1 T'))
    have w1' := fun T T' => ((h2 T T').2.1.2.2.2 k hl).1
    simp (disch := omega) only [r67_63, r67_64, r67_65, r67_68, r67_69, r67_70, am_cat0, am_catI, am_catR, am_catD, am_ndI, am_ndR, am_ndL, va_rfS, true_and, and_true, Option.toList_some, Option.toList_none, List.cons_append, List.nil_append, Nat.reduceAdd, Nat.reduceLeDiff, Nat.zero_add, Nat.le_refl, so49, sf49_17, sd63, am_bd, bd_n, nI_tn, w1', c64 (show (L.getD k e0).2.2.2.2 < 10000 by omega), r67_73, r67_74, r67_76, c63, tlM_e, tlT_a, r67_79, r67_82, nI_add]
    refine RR.imp (ih (k + 1) _ (h2 _ _) (by omega)) ?_
    rintro rv μ' ⟨rfl, M', rfl, h3⟩
    refine ⟨rfl, M', rfl, ?_⟩
    have h4 := Mr_t (Mr_t (Mr_t (Mr_T M _) (Mr_x _ (nmL (L.getD k e0).2.1 (L.getD k e0).2.2.1 (L.getD k e0).2.2.2.1))) (Mr_T _ _)) h3
    rw [drop_e hl, lnA]
    simpa only [lnT, List.append_assoc, List.nil_append, List.append_nil, List.cons_append] using h4
theorem c67 {L : List En} (h : mK M0 D M L) : RR 67 0 [.ref 49, .long 0] [] (SH, (0, 0, sl), M, D, RF) (fun rv μ' => rv = none ∧ ∃ M', μ' = (SH, (0, 0, sl), M', D, RF) ∧ Mr M M' (liT L)) := by
  simp only [r67_0, r67_1, am_cat0, am_catI, am_catR, am_catD, am_ndI, am_ndR, am_ndL, va_rfS, true_and, and_true, Option.toList_some, Option.toList_none, List.cons_append, List.nil_append, Nat.reduceAdd, Nat.reduceLeDiff, Nat.zero_add, Nat.le_refl]
  exact c67o L.length 0 M h (by omega)
theorem c69o {L : List En} {f g h : Nat} : ∀ (j k : Nat) (M : Nat → Nat → Int32), mK M0 D M L → mV M f g h → k + j = L.length → RR 69 74 [.ref 49, .int (nI k)] [] (SH, (0, 0, sl), M, D, RF) (fun rv μ' => rv = none ∧ ∃ M', μ' = (SH, (0, 0, sl), M', D, RF) ∧ Mr M M' (jsA k (L.drop k) ++ jsE (avV (f * 1000000 + g * 1000 + h) L))) := by
  intro j
  induction j with
  | zero =>
    intro k M hK hv hk
    have e : k = L.length := by omega
    subst e
    have hL := hK.2.2.2.1
    obtain ⟨v1, v2, v3, v4, v5, v6⟩ := hv
    have e6 : ¬ nI 1000000 = 0 := by decide
    have e3 : ¬ nI 1000 = 0 := by decide
    rw [r69_74]
    simp only [r69_75, r69_76, r69_79, am_cat0, am_catI, am_catR, am_catD, am_ndI, am_ndR, am_ndL, va_rfS, true_and, and_true, Option.toList_some, Option.toList_none, List.cons_append, List.nil_append, Nat.reduceAdd, Nat.reduceLeDiff, Nat.zero_add, Nat.le_refl, so49, hK.2.1.1, Int32.le_refl, if_true, r69_177, r69_178, r69_180, r69_183, r69_184, r69_186, r69_189, r69_190, r69_192, r69_195, r69_196, r69_198, r69_201, r69_202, r69_204, r69_207, r69_208, r69_210, r69_213, r69_214, r69_216, r69_219, r69_220, r69_222, r69_225, r69_226, r69_228, r69_231, r69_232, r69_234, r69_237, r69_238, r69_240, r69_243, r69_244, r69_246, r69_249, r69_250, c63, tlM_e, tlT_a]
    refine c71 (mK_T hK).2.1 hL (mV_r (Mr_T _ _) ⟨v1, v2, v3, v4, v5, v6⟩) ?_
    obtain ⟨y1, y2⟩ := avV_lt (V := f * 1000000 + g * 1000 + h) (L := L) (by omega)
    generalize avV (f * 1000000 + g * 1000 + h) L = a at *
    simp (disch := omega) only [r69_253, r69_254, r69_255, r69_256, r69_258, r69_259, r69_262, r69_263, r69_265, r69_268, r69_269, r69_270, r69_273, r69_274, r69_277, r69_278, r69_281, r69_282, r69_284, r69_287, r69_288, r69_289, r69_292, r69_293, r69_296, r69_297, r69_299, r69_302, r69_303, r69_305, r69_308, am_cat0, am_catI, am_catR, am_catD, am_ndI, am_ndR, am_ndL, va_rfS, true_and, and_true, Option.toList_some, Option.toList_none, List.cons_append, List.nil_append, Nat.reduceAdd, Nat.reduceLeDiff, Nat.zero_add, Nat.le_refl, so49, e6, e3, not_false_eq_true, nx_dv, nx_rm2, c64 y2, c64 (show a / 1000 % 1000 < 10000 by omega), c64 (show a % 1000 < 10000 by omega), c63, tlM_e, tlT_a]
    refine ⟨_, rfl, ?_⟩
    rw [List.drop_length]
    have h2 := Mr_T M ([93, 44, 34, 97, 100, 118, 105, 99, 101, 34, 58, 34] ++ dgL (a / 1000000) ++ [46] ++ dgL (a / 1000 % 1000) ++ [46] ++ dgL (a % 1000) ++ [34] ++ [125])
    simpa only [jsA, jsE, str11, str12, List.nil_append, List.append_assoc, List.cons_append] using h2
  | succ j ih =>
    intro k M hK hv hk
    have hl : k < L.length := by omega
    have hL := hK.2.2.2.1
    have hx := hK.2.1.2.2.1 _ (getD_mem (d := e0) hl)
    obtain ⟨a1, a2, a3, a4, a5, a6, a7⟩ := hx
    rw [r69_74]
    simp (disch := omega) only [r69_75, r69_76, r69_79, am_cat0, am_catI, am_catR, am_catD, am_ndI, am_ndR, am_ndL, va_rfS, true_and, and_true, Option.toList_some, Option.toList_none, List.cons_append, List.nil_append, Nat.reduceAdd, Nat.reduceLeDiff, Nat.zero_add, Nat.le_refl, so49, hK.2.1.1, nx_le, Nat.not_le.mpr hl, if_false]
    have hK1 := fun T => mK_T (T := T) hK
    have w4 := fun T => ((hK1 T).2.1.2.2.2 k hl).2.2.2.1
    have body : ∀ T0, T0 ++ [123, 34, 119, 34, 58] = am_strs.getD (if k = 0 then 7 else 8) [] → RR 69 92 [.ref 49, .int (nI k)] [] (SH, (0, 0, sl), tlT M T0, D, RF) (fun rv μ' => rv = none ∧ ∃ M', μ' = (SH, (0, 0, sl), M', D, RF) ∧ Mr M M' (jsA k (L.drop k) ++ jsE (avV (f * 1000000 + g * 1000 + h) L))) := by
      intro T0 hT0
      simp (disch := omega) only [r69_92, r69_93, r69_95, r69_98, r69_99, r69_101, r69_104, r69_105, r69_106, r69_109, r69_110, r69_111, r69_114, r69_115, r69_117, r69_120, r69_121, r69_123, r69_126, r69_127, r69_129, r69_132, r69_133, r69_134, am_cat0, am_catI, am_catR, am_catD, am_ndI, am_ndR, am_ndL, va_rfS, true_and, and_true, Option.toList_some, Option.toList_none, List.cons_append, List.nil_append, Nat.reduceAdd, Nat.reduceLeDiff, Nat.zero_add, Nat.le_refl, so49, sf49_20, sd66, am_bd, bd_n, nI_tn, w4, c68, c63, tlM_e, tlT_a, c64 (show (L.getD k e0).1 < 10000 by omega)]
      simp only [c65 (hK1 _) hl, am_cat0, am_catI, am_catR, am_catD, am_ndI, am_ndR, am_ndL, va_rfS, true_and, and_true, Option.toList_some, Option.toList_none, List.cons_append, List.nil_append, Nat.reduceAdd, Nat.reduceLeDiff, Nat.zero_add, Nat.le_refl, r69_137, r69_138, r69_140, r69_143, r69_144, r69_146, r69_149, r69_150, r69_152, so49, c63, c68, tlM_e, tlT_a]
      have h2 := fun T T' => mK_T (T := T) (mK_x (l := nmL (L.getD k e0).2.1 (L.getD k e0).2.2.1 (L.getD k e0).2.2.2.1) (hK1 T'))
      have w1' := fun T T' => ((h2 T T').2.1.2.2.2 k hl).1
      simp (disch := omega) only [r69_155, r69_156, r69_157, r69_160, r69_161, r69_162, am_cat0, am_catI, am_catR, am_catD, am_ndI, am_ndR, am_ndL, va_rfS, true_and, and_true, Option.toList_some, Option.toList_none, List.cons_append, List.nil_append, Nat.reduceAdd, Nat.reduceLeDiff, Nat.zero_add, Nat.le_refl, so49, sf49_17, sd63, am_bd, bd_n, nI_tn, w1', c64 (show (L.getD k e0).2.2.2.2 < 10000 by omega), r69_165, r69_166, r69_168, c63, tlM_e, tlT_a, r69_171, r69_174, nI_add]
      refine RR.imp (ih (k + 1) _ (h2 _ _) (mV_r (Mr_t (Mr_t (Mr_T M _) (Mr_x _ _)) (Mr_T _ _)) hv) (by omega)) ?_
      rintro rv μ' ⟨rfl, M', rfl, h3⟩
      refine ⟨rfl, M', rfl, ?_⟩
      have h4 := Mr_t (Mr_t (Mr_t (Mr_T M _) (Mr_x _ (nmL (L.getD k e0).2.1 (L.getD k e0).2.2.1 (L.getD k e0).2.2.2.1))) (Mr_T _ _)) h3
      rw [drop_e hl, jsA, jsT, ← hT0]
      simpa only [str9, str10, List.append_assoc, List.nil_append, List.append_nil, List.cons_append] using h4
    by_cases hk0 : k = 0
    · subst hk0
      have e0' : nI 0 ≤ 0 := by decide
      simp only [r69_82, r69_83, e0', if_true]
      exact body [] (by rw [if_pos rfl]; rfl)
    · have e0' : ¬ nI k ≤ 0 := nI_nle (by omega) (by omega)
      simp only [r69_82, r69_83, e0', if_false, r69_86, r69_87, r69_89, am_cat0, am_catI, am_catR, am_catD, am_ndI, am_ndR, am_ndL, va_rfS, true_and, and_true, Option.toList_some, Option.toList_none, List.cons_append, List.nil_append, Nat.reduceAdd, Nat.reduceLeDiff, Nat.zero_add, Nat.le_refl, so49, c63, tlM_e]
      exact body [44] (by rw [if_neg hk0]; rfl)
theorem c69 {L : List En} {f g h : Nat} (hK : mK M0 D M L) (hv : mV M f g h) : RR 69 0 [.ref 49, .long 0] [] (SH, (0, 0, sl), M, D, RF) (fun rv μ' => rv = none ∧ ∃ M', μ' = (SH, (0, 0, sl), M', D, RF) ∧ Mr M M' (jsO L (avV (f * 1000000 + g * 1000 + h) L))) := by
  simp only [r69_0, r69_1, r69_3, r69_6, r69_7, r69_9, r69_12, r69_13, r69_15, r69_18, r69_19, r69_21, r69_24, r69_25, r69_27, r69_30, r69_31, r69_33, r69_36, r69_37, r69_39, r69_42, r69_43, r69_45, r69_48, r69_49, r69_51, r69_54, r69_55, r69_57, r69_60, r69_61, r69_63, r69_66, r69_67, r69_69, r69_72, r69_73, am_cat0, am_catI, am_catR, am_catD, am_ndI, am_ndR, am_ndL, va_rfS, true_and, and_true, Option.toList_some, Option.toList_none, List.cons_append, List.nil_append, Nat.reduceAdd, Nat.reduceLeDiff, Nat.zero_add, Nat.le_refl, so49, c63, tlM_e, tlT_a]
  refine RR.imp (c69o L.length 0 _ (mK_T hK) (mV_r (Mr_T _ _) hv) (by omega)) ?_
  rintro rv μ' ⟨rfl, M', rfl, h3⟩
  refine ⟨rfl, M', rfl, ?_⟩
  have h4 := Mr_t (Mr_T M _) h3
  rw [List.drop_zero] at h4
  exact h4
theorem c59k (h2 : bW M0 2) (h9 : bW M0 9) (hB : mBd M0 D M) (hR : mRl M0 M P n) (hr : rlW M0 P n) (hD : ∀ k, k < 96 → Op.cmpValue (FP.dcmp (D 8 k) (D 8 k)) .l = 0) : RR 59 0 [.ref 49, .long 0] [] (SH, (0, 0, sl), M, D, RF) (fun rv μ' => rv = none ∧ ∃ M', μ' = (SH, (0, 0, sl), M', D, RF) ∧ mK M0 D M' (wA M0 D P n) ∧ agS M M') := by
  refine RR.imp (c59 h2 h9 hB hR hr hD) ?_
  rintro rv μ' ⟨rfl, M', rfl, h3, h4⟩
  exact ⟨rfl, M', rfl, ⟨mBd_ag hB h4, h3, gpL_w _ _ (fun x hx => absurd hx List.not_mem_nil), wA_len, h2, h9⟩, h4⟩
theorem agS_Mr {M M' : Nat → Nat → Int32} {T : List Nat} (h : Mr M M' T) : agS M M' := fun q k a b => h.2.2 q k (by omega) (by omega)
theorem c60 (h2 : bW M0 2) (h9 : bW M0 9) (hB : mBd M0 D M) (hR : mRl M0 M P n) (hr : rlW M0 P n) (hD : ∀ k, k < 96 → Op.cmpValue (FP.dcmp (D 8 k) (D 8 k)) .l = 0) : RR 60 0 [.ref 49] [] (SH, (0, 0, sl), M, D, RF) (fun rv μ' => rv = some (.int (nI (wA M0 D P n).length)) ∧ ∃ M', μ' = (SH, (0, 0, sl), M', D, RF) ∧ agS M M') := by
  simp only [r60_0, r60_1, am_cat0, am_catI, am_catR, am_catD, am_ndI, am_ndR, am_ndL, va_rfS, true_and, and_true, Option.toList_some, Option.toList_none, List.cons_append, List.nil_append, Nat.reduceAdd, Nat.reduceLeDiff, Nat.zero_add, Nat.le_refl, so49]
  refine RR.imp (c59k h2 h9 hB hR hr hD) ?_
  rintro rv μ' ⟨rfl, M', rfl, h3, h4⟩
  simp only [r60_4, r60_5, r60_8, am_cat0, am_catI, am_catR, am_catD, am_ndI, am_ndR, am_ndL, va_rfS, true_and, and_true, Option.toList_some, Option.toList_none, List.cons_append, List.nil_append, Nat.reduceAdd, Nat.reduceLeDiff, Nat.zero_add, Nat.le_refl, so49, h3.2.1.1]
  exact ⟨M', rfl, h4⟩
theorem c70 {f g h : Nat} {j : Prop} {hj : Decidable j} {k : Int32} (h2 : bW M0 2) (h9 : bW M0 9) (hB : mBd M0 D M) (hR : mRl M0 M P n) (hr : rlW M0 P n) (hD : ∀ k, k < 96 → Op.cmpValue (FP.dcmp (D 8 k) (D 8 k)) .l = 0) (hv : mV M f g h) : RR 70 0 [.ref 49, .int (@bN j hj), .int k] [] (SH, (0, 0, sl), M, D, RF) (fun rv μ' => rv = some (.int (rpA k (if j then jsO (wA M0 D P n) (avV (f * 1000000 + g * 1000 + h) (wA M0 D P n)) else liT (wA M0 D P n)))) ∧ ∃ M', μ' = (SH, (0, 0, sl), M', D, RF) ∧ agS M M') := by
  simp only [r70_0, r70_1, am_cat0, am_catI, am_catR, am_catD, am_ndI, am_ndR, am_ndL, va_rfS, true_and, and_true, Option.toList_some, Option.toList_none, List.cons_append, List.nil_append, Nat.reduceAdd, Nat.reduceLeDiff, Nat.zero_add, Nat.le_refl, so49]
  refine RR.imp (c59k h2 h9 hB hR hr hD) ?_
  rintro rv μ' ⟨rfl, M1, rfl, h3, h4⟩
  generalize wA M0 D P n = L at *
  have a1 : agS M1 (am_up (am_up (am_up M1 49 25 k) 49 26 (nI 0)) 49 27 (-2)) := fun q k x y => by rw [up_n (fun z => y ⟨z.1, by omega⟩), up_n (fun z => y ⟨z.1, by omega⟩), up_n (fun z => y ⟨z.1, by omega⟩)]
  have hK : mK M0 D (am_up (am_up (am_up M1 49 25 k) 49 26 (nI 0)) 49 27 (-2)) L := by
    obtain ⟨b1, ⟨b2, b3, b4, b5⟩, b6⟩ := h3
    refine ⟨mBd_ag b1 a1, ⟨by rw [up_k (by decide), up_k (by decide), up_k (by decide)]; exact b2, b3, b4, fun i hi => ?_⟩, b6⟩
    have z := b5 i hi
    unfold mRw at z ⊢
    simp (disch := decide) only [up_q]
    exact z
  have fin : ∀ (T : List Nat) (M' : Nat → Nat → Int32), Mr (am_up (am_up (am_up M1 49 25 k) 49 26 (nI 0)) 49 27 (-2)) M' T → RR 70 35 [.ref 49, .int (@bN j hj), .int k] [] (SH, (0, 0, sl), M', D, RF) (fun rv μ' => rv = some (.int (rpA k T)) ∧ ∃ M', μ' = (SH, (0, 0, sl), M', D, RF) ∧ agS M M') := by
    intro T M' hp
    obtain ⟨p4, p5⟩ := hp.1 0 (by rw [up_k (by decide), up_s])
    rw [up_k (by decide), up_k (by decide), up_s, up_s] at p5
    rw [Nat.zero_add] at p4
    have hag : agS M M' := agS_t h4 (agS_t a1 (agS_Mr hp))
    by_cases hk : k = -1
    · simp only [r70_35, r70_36, r70_37, r70_40, r70_41, r70_44, r70_51, am_cat0, am_catI, am_catR, am_catD, am_ndI, am_ndR, am_ndL, va_rfS, true_and, and_true, Option.toList_some, Option.toList_none, List.cons_append, List.nil_append, Nat.reduceAdd, Nat.reduceLeDiff, Nat.zero_add, Nat.le_refl, rw_mrg, ite_Q, ite_bN, ite_bN', ib_0b, ib_b0, ib_1b, ib_b1, bN_0, bN_n0, bN_01T, nI1_0, nI0_0, nI01a, nI01b, bN_1, no_or, true_or, or_true, false_or, or_false, ite_not, if_true, if_false, Decidable.not_not, so49, hk, p4]
      exact ⟨by rw [rpA, if_pos rfl], M', rfl, hag⟩
    · have hk' := eq_false hk
      simp only [r70_35, r70_36, r70_37, r70_47, r70_48, r70_51, am_cat0, am_catI, am_catR, am_catD, am_ndI, am_ndR, am_ndL, va_rfS, true_and, and_true, Option.toList_some, Option.toList_none, List.cons_append, List.nil_append, Nat.reduceAdd, Nat.reduceLeDiff, Nat.zero_add, Nat.le_refl, rw_mrg, ite_Q, ite_bN, ite_bN', ib_0b, ib_b0, ib_1b, ib_b1, bN_0, bN_n0, bN_01T, nI1_0, nI0_0, nI01a, nI01b, bN_1, no_or, true_or, or_true, false_or, or_false, ite_not, if_true, if_false, Decidable.not_not, so49, hk', p5, not_false_eq_true]
      exact ⟨by rw [rpA, if_neg hk], M', rfl, hag⟩
  by_cases hj0 : j
  · simp only [r70_4, r70_5, r70_6, r70_9, r70_10, r70_11, r70_14, r70_15, r70_17, r70_20, r70_21, r70_24, r70_25, am_cat0, am_catI, am_catR, am_catD, am_ndI, am_ndR, am_ndL, va_rfS, true_and, and_true, Option.toList_some, Option.toList_none, List.cons_append, List.nil_append, Nat.reduceAdd, Nat.reduceLeDiff, Nat.zero_add, Nat.le_refl, rw_mrg, ite_Q, ite_bN, ite_bN', ib_0b, ib_b0, ib_1b, ib_b1, bN_0, bN_n0, bN_01T, nI1_0, nI0_0, nI01a, nI01b, bN_1, no_or, true_or, or_true, false_or, or_false, ite_not, if_true, if_false, Decidable.not_not, so49, bN_t hj0, hj0]
    refine RR.imp (c69 hK (mV_ag a1 (mV_ag h4 hv))) ?_
    rintro rv μ' ⟨rfl, M', rfl, h5⟩
    have h6 := fin _ _ h5
    rw [bN_t hj0] at h6
    simp only [r70_28, am_cat0, am_catI, am_catR, am_catD, am_ndI, am_ndR, am_ndL, va_rfS, true_and, and_true, Option.toList_some, Option.toList_none, List.cons_append, List.nil_append, Nat.reduceAdd, Nat.reduceLeDiff, Nat.zero_add, Nat.le_refl]
    exact h6
  · simp only [r70_4, r70_5, r70_6, r70_9, r70_10, r70_11, r70_14, r70_15, r70_17, r70_20, r70_21, r70_31, r70_32, am_cat0, am_catI, am_catR, am_catD, am_ndI, am_ndR, am_ndL, va_rfS, true_and, and_true, Option.toList_some, Option.toList_none, List.cons_append, List.nil_append, Nat.reduceAdd, Nat.reduceLeDiff, Nat.zero_add, Nat.le_refl, rw_mrg, ite_Q, ite_bN, ite_bN', ib_0b, ib_b0, ib_1b, ib_b1, bN_0, bN_n0, bN_01T, nI1_0, nI0_0, nI01a, nI01b, bN_1, no_or, true_or, or_true, false_or, or_false, ite_not, if_true, if_false, Decidable.not_not, so49, bN_f hj0, hj0]
    refine RR.imp (c67 hK) ?_
    rintro rv μ' ⟨rfl, M', rfl, h5⟩
    have h6 := fin _ _ h5
    rw [bN_f hj0] at h6
    exact ⟨rfl, h6⟩
theorem c72 {f g h : Nat} (h2 : bW M0 2) (h9 : bW M0 9) (hB : mBd M0 D M) (hR : mRl M0 M P n) (hr : rlW M0 P n) (hD : ∀ k, k < 96 → Op.cmpValue (FP.dcmp (D 8 k) (D 8 k)) .l = 0) (hv : mV M f g h) : RR 72 0 [.ref 49] [] (SH, (0, 0, sl), M, D, RF) (fun rv μ' => rv = some (.int (nI (avV (f * 1000000 + g * 1000 + h) (wA M0 D P n)))) ∧ ∃ M', μ' = (SH, (0, 0, sl), M', D, RF) ∧ agS M M') := by
  simp only [r72_0, r72_1, am_cat0, am_catI, am_catR, am_catD, am_ndI, am_ndR, am_ndL, va_rfS, true_and, and_true, Option.toList_some, Option.toList_none, List.cons_append, List.nil_append, Nat.reduceAdd, Nat.reduceLeDiff, Nat.zero_add, Nat.le_refl, so49]
  refine RR.imp (c59k h2 h9 hB hR hr hD) ?_
  rintro rv μ' ⟨rfl, M', rfl, h3, h4⟩
  simp only [r72_4, r72_5, am_cat0, am_catI, am_catR, am_catD, am_ndI, am_ndR, am_ndL, va_rfS, true_and, and_true, Option.toList_some, Option.toList_none, List.cons_append, List.nil_append, Nat.reduceAdd, Nat.reduceLeDiff, Nat.zero_add, Nat.le_refl, so49]
  refine c71 h3.2.1 wA_len (mV_ag h4 hv) ?_
  simp only [r72_8, am_cat0, am_catI, am_catR, am_catD, am_ndI, am_ndR, am_ndL, va_rfS, true_and, and_true, Option.toList_some, Option.toList_none, List.cons_append, List.nil_append, Nat.reduceAdd, Nat.reduceLeDiff, Nat.zero_add, Nat.le_refl]
  exact ⟨M', rfl, h4⟩
theorem c61 {k w : Int32} (h2 : bW M0 2) (h9 : bW M0 9) (hB : mBd M0 D M) (hR : mRl M0 M P n) (hr : rlW M0 P n) (hD : ∀ k, k < 96 → Op.cmpValue (FP.dcmp (D 8 k) (D 8 k)) .l = 0) : RR 61 0 [.ref 49, .int k, .int w, .long 0] [] (SH, (0, 0, sl), M, D, RF) (fun rv μ' => rv = some (.int (chR k w (wA M0 D P n))) ∧ ∃ M', μ' = (SH, (0, 0, sl), M', D, RF) ∧ agS M M') := by
  have z0 : (nI 0).toInt = 0 := by decide
  have z4 : (nI 4).toInt = 4 := by decide
  unfold chR
  by_cases hw : 0 ≤ w.toInt ∧ w.toInt ≤ 4
  · rw [if_pos hw]
    have hw' := eq_true hw
    simp only [r61_0, r61_1, r61_2, r61_3, am_cat0, am_catI, am_catR, am_catD, am_ndI, am_ndR, am_ndL, va_rfS, true_and, and_true, Option.toList_some, Option.toList_none, List.cons_append, List.nil_append, Nat.reduceAdd, Nat.reduceLeDiff, Nat.zero_add, Nat.le_refl, c32, z0, z4, r61_6, bN_0, hw', not_true_eq_false, not_false_eq_true, if_true, r61_11, r61_12, so49]
    refine RR.imp (c59k h2 h9 hB hR hr hD) ?_
    rintro rv μ' ⟨rfl, M', rfl, h3, h4⟩
    generalize wA M0 D P n = L at *
    have hL := h3.2.2.2.1
    have zl : (nI L.length - nI 1).toInt = (L.length : Int) - 1 := pk_sub_toInt (by omega) (by decide)
    by_cases hk : 0 ≤ k.toInt ∧ k.toInt < (L.length : Int)
    · have hk' : (0 ≤ k.toInt ∧ k.toInt ≤ (L.length : Int) - 1) = True := eq_true (by omega)
      rw [if_pos hk]
      obtain ⟨i, i1, rfl, i3⟩ := xI hk.1
      have hi : i < L.length := by omega
      have ein : (nI i).toInt.toNat = i := nI_tn i1
      obtain ⟨a1, a2, a3, a4, a5, a6, a7⟩ := h3.2.1.2.2.1 _ (getD_mem (d := e0) hi)
      obtain ⟨w1, w2, w3, w4, w5⟩ := h3.2.1.2.2.2 i hi
      rw [ein]
      simp (disch := omega) only [r61_15, r61_16, r61_17, r61_18, r61_21, r61_22, r61_23, am_cat0, am_catI, am_catR, am_catD, am_ndI, am_ndR, am_ndL, va_rfS, true_and, and_true, Option.toList_some, Option.toList_none, List.cons_append, List.nil_append, Nat.reduceAdd, Nat.reduceLeDiff, Nat.zero_add, Nat.le_refl, so49, h3.2.1.1, c32, z0, zl, hk', r61_26, bN_0, not_true_eq_false, not_false_eq_true, if_true, r61_32, r61_33, r61_36, r61_37, r61_38, r61_39, sf49_19, sd65, am_bd, bd_n, nI_tn, w3, r61_40]
      obtain ⟨v, v1, rfl, v3⟩ := xI hw.1
      have evn : (nI v).toInt.toNat = v := nI_tn v1
      have hv5 : v = 0 ∨ v = 1 ∨ v = 2 ∨ v = 3 ∨ v = 4 := by omega
      rw [evn]
      unfold chV
      have o0 : (((nI 0).toInt - 0).toNat) = 0 := by decide
      have o1 : (((nI 1).toInt - 0).toNat) = 1 := by decide
      have o2 : (((nI 2).toInt - 0).toNat) = 2 := by decide
      have o3 : (((nI 3).toInt - 0).toNat) = 3 := by decide
      have n0 : ¬ ((nI 0).toInt < 0 ∨ 3 < (nI 0).toInt) := by decide
      have n1 : ¬ ((nI 1).toInt < 0 ∨ 3 < (nI 1).toInt) := by decide
      have n2 : ¬ ((nI 2).toInt < 0 ∨ 3 < (nI 2).toInt) := by decide
      have n3 : ¬ ((nI 3).toInt < 0 ∨ 3 < (nI 3).toInt) := by decide
      have n4 : ((nI 4).toInt < 0 ∨ 3 < (nI 4).toInt) := by decide
      have l0 : ([72, 79, 86, 93] : List Nat).getD 0 0 = 72 := rfl
      have l1 : ([72, 79, 86, 93] : List Nat).getD 1 0 = 79 := rfl
      have l2 : ([72, 79, 86, 93] : List Nat).getD 2 0 = 86 := rfl
      have l3 : ([72, 79, 86, 93] : List Nat).getD 3 0 = 93 := rfl
      rcases hv5 with rfl | rfl | rfl | rfl | rfl
      · rw [if_neg n0, o0, l0]
        simp (disch := omega) only [r61_72, r61_73, r61_76, r61_77, r61_78, am_cat0, am_catI, am_catR, am_catD, am_ndI, am_ndR, am_ndL, va_rfS, true_and, and_true, Option.toList_some, Option.toList_none, List.cons_append, List.nil_append, Nat.reduceAdd, Nat.reduceLeDiff, Nat.zero_add, Nat.le_refl, so49, sf49_17, sd63, am_bd, bd_n, nI_tn, w1, if_true]
        exact ⟨M', rfl, h4⟩
      · rw [if_neg n1, o1, l1]
        simp (disch := omega) only [r61_79, r61_80, r61_83, r61_84, r61_85, am_cat0, am_catI, am_catR, am_catD, am_ndI, am_ndR, am_ndL, va_rfS, true_and, and_true, Option.toList_some, Option.toList_none, List.cons_append, List.nil_append, Nat.reduceAdd, Nat.reduceLeDiff, Nat.zero_add, Nat.le_refl, so49, sf49_20, sd66, am_bd, bd_n, nI_tn, w4, if_true, if_false, Nat.one_ne_zero]
        exact ⟨M', rfl, h4⟩
      · rw [if_neg n2, o2, l2]
        simp (disch := omega) only [r61_86, r61_87, r61_90, r61_91, r61_92, am_cat0, am_catI, am_catR, am_catD, am_ndI, am_ndR, am_ndL, va_rfS, true_and, and_true, Option.toList_some, Option.toList_none, List.cons_append, List.nil_append, Nat.reduceAdd, Nat.reduceLeDiff, Nat.zero_add, Nat.le_refl, so49, sf49_18, sd64, am_bd, bd_n, nI_tn, w2]
        exact ⟨rfl, M', rfl, h4⟩
      · rw [if_neg n3, o3, l3]
        by_cases g0 : (L.getD i e0).2.2.2.1 = 0
        · have g0' : (nI (L.getD i e0).2.2.2.1 = 0) = True := eq_true (by rw [g0]; decide)
          simp (disch := omega) only [r61_93, r61_94, r61_97, r61_98, r61_112, g0', not_true_eq_false, if_false]
          exact ⟨by rw [if_pos g0]; rfl, M', rfl, h4⟩
        · have g0' : (nI (L.getD i e0).2.2.2.1 = 0) = False := eq_false (by rw [nx_0 (by omega)]; exact g0)
          by_cases g1 : (L.getD i e0).2.2.2.1 ≤ 12
          · have g1' : (nI 13 ≤ nI (L.getD i e0).2.2.2.1) = False := eq_false (by rw [nx_le (by decide) (by omega)]; omega)
            simp (disch := omega) only [r61_93, r61_94, r61_101, r61_102, r61_104, r61_107, r61_108, r61_112, g0', g1', not_false_eq_true, if_true, if_false]
            exact ⟨by rw [if_neg g0, if_pos g1]; rfl, M', rfl, h4⟩
          · have g1' : (nI 13 ≤ nI (L.getD i e0).2.2.2.1) = True := eq_true (by rw [nx_le (by decide) (by omega)]; omega)
            simp (disch := omega) only [r61_93, r61_94, r61_101, r61_102, r61_104, r61_111, r61_112, g0', g1', not_false_eq_true, if_true]
            exact ⟨by rw [if_neg g0, if_neg g1]; rfl, M', rfl, h4⟩
      · rw [if_pos n4]
        by_cases g0 : (L.getD i e0).2.2.2.1 = 0
        · have g0' : (nI (L.getD i e0).2.2.2.1 = 0) = True := eq_true (by rw [g0]; decide)
          simp (disch := omega) only [r61_113, r61_114, r61_117, r61_119, r61_128, g0', not_true_eq_false, if_false]
          exact ⟨by rw [if_neg (by decide : ¬ (4 : Nat) = 0), if_neg (by decide : ¬ (4 : Nat) = 1), if_neg (by decide : ¬ (4 : Nat) = 2), if_neg (by decide : ¬ (4 : Nat) = 3), if_pos g0], M', rfl, h4⟩
        · have g0' : (nI (L.getD i e0).2.2.2.1 = 0) = False := eq_false (by rw [nx_0 (by omega)]; exact g0)
          have e1 : nI (L.getD i e0).2.2.2.1 - nI 1 = nI ((L.getD i e0).2.2.2.1 - 1) := pk_sub (by omega)
          have e12 : ¬ nI 12 = 0 := by decide
          simp (disch := omega) only [r61_113, r61_114, r61_122, r61_123, r61_124, r61_125, r61_127, r61_128, g0', e1, e12, not_false_eq_true, if_true, nx_rm, am_cat0, am_catI, am_catR, am_catD, am_ndI, am_ndR, am_ndL, va_rfS, true_and, and_true, Option.toList_some, Option.toList_none, List.cons_append, List.nil_append, Nat.reduceAdd, Nat.reduceLeDiff, Nat.zero_add, Nat.le_refl]
          exact ⟨by rw [if_neg (by decide : ¬ (4 : Nat) = 0), if_neg (by decide : ¬ (4 : Nat) = 1), if_neg (by decide : ¬ (4 : Nat) = 2), if_neg (by decide : ¬ (4 : Nat) = 3), if_neg g0], M', rfl, h4⟩
    · have hk' : (0 ≤ k.toInt ∧ k.toInt ≤ (L.length : Int) - 1) = False := eq_false (by omega)
      rw [if_neg hk]
      simp (disch := omega) only [r61_15, r61_16, r61_17, r61_18, r61_21, r61_22, r61_23, am_cat0, am_catI, am_catR, am_catD, am_ndI, am_ndR, am_ndL, va_rfS, true_and, and_true, Option.toList_some, Option.toList_none, List.cons_append, List.nil_append, Nat.reduceAdd, Nat.reduceLeDiff, Nat.zero_add, Nat.le_refl, so49, h3.2.1.1, c32, z0, zl, hk', r61_26, bN_0, not_true_eq_false, not_false_eq_true, if_false, r61_29, r61_31]
      exact ⟨M', rfl, h4⟩
  · rw [if_neg hw]
    have hw' := eq_false hw
    simp only [r61_0, r61_1, r61_2, r61_3, am_cat0, am_catI, am_catR, am_catD, am_ndI, am_ndR, am_ndL, va_rfS, true_and, and_true, Option.toList_some, Option.toList_none, List.cons_append, List.nil_append, Nat.reduceAdd, Nat.reduceLeDiff, Nat.zero_add, Nat.le_refl, c32, z0, z4, r61_6, bN_0, hw', not_true_eq_false, not_false_eq_true, if_false, r61_9, r61_10]
    exact ⟨M, rfl, agS_r M⟩
theorem c62 {k : Int32} (h2 : bW M0 2) (h9 : bW M0 9) (hB : mBd M0 D M) (hR : mRl M0 M P n) (hr : rlW M0 P n) (hD : ∀ k, k < 96 → Op.cmpValue (FP.dcmp (D 8 k) (D 8 k)) .l = 0) (hS : ∀ i, i < 96 → vf_n64 (FP.dsub (D 15 i) (D 8 i))) : RR 62 0 [.ref 49, .int k, .long 0] [] (SH, (0, 0, sl), M, D, RF) (fun rv μ' => rv = some (.double (shA D k (wA M0 D P n))) ∧ ∃ M', μ' = (SH, (0, 0, sl), M', D, RF) ∧ agS M M') := by
  have z0 : (nI 0).toInt = 0 := by decide
  simp only [r62_0, r62_1, am_cat0, am_catI, am_catR, am_catD, am_ndI, am_ndR, am_ndL, va_rfS, true_and, and_true, Option.toList_some, Option.toList_none, List.cons_append, List.nil_append, Nat.reduceAdd, Nat.reduceLeDiff, Nat.zero_add, Nat.le_refl, so49]
  refine RR.imp (c59k h2 h9 hB hR hr hD) ?_
  rintro rv μ' ⟨rfl, M', rfl, h3, h4⟩
  have h31 := fun x hx => wA31 (M := M0) (D := D) (P := P) (n := n) (x := x) hx
  generalize wA M0 D P n = L at *
  have hL := h3.2.2.2.1
  have zl : (nI L.length - nI 1).toInt = (L.length : Int) - 1 := pk_sub_toInt (by omega) (by decide)
  unfold shA
  by_cases hk : 0 ≤ k.toInt ∧ k.toInt < (L.length : Int)
  · have hk' : (0 ≤ k.toInt ∧ k.toInt ≤ (L.length : Int) - 1) = True := eq_true (by omega)
    obtain ⟨i, i1, rfl, i3⟩ := xI hk.1
    have hi : i < L.length := by omega
    have ein : (nI i).toInt.toNat = i := nI_tn i1
    have hm31 := h31 _ (getD_mem (d := e0) hi)
    obtain ⟨a1, a2, a3, a4, a5, a6, a7⟩ := h3.2.1.2.2.1 _ (getD_mem (d := e0) hi)
    obtain ⟨w1, w2, w3, w4, w5⟩ := h3.2.1.2.2.2 i hi
    rw [ein]
    by_cases hc : (L.getD i e0).2.2.2.2 = 31
    · obtain ⟨m1, m2⟩ := hm31 hc
      rw [if_pos ⟨hk, hc⟩]
      have hc' : (nI (L.getD i e0).2.2.2.2 = nI 31) = True := eq_true (by rw [hc])
      generalize hxx : L.getD i e0 = x at *
      have esub : nI (12 * x.2.2.1 + x.2.2.2.1) - nI 1 = nI (12 * x.2.2.1 + (x.2.2.2.1 - 1)) := by
        rw [pk_sub (by omega)]
        congr 1
        omega
      have d2 : D 57 (12 * x.2.2.1 + (x.2.2.2.1 - 1)) = D 8 (x.2.2.1 * 12 + (x.2.2.2.1 - 1)) := by
        have z := (h3.1 0 (by decide) x.2.2.1 a4).2.2.2.2.2.2 (x.2.2.2.1 - 1) (by omega)
        rw [show 12 * (8 * 0 + x.2.2.1) + (x.2.2.2.1 - 1) = 12 * x.2.2.1 + (x.2.2.2.1 - 1) by omega] at z
        exact z
      have d9 : D 57 (96 + (12 * x.2.2.1 + (x.2.2.2.1 - 1))) = D 15 (x.2.2.1 * 12 + (x.2.2.2.1 - 1)) := by
        have z := (h3.1 1 (by decide) x.2.2.1 a4).2.2.2.2.2.2 (x.2.2.2.1 - 1) (by omega)
        rw [show 12 * (8 * 1 + x.2.2.1) + (x.2.2.2.1 - 1) = 96 + (12 * x.2.2.1 + (x.2.2.2.1 - 1)) by omega] at z
        exact z
      have hvf := hS (x.2.2.1 * 12 + (x.2.2.2.1 - 1)) (by omega)
      simp (disch := omega) only [r62_4, r62_5, r62_6, r62_7, r62_10, r62_11, r62_12, r62_15, r62_18, r62_19, r62_22, r62_23, r62_24, r62_26, r62_29, r62_30, r62_31, r62_33, r62_34, r62_37, r62_38, r62_39, r62_40, r62_41, r62_44, r62_45, r62_46, r62_47, r62_48, r62_49, r62_50, r62_51, r62_54, r62_56, r62_57, r62_58, r62_59, r62_60, r62_63, r62_64, r62_65, r62_66, am_cat0, am_catI, am_catR, am_catD, am_ndI, am_ndR, am_ndL, va_rfS, true_and, and_true, Option.toList_some, Option.toList_none, List.cons_append, List.nil_append, Nat.reduceAdd, Nat.reduceLeDiff, Nat.zero_add, Nat.le_refl, so49, h3.2.1.1, c32, z0, zl, hk', bN_0, not_true_eq_false, not_false_eq_true, if_true, if_false, sf49_7, sf49_17, sf49_18, sf49_19, sd63, sd64, sd65, sl57, am_bd, am_bs, bd_n, nI_tn, w1, w2, w3, hc', pk_mul, nI_add, esub, d2, d9, hvf]
      exact ⟨M', rfl, h4⟩
    · rw [if_neg (fun z => hc z.2)]
      have hc' : (nI (L.getD i e0).2.2.2.2 = nI 31) = False := eq_false (by rw [nx_eq (by omega) (by omega)]; exact hc)
      simp (disch := omega) only [r62_4, r62_5, r62_6, r62_7, r62_10, r62_11, r62_12, r62_15, r62_18, r62_19, r62_22, r62_23, r62_24, r62_26, r62_29, r62_30, r62_31, r62_33, r62_34, r62_37, r62_38, r62_39, r62_40, r62_41, r62_44, r62_45, r62_46, r62_47, r62_48, r62_49, r62_50, r62_51, r62_54, r62_56, r62_57, r62_58, r62_59, r62_60, r62_63, r62_64, r62_65, r62_66, am_cat0, am_catI, am_catR, am_catD, am_ndI, am_ndR, am_ndL, va_rfS, true_and, and_true, Option.toList_some, Option.toList_none, List.cons_append, List.nil_append, Nat.reduceAdd, Nat.reduceLeDiff, Nat.zero_add, Nat.le_refl, so49, h3.2.1.1, c32, z0, zl, hk', bN_0, not_true_eq_false, not_false_eq_true, if_true, if_false, sf49_17, sd63, am_bd, bd_n, nI_tn, w1, hc']
      exact ⟨M', rfl, h4⟩
  · have hk' : (0 ≤ k.toInt ∧ k.toInt ≤ (L.length : Int) - 1) = False := eq_false (by omega)
    rw [if_neg (fun z => hk z.1)]
    simp (disch := omega) only [r62_4, r62_5, r62_6, r62_7, r62_10, r62_11, r62_12, r62_15, r62_18, r62_19, r62_22, r62_23, r62_24, r62_26, r62_29, r62_30, r62_31, r62_33, r62_34, r62_37, r62_38, r62_39, r62_40, r62_41, r62_44, r62_45, r62_46, r62_47, r62_48, r62_49, r62_50, r62_51, r62_54, r62_56, r62_57, r62_58, r62_59, r62_60, r62_63, r62_64, r62_65, r62_66, am_cat0, am_catI, am_catR, am_catD, am_ndI, am_ndR, am_ndL, va_rfS, true_and, and_true, Option.toList_some, Option.toList_none, List.cons_append, List.nil_append, Nat.reduceAdd, Nat.reduceLeDiff, Nat.zero_add, Nat.le_refl, so49, h3.2.1.1, c32, z0, zl, hk', bN_0, not_true_eq_false, not_false_eq_true, if_true, if_false]
    exact ⟨M', rfl, h4⟩
end CN
