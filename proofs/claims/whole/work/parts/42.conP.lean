/-! THE MODEL: isFit -/
def ibt (x : Int32) (k : Nat) : Bool := x.toBitVec.getLsbD k
theorem ibt_or (x y : Int32) (k : Nat) : ibt (x ||| y) k = (ibt x k || ibt y k) := by
  unfold ibt
  rw [Int32.toBitVec_or, BitVec.getLsbD_or]
theorem ibt_and (x y : Int32) (k : Nat) : ibt (x &&& y) k = (ibt x k && ibt y k) := by
  unfold ibt
  rw [Int32.toBitVec_and, BitVec.getLsbD_and]
theorem ibt_nI (p k : Nat) (h : k < 32) : ibt (nI p) k = p.testBit k := by
  show (BitVec.ofNat 32 p).getLsbD k = _
  rw [BitVec.getLsbD_ofNat]
  simp [h]
theorem ibt_neg (x : Int32) (k : Nat) (h : k < 32) : ibt (-x) k = (ibt x k ^^ decide (∃ j, j < k ∧ ibt x j = true)) := by
  unfold ibt
  rw [Int32.toBitVec_neg, BitVec.getLsbD_neg]
  simp [h]
theorem ibt_star0 (x : Int32) : ibt (x ||| -x) 0 = ibt x 0 := by
  rw [ibt_or, ibt_neg x 0 (by decide)]
  cases ibt x 0 <;> simp
theorem ibt_starS (x : Int32) (k : Nat) (h : k + 1 < 32) : ibt (x ||| -x) (k + 1) = (ibt x (k + 1) || ibt (x ||| -x) k) := by
  rw [ibt_or, ibt_or, ibt_neg x (k + 1) h, ibt_neg x k (by omega)]
  have e : decide (∃ j, j < k + 1 ∧ ibt x j = true) = (ibt x k || decide (∃ j, j < k ∧ ibt x j = true)) := by
    rw [Bool.eq_iff_iff, decide_eq_true_iff, Bool.or_eq_true, decide_eq_true_iff]
    constructor
    · rintro ⟨j, h1, h2⟩
      by_cases e : j = k
      · subst e; exact Or.inl h2
      · exact Or.inr ⟨j, by omega, h2⟩
    · rintro (h1 | ⟨j, h1, h2⟩)
      · exact ⟨k, by omega, h1⟩
      · exact ⟨j, by omega, h2⟩
  rw [e]
  cases ibt x (k + 1) <;> cases ibt x k <;> cases decide (∃ j, j < k ∧ ibt x j = true) <;> rfl
theorem ibt_shl (x : Int32) (k : Nat) (h : k < 32) : ibt (x <<< (nI 1 &&& 31)) k = (decide (1 ≤ k) && ibt x (k - 1)) := by
  unfold ibt
  rw [Int32.toBitVec_shiftLeft, BitVec.shiftLeft_eq', s_l 1 (by decide), BitVec.getLsbD_shiftLeft]
  by_cases hk : k < 1
  · have h0 : k = 0 := by omega
    subst h0
    simp
  · simp [h, hk, show 1 ≤ k by omega]
theorem ibt_fin (x : Int32) (n : Nat) (h : n < 31) : ((x >>> (nI n &&& 31)) &&& nI 1 = nI 1) ↔ ibt x n = true := by
  have h1 : ibt (x >>> (nI n &&& 31)) 0 = ibt x n := by
    unfold ibt
    rw [Int32.toBitVec_shiftRight, BitVec.sshiftRight_eq', s_l n (by omega), BitVec.getLsbD_sshiftRight]
    simp [show n < 32 by omega]
  constructor
  · intro e
    have e2 : ibt ((x >>> (nI n &&& 31)) &&& nI 1) 0 = ibt (nI 1) 0 := congrArg (fun z => ibt z 0) e
    rw [ibt_and, ibt_nI 1 0 (by decide), h1] at e2
    simpa using e2
  · intro e
    apply Int32.toBitVec_inj.1
    apply BitVec.eq_of_getLsbD_eq
    intro i hi
    show ibt _ i = ibt _ i
    rw [ibt_and, ibt_nI 1 i hi]
    by_cases h0 : i = 0
    · subst h0; rw [h1, e]; rfl
    · have : (1 : Nat).testBit i = false := by
        rw [show (1 : Nat) = 2 ^ 0 from rfl, Nat.testBit_two_pow]
        exact decide_eq_false (fun z => h0 z.symm)
      rw [this, Bool.and_false]
theorem plR_tb (l : List Nat) (c v : Nat) : ∀ (k i acc : Nat), (plR l c k i acc).testBit v = true ↔ acc.testBit v = true ∨ (i ≤ v ∧ v < i + k ∧ l.getD v 0 = c) := by
  intro k
  induction k with
  | zero =>
    intro i acc
    refine ⟨fun h => Or.inl h, fun h => h.elim id (fun ⟨h1, h2, _⟩ => by omega)⟩
  | succ k ih =>
    intro i acc
    rw [plR, ih]
    by_cases h : l.getD i 0 = c
    · rw [if_pos h, Nat.testBit_or, Bool.or_eq_true, p2_tb]
      constructor
      · rintro ((h1 | rfl) | ⟨h1, h2, h3⟩)
        · exact Or.inl h1
        · exact Or.inr ⟨Nat.le_refl _, by omega, h⟩
        · exact Or.inr ⟨by omega, by omega, h3⟩
      · rintro (h1 | ⟨h1, h2, h3⟩)
        · exact Or.inl (Or.inl h1)
        · by_cases e : v = i
          · exact Or.inl (Or.inr e)
          · exact Or.inr ⟨by omega, by omega, h3⟩
    · rw [if_neg h]
      constructor
      · rintro (h1 | ⟨h1, h2, h3⟩)
        · exact Or.inl h1
        · exact Or.inr ⟨by omega, by omega, h3⟩
      · rintro (h1 | ⟨h1, h2, h3⟩)
        · exact Or.inl h1
        · by_cases e : v = i
          · subst e; exact absurd h3 h
          · exact Or.inr ⟨by omega, by omega, h3⟩
/-- the model's step -/
def dpS (l : List Nat) (c : Nat) (f : Nat → Bool) : Nat → Bool
  | 0 => decide (c = 42) && f 0
  | k + 1 => if c = 42 then f (k + 1) || dpS l c f k else f k && (decide (c = 63) || decide (c = l.getD k 0))
theorem dpS_ft (l : List Nat) (c : Nat) (x : Int32) (hl : l.length ≤ 15) : ∀ k, k ≤ l.length → ibt (ftS l c x) k = dpS l c (ibt x) k := by
  intro k
  induction k with
  | zero =>
    intro _
    unfold ftS dpS
    by_cases h : c = 42
    · rw [if_pos h, ibt_star0, decide_eq_true h, Bool.true_and]
    · rw [if_neg h, decide_eq_false h, Bool.false_and]
      by_cases h2 : c = 63
      · rw [if_pos h2, ibt_shl _ _ (by decide)]; rfl
      · rw [if_neg h2, ibt_shl _ _ (by decide)]; rfl
  | succ k ih =>
    intro hk
    have h1 := ih (by omega)
    unfold ftS at h1 ⊢
    rw [dpS]
    by_cases h : c = 42
    · rw [if_pos h] at h1 ⊢
      rw [if_pos h, ibt_starS _ _ (by omega), h1]
    · rw [if_neg h, if_neg h]
      by_cases h2 : c = 63
      · rw [if_pos h2, ibt_shl _ _ (by omega), decide_eq_true h2]
        simp
      · rw [if_neg h2, ibt_shl _ _ (by omega), decide_eq_false h2, Nat.add_sub_cancel, ibt_and, ibt_nI _ _ (by omega)]
        have e : (plR l c l.length 0 0).testBit k = decide (c = l.getD k 0) := by
          rw [Bool.eq_iff_iff, plR_tb, decide_eq_true_iff, Nat.zero_testBit]
          constructor
          · rintro (z | ⟨_, _, z⟩)
            · cases z
            · exact z.symm
          · intro z; exact Or.inr ⟨Nat.zero_le _, by omega, z.symm⟩
        rw [e]
        simp
def rcM (M : Nat → Nat → Int32) (n : Nat) (f : Nat → Bool) : Nat → Nat → Int32 := fun q k => if q = 69 ∧ k < n then bN (f k = true) else M q k
theorem rcM_o {M : Nat → Nat → Int32} {n q k : Nat} {f : Nat → Bool} (h : q ≠ 69) : rcM M n f q k = M q k := if_neg (fun z => h z.1)
theorem rcM_g {M : Nat → Nat → Int32} {n k : Nat} {f : Nat → Bool} (h : k < n) : rcM M n f 69 k = bN (f k = true) := if_pos ⟨rfl, h⟩
theorem rcM_c {M : Nat → Nat → Int32} {n : Nat} {f g : Nat → Bool} (h : ∀ k, k < n → f k = g k) : rcM M n f = rcM M n g := by
  funext q k
  unfold rcM
  by_cases h1 : q = 69 ∧ k < n
  · rw [if_pos h1, if_pos h1, h k h1.2]
  · rw [if_neg h1, if_neg h1]
theorem rcM_1 {M : Nat → Nat → Int32} {n : Nat} {f : Nat → Bool} {v : Int32} (hv : v = bN (f n = true)) : am_up (rcM M n f) 69 n v = rcM M (n + 1) f := by
  funext q k
  unfold am_up rcM
  by_cases h1 : q = 69 ∧ k = n
  · obtain ⟨rfl, rfl⟩ := h1
    simp [hv]
  · rw [if_neg h1]
    by_cases h2 : q = 69 ∧ k < n
    · rw [if_pos h2, if_pos ⟨h2.1, by omega⟩]
    · rw [if_neg h2, if_neg (fun z => by
        by_cases e : k = n
        · exact h1 ⟨z.1, e⟩
        · exact h2 ⟨z.1, by omega⟩)]
theorem rcM_0 (M : Nat → Nat → Int32) (f : Nat → Bool) : rcM M 0 f = M := by
  funext q k
  exact if_neg (fun z => absurd z.2 (Nat.not_lt_zero _))
def hkF (f g : Nat → Bool) (k : Nat) : Nat → Bool := fun j => if j < k then g j else f j
theorem rcM_s {M : Nat → Nat → Int32} {n k : Nat} {f g : Nat → Bool} {v : Int32} (hk : k < n) (hv : v = bN (g k = true)) : am_up (rcM M n (hkF f g k)) 69 k v = rcM M n (hkF f g (k + 1)) := by
  funext q j
  unfold am_up rcM hkF
  by_cases h1 : q = 69 ∧ j = k
  · obtain ⟨rfl, rfl⟩ := h1
    simp [hv, hk]
  · rw [if_neg h1]
    by_cases h2 : q = 69 ∧ j < n
    · rw [if_pos h2, if_pos h2]
      by_cases h3 : j < k
      · rw [if_pos h3, if_pos (by omega)]
      · rw [if_neg h3, if_neg (fun z => h1 ⟨h2.1, by omega⟩)]
    · rw [if_neg h2, if_neg h2]
theorem nar_b {p : Prop} {hp : Decidable p} : vp_nar .boolean (@bN p hp) = @bN p hp := by
  unfold bN
  by_cases h : p
  · rw [if_pos h]; decide
  · rw [if_neg h]; decide
theorem nar_1 : vp_nar .boolean (nI 1) = nI 1 := by decide
theorem nar_0 : vp_nar .boolean (nI 0) = nI 0 := by decide
section CN
variable {Q : Option Value → amM → Prop} {μ : amM} {S : List (Nat ⊕ (Nat × Nat))} {M : Nat → Nat → Int32} {D : Nat → Nat → UInt64} {F : Nat → Nat → Option Nat} {sl : Nat}

theorem c48i {x1 x2 x3 x4 x5 : Int32} {n : Nat} (hn : n ≤ 15) : ∀ (j k : Nat) (v8 v9 v10 : Value), k + j = n + 1 → (RR 48 14 [.ref 49, .int x1, .int x2, .int x3, .int x4, .int x5, .int (nI n), .int (nI k), v8, v9, v10] [] (SH, (0, 0, sl), rcM M k (fun z => decide (z = 0)), D, RF) Q ↔ RR 48 44 [.ref 49, .int x1, .int x2, .int x3, .int x4, .int x5, .int (nI n), .int (nI (n + 1)), v8, v9, v10] [] (SH, (0, 0, sl), rcM M (n + 1) (fun z => decide (z = 0)), D, RF) Q) := by
  intro j
  induction j with
  | zero =>
    intro k v8 v9 v10 h
    have e : k = n + 1 := by omega
    subst e
    rw [r48_14]
    simp (disch := omega) only [r48_16, r48_18, am_cat0, am_catI, am_catR, am_catD, am_ndI, am_ndR, am_ndL, va_rfS, true_and, and_true, Option.toList_some, Option.toList_none, List.cons_append, List.nil_append, Nat.reduceAdd, Nat.reduceLeDiff, Nat.zero_add, Nat.le_refl, nx_lt, show n < n + 1 by omega, if_true]
  | succ j ih =>
    intro k v8 v9 v10 h
    have hk : ¬ n < k := by omega
    rw [r48_14]
    by_cases h0 : k = 0
    · have e0 : (nI k = 0) = True := eq_true (by rw [h0]; decide)
      simp (disch := omega) only [r48_16, r48_18, r48_21, r48_22, r48_25, r48_27, r48_29, r48_32, r48_33, r48_36, r48_37, r48_38, r48_41, am_cat0, am_catI, am_catR, am_catD, am_ndI, am_ndR, am_ndL, va_rfS, true_and, and_true, Option.toList_some, Option.toList_none, List.cons_append, List.nil_append, Nat.reduceAdd, Nat.reduceLeDiff, Nat.zero_add, Nat.le_refl, rw_mrg, ite_Q, ite_bN, ite_bN', ib_0b, ib_b0, ib_1b, ib_b1, bN_0, bN_n0, bN_01T, nI1_0, nI0_0, nI01a, nI01b, bN_1, no_or, true_or, or_true, false_or, or_false, ite_not, if_true, if_false, Decidable.not_not, nx_lt, hk, e0, not_true_eq_false, so49, sf49_24, sl69, am_bs, bd_n, nI_tn, nar_1, nI_add, am_ndI]
      rw [rcM_1 (by rw [bN_t (decide_eq_true h0)])]
      exact ih (k + 1) _ _ _ (by omega)
    · have e0 : (nI k = 0) = False := eq_false (by rw [nx_0 (by omega)]; exact h0)
      simp (disch := omega) only [r48_16, r48_18, r48_21, r48_22, r48_25, r48_27, r48_29, r48_32, r48_33, r48_36, r48_37, r48_38, r48_41, am_cat0, am_catI, am_catR, am_catD, am_ndI, am_ndR, am_ndL, va_rfS, true_and, and_true, Option.toList_some, Option.toList_none, List.cons_append, List.nil_append, Nat.reduceAdd, Nat.reduceLeDiff, Nat.zero_add, Nat.le_refl, rw_mrg, ite_Q, ite_bN, ite_bN', ib_0b, ib_b0, ib_1b, ib_b1, bN_0, bN_n0, bN_01T, nI1_0, nI0_0, nI01a, nI01b, bN_1, no_or, true_or, or_true, false_or, or_false, ite_not, if_true, if_false, Decidable.not_not, nx_lt, hk, e0, not_false_eq_true, so49, sf49_24, sl69, am_bs, bd_n, nI_tn, nar_0, nI_add, am_ndI]
      rw [rcM_1 (by rw [bN_f (by rw [decide_eq_true_iff]; exact h0)])]
      exact ih (k + 1) _ _ _ (by omega)
theorem c48k {x1 x2 x3 x4 x5 : Int32} {p c : Nat} {l : List Nat} {f : Nat → Bool} (hl : l.length ≤ 15) (hp : p < 108) (hc : c < 128) (hM : M 58 p = nI c) (hT : ∀ k, k < l.length → M 68 k = nI (l.getD k 0)) (hT2 : ∀ k, k < l.length → l.getD k 0 < 128) (hQ : ∀ v8 v9 v10 : Value, RR 48 196 [.ref 49, .int x1, .int x2, .int x3, .int x4, .int x5, .int (nI l.length), .int (nI p), v8, v9, v10] [] (SH, (0, 0, sl), rcM M (l.length + 1) (dpS l c f), D, RF) Q) : ∀ (j k : Nat) (v10 : Value), k + j = l.length → RR 48 85 [.ref 49, .int x1, .int x2, .int x3, .int x4, .int x5, .int (nI l.length), .int (nI p), .int (bN (f k = true)), .int (nI (k + 1)), v10] [] (SH, (0, 0, sl), rcM M (l.length + 1) (hkF f (dpS l c f) (k + 1)), D, RF) Q := by
  intro j
  induction j with
  | zero =>
    intro k v10 h
    have e : k = l.length := by omega
    subst e
    rw [r48_85]
    simp (disch := omega) only [r48_87, r48_89, am_cat0, am_catI, am_catR, am_catD, am_ndI, am_ndR, am_ndL, va_rfS, true_and, and_true, Option.toList_some, Option.toList_none, List.cons_append, List.nil_append, Nat.reduceAdd, Nat.reduceLeDiff, Nat.zero_add, Nat.le_refl, nx_lt, show l.length < l.length + 1 by omega, if_true]
    have e : rcM M (l.length + 1) (hkF f (dpS l c f) (l.length + 1)) = rcM M (l.length + 1) (dpS l c f) := rcM_c (fun k hk => if_pos hk)
    rw [e]
    exact hQ _ _ _
  | succ j ih =>
    intro k v10 h
    have hk : ¬ l.length < k + 1 := by omega
    have hk1 : k + 1 < l.length + 1 := by omega
    have e1 : nI (k + 1) - nI 1 = nI k := nI_pred k
    have i1 := ih (k + 1)
    have hf : hkF f (dpS l c f) (k + 1) (k + 1) = f (k + 1) := if_neg (by omega)
    have hg : hkF f (dpS l c f) (k + 1) k = dpS l c f k := if_pos (by omega)
    have hM2 : rcM M (l.length + 1) (hkF f (dpS l c f) (k + 1)) 58 p = nI c := by rw [rcM_o (by decide)]; exact hM
    have hT3 : rcM M (l.length + 1) (hkF f (dpS l c f) (k + 1)) 68 k = nI (l.getD k 0) := by rw [rcM_o (by decide)]; exact hT k (by omega)
    have hlk := hT2 k (by omega)
    have go : ∀ (v10 : Value) (v : Int32), v = bN (dpS l c f (k + 1) = true) → RR 48 186 [.ref 49, .int x1, .int x2, .int x3, .int x4, .int x5, .int (nI l.length), .int (nI p), .int (bN (f k = true)), .int (nI (k + 1)), .int (bN (f (k + 1) = true))] [] (SH, (0, 0, sl), am_up (rcM M (l.length + 1) (hkF f (dpS l c f) (k + 1))) 69 (k + 1) v, D, RF) Q := by
      intro v10 v hv
      rw [rcM_s hk1 hv]
      simp only [r48_186, r48_188, r48_190, r48_193, am_ndI, nI_add]
      exact i1 _ (by omega)
    rw [r48_85]
    by_cases hc42 : c = 42
    · have ec : (nI c = nI 42) = True := eq_true (by rw [hc42])
      by_cases w : f (k + 1) = true
      · simp (disch := omega) only [r48_0, r48_1, r48_2, r48_4, r48_6, r48_9, r48_11, r48_12, r48_14, r48_16, r48_18, r48_21, r48_22, r48_25, r48_27, r48_29, r48_32, r48_33, r48_36, r48_37, r48_38, r48_41, r48_44, r48_45, r48_47, r48_49, r48_50, r48_51, r48_52, r48_55, r48_56, r48_59, r48_60, r48_61, r48_63, r48_64, r48_67, r48_69, r48_70, r48_72, r48_75, r48_76, r48_79, r48_80, r48_81, r48_82, r48_83, r48_87, r48_89, r48_92, r48_93, r48_96, r48_98, r48_99, r48_101, r48_102, r48_105, r48_107, r48_108, r48_111, r48_113, r48_114, r48_116, r48_119, r48_121, r48_124, r48_125, r48_128, r48_130, r48_131, r48_132, r48_133, r48_136, r48_137, r48_140, r48_141, r48_144, r48_146, r48_149, r48_150, r48_153, r48_155, r48_156, r48_158, r48_161, r48_162, r48_165, r48_167, r48_168, r48_169, r48_172, r48_174, r48_175, r48_176, r48_177, r48_180, r48_181, r48_184, r48_185, r48_188, r48_190, r48_193, r48_199, r48_202, r48_203, r48_206, r48_208, r48_209, am_cat0, am_catI, am_catR, am_catD, am_ndI, am_ndR, am_ndL, va_rfS, true_and, and_true, Option.toList_some, Option.toList_none, List.cons_append, List.nil_append, Nat.reduceAdd, Nat.reduceLeDiff, Nat.zero_add, Nat.le_refl, rw_mrg, ite_Q, ite_bN, ite_bN', ib_0b, ib_b0, ib_1b, ib_b1, bN_0, bN_n0, bN_01T, nI1_0, nI0_0, nI01a, nI01b, bN_1, no_or, true_or, or_true, false_or, or_false, ite_not, if_true, if_false, Decidable.not_not, nx_lt, hk, so49, sf49_8, sf49_24, sd58, sd69, sl69, am_bd, am_bs, bd_n, nI_tn, rcM_g hk1, hf, w, hM2, ec, not_true_eq_false, not_false_eq_true, nar_1, am_ndI]
        have h2 := go v10 (nI 1) (by rw [bN_t (show dpS l c f (k + 1) = true by rw [dpS, if_pos hc42, w, Bool.true_or])])
        simp only [w] at h2
        exact h2
      · by_cases w2 : dpS l c f k = true
        · simp (disch := omega) only [r48_0, r48_1, r48_2, r48_4, r48_6, r48_9, r48_11, r48_12, r48_14, r48_16, r48_18, r48_21, r48_22, r48_25, r48_27, r48_29, r48_32, r48_33, r48_36, r48_37, r48_38, r48_41, r48_44, r48_45, r48_47, r48_49, r48_50, r48_51, r48_52, r48_55, r48_56, r48_59, r48_60, r48_61, r48_63, r48_64, r48_67, r48_69, r48_70, r48_72, r48_75, r48_76, r48_79, r48_80, r48_81, r48_82, r48_83, r48_87, r48_89, r48_92, r48_93, r48_96, r48_98, r48_99, r48_101, r48_102, r48_105, r48_107, r48_108, r48_111, r48_113, r48_114, r48_116, r48_119, r48_121, r48_124, r48_125, r48_128, r48_130, r48_131, r48_132, r48_133, r48_136, r48_137, r48_140, r48_141, r48_144, r48_146, r48_149, r48_150, r48_153, r48_155, r48_156, r48_158, r48_161, r48_162, r48_165, r48_167, r48_168, r48_169, r48_172, r48_174, r48_175, r48_176, r48_177, r48_180, r48_181, r48_184, r48_185, r48_188, r48_190, r48_193, r48_199, r48_202, r48_203, r48_206, r48_208, r48_209, am_cat0, am_catI, am_catR, am_catD, am_ndI, am_ndR, am_ndL, va_rfS, true_and, and_true, Option.toList_some, Option.toList_none, List.cons_append, List.nil_append, Nat.reduceAdd, Nat.reduceLeDiff, Nat.zero_add, Nat.le_refl, rw_mrg, ite_Q, ite_bN, ite_bN', ib_0b, ib_b0, ib_1b, ib_b1, bN_0, bN_n0, bN_01T, nI1_0, nI0_0, nI01a, nI01b, bN_1, no_or, true_or, or_true, false_or, or_false, ite_not, if_true, if_false, Decidable.not_not, nx_lt, hk, so49, sf49_8, sf49_24, sd58, sd69, sl69, am_bd, am_bs, bd_n, nI_tn, rcM_g hk1, rcM_g (show k < l.length + 1 by omega), e1, hf, hg, w, w2, hM2, ec, Bool.false_eq_true, not_true_eq_false, not_false_eq_true, nar_1, am_ndI]
          have h2 := go v10 (nI 1) (by rw [bN_t (show dpS l c f (k + 1) = true by rw [dpS, if_pos hc42, w2, Bool.or_true])])
          simp only [w, Bool.false_eq_true] at h2
          exact h2
        · simp (disch := omega) only [r48_0, r48_1, r48_2, r48_4, r48_6, r48_9, r48_11, r48_12, r48_14, r48_16, r48_18, r48_21, r48_22, r48_25, r48_27, r48_29, r48_32, r48_33, r48_36, r48_37, r48_38, r48_41, r48_44, r48_45, r48_47, r48_49, r48_50, r48_51, r48_52, r48_55, r48_56, r48_59, r48_60, r48_61, r48_63, r48_64, r48_67, r48_69, r48_70, r48_72, r48_75, r48_76, r48_79, r48_80, r48_81, r48_82, r48_83, r48_87, r48_89, r48_92, r48_93, r48_96, r48_98, r48_99, r48_101, r48_102, r48_105, r48_107, r48_108, r48_111, r48_113, r48_114, r48_116, r48_119, r48_121, r48_124, r48_125, r48_128, r48_130, r48_131, r48_132, r48_133, r48_136, r48_137, r48_140, r48_141, r48_144, r48_146, r48_149, r48_150, r48_153, r48_155, r48_156, r48_158, r48_161, r48_162, r48_165, r48_167, r48_168, r48_169, r48_172, r48_174, r48_175, r48_176, r48_177, r48_180, r48_181, r48_184, r48_185, r48_188, r48_190, r48_193, r48_199, r48_202, r48_203, r48_206, r48_208, r48_209, am_cat0, am_catI, am_catR, am_catD, am_ndI, am_ndR, am_ndL, va_rfS, true_and, and_true, Option.toList_some, Option.toList_none, List.cons_append, List.nil_append, Nat.reduceAdd, Nat.reduceLeDiff, Nat.zero_add, Nat.le_refl, rw_mrg, ite_Q, ite_bN, ite_bN', ib_0b, ib_b0, ib_1b, ib_b1, bN_0, bN_n0, bN_01T, nI1_0, nI0_0, nI01a, nI01b, bN_1, no_or, true_or, or_true, false_or, or_false, ite_not, if_true, if_false, Decidable.not_not, nx_lt, hk, so49, sf49_8, sf49_24, sd58, sd69, sl69, am_bd, am_bs, bd_n, nI_tn, rcM_g hk1, rcM_g (show k < l.length + 1 by omega), e1, hf, hg, w, w2, hM2, ec, Bool.false_eq_true, not_true_eq_false, not_false_eq_true, nar_0, am_ndI]
          have h2 := go v10 (nI 0) (by rw [bN_f (show ¬ dpS l c f (k + 1) = true by rw [dpS, if_pos hc42, Bool.or_eq_true]; exact fun z => z.elim w w2)])
          simp only [w, Bool.false_eq_true] at h2
          exact h2
    · have ec : (nI c = nI 42) = False := eq_false (by rw [nx_eq (by omega) (by omega)]; exact hc42)
      have eS : dpS l c f (k + 1) = (f k && (decide (c = 63) || decide (c = l.getD k 0))) := by rw [dpS, if_neg hc42]
      by_cases w : f k = true
      · by_cases h63 : c = 63
        · have ec2 : (nI c = nI 63) = True := eq_true (by rw [h63])
          simp (disch := omega) only [r48_0, r48_1, r48_2, r48_4, r48_6, r48_9, r48_11, r48_12, r48_14, r48_16, r48_18, r48_21, r48_22, r48_25, r48_27, r48_29, r48_32, r48_33, r48_36, r48_37, r48_38, r48_41, r48_44, r48_45, r48_47, r48_49, r48_50, r48_51, r48_52, r48_55, r48_56, r48_59, r48_60, r48_61, r48_63, r48_64, r48_67, r48_69, r48_70, r48_72, r48_75, r48_76, r48_79, r48_80, r48_81, r48_82, r48_83, r48_87, r48_89, r48_92, r48_93, r48_96, r48_98, r48_99, r48_101, r48_102, r48_105, r48_107, r48_108, r48_111, r48_113, r48_114, r48_116, r48_119, r48_121, r48_124, r48_125, r48_128, r48_130, r48_131, r48_132, r48_133, r48_136, r48_137, r48_140, r48_141, r48_144, r48_146, r48_149, r48_150, r48_153, r48_155, r48_156, r48_158, r48_161, r48_162, r48_165, r48_167, r48_168, r48_169, r48_172, r48_174, r48_175, r48_176, r48_177, r48_180, r48_181, r48_184, r48_185, r48_188, r48_190, r48_193, r48_199, r48_202, r48_203, r48_206, r48_208, r48_209, am_cat0, am_catI, am_catR, am_catD, am_ndI, am_ndR, am_ndL, va_rfS, true_and, and_true, Option.toList_some, Option.toList_none, List.cons_append, List.nil_append, Nat.reduceAdd, Nat.reduceLeDiff, Nat.zero_add, Nat.le_refl, rw_mrg, ite_Q, ite_bN, ite_bN', ib_0b, ib_b0, ib_1b, ib_b1, bN_0, bN_n0, bN_01T, nI1_0, nI0_0, nI01a, nI01b, bN_1, no_or, true_or, or_true, false_or, or_false, ite_not, if_true, if_false, Decidable.not_not, nx_lt, hk, so49, sf49_8, sf49_24, sd58, sd69, sl69, am_bd, am_bs, bd_n, nI_tn, rcM_g hk1, hf, w, hM2, ec, ec2, not_true_eq_false, not_false_eq_true, nar_1, am_ndI]
          have h2 := go v10 (nI 1) (by rw [bN_t (by rw [eS, w, decide_eq_true h63]; rfl)])
          simp only [w] at h2
          exact h2
        · have ec2 : (nI c = nI 63) = False := eq_false (by rw [nx_eq (by omega) (by omega)]; exact h63)
          by_cases hL : c = l.getD k 0
          · have ec3 : (nI c = nI (l.getD k 0)) = True := eq_true (by rw [← hL])
            simp (disch := omega) only [r48_0, r48_1, r48_2, r48_4, r48_6, r48_9, r48_11, r48_12, r48_14, r48_16, r48_18, r48_21, r48_22, r48_25, r48_27, r48_29, r48_32, r48_33, r48_36, r48_37, r48_38, r48_41, r48_44, r48_45, r48_47, r48_49, r48_50, r48_51, r48_52, r48_55, r48_56, r48_59, r48_60, r48_61, r48_63, r48_64, r48_67, r48_69, r48_70, r48_72, r48_75, r48_76, r48_79, r48_80, r48_81, r48_82, r48_83, r48_87, r48_89, r48_92, r48_93, r48_96, r48_98, r48_99, r48_101, r48_102, r48_105, r48_107, r48_108, r48_111, r48_113, r48_114, r48_116, r48_119, r48_121, r48_124, r48_125, r48_128, r48_130, r48_131, r48_132, r48_133, r48_136, r48_137, r48_140, r48_141, r48_144, r48_146, r48_149, r48_150, r48_153, r48_155, r48_156, r48_158, r48_161, r48_162, r48_165, r48_167, r48_168, r48_169, r48_172, r48_174, r48_175, r48_176, r48_177, r48_180, r48_181, r48_184, r48_185, r48_188, r48_190, r48_193, r48_199, r48_202, r48_203, r48_206, r48_208, r48_209, am_cat0, am_catI, am_catR, am_catD, am_ndI, am_ndR, am_ndL, va_rfS, true_and, and_true, Option.toList_some, Option.toList_none, List.cons_append, List.nil_append, Nat.reduceAdd, Nat.reduceLeDiff, Nat.zero_add, Nat.le_refl, rw_mrg, ite_Q, ite_bN, ite_bN', ib_0b, ib_b0, ib_1b, ib_b1, bN_0, bN_n0, bN_01T, nI1_0, nI0_0, nI01a, nI01b, bN_1, no_or, true_or, or_true, false_or, or_false, ite_not, if_true, if_false, Decidable.not_not, nx_lt, hk, so49, sf49_8, sf49_23, sf49_24, sd58, sd68, sd69, sl69, am_bd, am_bs, bd_n, nI_tn, rcM_g hk1, hf, w, hM2, hT3, e1, ec, ec2, ec3, not_true_eq_false, not_false_eq_true, nar_1, am_ndI]
            have h2 := go v10 (nI 1) (by rw [bN_t (by rw [eS, w, decide_eq_true hL, Bool.or_true]; rfl)])
            simp only [w] at h2
            exact h2
          · have ec3 : (nI c = nI (l.getD k 0)) = False := eq_false (by rw [nx_eq (by omega) (by omega)]; exact hL)
            simp (disch := omega) only [r48_0, r48_1, r48_2, r48_4, r48_6, r48_9, r48_11, r48_12, r48_14, r48_16, r48_18, r48_21, r48_22, r48_25, r48_27, r48_29, r48_32, r48_33, r48_36, r48_37, r48_38, r48_41, r48_44, r48_45, r48_47, r48_49, r48_50, r48_51, r48_52, r48_55, r48_56, r48_59, r48_60, r48_61, r48_63, r48_64, r48_67, r48_69, r48_70, r48_72, r48_75, r48_76, r48_79, r48_80, r48_81, r48_82, r48_83, r48_87, r48_89, r48_92, r48_93, r48_96, r48_98, r48_99, r48_101, r48_102, r48_105, r48_107, r48_108, r48_111, r48_113, r48_114, r48_116, r48_119, r48_121, r48_124, r48_125, r48_128, r48_130, r48_131, r48_132, r48_133, r48_136, r48_137, r48_140, r48_141, r48_144, r48_146, r48_149, r48_150, r48_153, r48_155, r48_156, r48_158, r48_161, r48_162, r48_165, r48_167, r48_168, r48_169, r48_172, r48_174, r48_175, r48_176, r48_177, r48_180, r48_181, r48_184, r48_185, r48_188, r48_190, r48_193, r48_199, r48_202, r48_203, r48_206, r48_208, r48_209, am_cat0, am_catI, am_catR, am_catD, am_ndI, am_ndR, am_ndL, va_rfS, true_and, and_true, Option.toList_some, Option.toList_none, List.cons_append, List.nil_append, Nat.reduceAdd, Nat.reduceLeDiff, Nat.zero_add, Nat.le_refl, rw_mrg, ite_Q, ite_bN, ite_bN', ib_0b, ib_b0, ib_1b, ib_b1, bN_0, bN_n0, bN_01T, nI1_0, nI0_0, nI01a, nI01b, bN_1, no_or, true_or, or_true, false_or, or_false, ite_not, if_true, if_false, Decidable.not_not, nx_lt, hk, so49, sf49_8, sf49_23, sf49_24, sd58, sd68, sd69, sl69, am_bd, am_bs, bd_n, nI_tn, rcM_g hk1, hf, w, hM2, hT3, e1, ec, ec2, ec3, not_true_eq_false, not_false_eq_true, nar_0, am_ndI]
            have h2 := go v10 (nI 0) (by rw [bN_f (by rw [eS, w, decide_eq_false hL, decide_eq_false h63]; decide)])
            simp only [w] at h2
            exact h2
      · simp (disch := omega) only [r48_0, r48_1, r48_2, r48_4, r48_6, r48_9, r48_11, r48_12, r48_14, r48_16, r48_18, r48_21, r48_22, r48_25, r48_27, r48_29, r48_32, r48_33, r48_36, r48_37, r48_38, r48_41, r48_44, r48_45, r48_47, r48_49, r48_50, r48_51, r48_52, r48_55, r48_56, r48_59, r48_60, r48_61, r48_63, r48_64, r48_67, r48_69, r48_70, r48_72, r48_75, r48_76, r48_79, r48_80, r48_81, r48_82, r48_83, r48_87, r48_89, r48_92, r48_93, r48_96, r48_98, r48_99, r48_101, r48_102, r48_105, r48_107, r48_108, r48_111, r48_113, r48_114, r48_116, r48_119, r48_121, r48_124, r48_125, r48_128, r48_130, r48_131, r48_132, r48_133, r48_136, r48_137, r48_140, r48_141, r48_144, r48_146, r48_149, r48_150, r48_153, r48_155, r48_156, r48_158, r48_161, r48_162, r48_165, r48_167, r48_168, r48_169, r48_172, r48_174, r48_175, r48_176, r48_177, r48_180, r48_181, r48_184, r48_185, r48_188, r48_190, r48_193, r48_199, r48_202, r48_203, r48_206, r48_208, r48_209, am_cat0, am_catI, am_catR, am_catD, am_ndI, am_ndR, am_ndL, va_rfS, true_and, and_true, Option.toList_some, Option.toList_none, List.cons_append, List.nil_append, Nat.reduceAdd, Nat.reduceLeDiff, Nat.zero_add, Nat.le_refl, rw_mrg, ite_Q, ite_bN, ite_bN', ib_0b, ib_b0, ib_1b, ib_b1, bN_0, bN_n0, bN_01T, nI1_0, nI0_0, nI01a, nI01b, bN_1, no_or, true_or, or_true, false_or, or_false, ite_not, if_true, if_false, Decidable.not_not, nx_lt, hk, so49, sf49_8, sf49_24, sd58, sd69, sl69, am_bd, am_bs, bd_n, nI_tn, rcM_g hk1, hf, w, hM2, ec, Bool.false_eq_true, not_true_eq_false, not_false_eq_true, nar_0, am_ndI]
        have h2 := go v10 (nI 0) (by rw [bN_f (by rw [eS, Bool.and_eq_true]; exact fun z => w z.1)])
        simp only [w, Bool.false_eq_true] at h2
        exact h2
theorem c48o {fr sz : Nat} {x3 x4 x5 : Int32} {l pt : List Nat} (hl : l.length ≤ 15) (hfr : fr ≤ 96) (hpt : pt.length ≤ 12) (hsz : sz = pt.length) (hM : ∀ i, i < pt.length → M 58 (fr + i) = nI (pt.getD i 0)) (hM2 : ∀ i, i < pt.length → pt.getD i 0 < 128) (hT : ∀ k, k < l.length → M 68 k = nI (l.getD k 0)) (hT2 : ∀ k, k < l.length → l.getD k 0 < 128) : ∀ (j i : Nat) (x : Int32) (v8 v9 v10 : Value), i + j = pt.length → RR 48 47 [.ref 49, .int (nI fr), .int (nI sz), .int x3, .int x4, .int x5, .int (nI l.length), .int (nI (fr + i)), v8, v9, v10] [] (SH, (0, 0, sl), rcM M (l.length + 1) (ibt x), D, RF) (fun rv μ' => rv = some (.int (bN (ibt (ftR l pt j i x) l.length = true))) ∧ ∃ M', μ' = (SH, (0, 0, sl), M', D, RF) ∧ ∀ q k, q ≠ 69 → M' q k = M q k) := by
  subst hsz
  intro j
  induction j with
  | zero =>
    intro i x v8 v9 v10 h
    have e : i = pt.length := by omega
    subst e
    rw [r48_47]
    simp (disch := omega) only [r48_49, r48_50, r48_51, r48_52, r48_202, r48_203, r48_206, r48_208, r48_209, am_cat0, am_catI, am_catR, am_catD, am_ndI, am_ndR, am_ndL, va_rfS, true_and, and_true, Option.toList_some, Option.toList_none, List.cons_append, List.nil_append, Nat.reduceAdd, Nat.reduceLeDiff, Nat.zero_add, Nat.le_refl, rw_mrg, ite_Q, ite_bN, ite_bN', ib_0b, ib_b0, ib_1b, ib_b1, bN_0, bN_n0, bN_01T, nI1_0, nI0_0, nI01a, nI01b, bN_1, no_or, true_or, or_true, false_or, or_false, ite_not, if_true, if_false, Decidable.not_not, nI_add, Int32.le_refl, so49, sf49_24, sd69, am_bd, bd_n, nI_tn, rcM_g (show l.length < l.length + 1 by omega), ftR]
    exact ⟨rfl, _, rfl, fun q k hq => rcM_o hq⟩
  | succ j ih =>
    intro i x v8 v9 v10 h
    have hi : i < pt.length := by omega
    have h1 := hM i hi
    have h2 := hM2 i hi
    have g1 : ¬ fr + pt.length ≤ fr + i := by omega
    have hM3 : ∀ f, rcM M (l.length + 1) f 58 (fr + i) = nI (pt.getD i 0) := fun f => by rw [rcM_o (by decide)]; exact h1
    have cont : ∀ v8 v9 v10 : Value, RR 48 196 [.ref 49, .int (nI fr), .int (nI pt.length), .int x3, .int x4, .int x5, .int (nI l.length), .int (nI (fr + i)), v8, v9, v10] [] (SH, (0, 0, sl), rcM M (l.length + 1) (dpS l (pt.getD i 0) (ibt x)), D, RF) (fun rv μ' => rv = some (.int (bN (ibt (ftR l pt (j + 1) i x) l.length = true))) ∧ ∃ M', μ' = (SH, (0, 0, sl), M', D, RF) ∧ ∀ q k, q ≠ 69 → M' q k = M q k) := by
      intro v8 v9 v10
      have e : rcM M (l.length + 1) (dpS l (pt.getD i 0) (ibt x)) = rcM M (l.length + 1) (ibt (ftS l (pt.getD i 0) x)) := rcM_c (fun k hk => (dpS_ft l (pt.getD i 0) x hl k (by omega)).symm)
      rw [e]
      simp only [r48_196, r48_199, nI_add, am_ndI]
      exact ih (i + 1) _ _ _ _ (by omega)
    rw [r48_47]
    by_cases hc : pt.getD i 0 = 42
    · have ec : (nI (pt.getD i 0) = nI 42) = True := eq_true (by rw [hc])
      simp (disch := omega) only [r48_49, r48_50, r48_51, r48_52, r48_55, r48_56, r48_59, r48_60, r48_61, r48_63, r48_64, r48_67, r48_69, r48_70, r48_72, r48_82, r48_83, am_cat0, am_catI, am_catR, am_catD, am_ndI, am_ndR, am_ndL, va_rfS, true_and, and_true, Option.toList_some, Option.toList_none, List.cons_append, List.nil_append, Nat.reduceAdd, Nat.reduceLeDiff, Nat.zero_add, Nat.le_refl, rw_mrg, ite_Q, ite_bN, ite_bN', ib_0b, ib_b0, ib_1b, ib_b1, bN_0, bN_n0, bN_01T, nI1_0, nI0_0, nI01a, nI01b, bN_1, no_or, true_or, or_true, false_or, or_false, ite_not, if_true, if_false, Decidable.not_not, nI_add, nx_le, g1, so49, sf49_8, sf49_24, sd58, sd69, am_bd, bd_n, nI_tn, rcM_g (show 0 < l.length + 1 by omega), hM3, ec, am_ndI]
      have h3 := c48k (Q := fun rv μ' => rv = some (.int (bN (ibt (ftR l pt (j + 1) i x) l.length = true))) ∧ ∃ M', μ' = (SH, (0, 0, sl), M', D, RF) ∧ ∀ q k, q ≠ 69 → M' q k = M q k) (D := D) (sl := sl) (M := M) (f := ibt x) hl (show fr + i < 108 by omega) h2 h1 hT hT2 cont l.length 0 v10 (by omega)
      have e : rcM M (l.length + 1) (hkF (ibt x) (dpS l (pt.getD i 0) (ibt x)) (0 + 1)) = rcM M (l.length + 1) (ibt x) := rcM_c (fun k hk => by
        unfold hkF
        by_cases hk0 : k < 0 + 1
        · have : k = 0 := by omega
          subst this
          rw [if_pos hk0, dpS, decide_eq_true hc, Bool.true_and]
        · rw [if_neg hk0])
      rw [e] at h3
      exact h3
    · have ec : (nI (pt.getD i 0) = nI 42) = False := eq_false (by rw [nx_eq (by omega) (by omega)]; exact hc)
      simp (disch := omega) only [r48_49, r48_50, r48_51, r48_52, r48_55, r48_56, r48_59, r48_60, r48_61, r48_63, r48_64, r48_67, r48_69, r48_70, r48_72, r48_75, r48_76, r48_79, r48_80, r48_81, r48_82, r48_83, am_cat0, am_catI, am_catR, am_catD, am_ndI, am_ndR, am_ndL, va_rfS, true_and, and_true, Option.toList_some, Option.toList_none, List.cons_append, List.nil_append, Nat.reduceAdd, Nat.reduceLeDiff, Nat.zero_add, Nat.le_refl, rw_mrg, ite_Q, ite_bN, ite_bN', ib_0b, ib_b0, ib_1b, ib_b1, bN_0, bN_n0, bN_01T, nI1_0, nI0_0, nI01a, nI01b, bN_1, no_or, true_or, or_true, false_or, or_false, ite_not, if_true, if_false, Decidable.not_not, nI_add, nx_le, g1, so49, sf49_8, sf49_24, sd58, sd69, sl69, am_bd, am_bs, bd_n, nI_tn, rcM_g (show 0 < l.length + 1 by omega), hM3, ec, nar_0, am_ndI]
      have h3 := c48k (Q := fun rv μ' => rv = some (.int (bN (ibt (ftR l pt (j + 1) i x) l.length = true))) ∧ ∃ M', μ' = (SH, (0, 0, sl), M', D, RF) ∧ ∀ q k, q ≠ 69 → M' q k = M q k) (D := D) (sl := sl) (M := M) (f := ibt x) hl (show fr + i < 108 by omega) h2 h1 hT hT2 cont l.length 0 v10 (by omega)
      have e0 : rcM M (l.length + 1) (ibt x) = rcM M (l.length + 1) (hkF (ibt x) (dpS l (pt.getD i 0) (ibt x)) 0) := rcM_c (fun k hk => (if_neg (Nat.not_lt_zero _)).symm)
      have e : am_up (rcM M (l.length + 1) (ibt x)) 69 0 (nI 0) = rcM M (l.length + 1) (hkF (ibt x) (dpS l (pt.getD i 0) (ibt x)) (0 + 1)) := by
        rw [e0]
        exact rcM_s (by omega) (by rw [bN_f (by rw [dpS, decide_eq_false hc]; simp)])
      rw [e]
      exact h3
theorem c48 {fr b t m p : Nat} {pt : List Nat} (hb : b < 2) (ht : t < 8) (hm : m < 25) (hp : M 53 (8 * b + t) = nI p) (hp3 : p < 3) (hfr : fr ≤ 96) (hpt : pt.length ≤ 12) (hM : ∀ i, i < pt.length → M 58 (fr + i) = nI (pt.getD i 0)) (hM2 : ∀ i, i < pt.length → pt.getD i 0 < 128) : RR 48 0 [.ref 49, .int (nI fr), .int (nI pt.length), .int (nI b), .int (nI t), .int (nI m), .long 0, .long 0, .long 0, .long 0, .long 0] [] (SH, (0, 0, sl), M, D, RF) (fun rv μ' => rv = some (.int (@bN (ftB (nmL p t m) pt) (Classical.propDecidable _))) ∧ ∃ M', μ' = (SH, (0, 0, sl), M', D, RF) ∧ ∀ q k, q ≠ 68 → q ≠ 69 → M' q k = M q k) := by
  obtain ⟨n1, n2⟩ := nmL_ok _ (show p < 4 by omega) _ ht _ hm
  simp only [r48_0, r48_1, r48_2, r48_4, r48_6, am_cat0, am_catI, am_catR, am_catD, am_ndI, am_ndR, am_ndL, va_rfS, true_and, and_true, Option.toList_some, Option.toList_none, List.cons_append, List.nil_append, Nat.reduceAdd, Nat.reduceLeDiff, Nat.zero_add, Nat.le_refl, so49, c46 hb ht hm hp hp3, r48_9, r48_11, r48_12, am_ndI]
  generalize hnm : nmL p t m = l at *
  have h1 := fun Q => c48i (Q := Q) (D := D) (sl := sl) (M := txM M l) (x1 := nI fr) (x2 := nI pt.length) (x3 := nI b) (x4 := nI t) (x5 := nI m) n1 (l.length + 1) 0 (.long 0) (.long 0) (.long 0) (by omega)
  rw [rcM_0] at h1
  rw [h1]
  simp only [r48_44, r48_45, am_cat0, am_catI, am_catR, am_catD, am_ndI, am_ndR, am_ndL, va_rfS, true_and, and_true, Option.toList_some, Option.toList_none, List.cons_append, List.nil_append, Nat.reduceAdd, Nat.reduceLeDiff, Nat.zero_add, Nat.le_refl, am_ndI]
  have e0 : rcM (txM M l) (l.length + 1) (fun z => decide (z = 0)) = rcM (txM M l) (l.length + 1) (ibt (nI 1)) := rcM_c (fun k hk => by
    rw [ibt_nI 1 k (by omega), show (1 : Nat) = 2 ^ 0 from rfl, Nat.testBit_two_pow]
    exact Bool.eq_iff_iff.mpr (by rw [decide_eq_true_iff, decide_eq_true_iff]; exact eq_comm))
  rw [e0]
  refine RR.imp (c48o (sz := pt.length) (x3 := nI b) (x4 := nI t) (x5 := nI m) n1 hfr hpt rfl (fun i hi => by rw [txM_o (by decide)]; exact hM i hi) hM2 (fun k hk => txM_g hk) n2 pt.length 0 (nI 1) _ _ _ (by omega)) ?_
  rintro rv μ' ⟨rfl, M', rfl, h3⟩
  refine ⟨?_, M', rfl, fun q k a b => (h3 q k b).trans (txM_o a)⟩
  congr 2
  refine @bN_c _ _ _ (Classical.propDecidable _) ?_
  unfold ftB
  exact (ibt_fin _ _ (by omega)).symm
end CN
