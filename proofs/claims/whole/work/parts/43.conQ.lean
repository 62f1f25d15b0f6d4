/-! THE MODEL: comes, flips -/
/-- the rules in the model's memory are those of M0 -/
def mRl (M0 M : Nat → Nat → Int32) (P : Nat → List Nat) (n : Nat) : Prop := M 49 13 = nI n ∧ ∀ i, i < n → M 59 i = nI (P i).length ∧ (∀ j, j < (P i).length → M 58 (12 * i + j) = nI ((P i).getD j 0)) ∧ M 60 i = M0 (22 + 3 * i) 1 ∧ M 61 i = M0 (22 + 3 * i) 2 ∧ M 62 i = M0 (22 + 3 * i) 3
theorem up_n {α : Type} {M : Nat → Nat → α} {q k a b : Nat} {x : α} (h : ¬ (a = q ∧ b = k)) : am_up M q k x a b = M a b := if_neg h
def agT (M M' : Nat → Nat → Int32) : Prop := ∀ q k, q ≠ 68 → q ≠ 69 → M' q k = M q k
theorem agT_r (M : Nat → Nat → Int32) : agT M M := fun _ _ _ _ => rfl
theorem agT_S {M M' : Nat → Nat → Int32} (h : agT M M') : agS M M' := fun q k a _ => h q k (by omega) (by omega)
theorem mRl_ag {M0 M M' : Nat → Nat → Int32} {P : Nat → List Nat} {n : Nat} (h : agS M M') (hr : mRl M0 M P n) : mRl M0 M' P n := by
  obtain ⟨h1, h2⟩ := hr
  refine ⟨by rw [h _ _ (by omega) (by omega)]; exact h1, fun i hi => ?_⟩
  obtain ⟨a1, a2, a3, a4, a5⟩ := h2 i hi
  refine ⟨by rw [h _ _ (by omega) (by omega)]; exact a1, fun j hj => by rw [h _ _ (by omega) (by omega)]; exact a2 j hj, by rw [h _ _ (by omega) (by omega)]; exact a3, by rw [h _ _ (by omega) (by omega)]; exact a4, by rw [h _ _ (by omega) (by omega)]; exact a5⟩
/-- a row of the model's list, the list -/
def mRw (M : Nat → Nat → Int32) (k : Nat) (x : En) : Prop := M 63 k = nI x.2.2.2.2 ∧ M 64 k = nI x.2.2.1 ∧ M 65 k = nI x.2.2.2.1 ∧ M 66 k = nI x.1 ∧ M 67 k = nI (eN x)
def lsM (M : Nat → Nat → Int32) (L : List En) : Prop := M 49 22 = nI L.length ∧ L.length ≤ 1408 ∧ (∀ x ∈ L, okE x) ∧ ∀ k, k < L.length → mRw M k (L.getD k e0)
def hlM (M : Nat → Nat → Int32) (L : List En) (a : Nat) : Prop := M 49 22 = nI L.length ∧ (∀ k, k < a → mRw M k (L.getD k e0)) ∧ ∀ k, a < k → k ≤ L.length → mRw M k (L.getD (k - 1) e0)
def wrM (M : Nat → Nat → Int32) (k : Nat) (x1 x2 x3 x4 x5 : Int32) : Nat → Nat → Int32 := am_up (am_up (am_up (am_up (am_up M 63 k x1) 64 k x2) 65 k x3) 66 k x4) 67 k x5
theorem wr_o {M : Nat → Nat → Int32} {k q j : Nat} {x1 x2 x3 x4 x5 : Int32} (h : q < 63 ∨ 67 < q) : wrM M k x1 x2 x3 x4 x5 q j = M q j := by
  unfold wrM
  rw [up_q (by omega), up_q (by omega), up_q (by omega), up_q (by omega), up_q (by omega)]
theorem wr_n {M : Nat → Nat → Int32} {k q j : Nat} {x1 x2 x3 x4 x5 : Int32} (h : j ≠ k) : wrM M k x1 x2 x3 x4 x5 q j = M q j := by
  unfold wrM
  rw [up_k h, up_k h, up_k h, up_k h, up_k h]
theorem wr_r {M : Nat → Nat → Int32} {k : Nat} {x : En} : mRw (wrM M k (nI x.2.2.2.2) (nI x.2.2.1) (nI x.2.2.2.1) (nI x.1) (nI (eN x))) k x := by
  unfold mRw wrM
  refine ⟨?_, ?_, ?_, ?_, ?_⟩
  · rw [up_q (by decide), up_q (by decide), up_q (by decide), up_q (by decide), up_s]
  · rw [up_q (by decide), up_q (by decide), up_q (by decide), up_s]
  · rw [up_q (by decide), up_q (by decide), up_s]
  · rw [up_q (by decide), up_s]
  · rw [up_s]
theorem wr_m {M : Nat → Nat → Int32} {k j : Nat} {x : En} {x1 x2 x3 x4 x5 : Int32} (h : j ≠ k) (hr : mRw M j x) : mRw (wrM M k x1 x2 x3 x4 x5) j x := by
  unfold mRw at hr ⊢
  rw [wr_n h, wr_n h, wr_n h, wr_n h, wr_n h]
  exact hr
theorem wr_ag {M : Nat → Nat → Int32} {k : Nat} {x1 x2 x3 x4 x5 : Int32} : agS M (wrM M k x1 x2 x3 x4 x5) := fun q j a _ => wr_o (by omega)
theorem lsM_T {M M' : Nat → Nat → Int32} {L : List En} (h : agT M M') (hl : lsM M L) : lsM M' L := by
  obtain ⟨h1, h2, h3, h4⟩ := hl
  refine ⟨by rw [h _ _ (by omega) (by omega)]; exact h1, h2, h3, fun k hk => ?_⟩
  have h5 := h4 k hk
  unfold mRw at h5 ⊢
  rw [h _ _ (by omega) (by omega), h _ _ (by omega) (by omega), h _ _ (by omega) (by omega), h _ _ (by omega) (by omega), h _ _ (by omega) (by omega)]
  exact h5
section CN
variable {Q : Option Value → amM → Prop} {μ : amM} {S : List (Nat ⊕ (Nat × Nat))} {M : Nat → Nat → Int32} {D : Nat → Nat → UInt64} {F : Nat → Nat → Option Nat} {sl : Nat}
variable {M0 : Nat → Nat → Int32}
theorem c53f {e : En} {L : List En} {a b : Nat} (he : okE e) (hL : L.length ≤ 1407) (hok : ∀ x ∈ L, okE x) (ha : a ≤ L.length) (hc : cutI (fun k => eG e (L.getD k e0)) L.length = a) (h : hlM M L a) : RR 53 245 [.ref 49, .int (nI e.2.2.2.2), .int (nI e.2.2.1), .int (nI e.2.2.2.1), .int (nI b), .int (nI e.1), .int (nI a), .int (nI (eN e))] [] (SH, (0, 0, sl), M, D, RF) (fun rv μ' => rv = none ∧ ∃ M', μ' = (SH, (0, 0, sl), M', D, RF) ∧ lsM M' (insE e L) ∧ agS M M') := by
  obtain ⟨h1, h2, h3⟩ := h
  simp (disch := omega) only [r53_245, r53_246, r53_249, r53_251, r53_252, r53_253, r53_254, r53_257, r53_259, r53_260, r53_261, r53_262, r53_265, r53_267, r53_268, r53_269, r53_270, r53_273, r53_275, r53_277, r53_278, r53_279, r53_282, r53_284, r53_286, r53_287, r53_288, r53_288i, r53_289, r53_292, r53_293, r53_294, r53_297, am_cat0, am_catI, am_catR, am_catD, am_ndI, am_ndR, am_ndL, va_rfS, true_and, and_true, Option.toList_some, Option.toList_none, List.cons_append, List.nil_append, Nat.reduceAdd, Nat.reduceLeDiff, Nat.zero_add, Nat.le_refl, so49, sf49_17, sf49_18, sf49_19, sf49_20, sf49_21, sl63, sl64, sl65, sl66, sl67, am_bs, bd_n, nI_tn, up_q, h1, nI_add]
  refine ⟨am_up (wrM M a (nI e.2.2.2.2) (nI e.2.2.1) (nI e.2.2.2.1) (nI e.1) (nI (eN e))) 49 22 (nI (L.length + 1)), rfl, ⟨by rw [up_s, insE_len], by rw [insE_len]; omega, fun x hx => ?_, fun k hk => ?_⟩, fun q k x y => ?_⟩
  · rcases insE_mem hx with rfl | hx
    · exact he
    · exact hok x hx
  · rw [insE_len] at hk
    have hx : ∀ x, mRw (wrM M a (nI e.2.2.2.2) (nI e.2.2.1) (nI e.2.2.2.1) (nI e.1) (nI (eN e))) k x → mRw (am_up (wrM M a (nI e.2.2.2.2) (nI e.2.2.1) (nI e.2.2.2.1) (nI e.1) (nI (eN e))) 49 22 (nI (L.length + 1))) k x := by
      intro x hx
      unfold mRw at hx ⊢
      rw [up_q (by decide), up_q (by decide), up_q (by decide), up_q (by decide), up_q (by decide)]
      exact hx
    apply hx
    unfold insE
    rw [hc, ins_getD _ _ _ _ ha]
    by_cases g : k < a
    · rw [if_pos g]; exact wr_m (by omega) (h2 k g)
    · rw [if_neg g]
      by_cases g2 : k = a
      · rw [if_pos g2, g2]; exact wr_r
      · rw [if_neg g2]; exact wr_m g2 (h3 k (by omega) (by omega))
  · rw [up_n (fun z => y ⟨z.1, by omega⟩), wr_o (by omega)]
theorem c53i {e : En} {L : List En} {b : Nat} (he : okE e) (hL : L.length ≤ 1407) (hok : ∀ x ∈ L, okE x) : ∀ (a : Nat) (M : Nat → Nat → Int32), a ≤ L.length → cutI (fun k => eG e (L.getD k e0)) L.length = cutI (fun k => eG e (L.getD k e0)) a → hlM M L a → RR 53 112 [.ref 49, .int (nI e.2.2.2.2), .int (nI e.2.2.1), .int (nI e.2.2.2.1), .int (nI b), .int (nI e.1), .int (nI a), .int (nI (eN e))] [] (SH, (0, 0, sl), M, D, RF) (fun rv μ' => rv = none ∧ ∃ M', μ' = (SH, (0, 0, sl), M', D, RF) ∧ lsM M' (insE e L) ∧ agS M M') := by
  intro a
  induction a with
  | zero =>
    intro M ha hc h
    have e0' : nI 0 ≤ 0 := by decide
    rw [r53_112]
    simp only [r53_114, e0', if_true]
    exact c53f he hL hok ha hc h
  | succ a ih =>
    intro M ha hc h
    have hal : a < L.length := by omega
    have hxo := hok _ (getD_mem (d := e0) hal)
    have hrow := h.2.1 a (by omega)
    obtain ⟨w1, w2, w3, w4, w5⟩ := hrow
    have ew := he.2.1
    have xw := hxo.2.1
    have en := eN_lt he
    have xn := eN_lt hxo
    have z1 : ¬ nI (a + 1) ≤ 0 := nI_nle (by omega) (by omega)
    have z2 : nI (a + 1) - nI 1 = nI a := nI_pred a
    have z3 : nI (a + 1) + (-1) = nI a := pk_m1 a
    have stop : eG e (L.getD a e0) = false → RR 53 245 [.ref 49, .int (nI e.2.2.2.2), .int (nI e.2.2.1), .int (nI e.2.2.2.1), .int (nI b), .int (nI e.1), .int (nI (a + 1)), .int (nI (eN e))] [] (SH, (0, 0, sl), M, D, RF) (fun rv μ' => rv = none ∧ ∃ M', μ' = (SH, (0, 0, sl), M', D, RF) ∧ lsM M' (insE e L) ∧ agS M M') := by
      intro hg
      refine c53f he hL hok ha ?_ h
      rw [hc, cutI, if_neg (by rw [hg]; decide)]
    have goon : eG e (L.getD a e0) = true → RR 53 112 [.ref 49, .int (nI e.2.2.2.2), .int (nI e.2.2.1), .int (nI e.2.2.2.1), .int (nI b), .int (nI e.1), .int (nI a), .int (nI (eN e))] [] (SH, (0, 0, sl), wrM M (a + 1) (nI (L.getD a e0).2.2.2.2) (nI (L.getD a e0).2.2.1) (nI (L.getD a e0).2.2.2.1) (nI (L.getD a e0).1) (nI (eN (L.getD a e0))), D, RF) (fun rv μ' => rv = none ∧ ∃ M', μ' = (SH, (0, 0, sl), M', D, RF) ∧ lsM M' (insE e L) ∧ agS M M') := by
      intro hg
      have h2 := ih (wrM M (a + 1) (nI (L.getD a e0).2.2.2.2) (nI (L.getD a e0).2.2.1) (nI (L.getD a e0).2.2.2.1) (nI (L.getD a e0).1) (nI (eN (L.getD a e0)))) (by omega) (by rw [hc, cutI, if_pos hg]) ?_
      · refine RR.imp h2 ?_
        rintro rv μ' ⟨rfl, M', rfl, k1, k2⟩
        exact ⟨rfl, M', rfl, k1, agS_t wr_ag k2⟩
      · refine ⟨by rw [wr_o (by omega)]; exact h.1, fun k hk => wr_m (by omega) (h.2.1 k (by omega)), fun k h1 h3 => ?_⟩
        by_cases g : k = a + 1
        · subst g
          rw [Nat.add_sub_cancel]
          exact wr_r
        · exact wr_m g (h.2.2 k (by omega) h3)
    rw [r53_112]
    by_cases g1 : (L.getD a e0).1 < e.1
    · simp (disch := omega) only [r53_114, r53_117, r53_118, r53_121, r53_123, r53_124, r53_125, r53_126, r53_128, r53_131, r53_132, r53_135, r53_137, r53_138, r53_139, r53_140, r53_142, r53_145, r53_146, r53_149, r53_151, r53_152, r53_153, r53_154, r53_156, r53_159, r53_160, r53_163, r53_165, r53_166, r53_169, r53_171, r53_172, r53_173, r53_174, r53_175, r53_176, r53_179, r53_181, r53_182, r53_185, r53_187, r53_188, r53_189, r53_190, r53_191, r53_192, r53_195, r53_197, r53_198, r53_201, r53_203, r53_204, r53_205, r53_206, r53_207, r53_208, r53_211, r53_213, r53_214, r53_217, r53_219, r53_220, r53_221, r53_222, r53_223, r53_224, r53_227, r53_229, r53_230, r53_233, r53_235, r53_236, r53_237, r53_238, r53_239, r53_242, am_cat0, am_catI, am_catR, am_catD, am_ndI, am_ndR, am_ndL, va_rfS, true_and, and_true, Option.toList_some, Option.toList_none, List.cons_append, List.nil_append, Nat.reduceAdd, Nat.reduceLeDiff, Nat.zero_add, Nat.le_refl, z1, z2, z3, if_false, if_true, so49, sf49_17, sf49_18, sf49_19, sf49_20, sf49_21, sl63, sl64, sl65, sl66, sl67, sd63, sd64, sd65, sd66, sd67, am_bs, am_bd, bd_n, nI_tn, up_q, w1, w2, w3, w4, w5, nx_lt, g1]
      exact goon (decide_eq_true (Or.inl g1))
    · by_cases g2 : (L.getD a e0).1 = e.1
      · have g1e : ¬ e.1 < e.1 := Nat.lt_irrefl _
        have g2e : nI e.1 = nI e.1 := rfl
        by_cases g3 : eN e < eN (L.getD a e0)
        · have g3' : ¬ eN (L.getD a e0) ≤ eN e := by omega
          simp (disch := omega) only [r53_114, r53_117, r53_118, r53_121, r53_123, r53_124, r53_125, r53_126, r53_128, r53_131, r53_132, r53_135, r53_137, r53_138, r53_139, r53_140, r53_142, r53_145, r53_146, r53_149, r53_151, r53_152, r53_153, r53_154, r53_156, r53_159, r53_160, r53_163, r53_165, r53_166, r53_169, r53_171, r53_172, r53_173, r53_174, r53_175, r53_176, r53_179, r53_181, r53_182, r53_185, r53_187, r53_188, r53_189, r53_190, r53_191, r53_192, r53_195, r53_197, r53_198, r53_201, r53_203, r53_204, r53_205, r53_206, r53_207, r53_208, r53_211, r53_213, r53_214, r53_217, r53_219, r53_220, r53_221, r53_222, r53_223, r53_224, r53_227, r53_229, r53_230, r53_233, r53_235, r53_236, r53_237, r53_238, r53_239, r53_242, am_cat0, am_catI, am_catR, am_catD, am_ndI, am_ndR, am_ndL, va_rfS, true_and, and_true, Option.toList_some, Option.toList_none, List.cons_append, List.nil_append, Nat.reduceAdd, Nat.reduceLeDiff, Nat.zero_add, Nat.le_refl, z1, z2, z3, if_false, if_true, so49, sf49_17, sf49_18, sf49_19, sf49_20, sf49_21, sl63, sl64, sl65, sl66, sl67, sd63, sd64, sd65, sd66, sd67, am_bs, am_bd, bd_n, nI_tn, up_q, w1, w2, w3, w4, w5, nx_lt, nx_le, nx_imp, g1, g2, g1e, g3', not_true_eq_false]
          have h4 := goon (decide_eq_true (Or.inr ⟨g2.symm ▸ rfl, g3⟩))
          simp only [g2] at h4
          exact h4
        · have g3' : eN (L.getD a e0) ≤ eN e := by omega
          simp (disch := omega) only [r53_114, r53_117, r53_118, r53_121, r53_123, r53_124, r53_125, r53_126, r53_128, r53_131, r53_132, r53_135, r53_137, r53_138, r53_139, r53_140, r53_142, r53_145, r53_146, r53_149, r53_151, r53_152, r53_153, r53_154, r53_156, r53_159, r53_160, r53_163, r53_165, r53_166, r53_169, r53_171, r53_172, r53_173, r53_174, r53_175, r53_176, r53_179, r53_181, r53_182, r53_185, r53_187, r53_188, r53_189, r53_190, r53_191, r53_192, r53_195, r53_197, r53_198, r53_201, r53_203, r53_204, r53_205, r53_206, r53_207, r53_208, r53_211, r53_213, r53_214, r53_217, r53_219, r53_220, r53_221, r53_222, r53_223, r53_224, r53_227, r53_229, r53_230, r53_233, r53_235, r53_236, r53_237, r53_238, r53_239, r53_242, am_cat0, am_catI, am_catR, am_catD, am_ndI, am_ndR, am_ndL, va_rfS, true_and, and_true, Option.toList_some, Option.toList_none, List.cons_append, List.nil_append, Nat.reduceAdd, Nat.reduceLeDiff, Nat.zero_add, Nat.le_refl, z1, z2, z3, if_false, if_true, so49, sf49_20, sf49_21, sd66, sd67, am_bd, bd_n, nI_tn, w4, w5, nx_lt, nx_le, nx_imp, g1, g2, g1e, g3', not_true_eq_false]
          exact stop (decide_eq_false (fun z => z.elim g1 (fun z => g3 z.2)))
      · simp (disch := omega) only [r53_114, r53_117, r53_118, r53_121, r53_123, r53_124, r53_125, r53_126, r53_128, r53_131, r53_132, r53_135, r53_137, r53_138, r53_139, r53_140, r53_142, r53_145, r53_146, r53_149, r53_151, r53_152, r53_153, r53_154, r53_156, r53_159, r53_160, r53_163, r53_165, r53_166, r53_169, r53_171, r53_172, r53_173, r53_174, r53_175, r53_176, r53_179, r53_181, r53_182, r53_185, r53_187, r53_188, r53_189, r53_190, r53_191, r53_192, r53_195, r53_197, r53_198, r53_201, r53_203, r53_204, r53_205, r53_206, r53_207, r53_208, r53_211, r53_213, r53_214, r53_217, r53_219, r53_220, r53_221, r53_222, r53_223, r53_224, r53_227, r53_229, r53_230, r53_233, r53_235, r53_236, r53_237, r53_238, r53_239, r53_242, am_cat0, am_catI, am_catR, am_catD, am_ndI, am_ndR, am_ndL, va_rfS, true_and, and_true, Option.toList_some, Option.toList_none, List.cons_append, List.nil_append, Nat.reduceAdd, Nat.reduceLeDiff, Nat.zero_add, Nat.le_refl, z1, z2, z3, if_false, if_true, so49, sf49_20, sd66, am_bd, bd_n, nI_tn, w4, nx_lt, nx_imp, g1, g2, not_false_eq_true]
        exact stop (decide_eq_false (fun z => z.elim g1 (fun z => g2 z.1)))
theorem c53r {c t m p n b : Nat} {P : Nat → List Nat} {v7 : Value} (hr : rlW M0 P n) (hc : c < 64) (hb : b < 2) (ht : t < 8) (hm : m < 25) (hp3 : p < 3) : ∀ (j r : Nat) (M : Nat → Nat → Int32), r + j = n → mRl M0 M P n → M 53 (8 * b + t) = nI p → (∀ M', agT M M' → RR 53 90 [.ref 49, .int (nI c), .int (nI t), .int (nI m), .int (nI b), .int (ruW M0 (nmL p t m) P c n), .int (nI n), v7] [] (SH, (0, 0, sl), M', D, RF) Q) → RR 53 21 [.ref 49, .int (nI c), .int (nI t), .int (nI m), .int (nI b), .int (ruW M0 (nmL p t m) P c r), .int (nI r), v7] [] (SH, (0, 0, sl), M, D, RF) Q := by
  intro j
  induction j with
  | zero =>
    intro r M h hR hp k
    have e : r = n := by omega
    subst e
    rw [r53_21]
    simp only [r53_23, r53_24, r53_27, am_cat0, am_catI, am_catR, am_catD, am_ndI, am_ndR, am_ndL, va_rfS, true_and, and_true, Option.toList_some, Option.toList_none, List.cons_append, List.nil_append, Nat.reduceAdd, Nat.reduceLeDiff, Nat.zero_add, Nat.le_refl, so49, hR.1, Int32.le_refl, if_true]
    exact k M (agT_r M)
  | succ j ih =>
    intro r M h hR hp k
    have hrn : r < n := by omega
    have hn8 := hr.2.1
    obtain ⟨a1, a2, a3, a4, a5⟩ := hR.2 r hrn
    obtain ⟨⟨b1, b2, b3, b4⟩, -⟩ := hr.2.2 r hrn
    have next : ∀ M1, agT M M1 → RR 53 84 [.ref 49, .int (nI c), .int (nI t), .int (nI m), .int (nI b), .int (ruW M0 (nmL p t m) P c (r + 1)), .int (nI r), v7] [] (SH, (0, 0, sl), M1, D, RF) Q := by
      intro M1 h1
      simp only [r53_84, r53_87, am_ndI, nI_add]
      exact ih (r + 1) M1 (by omega) (mRl_ag (agT_S h1) hR) (by rw [h1 _ _ (by decide) (by decide)]; exact hp) (fun M' h2 => k M' (fun q k a b => (h2 q k a b).trans (h1 q k a b)))
    rw [r53_21]
    by_cases g1 : nI c < M0 (22 + 3 * r) 1
    · have e : ruW M0 (nmL p t m) P c (r + 1) = ruW M0 (nmL p t m) P c r := by rw [ruW, if_neg (fun z => z.1 g1)]
      rw [e] at next
      simp (disch := omega) only [r53_0, r53_1, r53_2, r53_5, r53_6, r53_9, r53_10, r53_12, r53_13, r53_16, r53_18, r53_19, r53_23, r53_24, r53_27, r53_30, r53_31, r53_34, r53_36, r53_37, r53_38, r53_41, r53_42, r53_43, r53_46, r53_48, r53_49, r53_52, r53_53, r53_55, r53_57, r53_58, r53_59, r53_62, r53_64, r53_65, r53_67, r53_68, r53_69, r53_72, r53_75, r53_76, r53_79, r53_81, r53_82, r53_87, r53_92, r53_95, r53_96, r53_97, r53_100, r53_102, r53_103, r53_105, r53_106, r53_107, r53_110, r53_114, r53_117, r53_118, r53_121, r53_123, r53_124, r53_125, r53_126, r53_128, r53_131, r53_132, r53_135, r53_137, r53_138, r53_139, r53_140, r53_142, r53_145, r53_146, r53_149, r53_151, r53_152, r53_153, r53_154, r53_156, r53_159, r53_160, r53_163, r53_165, r53_166, r53_169, r53_171, r53_172, r53_173, r53_174, r53_175, r53_176, r53_179, r53_181, r53_182, r53_185, r53_187, r53_188, r53_189, r53_190, r53_191, r53_192, r53_195, r53_197, r53_198, r53_201, r53_203, r53_204, r53_205, r53_206, r53_207, r53_208, r53_211, r53_213, r53_214, r53_217, r53_219, r53_220, r53_221, r53_222, r53_223, r53_224, r53_227, r53_229, r53_230, r53_233, r53_235, r53_236, r53_237, r53_238, r53_239, r53_242, r53_246, r53_249, r53_251, r53_252, r53_253, r53_254, r53_257, r53_259, r53_260, r53_261, r53_262, r53_265, r53_267, r53_268, r53_269, r53_270, r53_273, r53_275, r53_277, r53_278, r53_279, r53_282, r53_284, r53_286, r53_287, r53_288, r53_288i, r53_289, r53_292, r53_293, r53_294, r53_297, am_cat0, am_catI, am_catR, am_catD, am_ndI, am_ndR, am_ndL, va_rfS, true_and, and_true, Option.toList_some, Option.toList_none, List.cons_append, List.nil_append, Nat.reduceAdd, Nat.reduceLeDiff, Nat.zero_add, Nat.le_refl, so49, hR.1, nx_le, Nat.not_le.mpr hrn, if_false, sf49_10, sd60, am_bd, bd_n, nI_tn, a3, g1, if_true]
      exact next M (agT_r M)
    · by_cases g2 : M0 (22 + 3 * r) 2 < nI c
      · have e : ruW M0 (nmL p t m) P c (r + 1) = ruW M0 (nmL p t m) P c r := by rw [ruW, if_neg (fun z => z.2.1 g2)]
        rw [e] at next
        simp (disch := omega) only [r53_0, r53_1, r53_2, r53_5, r53_6, r53_9, r53_10, r53_12, r53_13, r53_16, r53_18, r53_19, r53_23, r53_24, r53_27, r53_30, r53_31, r53_34, r53_36, r53_37, r53_38, r53_41, r53_42, r53_43, r53_46, r53_48, r53_49, r53_52, r53_53, r53_55, r53_57, r53_58, r53_59, r53_62, r53_64, r53_65, r53_67, r53_68, r53_69, r53_72, r53_75, r53_76, r53_79, r53_81, r53_82, r53_87, r53_92, r53_95, r53_96, r53_97, r53_100, r53_102, r53_103, r53_105, r53_106, r53_107, r53_110, r53_114, r53_117, r53_118, r53_121, r53_123, r53_124, r53_125, r53_126, r53_128, r53_131, r53_132, r53_135, r53_137, r53_138, r53_139, r53_140, r53_142, r53_145, r53_146, r53_149, r53_151, r53_152, r53_153, r53_154, r53_156, r53_159, r53_160, r53_163, r53_165, r53_166, r53_169, r53_171, r53_172, r53_173, r53_174, r53_175, r53_176, r53_179, r53_181, r53_182, r53_185, r53_187, r53_188, r53_189, r53_190, r53_191, r53_192, r53_195, r53_197, r53_198, r53_201, r53_203, r53_204, r53_205, r53_206, r53_207, r53_208, r53_211, r53_213, r53_214, r53_217, r53_219, r53_220, r53_221, r53_222, r53_223, r53_224, r53_227, r53_229, r53_230, r53_233, r53_235, r53_236, r53_237, r53_238, r53_239, r53_242, r53_246, r53_249, r53_251, r53_252, r53_253, r53_254, r53_257, r53_259, r53_260, r53_261, r53_262, r53_265, r53_267, r53_268, r53_269, r53_270, r53_273, r53_275, r53_277, r53_278, r53_279, r53_282, r53_284, r53_286, r53_287, r53_288, r53_288i, r53_289, r53_292, r53_293, r53_294, r53_297, am_cat0, am_catI, am_catR, am_catD, am_ndI, am_ndR, am_ndL, va_rfS, true_and, and_true, Option.toList_some, Option.toList_none, List.cons_append, List.nil_append, Nat.reduceAdd, Nat.reduceLeDiff, Nat.zero_add, Nat.le_refl, so49, hR.1, nx_le, Nat.not_le.mpr hrn, if_false, sf49_10, sf49_11, sd60, sd61, am_bd, bd_n, nI_tn, a3, a4, g1, g2, if_true]
        exact next M (agT_r M)
      · simp (disch := omega) only [r53_0, r53_1, r53_2, r53_5, r53_6, r53_9, r53_10, r53_12, r53_13, r53_16, r53_18, r53_19, r53_23, r53_24, r53_27, r53_30, r53_31, r53_34, r53_36, r53_37, r53_38, r53_41, r53_42, r53_43, r53_46, r53_48, r53_49, r53_52, r53_53, r53_55, r53_57, r53_58, r53_59, r53_62, r53_64, r53_65, r53_67, r53_68, r53_69, r53_72, r53_75, r53_76, r53_79, r53_81, r53_82, r53_87, r53_92, r53_95, r53_96, r53_97, r53_100, r53_102, r53_103, r53_105, r53_106, r53_107, r53_110, r53_114, r53_117, r53_118, r53_121, r53_123, r53_124, r53_125, r53_126, r53_128, r53_131, r53_132, r53_135, r53_137, r53_138, r53_139, r53_140, r53_142, r53_145, r53_146, r53_149, r53_151, r53_152, r53_153, r53_154, r53_156, r53_159, r53_160, r53_163, r53_165, r53_166, r53_169, r53_171, r53_172, r53_173, r53_174, r53_175, r53_176, r53_179, r53_181, r53_182, r53_185, r53_187, r53_188, r53_189, r53_190, r53_191, r53_192, r53_195, r53_197, r53_198, r53_201, r53_203, r53_204, r53_205, r53_206, r53_207, r53_208, r53_211, r53_213, r53_214, r53_217, r53_219, r53_220, r53_221, r53_222, r53_223, r53_224, r53_227, r53_229, r53_230, r53_233, r53_235, r53_236, r53_237, r53_238, r53_239, r53_242, r53_246, r53_249, r53_251, r53_252, r53_253, r53_254, r53_257, r53_259, r53_260, r53_261, r53_262, r53_265, r53_267, r53_268, r53_269, r53_270, r53_273, r53_275, r53_277, r53_278, r53_279, r53_282, r53_284, r53_286, r53_287, r53_288, r53_288i, r53_289, r53_292, r53_293, r53_294, r53_297, am_cat0, am_catI, am_catR, am_catD, am_ndI, am_ndR, am_ndL, va_rfS, true_and, and_true, Option.toList_some, Option.toList_none, List.cons_append, List.nil_append, Nat.reduceAdd, Nat.reduceLeDiff, Nat.zero_add, Nat.le_refl, so49, hR.1, nx_le, Nat.not_le.mpr hrn, if_false, sf49_9, sf49_10, sf49_11, sd59, sd60, sd61, am_bd, bd_n, nI_tn, a1, a3, a4, g1, g2, pk_mul]
        refine RR.imp (c48 hb ht hm hp hp3 (show 12 * r ≤ 96 by omega) b2 a2 b4) ?_
        rintro rv μ' ⟨rfl, M', rfl, h3⟩
        have h4 := h3 62 r (by decide) (by decide)
        by_cases g3 : ftB (nmL p t m) (P r)
        · have e : ruW M0 (nmL p t m) P c (r + 1) = M0 (22 + 3 * r) 3 := by rw [ruW, if_pos ⟨g1, g2, g3⟩]
          rw [e] at next
          simp (disch := omega) only [r53_0, r53_1, r53_2, r53_5, r53_6, r53_9, r53_10, r53_12, r53_13, r53_16, r53_18, r53_19, r53_23, r53_24, r53_27, r53_30, r53_31, r53_34, r53_36, r53_37, r53_38, r53_41, r53_42, r53_43, r53_46, r53_48, r53_49, r53_52, r53_53, r53_55, r53_57, r53_58, r53_59, r53_62, r53_64, r53_65, r53_67, r53_68, r53_69, r53_72, r53_75, r53_76, r53_79, r53_81, r53_82, r53_87, r53_92, r53_95, r53_96, r53_97, r53_100, r53_102, r53_103, r53_105, r53_106, r53_107, r53_110, r53_114, r53_117, r53_118, r53_121, r53_123, r53_124, r53_125, r53_126, r53_128, r53_131, r53_132, r53_135, r53_137, r53_138, r53_139, r53_140, r53_142, r53_145, r53_146, r53_149, r53_151, r53_152, r53_153, r53_154, r53_156, r53_159, r53_160, r53_163, r53_165, r53_166, r53_169, r53_171, r53_172, r53_173, r53_174, r53_175, r53_176, r53_179, r53_181, r53_182, r53_185, r53_187, r53_188, r53_189, r53_190, r53_191, r53_192, r53_195, r53_197, r53_198, r53_201, r53_203, r53_204, r53_205, r53_206, r53_207, r53_208, r53_211, r53_213, r53_214, r53_217, r53_219, r53_220, r53_221, r53_222, r53_223, r53_224, r53_227, r53_229, r53_230, r53_233, r53_235, r53_236, r53_237, r53_238, r53_239, r53_242, r53_246, r53_249, r53_251, r53_252, r53_253, r53_254, r53_257, r53_259, r53_260, r53_261, r53_262, r53_265, r53_267, r53_268, r53_269, r53_270, r53_273, r53_275, r53_277, r53_278, r53_279, r53_282, r53_284, r53_286, r53_287, r53_288, r53_288i, r53_289, r53_292, r53_293, r53_294, r53_297, am_cat0, am_catI, am_catR, am_catD, am_ndI, am_ndR, am_ndL, va_rfS, true_and, and_true, Option.toList_some, Option.toList_none, List.cons_append, List.nil_append, Nat.reduceAdd, Nat.reduceLeDiff, Nat.zero_add, Nat.le_refl, bN_0, g3, not_true_eq_false, if_false, so49, sf49_12, sd62, am_bd, bd_n, nI_tn, h4, a5, am_ndI]
          exact next M' h3
        · have e : ruW M0 (nmL p t m) P c (r + 1) = ruW M0 (nmL p t m) P c r := by rw [ruW, if_neg (fun z => g3 z.2.2)]
          rw [e] at next
          simp (disch := omega) only [r53_0, r53_1, r53_2, r53_5, r53_6, r53_9, r53_10, r53_12, r53_13, r53_16, r53_18, r53_19, r53_23, r53_24, r53_27, r53_30, r53_31, r53_34, r53_36, r53_37, r53_38, r53_41, r53_42, r53_43, r53_46, r53_48, r53_49, r53_52, r53_53, r53_55, r53_57, r53_58, r53_59, r53_62, r53_64, r53_65, r53_67, r53_68, r53_69, r53_72, r53_75, r53_76, r53_79, r53_81, r53_82, r53_87, r53_92, r53_95, r53_96, r53_97, r53_100, r53_102, r53_103, r53_105, r53_106, r53_107, r53_110, r53_114, r53_117, r53_118, r53_121, r53_123, r53_124, r53_125, r53_126, r53_128, r53_131, r53_132, r53_135, r53_137, r53_138, r53_139, r53_140, r53_142, r53_145, r53_146, r53_149, r53_151, r53_152, r53_153, r53_154, r53_156, r53_159, r53_160, r53_163, r53_165, r53_166, r53_169, r53_171, r53_172, r53_173, r53_174, r53_175, r53_176, r53_179, r53_181, r53_182, r53_185, r53_187, r53_188, r53_189, r53_190, r53_191, r53_192, r53_195, r53_197, r53_198, r53_201, r53_203, r53_204, r53_205, r53_206, r53_207, r53_208, r53_211, r53_213, r53_214, r53_217, r53_219, r53_220, r53_221, r53_222, r53_223, r53_224, r53_227, r53_229, r53_230, r53_233, r53_235, r53_236, r53_237, r53_238, r53_239, r53_242, r53_246, r53_249, r53_251, r53_252, r53_253, r53_254, r53_257, r53_259, r53_260, r53_261, r53_262, r53_265, r53_267, r53_268, r53_269, r53_270, r53_273, r53_275, r53_277, r53_278, r53_279, r53_282, r53_284, r53_286, r53_287, r53_288, r53_288i, r53_289, r53_292, r53_293, r53_294, r53_297, am_cat0, am_catI, am_catR, am_catD, am_ndI, am_ndR, am_ndL, va_rfS, true_and, and_true, Option.toList_some, Option.toList_none, List.cons_append, List.nil_append, Nat.reduceAdd, Nat.reduceLeDiff, Nat.zero_add, Nat.le_refl, bN_0, g3, not_false_eq_true, if_true]
          exact next M' h3
/-- after a call that adds to the model's list -/
def mPo (M : Nat → Nat → Int32) (D : Nat → Nat → UInt64) (sl : Nat) (L' : List En) : Option Value → amM → Prop := fun rv μ' => rv = none ∧ ∃ M', μ' = (SH, (0, 0, sl), M', D, RF) ∧ lsM M' L' ∧ agS M M'
theorem c53 {c t m n : Nat} {P : Nat → List Nat} {L : List En} (h2 : bW M0 2) (h9 : bW M0 9) (hB : mBd M0 D M) (hR : mRl M0 M P n) (hr : rlW M0 P n) (c1 : 1 ≤ c) (c2 : c < 34) (ht : t < 8) (hm : m < 25) (hv : c ≤ 11 ∨ 20 ≤ c) (hl : lsM M L) (hL : L.length ≤ 1407) : RR 53 0 [.ref 49, .int (nI c), .int (nI t), .int (nI m), .long 0, .long 0, .long 0, .long 0] [] (SH, (0, 0, sl), M, D, RF) (mPo M D sl (stE M0 P n L (c, t, m))) := by
  have hp3 : gP M0 c t < 3 := gP_lt h2 h9 ht
  have hn8 := hr.2.1
  have key : ∀ b, b < 2 → M 53 (8 * b + t) = nI (gP M0 c t) → RR 53 10 [.ref 49, .int (nI c), .int (nI t), .int (nI m), .long 0, .long 0, .long 0, .long 0] [.int (nI b)] (SH, (0, 0, sl), M, D, RF) (mPo M D sl (stE M0 P n L (c, t, m))) := by
    intro b hb hp
    simp only [r53_10, r53_12, r53_13, am_cat0, am_catI, am_catR, am_catD, am_ndI, am_ndR, am_ndL, va_rfS, true_and, and_true, Option.toList_some, Option.toList_none, List.cons_append, List.nil_append, Nat.reduceAdd, Nat.reduceLeDiff, Nat.zero_add, Nat.le_refl, c52 c2 c1 hv, r53_16, r53_18, r53_19]
    refine c53r (p := gP M0 c t) hr (by omega) hb ht hm hp3 n 0 M (by omega) hR hp ?_
    intro M' hM'
    obtain ⟨w, hw, ew⟩ := ruW_n (l := nmL (gP M0 c t) t m) (c := c) hr n (Nat.le_refl _)
    have est : stE M0 P n L (c, t, m) = if w = 0 then L else insE (w, gP M0 c t, t, m, c) L := by
      unfold stE
      dsimp only
      rw [ew, n32_nI (by omega)]
    rw [ew, est]
    have hl' := lsM_T hM' hl
    by_cases h0 : w = 0
    · subst h0
      simp only [r53_90, r53_92, nI0_0, not_true_eq_false, if_false, r53_95, if_true]
      exact ⟨rfl, M', rfl, hl', agT_S hM'⟩
    · have e0' : (nI w = 0) = False := eq_false (by rw [nx_0 (by omega)]; exact h0)
      have hp' : M' 53 (8 * b + t) = nI (gP M0 c t) := by rw [hM' _ _ (by decide) (by decide)]; exact hp
      rw [if_neg h0]
      simp only [r53_90, r53_92, e0', not_false_eq_true, if_true, r53_96, r53_97, r53_100, r53_102, r53_103, r53_105, r53_106, r53_107, am_cat0, am_catI, am_catR, am_catD, am_ndI, am_ndR, am_ndL, va_rfS, true_and, and_true, Option.toList_some, Option.toList_none, List.cons_append, List.nil_append, Nat.reduceAdd, Nat.reduceLeDiff, Nat.zero_add, Nat.le_refl, so49, hl'.1, c47 hb ht hm hp' hp3, r53_110]
      have he : okE (w, gP M0 c t, t, m, c) := ⟨by show 1 ≤ w; omega, hw, hp3, ht, hm, c1, c2⟩
      refine RR.imp (c53i (e := (w, gP M0 c t, t, m, c)) he hL hl'.2.2.1 L.length M' (Nat.le_refl _) rfl ⟨hl'.1, fun k hk => hl'.2.2.2 k hk, fun k a1 a2 => by omega⟩) ?_
      rintro rv μ' ⟨rfl, M2, rfl, k1, k2⟩
      exact ⟨rfl, M2, rfl, k1, agS_t (agT_S hM') k2⟩
  by_cases hc3 : c = 3
  · have e3 : (nI c = nI 3) = True := eq_true (by rw [hc3])
    simp only [r53_0, r53_1, r53_2, e3, not_true_eq_false, if_false, r53_5, r53_6]
    refine key 1 (by decide) ?_
    rw [(hB 1 (by decide) t ht).2.1]
    unfold gP mq
    rw [if_neg (by decide), if_pos hc3]
  · have e3 : (nI c = nI 3) = False := eq_false (by rw [nx_eq (by omega) (by decide)]; exact hc3)
    simp only [r53_0, r53_1, r53_2, e3, not_false_eq_true, if_true, r53_9]
    refine key 0 (by decide) ?_
    rw [(hB 0 (by decide) t ht).2.1]
    unfold gP mq
    rw [if_pos rfl, if_neg hc3]
/-- many changes of one type -/
noncomputable def fS (M0 : Nat → Nat → Int32) (P : Nat → List Nat) (n t : Nat) (L : List En) (G : List (Nat × Nat)) : List En := (G.map (fun z => (z.1, t, z.2))).foldl (stE M0 P n) L
theorem fS_a {P : Nat → List Nat} {n t : Nat} {L : List En} {G G' : List (Nat × Nat)} : fS M0 P n t L (G ++ G') = fS M0 P n t (fS M0 P n t L G) G' := by
  unfold fS
  rw [List.map_append, List.foldl_append]
theorem stE_le {P : Nat → List Nat} {n : Nat} {L : List En} {h : Nat × Nat × Nat} : (stE M0 P n L h).length ≤ L.length + 1 := by
  unfold stE
  by_cases e : n32 (ruW M0 (nmL (gP M0 h.1 h.2.1) h.2.1 h.2.2) P h.1 n) = 0
  · rw [if_pos e]; omega
  · rw [if_neg e, insE_len]; omega
theorem fl_le {P : Nat → List Nat} {n : Nat} : ∀ (G : List (Nat × Nat × Nat)) (L : List En), (G.foldl (stE M0 P n) L).length ≤ L.length + G.length := by
  intro G
  induction G with
  | nil => intro L; exact Nat.le_refl _
  | cons g G ih =>
    intro L
    have h1 := ih (stE M0 P n L g)
    have h2 := stE_le (M0 := M0) (P := P) (n := n) (L := L) (h := g)
    rw [List.foldl_cons, List.length_cons]
    omega
theorem fS_le {P : Nat → List Nat} {n t : Nat} {L : List En} {G : List (Nat × Nat)} : (fS M0 P n t L G).length ≤ L.length + G.length := by
  have h := fl_le (M0 := M0) (P := P) (n := n) (G.map (fun z => (z.1, t, z.2))) L
  rw [List.length_map] at h
  exact h
theorem fS_1 {a : Prop} {ha : Decidable a} {P : Nat → List Nat} {n t : Nat} {L : List En} {z : Nat × Nat} (h : a) : fS M0 P n t L (@oN a ha z) = stE M0 P n L (z.1, t, z.2) := by
  unfold fS oN
  rw [if_pos h]
  rfl
theorem fS_0 {a : Prop} {ha : Decidable a} {P : Nat → List Nat} {n t : Nat} {L : List En} {z : Nat × Nat} (h : ¬ a) : fS M0 P n t L (@oN a ha z) = L := by
  unfold fS oN
  rw [if_neg h]
  rfl
theorem mPo_ag {M1 M : Nat → Nat → Int32} {L' : List En} {rv : Option Value} {μ' : amM} (h : agS M1 M) (k : mPo M D sl L' rv μ') : mPo M1 D sl L' rv μ' := by
  obtain ⟨k1, M', k2, k3, k4⟩ := k
  exact ⟨k1, M', k2, k3, agS_t h k4⟩
theorem c54 {c t m n x y k : Nat} {P : Nat → List Nat} {L : List En} (h2 : bW M0 2) (h9 : bW M0 9) (hB : mBd M0 D M) (hR : mRl M0 M P n) (hr : rlW M0 P n) (c1 : 1 ≤ c) (c2 : c + 1 < 34) (ht : t < 8) (hm : m < 25) (hv : c + 1 ≤ 11 ∨ 20 ≤ c) (hl : lsM M L) (hL : L.length ≤ 1407) (hx : x < 2 ^ 31) (hy : y < 2 ^ 31) (hk : k < 30) {a b : Prop} {da : Decidable a} {db : Decidable b} (ha : a ↔ (x.testBit k = false ∧ y.testBit k = true)) (hb : b ↔ (x.testBit k = true ∧ y.testBit k = false)) : RR 54 0 [.ref 49, .int (nI x), .int (nI y), .int (nI (2 ^ k)), .int (nI c), .int (nI t), .int (nI m)] [] (SH, (0, 0, sl), M, D, RF) (mPo M D sl (fS M0 P n t L (@oN a da (c, m) ++ @oN b db (c + 1, m)))) := by
  rw [fS_a]
  by_cases g1 : x.testBit k = true
  · have g1' : (x.testBit k = false) = False := eq_false (by rw [g1]; decide)
    rw [fS_0 (a := a) (fun z => by have := ha.mp z; rw [g1] at this; cases this.1)]
    by_cases g2 : y.testBit k = true
    · have g2' : (y.testBit k = false) = False := eq_false (by rw [g2]; decide)
      rw [fS_0 (a := b) (fun z => by have := hb.mp z; rw [g2] at this; cases this.2)]
      simp (disch := omega) only [r54_0, r54_1, r54_2, r54_3, r54_6, r54_7, r54_8, r54_9, r54_12, r54_13, r54_15, r54_17, r54_19, r54_22, r54_23, r54_24, r54_25, r54_28, r54_29, r54_30, r54_31, r54_34, r54_35, r54_37, r54_38, r54_39, r54_41, r54_43, r54_46, am_cat0, am_catI, am_catR, am_catD, am_ndI, am_ndR, am_ndL, va_rfS, true_and, and_true, Option.toList_some, Option.toList_none, List.cons_append, List.nil_append, Nat.reduceAdd, Nat.reduceLeDiff, Nat.zero_add, Nat.le_refl, nx_tst, g1', g2', not_false_eq_true, if_true, if_false]
      exact ⟨rfl, M, rfl, hl, agS_r M⟩
    · have g2f : y.testBit k = false := by simpa using g2
      have g2' : (y.testBit k = false) = True := eq_true g2f
      rw [fS_1 (a := b) (hb.mpr ⟨g1, g2f⟩)]
      simp (disch := omega) only [r54_0, r54_1, r54_2, r54_3, r54_6, r54_7, r54_8, r54_9, r54_12, r54_13, r54_15, r54_17, r54_19, r54_22, r54_23, r54_24, r54_25, r54_28, r54_29, r54_30, r54_31, r54_34, r54_35, r54_37, r54_38, r54_39, r54_41, r54_43, r54_46, am_cat0, am_catI, am_catR, am_catD, am_ndI, am_ndR, am_ndL, va_rfS, true_and, and_true, Option.toList_some, Option.toList_none, List.cons_append, List.nil_append, Nat.reduceAdd, Nat.reduceLeDiff, Nat.zero_add, Nat.le_refl, nx_tst, g1', g2', not_false_eq_true, not_true_eq_false, if_true, if_false, so49, nI_add]
      refine RR.imp (c53 h2 h9 hB hR hr (by omega) (by omega) ht hm (by omega) hl hL) ?_
      rintro rv μ' ⟨rfl, M', rfl, h3, h4⟩
      simp only [r54_46, am_cat0, am_catI, am_catR, am_catD, am_ndI, am_ndR, am_ndL, va_rfS, true_and, and_true, Option.toList_some, Option.toList_none, List.cons_append, List.nil_append, Nat.reduceAdd, Nat.reduceLeDiff, Nat.zero_add, Nat.le_refl]
      exact ⟨rfl, M', rfl, h3, h4⟩
  · have g1f : x.testBit k = false := by simpa using g1
    have g1' : (x.testBit k = false) = True := eq_true g1f
    rw [fS_0 (a := b) (fun z => by have := hb.mp z; rw [g1f] at this; cases this.1)]
    by_cases g2 : y.testBit k = true
    · have g2' : (y.testBit k = false) = False := eq_false (by rw [g2]; decide)
      rw [fS_1 (a := a) (ha.mpr ⟨g1f, g2⟩)]
      simp (disch := omega) only [r54_0, r54_1, r54_2, r54_3, r54_6, r54_7, r54_8, r54_9, r54_12, r54_13, r54_15, r54_17, r54_19, r54_22, r54_23, r54_24, r54_25, r54_28, r54_29, r54_30, r54_31, r54_34, r54_35, r54_37, r54_38, r54_39, r54_41, r54_43, r54_46, am_cat0, am_catI, am_catR, am_catD, am_ndI, am_ndR, am_ndL, va_rfS, true_and, and_true, Option.toList_some, Option.toList_none, List.cons_append, List.nil_append, Nat.reduceAdd, Nat.reduceLeDiff, Nat.zero_add, Nat.le_refl, nx_tst, g1', g2', not_false_eq_true, not_true_eq_false, if_true, if_false, so49, nI_add]
      refine RR.imp (c53 h2 h9 hB hR hr (by omega) (by omega) ht hm (by omega) hl hL) ?_
      rintro rv μ' ⟨rfl, M', rfl, h3, h4⟩
      simp (disch := omega) only [r54_0, r54_1, r54_2, r54_3, r54_6, r54_7, r54_8, r54_9, r54_12, r54_13, r54_15, r54_17, r54_19, r54_22, r54_23, r54_24, r54_25, r54_28, r54_29, r54_30, r54_31, r54_34, r54_35, r54_37, r54_38, r54_39, r54_41, r54_43, r54_46, am_cat0, am_catI, am_catR, am_catD, am_ndI, am_ndR, am_ndL, va_rfS, true_and, and_true, Option.toList_some, Option.toList_none, List.cons_append, List.nil_append, Nat.reduceAdd, Nat.reduceLeDiff, Nat.zero_add, Nat.le_refl, nx_tst, g1', g2', not_false_eq_true, not_true_eq_false, if_true, if_false]
      exact ⟨rfl, M', rfl, h3, h4⟩
    · have g2f : y.testBit k = false := by simpa using g2
      have g2' : (y.testBit k = false) = True := eq_true g2f
      rw [fS_0 (a := a) (fun z => by have := ha.mp z; rw [g2f] at this; cases this.2)]
      simp (disch := omega) only [r54_0, r54_1, r54_2, r54_3, r54_6, r54_7, r54_8, r54_9, r54_12, r54_13, r54_15, r54_17, r54_19, r54_22, r54_23, r54_24, r54_25, r54_28, r54_29, r54_30, r54_31, r54_34, r54_35, r54_37, r54_38, r54_39, r54_41, r54_43, r54_46, am_cat0, am_catI, am_catR, am_catD, am_ndI, am_ndR, am_ndL, va_rfS, true_and, and_true, Option.toList_some, Option.toList_none, List.cons_append, List.nil_append, Nat.reduceAdd, Nat.reduceLeDiff, Nat.zero_add, Nat.le_refl, nx_tst, g1', g2', not_false_eq_true, not_true_eq_false, if_true, if_false]
      exact ⟨rfl, M, rfl, hl, agS_r M⟩
end CN
