/-! THE CONSTRUCTORS -/
theorem app_l {α : Type} {S : List α} {n : Nat} {x : α} (h : S.length = n) : (S ++ [x]).length = n + 1 := by rw [List.length_append, h]; rfl
theorem app_g {α : Type} {S T : List α} {q : Nat} {x : α} (h : S[q]? = some x) : (S ++ T)[q]? = some x := by
  have hq : q < S.length := by
    apply Classical.byContradiction
    intro z
    rw [List.getElem?_eq_none (by omega)] at h
    cases h
  rw [List.getElem?_append_left hq]
  exact h
theorem app_e {α : Type} {S : List α} {n : Nat} {x : α} (h : S.length = n) : (S ++ [x])[n]? = some x := by
  rw [List.getElem?_append_right (by omega), h, Nat.sub_self]
  rfl
theorem fu {F : Nat → Nat → Option Nat} {n a b : Nat} {v : Option Nat} (hF : ∀ q k, n ≤ q → F q k = none) (h : a < n) : ∀ q k, n ≤ q → am_up F a b v q k = none := fun q k z => by rw [up_q (by omega)]; exact hF q k z
theorem fle {F : Nat → Nat → Option Nat} {n m : Nat} (hF : ∀ q k, n ≤ q → F q k = none) (h : n ≤ m) : ∀ q k, m ≤ q → F q k = none := fun q k z => hF q k (by omega)
theorem mle {M : Nat → Nat → Int32} {n m : Nat} (hM : ∀ q k, n ≤ q → q < 1000000 → M q k = 0) (h : n ≤ m) : ∀ q k, m ≤ q → q < 1000000 → M q k = 0 := fun q k z => hM q k (by omega)
theorem mu {M : Nat → Nat → Int32} {n a b : Nat} {v : Int32} (hM : ∀ q k, n ≤ q → q < 1000000 → M q k = 0) (h : a < n) : ∀ q k, n ≤ q → q < 1000000 → am_up M a b v q k = 0 := fun q k z z2 => by rw [up_q (by omega)]; exact hM q k z z2
def fiM (M : Nat → Nat → Int32) (a j : Nat) (x : Int32) : Nat → Nat → Int32 := fun q k => if q = a ∧ k < j then x else M q k
theorem mf {M : Nat → Nat → Int32} {n a b : Nat} {v : Int32} (hM : ∀ q k, n ≤ q → q < 1000000 → M q k = 0) (h : a < n) : ∀ q k, n ≤ q → q < 1000000 → fiM M a b v q k = 0 := fun q k z z2 => by
  unfold fiM
  rw [if_neg (by omega)]
  exact hM q k z z2
theorem fiM_0 {M : Nat → Nat → Int32} {a : Nat} {x : Int32} : fiM M a 0 x = M := by
  funext q k
  exact if_neg (fun z => absurd z.2 (Nat.not_lt_zero _))
theorem fiM_1 {M : Nat → Nat → Int32} {a j : Nat} {x : Int32} : am_up (fiM M a j x) a j x = fiM M a (j + 1) x := by
  funext q k
  unfold am_up fiM
  by_cases h1 : q = a ∧ k = j
  · rw [if_pos h1, if_pos ⟨h1.1, by omega⟩]
  · rw [if_neg h1]
    by_cases h2 : q = a ∧ k < j
    · rw [if_pos h2, if_pos ⟨h2.1, by omega⟩]
    · rw [if_neg h2, if_neg (fun z => by
        by_cases e : k = j
        · exact h1 ⟨z.1, e⟩
        · exact h2 ⟨z.1, by omega⟩)]
section CN
variable {Q : Option Value → amM → Prop} {S : List (Nat ⊕ (Nat × Nat))} {M : Nat → Nat → Int32} {F : Nat → Nat → Option Nat} {sl n q c s : Nat} {L st : List Value} {D : Nat → Nat → UInt64}
def DD : Nat → Nat → UInt64 := fun _ _ => 0
theorem row_f {α : Type} {X : Nat → Nat → α} {n : Nat} {z : α} (h : ∀ k, X n k = z) : am_row X n (fun _ => z) = X := by
  funext a k
  unfold am_row
  by_cases e : a = n
  · rw [if_pos e, e, h]
  · rw [if_neg e]
theorem am_newE {pc N : Nat} {sh : Nat ⊕ (Nat × Nat)} (hl : S.length = n) (hn : n < 999000) (hM : ∀ q k, n ≤ q → q < 1000000 → M q k = 0) (hF : ∀ q k, n ≤ q → F q k = none) : am_new pc L st (S, (c + 1, s + N, sl), M, DD, F) sh N = some (.inl (pc, L, .ref n :: st, (S ++ [sh], (c, s, sl), M, DD, F))) := by
  subst hl
  unfold am_new
  rw [if_pos ⟨Nat.le_add_left _ _, Nat.le_add_left _ _, by show S.length < 1000000; omega⟩]
  show some (Sum.inl (_, _, _, (_, (c + 1 - 1, s + N - N, sl), am_row M S.length (fun _ => 0), am_row DD S.length (fun _ => 0), am_row F S.length (fun _ => none)))) = _
  rw [row_f (fun k => hM S.length k (Nat.le_refl _) (by omega)), row_f (fun k => hF S.length k (Nat.le_refl _)), row_f (X := DD) (z := (0 : UInt64)) (fun k => rfl), Nat.add_sub_cancel, Nat.add_sub_cancel]
theorem nw_new {mi pc cp ci N : Nat} (hp : prog mi pc = some (.new cp, 3, [ci])) (hN : am_fn ci = N) (hl : S.length = n) (hn : n < 999000) (hM : ∀ q k, n ≤ q → q < 1000000 → M q k = 0) (hF : ∀ q k, n ≤ q → F q k = none) (h : RR mi (pc + 3) L (.ref n :: st) (S ++ [.inl ci], (c, s, sl), M, DD, F) Q) : RR mi pc L st (S, (c + 1, s + N, sl), M, DD, F) Q := by
  refine (rw_go hp ?_).mpr h
  show am_new (pc + 3) L st _ (.inl ci) (am_fn ci) = _
  rw [hN]
  exact am_newE hl hn hM hF
theorem nw_arr {mi pc len tt N : Nat} {ins : Instr} {info : List Nat} (hp : prog mi pc = some (ins, len, info)) (ha : ∀ L st μ, am_stp pc ins len info L st μ = am_newa (pc + len) tt L st μ) (hN : N < 1000000) (hl : S.length = n) (hn : n < 999000) (hM : ∀ q k, n ≤ q → q < 1000000 → M q k = 0) (hF : ∀ q k, n ≤ q → F q k = none) (h : RR mi (pc + len) L (.ref n :: st) (S ++ [.inr (tt, N)], (c, s, sl), M, DD, F) Q) : RR mi pc L (.int (nI N) :: st) (S, (c + 1, s + N, sl), M, DD, F) Q := by
  refine (rw_go hp ?_).mpr h
  rw [ha]
  unfold am_newa
  dsimp only
  rw [nI_toInt (by omega), if_pos ⟨by omega, by omega⟩]
  exact am_newE hl hn hM hF
theorem nw_ini {mi pc ix cc k m1 m2 : Nat} {loc : List Value} (hp : prog mi pc = some (.invokespecial ix, 3, [k, cc, 1])) (hk : k = 2 ∨ k = 5) (hm : am_nL cc = loc.length ∧ am_mc cc = m1 ∧ am_ms cc = m2) (hloc : am_loc cc [.ref q] = loc) (h1 : 1 ≤ loc.length) (hc : am_cat st ≤ 8) (h : RR cc 0 loc [] (S, (m1, m2, sl), M, D, F) (fun rv μ' => μ'.1.length = S.length + m1 ∧ RR mi (pc + 3) L (rv.toList ++ st) (μ'.1, (c, s, sl), μ'.2.2) Q)) : RR mi pc L (.ref q :: st) (S, (c + m1, s + m2, sl), M, D, F) Q := by
  obtain ⟨hm0, hm1, hm2⟩ := hm
  have hs : am_s mi pc L (.ref q :: st) (S, (c + m1, s + m2, sl), M, D, F) = some (.inr (.inl (cc, [.ref q], st))) := by
    refine (rw_s hp).trans ?_
    have e : ∀ μ, am_icall (pc + 3) L (.ref q :: st) μ cc 1 = if am_cat st ≤ 8 ∧ 1 = 1 then some (.inr (.inl (cc, [.ref q], st))) else none := fun μ => rfl
    rcases hk with rfl | rfl
    · exact (e (S, (c + m1, s + m2, sl), M, D, F)).trans (if_pos ⟨hc, rfl⟩)
    · exact (e (S, (c + m1, s + m2, sl), M, D, F)).trans (if_pos ⟨hc, rfl⟩)
  have ha : (am_args [Value.ref q]).length = 1 := rfl
  rw [RR.call hs ⟨by rw [hm1]; exact Nat.le_add_left _ _, by rw [hm2]; exact Nat.le_add_left _ _, by rw [ha, hm0]; exact h1⟩, hloc]
  have e0 : am_in0 cc (S, (c + m1, s + m2, sl), M, D, F) = (S, (m1, m2, sl), M, D, F) := by unfold am_in0; rw [hm1, hm2]
  rw [e0]
  refine RR.imp h ?_
  rintro rv μ' ⟨k1, k2⟩
  refine ⟨by rw [hm1]; exact k1, ?_⟩
  have e1 : am_out cc (S, (c + m1, s + m2, sl), M, D, F) μ' = (μ'.1, (c, s, sl), μ'.2.2) := by
    unfold am_out
    rw [hm1, hm2]
    show (μ'.1, (c + m1 - m1, s + m2 - m2, sl), μ'.2.2) = _
    rw [Nat.add_sub_cancel, Nat.add_sub_cancel]
  rw [e1]
  exact k2
theorem nw_aas {mi pc i v N : Nat} {b : Nat × Nat × Nat} (hp : prog mi pc = some (.aastore, 1, [])) (h1 : S[q]? = some (.inr (4, N))) (hi : i < N) (hN : N < 2 ^ 31) (h2 : S[v]? = some (.inl 6)) (h : RR mi (pc + 1) L st (S, b, M, D, am_up F q i (some v)) Q) : RR mi pc L (.ref v :: .int (nI i) :: .ref q :: st) (S, b, M, D, F) Q := by
  refine (rw_go hp ?_).mpr h
  show am_axst (pc + 1) L (.ref v :: .int (nI i) :: .ref q :: st) (S, b, M, D, F) = _
  unfold am_axst
  dsimp only
  rw [h1]
  dsimp only
  rw [nI_toInt (by omega), if_pos ⟨rfl, by omega, by omega, h2⟩]
  rfl
theorem ml128 : am_nL 128 = 1 ∧ am_mc 128 = 1 ∧ am_ms 128 = 12 := by decide +kernel
theorem ml120 : am_nL 120 = 1 ∧ am_mc 120 = 1 ∧ am_ms 120 = 15 := by decide +kernel
theorem ml105 : am_nL 105 = 1 ∧ am_mc 105 = 1 ∧ am_ms 105 = 816 := by decide +kernel
theorem ml146 : am_nL 146 = 1 ∧ am_mc 146 = 2 ∧ am_ms 146 = 14 := by decide +kernel
theorem ml150 : am_nL 150 = 2 ∧ am_mc 150 = 25 ∧ am_ms 150 = 152 := by decide +kernel
theorem ml75 : am_nL 75 = 1 ∧ am_mc 75 = 6 ∧ am_ms 75 = 320 := by decide +kernel
theorem ml94 : am_nL 94 = 1 ∧ am_mc 94 = 16 ∧ am_ms 94 = 1472 := by decide +kernel
theorem ml0 : am_nL 0 = 1 ∧ am_mc 0 = 48 ∧ am_ms 0 = 1663 := by decide +kernel
theorem ml31 : am_nL 31 = 2 ∧ am_mc 31 = 20 ∧ am_ms 31 = 8091 := by decide +kernel
theorem lc1 {cc q : Nat} (h : am_nL cc = 1) : am_loc cc [.ref q] = [.ref q] := by unfold am_loc; rw [h]; rfl
theorem lc2 {cc q : Nat} (h : am_nL cc = 2) : am_loc cc [.ref q] = [.ref q, .long 0] := by unfold am_loc; rw [h]; rfl
theorem fn0 : am_fn 0 = 7 := by decide +kernel
theorem fn1 : am_fn 1 = 3 := by decide +kernel
theorem fn2 : am_fn 2 = 2 := by decide +kernel
theorem fn3 : am_fn 3 = 2 := by decide +kernel
theorem fn4 : am_fn 4 = 2 := by decide +kernel
theorem fn5 : am_fn 5 = 3 := by decide +kernel
theorem fn6 : am_fn 6 = 4 := by decide +kernel
theorem fn7 : am_fn 7 = 2 := by decide +kernel
theorem fn8 : am_fn 8 = 6 := by decide +kernel
theorem fn9 : am_fn 9 = 28 := by decide +kernel
theorem i128 (hl : S.length = n) (hn : n < 998000) (hM : ∀ q k, n ≤ q → q < 1000000 → M q k = 0) (hF : ∀ q k, n ≤ q → F q k = none) (hq : S[q]? = some (.inl 4)) (hqn : q < n) (h : Q none (S ++ [.inr (1, 12)], (0, 0, sl), M, DD, am_up F q 0 (some n))) : RR 128 0 [.ref q] [] (S, (1, 12, sl), M, DD, F) Q := by
  simp only [r128_0, r128_1, r128_4, r128_5, am_cat0, am_catI, am_catR, am_catD, am_ndI, am_ndR, am_ndL, va_rfS, true_and, and_true, Option.toList_some, Option.toList_none, List.cons_append, List.nil_append, Nat.reduceAdd, Nat.reduceLeDiff, Nat.zero_add, Nat.le_refl]
  refine nw_arr (c := 0) (s := 0) p128_7 (fun _ _ _ => rfl) (by decide) hl (by omega) hM hF ?_
  simp only [r128_9, r128_12, am_cat0, am_catI, am_catR, am_catD, am_ndI, am_ndR, am_ndL, va_rfS, true_and, and_true, Option.toList_some, Option.toList_none, List.cons_append, List.nil_append, Nat.reduceAdd, Nat.reduceLeDiff, Nat.zero_add, Nat.le_refl, app_g hq]
  exact h
theorem i120 (hl : S.length = n) (hn : n < 998000) (hM : ∀ q k, n ≤ q → q < 1000000 → M q k = 0) (hF : ∀ q k, n ≤ q → F q k = none) (hq : S[q]? = some (.inl 3)) (hqn : q < n) (h : Q none (S ++ [.inr (1, 15)], (0, 0, sl), M, DD, am_up F q 0 (some n))) : RR 120 0 [.ref q] [] (S, (1, 15, sl), M, DD, F) Q := by
  simp only [r120_0, r120_1, r120_4, r120_5, am_cat0, am_catI, am_catR, am_catD, am_ndI, am_ndR, am_ndL, va_rfS, true_and, and_true, Option.toList_some, Option.toList_none, List.cons_append, List.nil_append, Nat.reduceAdd, Nat.reduceLeDiff, Nat.zero_add, Nat.le_refl]
  refine nw_arr (c := 0) (s := 0) p120_7 (fun _ _ _ => rfl) (by decide) hl (by omega) hM hF ?_
  simp only [r120_9, r120_12, am_cat0, am_catI, am_catR, am_catD, am_ndI, am_ndR, am_ndL, va_rfS, true_and, and_true, Option.toList_some, Option.toList_none, List.cons_append, List.nil_append, Nat.reduceAdd, Nat.reduceLeDiff, Nat.zero_add, Nat.le_refl, app_g hq]
  exact h
theorem i105 (hl : S.length = n) (hn : n < 998000) (hM : ∀ q k, n ≤ q → q < 1000000 → M q k = 0) (hF : ∀ q k, n ≤ q → F q k = none) (hq : S[q]? = some (.inl 2)) (hqn : q < n) (h : Q none (S ++ [.inr (0, 816)], (0, 0, sl), M, DD, am_up F q 0 (some n))) : RR 105 0 [.ref q] [] (S, (1, 816, sl), M, DD, F) Q := by
  simp only [r105_0, r105_1, r105_4, r105_5, am_cat0, am_catI, am_catR, am_catD, am_ndI, am_ndR, am_ndL, va_rfS, true_and, and_true, Option.toList_some, Option.toList_none, List.cons_append, List.nil_append, Nat.reduceAdd, Nat.reduceLeDiff, Nat.zero_add, Nat.le_refl]
  refine nw_arr (c := 0) (s := 0) p105_8 (fun _ _ _ => rfl) (by decide) hl (by omega) hM hF ?_
  simp only [r105_10, r105_13, am_cat0, am_catI, am_catR, am_catD, am_ndI, am_ndR, am_ndL, va_rfS, true_and, and_true, Option.toList_some, Option.toList_none, List.cons_append, List.nil_append, Nat.reduceAdd, Nat.reduceLeDiff, Nat.zero_add, Nat.le_refl, app_g hq]
  exact h
theorem c156o {x : Int32} {N : Nat} (hN : N < 2 ^ 31) (hq : q < 1000000) (h : S[q]? = some (.inr (0, N))) : ∀ (i j : Nat), j + i = N → (RR 156 5 [.ref q, .int x, .int (nI j), .int (nI N)] [] (S, (0, 0, sl), fiM M q j x, D, F) Q ↔ Q none (S, (0, 0, sl), fiM M q N x, D, F)) := by
  have hs : am_ls S q 0 = N := by unfold am_ls; rw [h]; rfl
  intro i
  induction i with
  | zero =>
    intro j hj
    have e : j = N := by omega
    subst e
    rw [r156_5]
    simp only [r156_6, r156_7, Int32.le_refl, if_true, r156_20]
  | succ i ih =>
    intro j hj
    have hjn : j < N := by omega
    rw [r156_5]
    simp (disch := omega) only [r156_6, r156_7, nx_le, Nat.not_le.mpr hjn, if_false, r156_10, r156_11, r156_12, r156_13, r156_14, r156_17, am_cat0, am_catI, am_catR, am_catD, am_ndI, am_ndR, am_ndL, va_rfS, true_and, and_true, Option.toList_some, Option.toList_none, List.cons_append, List.nil_append, Nat.reduceAdd, Nat.reduceLeDiff, Nat.zero_add, Nat.le_refl, am_bs, hs, bd_n, nI_tn, fiM_1, nI_add]
    exact ih (j + 1) (by omega)
theorem c156 {x : Int32} {N : Nat} (hN : N < 2 ^ 31) (hq : q < 1000000) (h : S[q]? = some (.inr (0, N))) : RR 156 0 [.ref q, .int x, .long 0, .long 0] [] (S, (0, 0, sl), M, D, F) Q ↔ Q none (S, (0, 0, sl), fiM M q N x, D, F) := by
  have ha : am_an S sl q = some N := by unfold am_an; rw [if_neg (by omega), h]; rfl
  simp only [r156_0, r156_1, r156_2, r156_3 (b := (0, 0, sl)) ha, r156_4, am_cat0, am_catI, am_catR, am_catD, am_ndI, am_ndR, am_ndL, va_rfS, true_and, and_true, Option.toList_some, Option.toList_none, List.cons_append, List.nil_append, Nat.reduceAdd, Nat.reduceLeDiff, Nat.zero_add, Nat.le_refl]
  have h2 := c156o (Q := Q) (M := M) (D := D) (F := F) (sl := sl) (x := x) hN hq h N 0 (by omega)
  rw [fiM_0] at h2
  exact h2
theorem i75 (hl : S.length = n) (hn : n < 998000) (hM : ∀ q k, n ≤ q → q < 1000000 → M q k = 0) (hF : ∀ q k, n ≤ q → F q k = none) (hq : S[q]? = some (.inl 0)) (hqn : q < n) (h : Q none (S ++ [.inr (0, 8)] ++ [.inr (0, 8)] ++ [.inr (0, 8)] ++ [.inr (0, 192)] ++ [.inr (0, 8)] ++ [.inr (3, 96)], (0, 0, sl), fiM M (n + 3) 192 (-1), DD, am_up (am_up (am_up (am_up (am_up (am_up F q 1 (some n)) q 2 (some (n + 1))) q 3 (some (n + 2))) q 4 (some (n + 3))) q 5 (some (n + 4))) q 6 (some (n + 5)))) : RR 75 0 [.ref q] [] (S, (6, 320, sl), M, DD, F) Q := by
  simp only [r75_0, r75_1, r75_4, r75_5, am_cat0, am_catI, am_catR, am_catD, am_ndI, am_ndR, am_ndL, va_rfS, true_and, and_true, Option.toList_some, Option.toList_none, List.cons_append, List.nil_append, Nat.reduceAdd, Nat.reduceLeDiff, Nat.zero_add, Nat.le_refl]
  refine nw_arr (c := 5) (s := 312) p75_7 (fun _ _ _ => rfl) (by decide) hl (by omega) hM hF ?_
  have hl0 := app_l (x := (.inr (0, 8) : Nat ⊕ (Nat × Nat))) hl
  have hM0 := mle hM (Nat.le_succ _)
  have hF0 := fu (b := 1) (v := some (n + 0)) (fle hF (Nat.le_succ _)) (show q < n + 1 by omega)
  have hq0 := app_g (T := [(.inr (0, 8) : Nat ⊕ (Nat × Nat))]) hq
  simp only [r75_9, r75_12, r75_13, am_cat0, am_catI, am_catR, am_catD, am_ndI, am_ndR, am_ndL, va_rfS, true_and, and_true, Option.toList_some, Option.toList_none, List.cons_append, List.nil_append, Nat.reduceAdd, Nat.reduceLeDiff, Nat.zero_add, Nat.le_refl, hq0]
  refine nw_arr (c := 4) (s := 304) p75_15 (fun _ _ _ => rfl) (by decide) hl0 (by omega) hM0 hF0 ?_
  have hl1 := app_l (x := (.inr (0, 8) : Nat ⊕ (Nat × Nat))) hl0
  have hM1 := mle hM0 (Nat.le_succ _)
  have hF1 := fu (b := 2) (v := some (n + 1)) (fle hF0 (Nat.le_succ _)) (show q < n + 2 by omega)
  have hq1 := app_g (T := [(.inr (0, 8) : Nat ⊕ (Nat × Nat))]) hq0
  simp only [r75_17, r75_20, r75_21, am_cat0, am_catI, am_catR, am_catD, am_ndI, am_ndR, am_ndL, va_rfS, true_and, and_true, Option.toList_some, Option.toList_none, List.cons_append, List.nil_append, Nat.reduceAdd, Nat.reduceLeDiff, Nat.zero_add, Nat.le_refl, hq1]
  refine nw_arr (c := 3) (s := 296) p75_23 (fun _ _ _ => rfl) (by decide) hl1 (by omega) hM1 hF1 ?_
  have hl2 := app_l (x := (.inr (0, 8) : Nat ⊕ (Nat × Nat))) hl1
  have hM2 := mle hM1 (Nat.le_succ _)
  have hF2 := fu (b := 3) (v := some (n + 2)) (fle hF1 (Nat.le_succ _)) (show q < n + 3 by omega)
  have hq2 := app_g (T := [(.inr (0, 8) : Nat ⊕ (Nat × Nat))]) hq1
  simp only [r75_25, r75_28, r75_29, am_cat0, am_catI, am_catR, am_catD, am_ndI, am_ndR, am_ndL, va_rfS, true_and, and_true, Option.toList_some, Option.toList_none, List.cons_append, List.nil_append, Nat.reduceAdd, Nat.reduceLeDiff, Nat.zero_add, Nat.le_refl, hq2]
  refine nw_arr (c := 2) (s := 104) p75_32 (fun _ _ _ => rfl) (by decide) hl2 (by omega) hM2 hF2 ?_
  have e3 := app_e (x := (.inr (0, 192) : Nat ⊕ (Nat × Nat))) hl2
  have hl3 := app_l (x := (.inr (0, 192) : Nat ⊕ (Nat × Nat))) hl2
  have hM3 := mle hM2 (Nat.le_succ _)
  have hF3 := fu (b := 4) (v := some (n + 3)) (fle hF2 (Nat.le_succ _)) (show q < n + 4 by omega)
  have hq3 := app_g (T := [(.inr (0, 192) : Nat ⊕ (Nat × Nat))]) hq2
  simp only [r75_34, r75_37, r75_38, am_cat0, am_catI, am_catR, am_catD, am_ndI, am_ndR, am_ndL, va_rfS, true_and, and_true, Option.toList_some, Option.toList_none, List.cons_append, List.nil_append, Nat.reduceAdd, Nat.reduceLeDiff, Nat.zero_add, Nat.le_refl, hq3]
  refine nw_arr (c := 1) (s := 96) p75_40 (fun _ _ _ => rfl) (by decide) hl3 (by omega) hM3 hF3 ?_
  have hl4 := app_l (x := (.inr (0, 8) : Nat ⊕ (Nat × Nat))) hl3
  have hM4 := mle hM3 (Nat.le_succ _)
  have hF4 := fu (b := 5) (v := some (n + 4)) (fle hF3 (Nat.le_succ _)) (show q < n + 5 by omega)
  have hq4 := app_g (T := [(.inr (0, 8) : Nat ⊕ (Nat × Nat))]) hq3
  simp only [r75_42, r75_45, r75_46, am_cat0, am_catI, am_catR, am_catD, am_ndI, am_ndR, am_ndL, va_rfS, true_and, and_true, Option.toList_some, Option.toList_none, List.cons_append, List.nil_append, Nat.reduceAdd, Nat.reduceLeDiff, Nat.zero_add, Nat.le_refl, hq4]
  refine nw_arr (c := 0) (s := 0) p75_48 (fun _ _ _ => rfl) (by decide) hl4 (by omega) hM4 hF4 ?_
  have hl5 := app_l (x := (.inr (3, 96) : Nat ⊕ (Nat × Nat))) hl4
  have hM5 := mle hM4 (Nat.le_succ _)
  have hF5 := fu (b := 6) (v := some (n + 5)) (fle hF4 (Nat.le_succ _)) (show q < n + 6 by omega)
  have hq5 := app_g (T := [(.inr (3, 96) : Nat ⊕ (Nat × Nat))]) hq4
  have e4 := app_g (T := [(.inr (3, 96) : Nat ⊕ (Nat × Nat))]) (app_g (T := [(.inr (0, 8) : Nat ⊕ (Nat × Nat))]) e3)
  have eF : am_up (am_up (am_up (am_up (am_up (am_up F q 1 (some n)) q 2 (some (n + 1))) q 3 (some (n + 2))) q 4 (some (n + 3))) q 5 (some (n + 4))) q 6 (some (n + 5)) q 4 = some (n + 3) := by rw [up_k (by decide), up_k (by decide), up_s]
  simp only [r75_50, am_cat0, am_catI, am_catR, am_catD, am_ndI, am_ndR, am_ndL, va_rfS, true_and, and_true, Option.toList_some, Option.toList_none, List.cons_append, List.nil_append, Nat.reduceAdd, Nat.reduceLeDiff, Nat.zero_add, Nat.le_refl, hq5]
  rw [show n + 1 + 1 = n + 2 from rfl, show n + 2 + 1 = n + 3 from rfl, show n + 3 + 1 = n + 4 from rfl, show n + 4 + 1 = n + 5 from rfl]
  simp only [r75_53, r75_54, r75_57, r75_58, am_cat0, am_catI, am_catR, am_catD, am_ndI, am_ndR, am_ndL, va_rfS, true_and, and_true, Option.toList_some, Option.toList_none, List.cons_append, List.nil_append, Nat.reduceAdd, Nat.reduceLeDiff, Nat.zero_add, Nat.le_refl, hq5, eF]
  have h156 := fun Q => c156 (Q := Q) (M := M) (D := DD) (sl := sl) (x := -1) (F := am_up (am_up (am_up (am_up (am_up (am_up F q 1 (some n)) q 2 (some (n + 1))) q 3 (some (n + 2))) q 4 (some (n + 3))) q 5 (some (n + 4))) q 6 (some (n + 5))) (show 192 < 2 ^ 31 by decide) (show n + 3 < 1000000 by omega) e4
  simp only [h156, am_cat0, am_catI, am_catR, am_catD, am_ndI, am_ndR, am_ndL, va_rfS, true_and, and_true, Option.toList_some, Option.toList_none, List.cons_append, List.nil_append, Nat.reduceAdd, Nat.reduceLeDiff, Nat.zero_add, Nat.le_refl, r75_61]
  exact h
theorem i146 (hl : S.length = n) (hn : n < 997000) (hM : ∀ q k, n ≤ q → q < 1000000 → M q k = 0) (hF : ∀ q k, n ≤ q → F q k = none) (hq : S[q]? = some (.inl 6)) (hqn : q < n) (h : Q none (S ++ [.inl 4] ++ [.inr (1, 12)], (0, 0, sl), M, DD, am_up (am_up F n 0 (some (n + 1))) q 0 (some n))) : RR 146 0 [.ref q] [] (S, (2, 14, sl), M, DD, F) Q := by
  simp only [r146_0, r146_1, r146_4, am_cat0, am_catI, am_catR, am_catD, am_ndI, am_ndR, am_ndL, va_rfS, true_and, and_true, Option.toList_some, Option.toList_none, List.cons_append, List.nil_append, Nat.reduceAdd, Nat.reduceLeDiff, Nat.zero_add, Nat.le_refl]
  refine nw_new (c := 1) (s := 12) p146_5 fn4 hl (by omega) hM hF ?_
  simp only [Nat.reduceAdd, r146_8]
  refine nw_ini (c := 0) (s := 0) (loc := [.ref n]) p146_9 (Or.inr rfl) ml128 (lc1 ml128.1) (Nat.le_refl _) (Nat.le_of_ble_eq_true rfl) ?_
  refine i128 (app_l hl) (by omega) (mle hM (Nat.le_succ _)) (fle hF (Nat.le_succ _)) (app_e hl) (by omega) ?_
  refine ⟨app_l rfl, ?_⟩
  simp only [r146_12, r146_15, am_cat0, am_catI, am_catR, am_catD, am_ndI, am_ndR, am_ndL, va_rfS, true_and, and_true, Option.toList_some, Option.toList_none, List.cons_append, List.nil_append, Nat.reduceAdd, Nat.reduceLeDiff, Nat.zero_add, Nat.le_refl, app_g (app_g hq)]
  exact h
theorem i150s {a i : Nat} (hl : S.length = n) (hn : n < 996000) (hM : ∀ q k, n ≤ q → q < 1000000 → M q k = 0) (hF : ∀ q k, n ≤ q → F q k = none) (hi : i < 8) (hq : S[q]? = some (.inl 7)) (ha : S[a]? = some (.inr (4, 8))) (hqn : q < n) (hFa : F q 0 = some a) (h : RR 150 15 [.ref q, .int (nI (i + 1))] [] (S ++ [.inl 6] ++ [.inl 4] ++ [.inr (1, 12)], (c, s, sl), M, DD, am_up (am_up (am_up F (n + 1) 0 (some (n + 1 + 1))) n 0 (some (n + 1))) a i (some n)) Q) : RR 150 15 [.ref q, .int (nI i)] [] (S, (c + 3, s + 18, sl), M, DD, F) Q := by
  have h8 : (nI 8 ≤ nI i) = False := eq_false (by rw [nx_le (by decide) (by omega)]; omega)
  rw [r150_15]
  simp only [r150_16, r150_18, h8, if_false, r150_21, r150_22, r150_25, am_cat0, am_catI, am_catR, am_catD, am_ndI, am_ndR, am_ndL, va_rfS, true_and, and_true, Option.toList_some, Option.toList_none, List.cons_append, List.nil_append, Nat.reduceAdd, Nat.reduceLeDiff, Nat.zero_add, Nat.le_refl, hq, hFa]
  refine nw_new (c := c + 2) (s := s + 14) p150_26 fn6 hl (by omega) hM hF ?_
  simp only [Nat.reduceAdd, r150_29]
  refine nw_ini (c := c) (s := s) (loc := [.ref n]) p150_30 (Or.inr rfl) ml146 (lc1 ml146.1) (Nat.le_refl _) (Nat.le_of_ble_eq_true rfl) ?_
  refine i146 (app_l hl) (by omega) (mle hM (Nat.le_succ _)) (fle hF (Nat.le_succ _)) (app_e hl) (by omega) ?_
  refine ⟨by rw [List.length_append, List.length_append]; rfl, ?_⟩
  refine nw_aas p150_33 (app_g (app_g (app_g ha))) hi (by decide) (app_g (app_g (app_e hl))) ?_
  simp only [Nat.reduceAdd, r150_34, r150_37, am_ndR, nI_add]
  exact h
end CN
