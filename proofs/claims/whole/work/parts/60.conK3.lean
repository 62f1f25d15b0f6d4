/-! THE LAW, FROM ITS FIRST INSTRUCTION -/
def M00 (xs : Nat → Int32) : Nat → Nat → Int32 := fun q k => if q = 1000000 then xs k else 0
def Mi (xs : Nat → Int32) : Nat → Nat → Int32 := fiM (am_up (am_up (fiM (fiM (M00 xs) 6 192 (-1)) 13 192 (-1)) 0 5 (nI 1000000)) 49 14 (nI 1)) 56 384 (-1)
section CN
variable {xs : Nat → Int32}
theorem M00_0 : ∀ q k, 0 ≤ q → q < 1000000 → M00 xs q k = 0 := fun q k _ z => if_neg (by omega)
theorem Mi_0 {q k : Nat} (h1 : q ≠ 6) (h2 : q ≠ 13) (h3 : q ≠ 56) (h4 : ¬ (q = 0 ∧ k = 5)) (h5 : ¬ (q = 49 ∧ k = 14)) (h6 : q ≠ 1000000) : Mi xs q k = 0 := by
  unfold Mi fiM
  rw [if_neg (fun z => h3 z.1), up_n h5, up_n h4, if_neg (fun z => h2 z.1), if_neg (fun z => h1 z.1)]
  exact if_neg h6
theorem Mi_6 {k : Nat} (h : k < 192) : Mi xs 6 k = -1 := by
  unfold Mi fiM
  rw [if_neg (by omega), up_q (by omega), up_q (by omega), if_neg (by omega), if_pos ⟨rfl, h⟩]
theorem Mi_13 {k : Nat} (h : k < 192) : Mi xs 13 k = -1 := by
  unfold Mi fiM
  rw [if_neg (by omega), up_q (by omega), up_q (by omega), if_pos ⟨rfl, h⟩]
theorem Mi_56 {k : Nat} (h : k < 384) : Mi xs 56 k = -1 := by
  unfold Mi fiM
  rw [if_pos ⟨rfl, h⟩]
theorem Mi_5 : Mi xs 0 5 = nI 1000000 := by
  unfold Mi fiM
  rw [if_neg (by omega), up_q (by omega), up_s]
theorem Mi_14 : Mi xs 49 14 = nI 1 := by
  unfold Mi fiM
  rw [if_neg (by omega), up_s]
theorem n32_0 : n32 0 = 0 := by decide
theorem iV_0 : iV (Mi xs) DD := by
  have z : ∀ q k, (2 ≤ q ∧ q ≤ 5 ∨ 7 ≤ q ∧ q ≤ 12 ∨ 14 ≤ q ∧ q ≤ 48 ∨ 50 ≤ q ∧ q ≤ 55 ∨ 57 ≤ q ∧ q ≤ 69) → Mi xs q k = 0 := fun q k h => Mi_0 (by omega) (by omega) (by omega) (by omega) (by omega) (by omega)
  have w : ∀ q, (q = 2 ∨ q = 9) → bTh (Mi xs) q = 0 ∧ ∀ t, bPk (Mi xs) q t = 0 ∧ bFl (Mi xs) q t = 0 ∧ bUp (Mi xs) q t = 0 ∧ bVa (Mi xs) q t = 0 := by
    intro q hq
    unfold bTh bPk bFl bUp bVa
    refine ⟨by rw [z _ _ (by omega)]; exact n32_0, fun t => ⟨by rw [z _ _ (by omega)]; exact n32_0, by rw [z _ _ (by omega)]; exact n32_0, by rw [z _ _ (by omega)]; exact n32_0, by rw [z _ _ (by omega)]; exact n32_0⟩⟩
  have m : ∀ q, (q = 2 ∨ q = 9) → ∀ k, k < 192 → Mi xs (q + 4) k = -1 := by
    intro q hq k hk
    rcases hq with rfl | rfl
    · exact Mi_6 hk
    · exact Mi_13 hk
  have bw : ∀ q, (q = 2 ∨ q = 9) → bW (Mi xs) q := by
    intro q hq
    obtain ⟨w1, w2⟩ := w q hq
    refine ⟨by rw [w1]; decide, fun t _ => ?_, fun k hk => Or.inl (m q hq k hk)⟩
    obtain ⟨a, b, c, d⟩ := w2 t
    rw [a, b, c, d]
    decide
  have e0 : (0 : Int32) = nI 0 := by decide
  refine ⟨⟨bw 2 (Or.inl rfl), bw 9 (Or.inr rfl), fun b hb t ht => ?_⟩, ⟨0, fun _ => [], ⟨by rw [z _ _ (by omega)]; exact e0, by decide, fun i hi => absurd hi (Nat.not_lt_zero _)⟩, by rw [Mi_0 (by omega) (by omega) (by omega) (by omega) (by omega) (by omega)]; exact e0, fun i hi => absurd hi (Nat.not_lt_zero _)⟩, iP_0 (by rw [z _ _ (by omega)]; exact e0) (fun i _ => ⟨0, by decide, by rw [z _ _ (by omega)]; exact e0⟩) (by rw [z _ _ (by omega)]; exact e0), ⟨1, 0, 0, ⟨Mi_14, by rw [Mi_0 (by omega) (by omega) (by omega) (by omega) (by omega) (by omega)]; exact e0, by rw [Mi_0 (by omega) (by omega) (by omega) (by omega) (by omega) (by omega)]; exact e0, by decide, by decide, by decide⟩, Mi_5⟩, fun k _ => ⟨vF_0, vF_0⟩⟩
  have hq := mq_o b
  obtain ⟨w1, w2⟩ := w (mq b) hq
  obtain ⟨a1, a2, a3, a4⟩ := w2 t
  have nt : ¬ (bTh (Mi xs) (mq b)).testBit t = true := by rw [w1, Nat.zero_testBit]; decide
  refine ⟨?_, ?_, ?_, fun h => absurd h nt, fun s hs => ?_, fun s hs h => absurd (m (mq b) hq (t * 24 + s) (by omega)) h, fun s hs => rfl⟩
  · rw [z _ _ (by omega), bN_f nt]; exact e0
  · rw [z _ _ (by omega), a1]; exact e0
  · rw [z _ _ (by omega), a2]; exact e0
  · rw [Mi_56 (by omega), m (mq b) hq (t * 24 + s) (by omega)]
theorem law_all {sl : Nat} (hsl : sl ≤ 3072) : RR 157 0 [.ref 1000000, .long 0, .long 0, .long 0, .long 0, .long 0, .long 0, .long 0] [] ([], (600000, 7302250, sl), M00 xs, DD, fA []) (fun rv _ => rv = some (.int (nI 1))) := by
  refine nw_new (n := 0) (c := 599999) (s := 7302244) p157_0 fn8 rfl (by decide) M00_0 (fA_n rfl) ?_
  simp only [Nat.reduceAdd, r157_3]
  refine nw_ini (c := 599951) (s := 7300581) (loc := [.ref 0]) p157_4 (Or.inl rfl) ml0 (lc1 ml0.1) (Nat.le_refl _) (Nat.le_of_ble_eq_true rfl) ?_
  refine i0 (mle M00_0 (by decide)) ?_
  refine ⟨rfl, ?_⟩
  refine r157_7.mpr ?_
  have hM1 : ∀ q k, 49 ≤ q → q < 1000000 → am_up (fiM (fiM (M00 xs) 6 192 (-1)) 13 192 (-1)) 0 5 (nI 1000000) q k = 0 := mu (mf (mf (mle M00_0 (by decide)) (by decide)) (by decide)) (by decide)
  refine nw_new (n := 49) (c := 599950) (s := 7300553) p157_8 fn9 rfl (by decide) hM1 (fA_n rfl) ?_
  simp only [Nat.reduceAdd, r157_11]
  refine nw_ini (c := 599930) (s := 7292462) (loc := [.ref 49, .long 0]) p157_12 (Or.inl rfl) ml31 (lc2 ml31.1) (by decide) (Nat.le_of_ble_eq_true rfl) ?_
  refine i31 (mle hM1 (by decide)) ?_
  refine ⟨rfl, ?_⟩
  rw [fA_RF]
  refine r157_15.mpr ?_
  simp only [r157_16, r157_17, am_cat0, am_catI, am_catR, am_catD, am_ndI, am_ndR, am_ndL, va_rfS, true_and, and_true, Option.toList_some, Option.toList_none, List.cons_append, List.nil_append, Nat.reduceAdd, Nat.reduceLeDiff, Nat.zero_add, Nat.le_refl]
  exact law_loop hsl (sl + 6) 0 (Mi xs) DD _ _ _ _ (by omega) (Nat.zero_le _) iV_0
end CN
