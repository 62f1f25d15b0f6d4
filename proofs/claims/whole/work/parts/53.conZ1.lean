/-! WHAT HOLDS BETWEEN THE CALLS, on -/
theorem drR_v {q t : Nat} (ht : t < 8) : ∀ (k s : Nat) (M : Nat → Nat → Int32), s + k = 24 → (∀ q' k', q' ≠ q + 4 → q' ≠ q + 5 → drR q t k s M q' k' = M q' k') ∧ (∀ k', ¬ (t * 24 + s ≤ k' ∧ k' < t * 24 + 24) → drR q t k s M (q + 4) k' = M (q + 4) k') ∧ (∀ k', t * 24 + s ≤ k' → k' < t * 24 + 24 → drR q t k s M (q + 4) k' = -1) ∧ (∀ k', k' ≠ t → drR q t k s M (q + 5) k' = M (q + 5) k') ∧ bVa (drR q t k s M) q t ≤ bVa M q t := by
  intro k
  induction k with
  | zero =>
    intro s M h
    exact ⟨fun _ _ _ _ => rfl, fun _ _ => rfl, fun k' h1 h2 => by omega, fun _ _ => rfl, Nat.le_refl _⟩
  | succ k ih =>
    intro s M h
    obtain ⟨i1, i2, i3, i4, i5⟩ := ih (s + 1) (smM M q t s (-1)) (by omega)
    rw [drR]
    refine ⟨fun q' k' h1 h2 => ?_, fun k' h1 => ?_, fun k' h1 h2 => ?_, fun k' h1 => ?_, Nat.le_trans i5 ?_⟩
    · rw [i1 q' k' h1 h2]; unfold smM; rw [up_q (by omega), up_q (by omega)]
    · rw [i2 k' (by omega)]; unfold smM; rw [up_q (by omega), up_k (by omega)]
    · by_cases e : k' = t * 24 + s
      · rw [i2 k' (by omega)]; unfold smM; rw [up_q (by omega), e, up_s]
      · exact i3 k' (by omega) h2
    · rw [i4 k' h1]; unfold smM; rw [up_k h1, up_q (by omega)]
    · have hb : bVa M q t < 2 ^ 32 := (M (q + 5) t).toBitVec.isLt
      have hl := andNot_le (bVa M q t) (2 ^ s)
      rw [show bVa (smM M q t s (-1)) q t = andNot (bVa M q t) (2 ^ s) from n32_of (up_s _ _ _ _) (by omega)]
      exact hl
theorem iV_drop {M : Nat → Nat → Int32} {D : Nat → Nat → UInt64} {b t : Nat} (h : iV M D) (hb : b < 2) (ht : t < 8) : iV (dmM (am_up (drR (mq b) t 24 0 (am_up M (mq b) 0 (nI (andNot (bTh M (mq b)) (2 ^ t))))) 50 (8 * b + t) (nI 0)) (8 * b + t) 24) D := by
  have hq := mq_c hb
  have hh := h
  obtain ⟨⟨b2, b9, hB⟩, -, -, -, hvD⟩ := hh
  have hWq : bW M (mq b) := mqW b2 b9
  generalize hQ : mq b = q at *
  have hth : andNot (bTh M q) (2 ^ t) < 256 := andNot_lt hWq.1
  obtain ⟨i1, i2, i3, i4, i5⟩ := drR_v (q := q) ht 24 0 (am_up M q 0 (nI (andNot (bTh M q) (2 ^ t)))) (by omega)
  generalize hN : drR q t 24 0 (am_up M q 0 (nI (andNot (bTh M q) (2 ^ t)))) = N at *
  clear hN
  generalize hM' : dmM (am_up N 50 (8 * b + t) (nI 0)) (8 * b + t) 24 = M'
  have d6 : ∀ q' k, q' ≠ 56 → M' q' k = am_up N 50 (8 * b + t) (nI 0) q' k := fun q' k z => by rw [← hM']; exact if_neg (fun w => z w.1)
  have F0 : M' q 0 = nI (andNot (bTh M q) (2 ^ t)) := by rw [d6 _ _ (by omega), up_q (by omega), i1 _ _ (by omega) (by omega), up_s]
  have F4 : ∀ k, ¬ (t * 24 ≤ k ∧ k < t * 24 + 24) → M' (q + 4) k = M (q + 4) k := fun k z => by rw [d6 _ _ (by omega), up_q (by omega), i2 k (by omega), up_q (by omega)]
  have F4v : ∀ s, s < 24 → M' (q + 4) (t * 24 + s) = -1 := fun s hs => by rw [d6 _ _ (by omega), up_q (by omega), i3 _ (by omega) (by omega)]
  have F5 : ∀ k, k ≠ t → M' (q + 5) k = M (q + 5) k := fun k z => by rw [d6 _ _ (by omega), up_q (by omega), i4 k z, up_q (by omega)]
  have F5v : bVa M' q t ≤ bVa M q t := by
    have e1 : bVa M' q t = bVa N q t := by unfold bVa; rw [d6 _ _ (by omega), up_q (by omega)]
    have e2 : bVa (am_up M q 0 (nI (andNot (bTh M q) (2 ^ t)))) q t = bVa M q t := by unfold bVa; rw [up_q (by omega)]
    rw [e1, ← e2]; exact i5
  have G0 : ∀ k, M' 50 k = if k = 8 * b + t then nI 0 else M 50 k := fun k => by
    rw [d6 _ _ (by omega), up_i]
    by_cases e : k = 8 * b + t
    · rw [if_pos e, if_pos e]
    · rw [if_neg e, if_neg e, i1 _ _ (by omega) (by omega), up_q (by omega)]
  have G6 : ∀ k, ¬ (24 * (8 * b + t) ≤ k ∧ k < 24 * (8 * b + t) + 24) → M' 56 k = M 56 k := fun k z => by
    rw [← hM']
    unfold dmM
    rw [if_neg (fun w => z w.2), up_q (by omega), i1 _ _ (by omega) (by omega), up_q (by omega)]
  have G6v : ∀ s, s < 24 → M' 56 (24 * (8 * b + t) + s) = -1 := fun s hs => by
    rw [← hM']
    exact if_pos ⟨rfl, by omega, by omega⟩
  have R : ∀ q' k, q' ≠ q → q' ≠ q + 4 → q' ≠ q + 5 → q' ≠ 56 → q' ≠ 50 → M' q' k = M q' k := fun q' k z1 z2 z3 z4 z5 => by rw [d6 _ _ z4, up_q z5, i1 _ _ z2 z3, up_q z1]
  have T0 : bTh M' q = andNot (bTh M q) (2 ^ t) := n32_of F0 (by omega)
  clear hM' d6 i1 i2 i3 i4 i5
  have W : bW M' q := by
    obtain ⟨w1, w2, w3⟩ := hWq
    refine ⟨by rw [T0]; exact hth, fun t' ht' => ?_, fun k hk => ?_⟩
    · obtain ⟨z1, z2, z3, z4⟩ := w2 t' ht'
      have x1 : bPk M' q t' = bPk M q t' := by unfold bPk; rw [R _ _ (by omega) (by omega) (by omega) (by omega) (by omega)]
      have x2 : bFl M' q t' = bFl M q t' := by unfold bFl; rw [R _ _ (by omega) (by omega) (by omega) (by omega) (by omega)]
      have x3 : bUp M' q t' = bUp M q t' := by unfold bUp; rw [R _ _ (by omega) (by omega) (by omega) (by omega) (by omega)]
      rw [x1, x2, x3]
      refine ⟨z1, z2, z3, ?_⟩
      by_cases e : t' = t
      · subst e; omega
      · rw [show bVa M' q t' = bVa M q t' by unfold bVa; rw [F5 _ e]]
        exact z4
    · by_cases e : t * 24 ≤ k ∧ k < t * 24 + 24
      · have := F4v (k - t * 24) (by omega)
        rw [show t * 24 + (k - t * 24) = k by omega] at this
        exact Or.inl this
      · rw [F4 k e]; exact w3 k hk
  have Wo : ∀ q', (q' = 2 ∨ q' = 9) → bW M q' → bW M' q' := fun q' h1 h2 => by
    by_cases e : q' = q
    · rw [e]; exact W
    · exact bW_fr (R _ _ (by omega) (by omega) (by omega) (by omega) (by omega)) (fun j k _ _ _ _ => R _ _ (by omega) (by omega) (by omega) (by omega) (by omega)) h2
  refine iV_b h (fun q' k z => R _ _ (by omega) (by omega) (by omega) (by omega) (by omega)) (Wo 2 (Or.inl rfl) b2) (Wo 9 (Or.inr rfl) b9) (fun b' hb' t' ht' => ?_) hvD
  have hq' := mq_c hb'
  have hO := hB b' hb' t' ht'
  by_cases e : b' = b ∧ t' = t
  · obtain ⟨rfl, rfl⟩ := e
    rw [hQ] at hq'
    unfold mBt at hO ⊢
    rw [hQ] at hO ⊢
    have tT : ¬ (bTh M' q).testBit t' = true := by rw [T0, an_p2 (by omega)]; simp
    have x1 : bPk M' q t' = bPk M q t' := by unfold bPk; rw [R _ _ (by omega) (by omega) (by omega) (by omega) (by omega)]
    have x2 : bFl M' q t' = bFl M q t' := by unfold bFl; rw [R _ _ (by omega) (by omega) (by omega) (by omega) (by omega)]
    obtain ⟨o1, o2, o3, o4, o5, o6, o7⟩ := hO
    refine ⟨by rw [G0, if_pos rfl, bN_f tT], ?_, ?_, fun z => absurd z tT, fun s hs => by rw [G6v s hs, F4v s hs], fun s hs hh => absurd (F4v s (by omega)) hh, o7⟩
    · rw [R _ _ (by omega) (by omega) (by omega) (by omega) (by omega), x1]; exact o2
    · rw [R _ _ (by omega) (by omega) (by omega) (by omega) (by omega), x2]; exact o3
  · have hne : 8 * b' + t' ≠ 8 * b + t := by omega
    refine mBt_fr hO ?_ (R _ _ (by omega) (by omega) (by omega) (by omega) (by omega)) (R _ _ (by omega) (by omega) (by omega) (by omega) (by omega)) (R _ _ (by omega) (by omega) (by omega) (by omega) (by omega)) (fun s hs => ?_) ?_ (fun _ _ => rfl) (by rw [G0, if_neg hne]) (fun s hs => R _ _ (by omega) (by omega) (by omega) (by omega) (by omega)) (R _ _ (by omega) (by omega) (by omega) (by omega) (by omega)) (R _ _ (by omega) (by omega) (by omega) (by omega) (by omega)) (R _ _ (by omega) (by omega) (by omega) (by omega) (by omega)) (R _ _ (by omega) (by omega) (by omega) (by omega) (by omega)) (fun s hs => G6 _ (by omega)) (fun _ _ => rfl)
    · by_cases e2 : b' = b
      · subst e2
        have e3 : ¬ t = t' := fun z => e ⟨rfl, z.symm⟩
        rw [hQ, T0, an_p2 (by omega), decide_eq_false e3]
        simp
      · unfold bTh
        rw [R _ _ (by omega) (by omega) (by omega) (by omega) (by omega)]
    · by_cases e2 : b' = b
      · subst e2
        rw [hQ, F4 _ (by omega)]
      · exact R _ _ (by omega) (by omega) (by omega) (by omega) (by omega)
    · by_cases e2 : b' = b
      · subst e2
        rw [hQ, F5 _ (by omega)]
      · exact R _ _ (by omega) (by omega) (by omega) (by omega) (by omega)
/-- constant -/
theorem iV_const {M : Nat → Nat → Int32} {D : Nat → Nat → UInt64} {b t s : Nat} {v : UInt64} (h : iV M D) (hb : b < 2) (ht : t < 8) (hs : s < 12) (hvF : vF v) : iV (am_up (scM M (mq b) t s) 51 (12 * (8 * b + t) + s) (nI 1)) (am_up (am_up D (mq b + 6) (t * 12 + s) v) 57 (12 * (8 * b + t) + s) v) := by
  have hq := mq_c hb
  have hh := h
  obtain ⟨⟨b2, b9, hB⟩, -, -, -, hvD⟩ := hh
  have hWq : bW M (mq b) := mqW b2 b9
  generalize hQ : mq b = q at *
  have hva : bVa M q t ||| 2 ^ s < 16777216 := Nat.or_lt_two_pow (n := 24) (hWq.2.1 t ht).2.2.2 (Nat.pow_lt_pow_right (by omega) (by omega))
  generalize hM' : am_up (scM M q t s) 51 (12 * (8 * b + t) + s) (nI 1) = M'
  generalize hD' : am_up (am_up D (q + 6) (t * 12 + s) v) 57 (12 * (8 * b + t) + s) v = D'
  have F5 : ∀ k, M' (q + 5) k = if k = t then nI (bVa M q t ||| 2 ^ s) else M (q + 5) k := fun k => by rw [← hM']; simp (disch := omega) only [scM, up_q, up_i]
  have G1 : ∀ k, M' 51 k = if k = 12 * (8 * b + t) + s then nI 1 else M 51 k := fun k => by rw [← hM']; simp (disch := omega) only [scM, up_q, up_i]
  have R : ∀ q' k, q' ≠ q + 5 → q' ≠ 51 → M' q' k = M q' k := fun q' k z1 z2 => by rw [← hM']; simp (disch := omega) only [scM, up_q]
  have E6 : ∀ k, D' (q + 6) k = if k = t * 12 + s then v else D (q + 6) k := fun k => by rw [← hD']; simp (disch := omega) only [up_q, up_i]
  have E7 : ∀ k, D' 57 k = if k = 12 * (8 * b + t) + s then v else D 57 k := fun k => by rw [← hD']; simp (disch := omega) only [up_q, up_i]
  have ER : ∀ q' k, q' ≠ q + 6 → q' ≠ 57 → D' q' k = D q' k := fun q' k z1 z2 => by rw [← hD']; simp (disch := omega) only [up_q]
  clear hM' hD'
  have W : bW M' q := by
    obtain ⟨w1, w2, w3⟩ := hWq
    refine ⟨by unfold bTh at w1 ⊢; rw [R _ _ (by omega) (by omega)]; exact w1, fun t' ht' => ?_, fun k hk => by rw [R _ _ (by omega) (by omega)]; exact w3 k hk⟩
    obtain ⟨z1, z2, z3, z4⟩ := w2 t' ht'
    have x1 : bPk M' q t' = bPk M q t' := by unfold bPk; rw [R _ _ (by omega) (by omega)]
    have x2 : bFl M' q t' = bFl M q t' := by unfold bFl; rw [R _ _ (by omega) (by omega)]
    have x3 : bUp M' q t' = bUp M q t' := by unfold bUp; rw [R _ _ (by omega) (by omega)]
    rw [x1, x2, x3]
    refine ⟨z1, z2, z3, ?_⟩
    by_cases e : t' = t
    · rw [show bVa M' q t' = bVa M q t ||| 2 ^ s from n32_of (by rw [F5, if_pos e]) (by omega)]
      exact hva
    · rw [show bVa M' q t' = bVa M q t' by unfold bVa; rw [F5, if_neg e]]
      exact z4
  have Wo : ∀ q', (q' = 2 ∨ q' = 9) → bW M q' → bW M' q' := fun q' h1 h2 => by
    by_cases e : q' = q
    · rw [e]; exact W
    · exact bW_fr (R _ _ (by omega) (by omega)) (fun j k _ _ _ _ => R _ _ (by omega) (by omega)) h2
  refine iV_b h (fun q' k z => R _ _ (by omega) (by omega)) (Wo 2 (Or.inl rfl) b2) (Wo 9 (Or.inr rfl) b9) (fun b' hb' t' ht' => ?_) (fun k hk => ?_)
  · have hq' := mq_c hb'
    have hO := hB b' hb' t' ht'
    by_cases e : b' = b ∧ t' = t
    · obtain ⟨rfl, rfl⟩ := e
      rw [hQ] at hq'
      have xT : bTh M' q = bTh M q := by unfold bTh; rw [R _ _ (by omega) (by omega)]
      have x1 : bPk M' q t' = bPk M q t' := by unfold bPk; rw [R _ _ (by omega) (by omega)]
      have x2 : bFl M' q t' = bFl M q t' := by unfold bFl; rw [R _ _ (by omega) (by omega)]
      have x3 : bUp M' q t' = bUp M q t' := by unfold bUp; rw [R _ _ (by omega) (by omega)]
      have x4 : bVa M' q t' = bVa M q t' ||| 2 ^ s := n32_of (by rw [F5, if_pos rfl]) (by omega)
      unfold mBt at hO ⊢
      rw [hQ] at hO ⊢
      obtain ⟨o1, o2, o3, o4, o5, o6, o7⟩ := hO
      refine ⟨?_, ?_, ?_, fun z => ?_, fun s' hs' => by rw [R _ _ (by omega) (by omega), R _ _ (by omega) (by omega)]; exact o5 s' hs', fun s' hs' hh => ?_, fun s' hs' => ?_⟩
      · rw [R _ _ (by omega) (by omega), xT]; exact o1
      · rw [R _ _ (by omega) (by omega), x1]; exact o2
      · rw [R _ _ (by omega) (by omega), x2]; exact o3
      · rw [xT] at z
        have o := o4 z
        unfold upOk at o ⊢
        rw [R _ _ (by omega) (by omega), R _ _ (by omega) (by omega), hQ, x3]
        rw [hQ] at o
        exact o
      · unfold bHas at hh
        rw [R _ _ (by omega) (by omega)] at hh
        rw [G1, x4]
        by_cases e2 : s' = s
        · subst e2
          rw [if_pos rfl, bN_t]
          rw [or_p2]; simp
        · rw [if_neg (by omega), o6 s' hs' hh]
          refine bN_c ?_
          rw [or_p2, decide_eq_false (fun z : s = s' => e2 z.symm), Bool.or_false]
      · rw [E7, E6]
        by_cases e2 : s' = s
        · rw [if_pos (by omega), if_pos (by omega)]
        · rw [if_neg (by omega), if_neg (by omega)]; exact o7 s' hs'
    · refine mBt_fr hO ?_ (R _ _ (by omega) (by omega)) (R _ _ (by omega) (by omega)) (R _ _ (by omega) (by omega)) (fun s' hs' => R _ _ (by omega) (by omega)) ?_ (fun s' hs' => ?_) (R _ _ (by omega) (by omega)) (fun s' hs' => by rw [G1, if_neg (by omega)]) (R _ _ (by omega) (by omega)) (R _ _ (by omega) (by omega)) (R _ _ (by omega) (by omega)) (R _ _ (by omega) (by omega)) (fun s' hs' => R _ _ (by omega) (by omega)) (fun s' hs' => by rw [E7, if_neg (by omega)])
      · unfold bTh
        rw [R _ _ (by omega) (by omega)]
      · by_cases e2 : b' = b
        · subst e2
          rw [hQ, F5, if_neg (by omega)]
        · exact R _ _ (by omega) (by omega)
      · by_cases e2 : b' = b
        · subst e2
          rw [hQ, E6, if_neg (by omega)]
        · exact ER _ _ (by omega) (by omega)
  · have key : ∀ q', (q' = 8 ∨ q' = 15) → vF (D q' k) → vF (D' q' k) := fun q' h1 h2 => by
      by_cases e : q' = q + 6
      · rw [e, E6]
        by_cases e2 : k = t * 12 + s
        · rw [if_pos e2]; exact hvF
        · rw [if_neg e2, ← e]; exact h2
      · rw [ER _ _ e (by omega)]; exact h2
    exact ⟨key 8 (Or.inl rfl) (hvD k hk).1, key 15 (Or.inr rfl) (hvD k hk).2⟩
theorem cpy0 {α : Type} {M : Nat → Nat → α} {q0 q1 n k : Nat} (h : k < n) : am_cpy M q0 q1 0 0 n q1 k = M q0 k := by
  unfold am_cpy am_row va_cpy
  rw [if_pos rfl, if_pos ⟨Nat.zero_le _, by omega⟩]
  congr 1
  omega
theorem cpyn {α : Type} {M : Nat → Nat → α} {q0 q1 n q k : Nat} (h : q ≠ q1) : am_cpy M q0 q1 0 0 n q k = M q k := by
  unfold am_cpy am_row
  rw [if_neg h]
theorem beM_n {M : Nat → Nat → Int32} {q k : Nat} (h : ¬ (9 ≤ q ∧ q ≤ 14)) : beM M q k = M q k := by
  unfold beM
  rw [cpyn (by omega), cpyn (by omega), cpyn (by omega), cpyn (by omega), cpyn (by omega), up_q (by omega)]
theorem beM_0 {M : Nat → Nat → Int32} : beM M 9 0 = M 2 0 := by
  unfold beM
  rw [cpyn (by omega), cpyn (by omega), cpyn (by omega), cpyn (by omega), cpyn (by omega), up_s]
theorem beM_1 {M : Nat → Nat → Int32} {k : Nat} (h : k < 8) : beM M 10 k = M 3 k := by
  unfold beM
  rw [cpyn (by omega), cpyn (by omega), cpyn (by omega), cpyn (by omega), cpy0 h, up_q (by omega)]
theorem beM_2 {M : Nat → Nat → Int32} {k : Nat} (h : k < 8) : beM M 11 k = M 4 k := by
  unfold beM
  rw [cpyn (by omega), cpyn (by omega), cpyn (by omega), cpy0 h, cpyn (by omega), up_q (by omega)]
theorem beM_3 {M : Nat → Nat → Int32} {k : Nat} (h : k < 8) : beM M 12 k = M 5 k := by
  unfold beM
  rw [cpyn (by omega), cpyn (by omega), cpy0 h, cpyn (by omega), cpyn (by omega), up_q (by omega)]
theorem beM_4 {M : Nat → Nat → Int32} {k : Nat} (h : k < 192) : beM M 13 k = M 6 k := by
  unfold beM
  rw [cpyn (by omega), cpy0 h, cpyn (by omega), cpyn (by omega), cpyn (by omega), up_q (by omega)]
theorem beM_5 {M : Nat → Nat → Int32} {k : Nat} (h : k < 8) : beM M 14 k = M 7 k := by
  unfold beM
  rw [cpy0 h, cpyn (by omega), cpyn (by omega), cpyn (by omega), cpyn (by omega), up_q (by omega)]
theorem iV_branch {M : Nat → Nat → Int32} {D : Nat → Nat → UInt64} (h : iV M D) : iV (b3M (b2M (b1M (beM M) 8) 192) 96) (b3D (am_cpy D 8 15 0 0 96) 96) := by
  have hh := h
  obtain ⟨⟨b2, b9, hB⟩, -, -, -, hvD⟩ := hh
  generalize hM' : b3M (b2M (b1M (beM M) 8) 192) 96 = M'
  generalize hD' : b3D (am_cpy D 8 15 0 0 96) 96 = D'
  have R : ∀ q k, ¬ (9 ≤ q ∧ q ≤ 14) → ¬ (50 ≤ q ∧ q ≤ 56) → M' q k = M q k := fun q k z1 z2 => by
    rw [← hM']
    unfold b3M b2M b1M
    rw [if_neg (by omega), if_neg (by omega), if_neg (by omega)]
    exact beM_n z1
  have Rc : ∀ q k, (9 ≤ q ∧ q ≤ 14) → M' q k = beM M q k := fun q k z1 => by
    rw [← hM']
    unfold b3M b2M b1M
    rw [if_neg (by omega), if_neg (by omega), if_neg (by omega)]
  have R8 : ∀ q k, (q = 50 ∨ q = 52 ∨ q = 53 ∨ q = 54 ∨ q = 55) → k < 8 → M' q k = M q k := fun q k z1 z2 => by
    rw [← hM']
    unfold b3M b2M b1M
    rw [if_neg (by omega), if_neg (by omega), if_neg (by omega)]
    exact beM_n (by omega)
  have N8 : ∀ q k, (q = 52 ∨ q = 53 ∨ q = 54 ∨ q = 55) → k < 8 → M' q (8 + k) = M q k := fun q k z1 z2 => by
    rw [← hM']
    unfold b3M b2M b1M
    rw [if_neg (by omega), if_neg (by omega), if_pos ⟨by omega, by omega, by omega⟩, if_neg (by omega), Nat.add_sub_cancel_left]
    exact beM_n (by omega)
  have N50 : ∀ k, k < 8 → M' 50 (8 + k) = vp_nar .boolean (M 50 k) := fun k z2 => by
    rw [← hM']
    unfold b3M b2M b1M
    rw [if_neg (by omega), if_neg (by omega), if_pos ⟨by omega, by omega, by omega⟩, if_pos rfl, Nat.add_sub_cancel_left, beM_n (by omega)]
  have R56 : ∀ k, k < 192 → M' 56 k = M 56 k := fun k z => by
    rw [← hM']
    unfold b3M b2M b1M
    rw [if_neg (by omega), if_neg (by omega), if_neg (by omega)]
    exact beM_n (by omega)
  have N56 : ∀ k, k < 192 → M' 56 (192 + k) = M 56 k := fun k z => by
    rw [← hM']
    unfold b3M b2M b1M
    rw [if_neg (by omega), if_pos ⟨rfl, by omega, by omega⟩, Nat.add_sub_cancel_left, if_neg (by omega)]
    exact beM_n (by omega)
  have R51 : ∀ k, k < 96 → M' 51 k = M 51 k := fun k z => by
    rw [← hM']
    unfold b3M b2M b1M
    rw [if_neg (by omega), if_neg (by omega), if_neg (by omega)]
    exact beM_n (by omega)
  have N51 : ∀ k, k < 96 → M' 51 (96 + k) = vp_nar .boolean (M 51 k) := fun k z => by
    rw [← hM']
    unfold b3M b2M b1M
    rw [if_pos ⟨rfl, by omega, by omega⟩, Nat.add_sub_cancel_left, if_neg (by omega), if_neg (by omega), beM_n (by omega)]
  have S8 : ∀ k, D' 8 k = D 8 k := fun k => by
    rw [← hD']
    unfold b3D
    rw [if_neg (by omega), cpyn (by omega)]
  have S15 : ∀ k, k < 96 → D' 15 k = D 8 k := fun k z => by
    rw [← hD']
    unfold b3D
    rw [if_neg (by omega), cpy0 z]
  have S57 : ∀ k, k < 96 → D' 57 k = D 57 k := fun k z => by
    rw [← hD']
    unfold b3D
    rw [if_neg (by omega), cpyn (by omega)]
  have N57 : ∀ k, k < 96 → D' 57 (96 + k) = D 57 k := fun k z => by
    rw [← hD']
    unfold b3D
    rw [if_pos ⟨rfl, by omega, by omega⟩, Nat.add_sub_cancel_left, cpyn (by omega)]
  clear hM' hD'
  have Th9 : bTh M' 9 = bTh M 2 := by unfold bTh; rw [Rc _ _ (by omega), beM_0]
  have Pk9 : ∀ t, t < 8 → bPk M' 9 t = bPk M 2 t := fun t ht => by unfold bPk; rw [Rc _ _ (by omega), beM_1 ht]
  have Fl9 : ∀ t, t < 8 → bFl M' 9 t = bFl M 2 t := fun t ht => by unfold bFl; rw [Rc _ _ (by omega), beM_2 ht]
  have Up9 : ∀ t, t < 8 → bUp M' 9 t = bUp M 2 t := fun t ht => by unfold bUp; rw [Rc _ _ (by omega), beM_3 ht]
  have Va9 : ∀ t, t < 8 → bVa M' 9 t = bVa M 2 t := fun t ht => by unfold bVa; rw [Rc _ _ (by omega), beM_5 ht]
  have Mo9 : ∀ k, k < 192 → M' 13 k = M 6 k := fun k hk => by rw [Rc _ _ (by omega), beM_4 hk]
  refine iV_b h (fun q k z => R _ _ (by omega) (by omega)) (bW_fr (R _ _ (by omega) (by omega)) (fun j k _ _ _ _ => R _ _ (by omega) (by omega)) b2) ⟨by rw [Th9]; exact b2.1, fun t ht => by rw [Pk9 t ht, Fl9 t ht, Up9 t ht, Va9 t ht]; exact b2.2.1 t ht, fun k hk => by rw [Mo9 k hk]; exact b2.2.2 k hk⟩ (fun b hb t ht => ?_) (fun k hk => ?_)
  · have h0 := hB 0 (by decide) t ht
    rcases mq_c hb with ⟨rfl, -⟩ | ⟨rfl, -⟩
    · refine mBt_fr h0 ?_ (R _ _ (by unfold mq; simp) (by unfold mq; simp)) (R _ _ (by unfold mq; simp) (by unfold mq; simp)) (R _ _ (by unfold mq; simp) (by unfold mq; simp)) (fun s hs => R _ _ (by unfold mq; simp) (by unfold mq; simp)) (R _ _ (by unfold mq; simp) (by unfold mq; simp)) (fun s hs => S8 _) (R8 _ _ (by omega) (by omega)) (fun s hs => R51 _ (by omega)) (R8 _ _ (by omega) (by omega)) (R8 _ _ (by omega) (by omega)) (R8 _ _ (by omega) (by omega)) (R8 _ _ (by omega) (by omega)) (fun s hs => R56 _ (by omega)) (fun s hs => S57 _ (by omega))
      unfold bTh
      rw [R _ _ (by unfold mq; simp) (by unfold mq; simp)]
    · have e0 : mq 0 = 2 := rfl
      have e1 : mq 1 = 9 := rfl
      unfold mBt at h0 ⊢
      rw [e0, show 8 * 0 + t = t by omega] at h0
      rw [e1, show 8 * 1 + t = 8 + t by omega, Th9, Pk9 t ht, Fl9 t ht, Va9 t ht]
      obtain ⟨o1, o2, o3, o4, o5, o6, o7⟩ := h0
      refine ⟨?_, ?_, ?_, fun z => ?_, fun s hs => ?_, fun s hs hh => ?_, fun s hs => ?_⟩
      · rw [N50 t ht, o1, nar_b]
      · rw [N8 _ _ (by omega) ht]; exact o2
      · rw [N8 _ _ (by omega) ht]; exact o3
      · have o := o4 z
        unfold upOk at o ⊢
        rw [e1, show 8 * 1 + t = 8 + t by omega, N8 _ _ (by omega) ht, N8 _ _ (by omega) ht, Up9 t ht]
        rw [e0, show 8 * 0 + t = t by omega] at o
        exact o
      · rw [show 24 * (8 + t) + s = 192 + (24 * t + s) by omega, N56 _ (by omega), show (9 : Nat) + 4 = 13 from rfl, Mo9 _ (by omega)]
        exact o5 s hs
      · unfold bHas at hh
        rw [show (9 : Nat) + 4 = 13 from rfl, Mo9 _ (by omega)] at hh
        rw [show 12 * (8 + t) + s = 96 + (12 * t + s) by omega, N51 _ (by omega), o6 s hs hh, nar_b]
      · rw [show 12 * (8 + t) + s = 96 + (12 * t + s) by omega, N57 _ (by omega), show (9 : Nat) + 6 = 15 from rfl, S15 _ (by omega)]
        exact o7 s hs
  · rw [S8, S15 k hk]
    exact ⟨(hvD k hk).1, (hvD k hk).1⟩
/-- the builds are as they were -/
theorem iV_q {M M' : Nat → Nat → Int32} {D : Nat → Nat → UInt64} (h : iV M D) (hs : ∀ q k, (2 ≤ q ∧ q ≤ 15 ∨ 50 ≤ q ∧ q ≤ 56) → M' q k = M q k) (hR : iR M') (hP : iP M') (hS : iS M') : iV M' D := by
  obtain ⟨⟨b2, b9, hB⟩, -, -, -, hv⟩ := h
  refine ⟨⟨bW_fr (hs _ _ (by omega)) (fun j k _ _ _ _ => hs _ _ (by omega)) b2, bW_fr (hs _ _ (by omega)) (fun j k _ _ _ _ => hs _ _ (by omega)) b9, fun b hb t ht => ?_⟩, hR, hP, hS, hv⟩
  have hq := mq_c hb
  refine mBt_fr (hB b hb t ht) ?_ (hs _ _ (by omega)) (hs _ _ (by omega)) (hs _ _ (by omega)) (fun s hs' => hs _ _ (by omega)) (hs _ _ (by omega)) (fun _ _ => rfl) (hs _ _ (by omega)) (fun s hs' => hs _ _ (by omega)) (hs _ _ (by omega)) (hs _ _ (by omega)) (hs _ _ (by omega)) (hs _ _ (by omega)) (fun s hs' => hs _ _ (by omega)) (fun _ _ => rfl)
  unfold bTh
  rw [hs _ _ (by omega)]
theorem iP_fr2 {M M' : Nat → Nat → Int32} (h : ∀ q k, (q = 18 ∨ q = 19 ∨ 58 ≤ q ∧ q ≤ 59) → M' q k = M q k) (hr : iP M) : iP M' := by
  obtain ⟨pt, ⟨k1, k2, k3, k4⟩, p2, p3, p4⟩ := hr
  refine ⟨pt, ⟨by rw [h _ _ (by omega)]; exact k1, k2, fun i hi => by rw [h _ _ (by omega)]; exact k3 i hi, k4⟩, fun i hi => ?_, by rw [h _ _ (by omega)]; exact p3, fun i hi => by rw [h _ _ (by omega)]; exact p4 i hi⟩
  rw [h _ _ (by omega)]; exact p2 i hi
theorem iV_version {M : Nat → Nat → Int32} {D : Nat → Nat → UInt64} {a b c : Nat} (h : iV M D) (ha : a < 1000) (hb : b < 1000) (hc : c < 1000) : iV (am_up (am_up (am_up (am_up M 0 5 (nI (a * 1000000 + b * 1000 + c))) 49 14 (nI a)) 49 15 (nI b)) 49 16 (nI c)) D := by
  have hh := h
  obtain ⟨-, hR, hP, -, -⟩ := hh
  have R : ∀ q k, q ≠ 0 → ¬ (q = 49 ∧ 14 ≤ k ∧ k ≤ 16) → am_up (am_up (am_up (am_up M 0 5 (nI (a * 1000000 + b * 1000 + c))) 49 14 (nI a)) 49 15 (nI b)) 49 16 (nI c) q k = M q k := fun q k z1 z2 => by
    rw [up_n (by omega), up_n (by omega), up_n (by omega), up_n (by omega)]
  refine iV_q h (fun q k z => R _ _ (by omega) (by omega)) ?_ (iP_fr2 (fun q k z => ?_) hP) ?_
  · obtain ⟨n, P, ⟨r1, r2, r3⟩, m1, m2⟩ := hR
    refine ⟨n, P, ⟨by rw [R _ _ (by omega) (by omega)]; exact r1, r2, fun i hi => ?_⟩, by rw [R _ _ (by omega) (by omega)]; exact m1, fun i hi => ?_⟩
    · obtain ⟨⟨k1, k2, k3, k4⟩, w, k5, k6⟩ := r3 i hi
      refine ⟨⟨by rw [R _ _ (by omega) (by omega)]; exact k1, k2, fun j hj => by rw [R _ _ (by omega) (by omega)]; exact k3 j hj, k4⟩, w, k5, by rw [R _ _ (by omega) (by omega)]; exact k6⟩
    · obtain ⟨a1, a2, a3, a4, a5⟩ := m2 i hi
      refine ⟨by rw [R _ _ (by omega) (by omega)]; exact a1, fun j hj => by rw [R _ _ (by omega) (by omega)]; exact a2 j hj, ?_, ?_, ?_⟩
      · rw [R _ _ (by omega) (by omega), R _ _ (by omega) (by omega)]; exact a3
      · rw [R _ _ (by omega) (by omega), R _ _ (by omega) (by omega)]; exact a4
      · rw [R _ _ (by omega) (by omega), R _ _ (by omega) (by omega)]; exact a5
  · exact R _ _ (by omega) (by omega)
  · refine ⟨a, b, c, ⟨?_, ?_, up_s _ _ _ _, ha, hb, hc⟩, ?_⟩
    · rw [up_k (by decide), up_k (by decide), up_s]
    · rw [up_k (by decide), up_s]
    · rw [up_q (by decide), up_q (by decide), up_q (by decide), up_s]
