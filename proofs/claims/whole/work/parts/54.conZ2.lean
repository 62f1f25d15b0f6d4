/-! LETTER, RULE, CLEAR -/
theorem iR_fr2 {M M' : Nat → Nat → Int32} (h : ∀ q k, (20 ≤ q ∧ q ≤ 45 ∨ q = 49 ∧ k = 13 ∨ q = 58 ∧ k < 96 ∨ q = 59 ∧ k < 8 ∨ 60 ≤ q ∧ q ≤ 62) → M' q k = M q k) (hr : iR M) : iR M' := by
  obtain ⟨n, P, ⟨r1, r2, r3⟩, m1, m2⟩ := hr
  refine ⟨n, P, ⟨by rw [h _ _ (by omega)]; exact r1, r2, fun i hi => ?_⟩, by rw [h _ _ (by omega)]; exact m1, fun i hi => ?_⟩
  · obtain ⟨⟨k1, k2, k3, k4⟩, w, k5, k6⟩ := r3 i hi
    refine ⟨⟨by rw [h _ _ (by omega)]; exact k1, k2, fun j hj => by rw [h _ _ (by omega)]; exact k3 j hj, k4⟩, w, k5, by rw [h _ _ (by omega)]; exact k6⟩
  · obtain ⟨⟨k1, k2, k3, k4⟩, w, k5, k6⟩ := r3 i hi
    obtain ⟨a1, a2, a3, a4, a5⟩ := m2 i hi
    refine ⟨by rw [h _ _ (by omega)]; exact a1, fun j hj => by rw [h _ _ (by omega)]; exact a2 j hj, ?_, ?_, ?_⟩
    · rw [h _ _ (by omega), h _ _ (by omega)]; exact a3
    · rw [h _ _ (by omega), h _ _ (by omega)]; exact a4
    · rw [h _ _ (by omega), h _ _ (by omega)]; exact a5
theorem getD_ap {l : List Nat} {c i : Nat} (h : i < l.length + 1) : (l ++ [c]).getD i 0 = if i = l.length then c else l.getD i 0 := by
  by_cases e : i = l.length
  · rw [if_pos e, List.getD_eq_getElem?_getD, e, List.getElem?_append_right (Nat.le_refl _), Nat.sub_self]
    rfl
  · rw [if_neg e, List.getD_eq_getElem?_getD, List.getElem?_append_left (by omega), List.getD_eq_getElem?_getD]
theorem iV_letter {M : Nat → Nat → Int32} {D : Nat → Nat → UInt64} {pt : List Nat} {c : Nat} (h : iV M D) (hp : ptIs M 18 pt ∧ ptW M 18 ∧ M 59 8 = nI pt.length ∧ ∀ i, i < pt.length → M 58 (96 + i) = nI (pt.getD i 0)) (hl : pt.length < 12) (hc : c < 128) : iV (am_up (am_up (am_up (am_up M 19 pt.length (nI c)) 18 1 (nI (pt.length + 1))) 58 (96 + pt.length) (nI c)) 59 8 (nI (pt.length + 1))) D := by
  have hh := h
  obtain ⟨-, hR, -, hS, -⟩ := hh
  obtain ⟨⟨k1, k2, k3, k4⟩, p2, p3, p4⟩ := hp
  generalize hM' : am_up (am_up (am_up (am_up M 19 pt.length (nI c)) 18 1 (nI (pt.length + 1))) 58 (96 + pt.length) (nI c)) 59 8 (nI (pt.length + 1)) = M'
  have G19 : ∀ k, M' 19 k = if k = pt.length then nI c else M 19 k := fun k => by rw [← hM']; simp (disch := omega) only [up_q, up_i]
  have G18 : M' 18 1 = nI (pt.length + 1) := by rw [← hM']; simp (disch := omega) only [up_q, up_s]
  have G58 : ∀ k, M' 58 k = if k = 96 + pt.length then nI c else M 58 k := fun k => by rw [← hM']; simp (disch := omega) only [up_q, up_i]
  have G59 : ∀ k, M' 59 k = if k = 8 then nI (pt.length + 1) else M 59 k := fun k => by rw [← hM']; simp (disch := omega) only [up_q, up_i]
  have R : ∀ q k, q ≠ 18 → q ≠ 19 → q ≠ 58 → q ≠ 59 → M' q k = M q k := fun q k a b c d => by rw [← hM']; simp (disch := omega) only [up_q]
  clear hM'
  refine iV_q h (fun q k z => R _ _ (by omega) (by omega) (by omega) (by omega)) (iR_fr2 (fun q k z => ?_) hR) ⟨pt ++ [c], ⟨?_, ?_, fun i hi => ?_, fun i hi => ?_⟩, fun i hi => ?_, ?_, fun i hi => ?_⟩ (iS_fr (fun q k z => R _ _ (by omega) (by omega) (by omega) (by omega)) hS)
  · by_cases e : q = 58
    · subst e; rw [G58, if_neg (by omega)]
    · by_cases e2 : q = 59
      · subst e2; rw [G59, if_neg (by omega)]
      · exact R _ _ (by omega) (by omega) e e2
  · rw [G18, List.length_append, List.length_singleton]
  · rw [List.length_append, List.length_singleton]; omega
  · rw [List.length_append, List.length_singleton] at hi
    rw [G19, getD_ap hi]
    by_cases e : i = pt.length
    · rw [if_pos e, if_pos e]
    · rw [if_neg e, if_neg e]; exact k3 i (by omega)
  · rw [List.length_append, List.length_singleton] at hi
    rw [getD_ap hi]
    by_cases e : i = pt.length
    · rw [if_pos e]; exact hc
    · rw [if_neg e]; exact k4 i (by omega)
  · rw [G19]
    by_cases e : i = pt.length
    · rw [if_pos e]; exact ⟨c, by omega, rfl⟩
    · rw [if_neg e]; exact p2 i hi
  · rw [G59, if_pos rfl, List.length_append, List.length_singleton]
  · rw [List.length_append, List.length_singleton] at hi
    rw [G58, getD_ap hi]
    by_cases e : i = pt.length
    · rw [if_pos (by omega), if_pos e]
    · rw [if_neg (by omega), if_neg e]; exact p4 i (by omega)
theorem iP_0 {M : Nat → Nat → Int32} (h1 : M 18 1 = nI 0) (h2 : ptW M 18) (h3 : M 59 8 = nI 0) : iP M := ⟨[], ⟨h1, by decide, fun i hi => absurd hi (Nat.not_lt_zero _), fun i hi => absurd hi (Nat.not_lt_zero _)⟩, h2, h3, fun i hi => absurd hi (Nat.not_lt_zero _)⟩
theorem iV_clear {M : Nat → Nat → Int32} {D : Nat → Nat → UInt64} (h : iV M D) : iV (am_up (am_up (am_up (am_up M 20 1 (nI 0)) 18 1 (nI 0)) 49 13 (nI 0)) 59 8 (nI 0)) D := by
  have hh := h
  obtain ⟨-, -, ⟨pt, -, p2, -⟩, ⟨f, g, h', ⟨v1, v2, v3, v4⟩, v5⟩, -⟩ := hh
  generalize hM' : am_up (am_up (am_up (am_up M 20 1 (nI 0)) 18 1 (nI 0)) 49 13 (nI 0)) 59 8 (nI 0) = M'
  have G18 : M' 18 1 = nI 0 := by rw [← hM']; simp (disch := omega) only [up_q, up_s]
  have G20 : M' 20 1 = nI 0 := by rw [← hM']; simp (disch := omega) only [up_q, up_s]
  have G59 : M' 59 8 = nI 0 := by rw [← hM']; simp (disch := omega) only [up_q, up_s]
  have G49 : ∀ k, M' 49 k = if k = 13 then nI 0 else M 49 k := fun k => by rw [← hM']; simp (disch := omega) only [up_q, up_i]
  have R : ∀ q k, q ≠ 18 → q ≠ 20 → q ≠ 49 → q ≠ 59 → M' q k = M q k := fun q k a b c d => by rw [← hM']; simp (disch := omega) only [up_q]
  clear hM'
  refine iV_q h (fun q k z => R _ _ (by omega) (by omega) (by omega) (by omega)) ⟨0, fun _ => [], ⟨G20, by decide, fun i hi => absurd hi (Nat.not_lt_zero _)⟩, by rw [G49, if_pos rfl], fun i hi => absurd hi (Nat.not_lt_zero _)⟩ (iP_0 G18 (fun i hi => ?_) G59) ⟨f, g, h', ⟨?_, ?_, ?_, v4⟩, ?_⟩
  · rw [R _ _ (by omega) (by omega) (by omega) (by omega)]; exact p2 i hi
  · rw [G49, if_neg (by omega)]; exact v1
  · rw [G49, if_neg (by omega)]; exact v2
  · rw [G49, if_neg (by omega)]; exact v3
  · rw [R _ _ (by omega) (by omega) (by omega) (by omega)]; exact v5
theorem iV_rule {M : Nat → Nat → Int32} {D : Nat → Nat → UInt64} {n : Nat} {P : Nat → List Nat} {pt : List Nat} {lo hi we : Int32} {w : Nat} (h : iV M D) (hr : rlW M P n) (hm : mRl M M P n) (hp : ptIs M 18 pt ∧ ptW M 18 ∧ M 59 8 = nI pt.length ∧ ∀ i, i < pt.length → M 58 (96 + i) = nI (pt.getD i 0)) (hn : n < 8) (hw : w ≤ 3) (hwe : we = nI w) : iV (mrM (ruM M n lo hi we) n pt.length lo hi we) D := by
  have hh := h
  obtain ⟨-, -, -, ⟨f, g, h', ⟨v1, v2, v3, v4⟩, v5⟩, -⟩ := hh
  obtain ⟨⟨k1, k2, k3, k4⟩, p2, p3, p4⟩ := hp
  generalize hM' : mrM (ruM M n lo hi we) n pt.length lo hi we = M'
  have B : ∀ q k, q ≠ 58 → q ≠ 59 → q ≠ 60 → q ≠ 61 → q ≠ 62 → q ≠ 49 → M' q k = ruM M n lo hi we q k := fun q k a b c d e f => by
    rw [← hM']
    unfold mrM
    rw [up_q f, up_q e, up_q d, up_q c, up_q b, up_q b, cpM_o a]
  have N : ∀ q k, q ≠ 18 → q ≠ 20 → q ≠ 22 + 3 * n → q ≠ 23 + 3 * n → q ≠ 24 + 3 * n → ruM M n lo hi we q k = M q k := fun q k a b c d e => by
    unfold ruM
    rw [up_q a, up_q b, up_q c, up_q c, up_q c, cpyn e, up_q d]
  have R : ∀ q k, q ≠ 18 → q ≠ 20 → q ≠ 22 + 3 * n → q ≠ 23 + 3 * n → q ≠ 24 + 3 * n → q ≠ 58 → q ≠ 59 → q ≠ 60 → q ≠ 61 → q ≠ 62 → q ≠ 49 → M' q k = M q k := fun q k a b c d e f g h i j l => by rw [B q k f g h i j l, N q k a b c d e]
  have G18 : M' 18 1 = nI 0 := by rw [B _ _ (by omega) (by omega) (by omega) (by omega) (by omega) (by omega)]; exact up_s _ _ _ _
  have G20 : M' 20 1 = nI (n + 1) := by rw [B _ _ (by omega) (by omega) (by omega) (by omega) (by omega) (by omega)]; unfold ruM; simp (disch := omega) only [up_q, up_s]
  have G23 : M' (23 + 3 * n) 1 = nI pt.length := by rw [B _ _ (by omega) (by omega) (by omega) (by omega) (by omega) (by omega)]; unfold ruM; rw [up_q (by omega), up_q (by omega), up_q (by omega), up_q (by omega), up_q (by omega), cpyn (by omega), up_s, k1]
  have G24 : ∀ k, k < 12 → M' (24 + 3 * n) k = M 19 k := fun k hk => by rw [B _ _ (by omega) (by omega) (by omega) (by omega) (by omega) (by omega)]; unfold ruM; rw [up_q (by omega), up_q (by omega), up_q (by omega), up_q (by omega), up_q (by omega), cpy0 hk, up_q (by omega)]
  have G221 : M' (22 + 3 * n) 1 = lo := by rw [B _ _ (by omega) (by omega) (by omega) (by omega) (by omega) (by omega)]; unfold ruM; rw [up_q (by omega), up_q (by omega), up_k (by omega), up_k (by omega), up_s]
  have G222 : M' (22 + 3 * n) 2 = hi := by rw [B _ _ (by omega) (by omega) (by omega) (by omega) (by omega) (by omega)]; unfold ruM; rw [up_q (by omega), up_q (by omega), up_k (by omega), up_s]
  have G223 : M' (22 + 3 * n) 3 = we := by rw [B _ _ (by omega) (by omega) (by omega) (by omega) (by omega) (by omega)]; unfold ruM; rw [up_q (by omega), up_q (by omega), up_s]
  have N58 : ∀ k, ruM M n lo hi we 58 k = M 58 k := fun k => N _ _ (by omega) (by omega) (by omega) (by omega) (by omega)
  have G58 : ∀ k, ¬ (12 * n ≤ k ∧ k < 12 * n + pt.length) → M' 58 k = M 58 k := fun k z => by
    rw [← hM']
    unfold mrM
    rw [up_q (by omega), up_q (by omega), up_q (by omega), up_q (by omega), up_q (by omega), up_q (by omega)]
    unfold cpM
    rw [if_neg (fun w => z w.2), N58]
  have G58v : ∀ j, j < pt.length → M' 58 (12 * n + j) = nI (pt.getD j 0) := fun j hj => by
    rw [← hM']
    unfold mrM
    rw [up_q (by omega), up_q (by omega), up_q (by omega), up_q (by omega), up_q (by omega), up_q (by omega)]
    unfold cpM
    rw [if_pos ⟨rfl, by omega, by omega⟩, N58, Nat.add_sub_cancel_left]
    exact p4 j hj
  have G59 : ∀ k, M' 59 k = if k = 8 then nI 0 else if k = n then nI pt.length else M 59 k := fun k => by
    rw [← hM']
    unfold mrM
    rw [up_q (by omega), up_q (by omega), up_q (by omega), up_q (by omega), up_i, up_i, cpM_o (by omega), N _ _ (by omega) (by omega) (by omega) (by omega) (by omega)]
  have G60 : ∀ k, M' 60 k = if k = n then lo else M 60 k := fun k => by
    rw [← hM']
    unfold mrM
    rw [up_q (by omega), up_q (by omega), up_q (by omega), up_i, up_q (by omega), up_q (by omega), cpM_o (by omega), N _ _ (by omega) (by omega) (by omega) (by omega) (by omega)]
  have G61 : ∀ k, M' 61 k = if k = n then hi else M 61 k := fun k => by
    rw [← hM']
    unfold mrM
    rw [up_q (by omega), up_q (by omega), up_i, up_q (by omega), up_q (by omega), up_q (by omega), cpM_o (by omega), N _ _ (by omega) (by omega) (by omega) (by omega) (by omega)]
  have G62 : ∀ k, M' 62 k = if k = n then we else M 62 k := fun k => by
    rw [← hM']
    unfold mrM
    rw [up_q (by omega), up_i, up_q (by omega), up_q (by omega), up_q (by omega), up_q (by omega), cpM_o (by omega), N _ _ (by omega) (by omega) (by omega) (by omega) (by omega)]
  have G49 : ∀ k, M' 49 k = if k = 13 then nI (n + 1) else M 49 k := fun k => by
    rw [← hM']
    unfold mrM
    rw [up_i, up_q (by omega), up_q (by omega), up_q (by omega), up_q (by omega), up_q (by omega), cpM_o (by omega), N _ _ (by omega) (by omega) (by omega) (by omega) (by omega)]
  clear hM' B N N58
  refine iV_q h (fun q k z => R _ _ (by omega) (by omega) (by omega) (by omega) (by omega) (by omega) (by omega) (by omega) (by omega) (by omega) (by omega)) ⟨n + 1, fun i => if i = n then pt else P i, ⟨G20, by omega, fun i hi => ?_⟩, by rw [G49, if_pos rfl], fun i hi => ?_⟩ (iP_0 G18 (fun i hi => ?_) (by rw [G59, if_pos rfl])) ⟨f, g, h', ⟨?_, ?_, ?_, v4⟩, ?_⟩
  · dsimp only
    by_cases e : i = n
    · subst e
      rw [if_pos rfl]
      exact ⟨⟨G23, k2, fun j hj => by rw [show 23 + 3 * i + 1 = 24 + 3 * i by omega, G24 j (by omega)]; exact k3 j hj, k4⟩, w, hw, by rw [G223, hwe]⟩
    · rw [if_neg e]
      obtain ⟨⟨c1, c2, c3, c4⟩, w', c5, c6⟩ := hr.2.2 i (by omega)
      refine ⟨⟨?_, c2, fun j hj => ?_, c4⟩, w', c5, ?_⟩
      · rw [R _ _ (by omega) (by omega) (by omega) (by omega) (by omega) (by omega) (by omega) (by omega) (by omega) (by omega) (by omega)]; exact c1
      · rw [R _ _ (by omega) (by omega) (by omega) (by omega) (by omega) (by omega) (by omega) (by omega) (by omega) (by omega) (by omega)]; exact c3 j hj
      · rw [R _ _ (by omega) (by omega) (by omega) (by omega) (by omega) (by omega) (by omega) (by omega) (by omega) (by omega) (by omega)]; exact c6
  · dsimp only
    by_cases e : i = n
    · subst e
      rw [if_pos rfl]
      refine ⟨by rw [G59, if_neg (by omega), if_pos rfl], fun j hj => G58v j hj, by rw [G60, if_pos rfl, G221], by rw [G61, if_pos rfl, G222], by rw [G62, if_pos rfl, G223]⟩
    · rw [if_neg e]
      have c2 := (hr.2.2 i (by omega)).1.2.1
      obtain ⟨a1, a2, a3, a4, a5⟩ := hm.2 i (by omega)
      have e22 : ∀ k, M' (22 + 3 * i) k = M (22 + 3 * i) k := fun k => R _ _ (by omega) (by omega) (by omega) (by omega) (by omega) (by omega) (by omega) (by omega) (by omega) (by omega) (by omega)
      refine ⟨by rw [G59, if_neg (by omega), if_neg e]; exact a1, fun j hj => by rw [G58 _ (by omega)]; exact a2 j hj, by rw [G60, if_neg e, e22]; exact a3, by rw [G61, if_neg e, e22]; exact a4, by rw [G62, if_neg e, e22]; exact a5⟩
  · rw [R _ _ (by omega) (by omega) (by omega) (by omega) (by omega) (by omega) (by omega) (by omega) (by omega) (by omega) (by omega)]; exact p2 i hi
  · rw [G49, if_neg (by omega)]; exact v1
  · rw [G49, if_neg (by omega)]; exact v2
  · rw [G49, if_neg (by omega)]; exact v3
  · rw [R _ _ (by omega) (by omega) (by omega) (by omega) (by omega) (by omega) (by omega) (by omega) (by omega) (by omega) (by omega)]; exact v5
