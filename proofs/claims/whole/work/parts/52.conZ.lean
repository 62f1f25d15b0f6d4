/-! WHAT HOLDS BETWEEN THE CALLS -/
def iP (M : Nat → Nat → Int32) : Prop := ∃ pt, ptIs M 18 pt ∧ ptW M 18 ∧ M 59 8 = nI pt.length ∧ ∀ i, i < pt.length → M 58 (96 + i) = nI (pt.getD i 0)
def iR (M : Nat → Nat → Int32) : Prop := ∃ n P, rlW M P n ∧ mRl M M P n
def iS (M : Nat → Nat → Int32) : Prop := ∃ f g h, mV M f g h ∧ M 0 5 = nI (f * 1000000 + g * 1000 + h)
def iD (D : Nat → Nat → UInt64) : Prop := ∀ k, k < 96 → vF (D 8 k) ∧ vF (D 15 k)
def iV (M : Nat → Nat → Int32) (D : Nat → Nat → UInt64) : Prop := (bW M 2 ∧ bW M 9 ∧ mBd M D M) ∧ iR M ∧ iP M ∧ iS M ∧ iD D
theorem iR_fr {M M' : Nat → Nat → Int32} (h : ∀ q k, (18 ≤ q ∧ q ≤ 45 ∨ q = 49 ∧ k < 22 ∨ 58 ≤ q ∧ q ≤ 62) → M' q k = M q k) (hr : iR M) : iR M' := by
  obtain ⟨n, P, ⟨r1, r2, r3⟩, m1, m2⟩ := hr
  refine ⟨n, P, ⟨by rw [h _ _ (by omega)]; exact r1, r2, fun i hi => ?_⟩, by rw [h _ _ (by omega)]; exact m1, fun i hi => ?_⟩
  · obtain ⟨⟨k1, k2, k3, k4⟩, w, k5, k6⟩ := r3 i hi
    refine ⟨⟨by rw [h _ _ (by omega)]; exact k1, k2, fun j hj => by rw [h _ _ (by omega)]; exact k3 j hj, k4⟩, w, k5, by rw [h _ _ (by omega)]; exact k6⟩
  · obtain ⟨a1, a2, a3, a4, a5⟩ := m2 i hi
    refine ⟨by rw [h _ _ (by omega)]; exact a1, fun j hj => by rw [h _ _ (by omega)]; exact a2 j hj, ?_, ?_, ?_⟩
    · rw [h _ _ (by omega), h _ _ (by omega)]; exact a3
    · rw [h _ _ (by omega), h _ _ (by omega)]; exact a4
    · rw [h _ _ (by omega), h _ _ (by omega)]; exact a5
theorem iP_fr {M M' : Nat → Nat → Int32} (h : ∀ q k, (18 ≤ q ∧ q ≤ 45 ∨ q = 49 ∧ k < 22 ∨ 58 ≤ q ∧ q ≤ 62) → M' q k = M q k) (hr : iP M) : iP M' := by
  obtain ⟨pt, ⟨k1, k2, k3, k4⟩, p2, p3, p4⟩ := hr
  refine ⟨pt, ⟨by rw [h _ _ (by omega)]; exact k1, k2, fun i hi => by rw [h _ _ (by omega)]; exact k3 i hi, k4⟩, fun i hi => ?_, by rw [h _ _ (by omega)]; exact p3, fun i hi => by rw [h _ _ (by omega)]; exact p4 i hi⟩
  rw [h _ _ (by omega)]; exact p2 i hi
theorem iS_fr {M M' : Nat → Nat → Int32} (h : ∀ q k, (q = 0 ∨ q = 49 ∧ k < 22) → M' q k = M q k) (hr : iS M) : iS M' := by
  obtain ⟨f, g, h', ⟨v1, v2, v3, v4⟩, v5⟩ := hr
  exact ⟨f, g, h', ⟨by rw [h _ _ (by omega)]; exact v1, by rw [h _ _ (by omega)]; exact v2, by rw [h _ _ (by omega)]; exact v3, v4⟩, by rw [h _ _ (by omega)]; exact v5⟩
theorem mq_c {b : Nat} (hb : b < 2) : (b = 0 ∧ mq b = 2) ∨ (b = 1 ∧ mq b = 9) := by
  have h : b = 0 ∨ b = 1 := by omega
  rcases h with rfl | rfl
  · exact Or.inl ⟨rfl, rfl⟩
  · exact Or.inr ⟨rfl, rfl⟩
theorem bW_fr {M M' : Nat → Nat → Int32} {q : Nat} (h0 : M' q 0 = M q 0) (h : ∀ j k, 1 ≤ j → j ≤ 5 → (j = 4 → k < 192) → (j ≠ 4 → k < 8) → M' (q + j) k = M (q + j) k) (hw : bW M q) : bW M' q := by
  obtain ⟨w1, w2, w3⟩ := hw
  refine ⟨?_, fun t ht => ?_, fun k hk => ?_⟩
  · unfold bTh at w1 ⊢; rw [h0]; exact w1
  · have z := w2 t ht
    unfold bPk bFl bUp bVa at z ⊢
    rw [h 1 t (by omega) (by omega) (by omega) (by omega), h 2 t (by omega) (by omega) (by omega) (by omega), h 3 t (by omega) (by omega) (by omega) (by omega), h 5 t (by omega) (by omega) (by omega) (by omega)]
    exact z
  · rw [h 4 k (by omega) (by omega) (by omega) (by omega)]; exact w3 k hk
theorem mBt_fr {M M' : Nat → Nat → Int32} {D D' : Nat → Nat → UInt64} {b t : Nat} (hb : mBt M D M b t) (c0 : (bTh M' (mq b)).testBit t = (bTh M (mq b)).testBit t) (c1 : M' (mq b + 1) t = M (mq b + 1) t) (c2 : M' (mq b + 2) t = M (mq b + 2) t) (c3 : M' (mq b + 3) t = M (mq b + 3) t) (c4 : ∀ s, s < 24 → M' (mq b + 4) (t * 24 + s) = M (mq b + 4) (t * 24 + s)) (c5 : M' (mq b + 5) t = M (mq b + 5) t) (c6 : ∀ s, s < 12 → D' (mq b + 6) (t * 12 + s) = D (mq b + 6) (t * 12 + s)) (m0 : M' 50 (8 * b + t) = M 50 (8 * b + t)) (m1 : ∀ s, s < 12 → M' 51 (12 * (8 * b + t) + s) = M 51 (12 * (8 * b + t) + s)) (m2 : M' 52 (8 * b + t) = M 52 (8 * b + t)) (m3 : M' 53 (8 * b + t) = M 53 (8 * b + t)) (m4 : M' 54 (8 * b + t) = M 54 (8 * b + t)) (m5 : M' 55 (8 * b + t) = M 55 (8 * b + t)) (m6 : ∀ s, s < 24 → M' 56 (24 * (8 * b + t) + s) = M 56 (24 * (8 * b + t) + s)) (m7 : ∀ s, s < 12 → D' 57 (12 * (8 * b + t) + s) = D 57 (12 * (8 * b + t) + s)) : mBt M' D' M' b t := by
  obtain ⟨b1, b2, b3, b4, b5, b6, b7⟩ := hb
  unfold mBt
  refine ⟨?_, ?_, ?_, fun h => ?_, fun s hs => ?_, fun s hs h => ?_, fun s hs => ?_⟩
  · rw [m0, c0]; exact b1
  · unfold bPk at b2 ⊢; rw [m3, c1]; exact b2
  · unfold bFl at b3 ⊢; rw [m2, c2]; exact b3
  · rw [c0] at h
    have z := b4 h
    unfold upOk bUp at z ⊢
    rw [m5, m4, c3]
    exact z
  · rw [m6 s hs, c4 s hs]; exact b5 s hs
  · unfold bHas at h
    rw [c4 s (by omega)] at h
    have z := b6 s hs h
    unfold bVa at z ⊢
    rw [m1 s hs, c5]
    exact z
  · rw [m7 s hs, c6 s hs]; exact b7 s hs
theorem iV_b {M M' : Nat → Nat → Int32} {D D' : Nat → Nat → UInt64} (h : iV M D) (hr : ∀ q k, (q = 0 ∨ 18 ≤ q ∧ q ≤ 45 ∨ q = 49 ∧ k < 22 ∨ 58 ≤ q ∧ q ≤ 62) → M' q k = M q k) (b2 : bW M' 2) (b9 : bW M' 9) (hB : mBd M' D' M') (hv : iD D') : iV M' D' := by
  obtain ⟨-, h2, h3, h4, -⟩ := h
  exact ⟨⟨b2, b9, hB⟩, iR_fr (fun q k z => hr q k (by omega)) h2, iP_fr (fun q k z => hr q k (by omega)) h3, iS_fr (fun q k z => hr q k (by omega)) h4, hv⟩
/-- nothing but working cells changed -/
def agW (M M' : Nat → Nat → Int32) : Prop := ∀ q k, ¬ (q = 16 ∨ q = 17 ∨ q = 46 ∨ q = 47 ∨ q = 48) → ¬ (63 ≤ q ∧ q ≤ 69) → ¬ (q = 49 ∧ 22 ≤ k) → M' q k = M q k
theorem agD_W {M M' : Nat → Nat → Int32} (h : agD M M') : agW M M' := fun q k a _ _ => h q k (by omega) (by omega) (by omega) (by omega) (by omega)
theorem agS_W {M M' : Nat → Nat → Int32} (h : agS M M') : agW M M' := fun q k _ b c => h q k b c
theorem agW_t {M M' M2 : Nat → Nat → Int32} (h : agW M M') (h2 : agW M' M2) : agW M M2 := fun q k a b c => (h2 q k a b c).trans (h q k a b c)
theorem mBd_w {M0 M M' : Nat → Nat → Int32} {D : Nat → Nat → UInt64} (h : mBd M0 D M) (ha : agW M M') : mBd M0 D M' := by
  intro b hb t ht
  obtain ⟨h1, h2, h3, h4, h5, h6, h7⟩ := h b hb t ht
  refine ⟨by rw [ha _ _ (by omega) (by omega) (by omega)]; exact h1, by rw [ha _ _ (by omega) (by omega) (by omega)]; exact h2, by rw [ha _ _ (by omega) (by omega) (by omega)]; exact h3, fun hh => ?_, fun s hs => by rw [ha _ _ (by omega) (by omega) (by omega)]; exact h5 s hs, fun s hs hh => by rw [ha _ _ (by omega) (by omega) (by omega)]; exact h6 s hs hh, h7⟩
  obtain ⟨f, k1, k2, k3⟩ := h4 hh
  refine ⟨f, k1, by rw [ha _ _ (by omega) (by omega) (by omega)]; exact k2, ?_⟩
  rw [ha _ _ (by omega) (by omega) (by omega)]
  exact k3
theorem mRl_w {M0 M M' : Nat → Nat → Int32} {P : Nat → List Nat} {n : Nat} (ha : agW M M') (hr : mRl M0 M P n) : mRl M0 M' P n := by
  obtain ⟨h1, h2⟩ := hr
  refine ⟨by rw [ha _ _ (by omega) (by omega) (by omega)]; exact h1, fun i hi => ?_⟩
  obtain ⟨a1, a2, a3, a4, a5⟩ := h2 i hi
  refine ⟨by rw [ha _ _ (by omega) (by omega) (by omega)]; exact a1, fun j hj => by rw [ha _ _ (by omega) (by omega) (by omega)]; exact a2 j hj, by rw [ha _ _ (by omega) (by omega) (by omega)]; exact a3, by rw [ha _ _ (by omega) (by omega) (by omega)]; exact a4, by rw [ha _ _ (by omega) (by omega) (by omega)]; exact a5⟩
theorem mV_w {M M' : Nat → Nat → Int32} {f g h : Nat} (r : agW M M') (k : mV M f g h) : mV M' f g h := by
  obtain ⟨k1, k2, k3, k4⟩ := k
  exact ⟨by rw [r _ _ (by omega) (by omega) (by omega)]; exact k1, by rw [r _ _ (by omega) (by omega) (by omega)]; exact k2, by rw [r _ _ (by omega) (by omega) (by omega)]; exact k3, k4⟩
theorem iV_w {M M' : Nat → Nat → Int32} {D : Nat → Nat → UInt64} (h : iV M D) (ha : agW M M') : iV M' D := by
  have hh := h
  obtain ⟨⟨b2, b9, hB⟩, -, -, -, hv⟩ := hh
  refine iV_b h (fun q k z => ha q k (by omega) (by omega) (by omega)) (bW_fr (ha _ _ (by omega) (by omega) (by omega)) (fun j k _ _ _ _ => ha _ _ (by omega) (by omega) (by omega)) b2) (bW_fr (ha _ _ (by omega) (by omega) (by omega)) (fun j k _ _ _ _ => ha _ _ (by omega) (by omega) (by omega)) b9) (fun b hb t ht => ?_) hv
  have hq := mq_c hb
  have e : ∀ q k, (2 ≤ q ∧ q ≤ 15 ∨ 50 ≤ q ∧ q ≤ 56) → M' q k = M q k := fun q k z => ha q k (by omega) (by omega) (by omega)
  refine mBt_fr (hB b hb t ht) ?_ (e _ _ (by omega)) (e _ _ (by omega)) (e _ _ (by omega)) (fun s hs => e _ _ (by omega)) (e _ _ (by omega)) (fun _ _ => rfl) (e _ _ (by omega)) (fun s hs => e _ _ (by omega)) (e _ _ (by omega)) (e _ _ (by omega)) (e _ _ (by omega)) (e _ _ (by omega)) (fun s hs => e _ _ (by omega)) (fun _ _ => rfl)
  unfold bTh
  rw [e _ _ (by omega)]
/-- bits set and taken -/
theorem or_p2 {a t i : Nat} : (a ||| 2 ^ t).testBit i = (a.testBit i || decide (t = i)) := by
  rw [Nat.testBit_or, Nat.testBit_two_pow]
theorem an_p2 {a t i : Nat} (h : i < 32) : (andNot a (2 ^ t)).testBit i = (a.testBit i && !decide (t = i)) := by
  rw [andNot_tb _ _ _ h, Nat.testBit_two_pow]
/-- type -/
theorem iV_type {M : Nat → Nat → Int32} {D : Nat → Nat → UInt64} {b t p f u : Nat} {a : Int32} (h : iV M D) (hb : b < 2) (ht : t < 8) (hp : p < 48) (hf : f < 256) (ha : (a = -1 ∧ u = f) ∨ ∃ a', a' < 8 ∧ a = nI a' ∧ u = f ||| 2 ^ a') : iV (mtM (stM M (mq b) t p u) (8 * b + t) p a f) D := by
  have hu : u < 256 := by
    rcases ha with ⟨-, rfl⟩ | ⟨a', h1, -, rfl⟩
    · exact hf
    · exact or_lt8 hf (p2_256 h1)
  have hq := mq_c hb
  have hh := h
  obtain ⟨⟨b2, b9, hB⟩, -, -, -, hv⟩ := hh
  have hWq : bW M (mq b) := mqW b2 b9
  generalize hQ : mq b = q at *
  have hth : bTh M q ||| 2 ^ t < 256 := or_lt8 hWq.1 (p2_256 ht)
  generalize hM' : mtM (stM M q t p u) (8 * b + t) p a f = M'
  have F0 : M' q 0 = nI (bTh M q ||| 2 ^ t) := by rw [← hM']; simp (disch := omega) only [mtM, stM, up_q, up_s]
  have F1 : ∀ k, M' (q + 1) k = if k = t then nI (p / 16) else M (q + 1) k := fun k => by rw [← hM']; simp (disch := omega) only [mtM, stM, up_q, up_i]
  have F2 : ∀ k, M' (q + 2) k = if k = t then nI (p % 16) else M (q + 2) k := fun k => by rw [← hM']; simp (disch := omega) only [mtM, stM, up_q, up_i]
  have F3 : ∀ k, M' (q + 3) k = if k = t then nI u else M (q + 3) k := fun k => by rw [← hM']; simp (disch := omega) only [mtM, stM, up_q, up_i]
  have G0 : ∀ k, M' 50 k = if k = 8 * b + t then nI 1 else M 50 k := fun k => by rw [← hM']; simp (disch := omega) only [mtM, stM, up_q, up_i]
  have G2 : ∀ k, M' 52 k = if k = 8 * b + t then nI (p % 16) else M 52 k := fun k => by rw [← hM']; simp (disch := omega) only [mtM, stM, up_q, up_i]
  have G3 : ∀ k, M' 53 k = if k = 8 * b + t then nI (p / 16) else M 53 k := fun k => by rw [← hM']; simp (disch := omega) only [mtM, stM, up_q, up_i]
  have G4 : ∀ k, M' 54 k = if k = 8 * b + t then a else M 54 k := fun k => by rw [← hM']; simp (disch := omega) only [mtM, stM, up_q, up_i]
  have G5 : ∀ k, M' 55 k = if k = 8 * b + t then nI f else M 55 k := fun k => by rw [← hM']; simp (disch := omega) only [mtM, stM, up_q, up_i]
  have R : ∀ q' k, ¬ (q ≤ q' ∧ q' ≤ q + 3) → ¬ (50 ≤ q' ∧ q' ≤ 55 ∧ q' ≠ 51) → M' q' k = M q' k := fun q' k z1 z2 => by rw [← hM']; simp (disch := omega) only [mtM, stM, up_q]
  have T0 : bTh M' q = bTh M q ||| 2 ^ t := n32_of F0 (by omega)
  clear hM'
  have W : bW M' q := by
    obtain ⟨w1, w2, w3⟩ := hWq
    refine ⟨by rw [T0]; exact hth, fun t' ht' => ?_, fun k hk => by rw [R _ _ (by omega) (by omega)]; exact w3 k hk⟩
    obtain ⟨z1, z2, z3, z4⟩ := w2 t' ht'
    by_cases e : t' = t
    · have x1 : bPk M' q t' = p / 16 := n32_of (by rw [F1, if_pos e]) (by omega)
      have x2 : bFl M' q t' = p % 16 := n32_of (by rw [F2, if_pos e]) (by omega)
      have x3 : bUp M' q t' = u := n32_of (by rw [F3, if_pos e]) (by omega)
      have x4 : bVa M' q t' = bVa M q t' := by unfold bVa; rw [R _ _ (by omega) (by omega)]
      rw [x1, x2, x3, x4]
      omega
    · have x1 : bPk M' q t' = bPk M q t' := by unfold bPk; rw [F1, if_neg e]
      have x2 : bFl M' q t' = bFl M q t' := by unfold bFl; rw [F2, if_neg e]
      have x3 : bUp M' q t' = bUp M q t' := by unfold bUp; rw [F3, if_neg e]
      have x4 : bVa M' q t' = bVa M q t' := by unfold bVa; rw [R _ _ (by omega) (by omega)]
      rw [x1, x2, x3, x4]
      exact ⟨z1, z2, z3, z4⟩
  have Wo : ∀ q', (q' = 2 ∨ q' = 9) → bW M q' → bW M' q' := fun q' h1 h2 => by
    by_cases e : q' = q
    · rw [e]; exact W
    · exact bW_fr (R _ _ (by omega) (by omega)) (fun j k _ _ _ _ => R _ _ (by omega) (by omega)) h2
  refine iV_b h (fun q' k z => R _ _ (by omega) (by omega)) (Wo 2 (Or.inl rfl) b2) (Wo 9 (Or.inr rfl) b9) (fun b' hb' t' ht' => ?_) hv
  have hq' := mq_c hb'
  have hO := hB b' hb' t' ht'
  by_cases e : b' = b ∧ t' = t
  · obtain ⟨rfl, rfl⟩ := e
    rw [hQ] at hq'
    unfold mBt at hO ⊢
    rw [hQ] at hO ⊢
    have tT : (bTh M' q).testBit t' = true := by rw [T0, or_p2]; simp
    have x1 : bPk M' q t' = p / 16 := n32_of (by rw [F1, if_pos rfl]) (by omega)
    have x2 : bFl M' q t' = p % 16 := n32_of (by rw [F2, if_pos rfl]) (by omega)
    have x3 : bUp M' q t' = u := n32_of (by rw [F3, if_pos rfl]) (by omega)
    have x4 : bVa M' q t' = bVa M q t' := by unfold bVa; rw [R _ _ (by omega) (by omega)]
    obtain ⟨o1, o2, o3, o4, o5, o6, o7⟩ := hO
    refine ⟨by rw [G0, if_pos rfl, bN_t tT], by rw [G3, if_pos rfl, x1], by rw [G2, if_pos rfl, x2], fun _ => ?_, fun s hs => by rw [R _ _ (by omega) (by omega), R _ _ (by omega) (by omega)]; exact o5 s hs, fun s hs hh => ?_, o7⟩
    · refine ⟨f, hf, by rw [G5, if_pos rfl], ?_⟩
      rw [G4, if_pos rfl, hQ, x3]
      exact ha
    · unfold bHas at hh
      rw [R _ _ (by omega) (by omega)] at hh
      rw [R _ _ (by omega) (by omega), x4]
      exact o6 s hs hh
  · have hne : 8 * b' + t' ≠ 8 * b + t := by omega
    refine mBt_fr hO ?_ ?_ ?_ ?_ (fun s hs => R _ _ (by omega) (by omega)) (R _ _ (by omega) (by omega)) (fun _ _ => rfl) (by rw [G0, if_neg hne]) (fun s hs => R _ _ (by omega) (by omega)) (by rw [G2, if_neg hne]) (by rw [G3, if_neg hne]) (by rw [G4, if_neg hne]) (by rw [G5, if_neg hne]) (fun s hs => R _ _ (by omega) (by omega)) (fun _ _ => rfl)
    · by_cases e2 : b' = b
      · subst e2
        have e3 : ¬ t = t' := fun z => e ⟨rfl, z.symm⟩
        rw [hQ, T0, or_p2, decide_eq_false e3, Bool.or_false]
      · unfold bTh
        rw [R _ _ (by omega) (by omega)]
    · by_cases e2 : b' = b
      · subst e2
        have e3 : ¬ t' = t := fun z => e ⟨rfl, z⟩
        rw [hQ, F1, if_neg e3]
      · exact R _ _ (by omega) (by omega)
    · by_cases e2 : b' = b
      · subst e2
        have e3 : ¬ t' = t := fun z => e ⟨rfl, z⟩
        rw [hQ, F2, if_neg e3]
      · exact R _ _ (by omega) (by omega)
    · by_cases e2 : b' = b
      · subst e2
        have e3 : ¬ t' = t := fun z => e ⟨rfl, z⟩
        rw [hQ, F3, if_neg e3]
      · exact R _ _ (by omega) (by omega)
/-- a member is set or removed -/
theorem iV_mem {M M' : Nat → Nat → Int32} {D : Nat → Nat → UInt64} {b t u : Nat} {v : Int32} (h : iV M D) (hb : b < 2) (ht : t < 8) (hu : u < 24) (hv : v = -1 ∨ ∃ j, j < 32 ∧ v = nI j) (F4 : ∀ k, M' (mq b + 4) k = if k = t * 24 + u then v else M (mq b + 4) k) (F5 : ∀ k, M' (mq b + 5) k = if k = t then nI (andNot (bVa M (mq b) t) (2 ^ u)) else M (mq b + 5) k) (G6 : ∀ k, M' 56 k = if k = 24 * (8 * b + t) + u then v else M 56 k) (G1 : ∀ k, ¬ (u < 12 ∧ k = 12 * (8 * b + t) + u) → M' 51 k = M 51 k) (G1v : u < 12 → v = -1 ∨ M' 51 (12 * (8 * b + t) + u) = nI 0) (R : ∀ q' k, q' ≠ mq b + 4 → q' ≠ mq b + 5 → q' ≠ 56 → q' ≠ 51 → M' q' k = M q' k) : iV M' D := by
  have hq := mq_c hb
  have hh := h
  obtain ⟨⟨b2, b9, hB⟩, -, -, -, hvD⟩ := hh
  have hWq : bW M (mq b) := mqW b2 b9
  generalize hQ : mq b = q at *
  have hva : andNot (bVa M q t) (2 ^ u) < 16777216 := Nat.lt_of_le_of_lt (andNot_le _ _) (hWq.2.1 t ht).2.2.2
  have W : bW M' q := by
    obtain ⟨w1, w2, w3⟩ := hWq
    refine ⟨by unfold bTh at w1 ⊢; rw [R _ _ (by omega) (by omega) (by omega) (by omega)]; exact w1, fun t' ht' => ?_, fun k hk => ?_⟩
    · obtain ⟨z1, z2, z3, z4⟩ := w2 t' ht'
      have x1 : bPk M' q t' = bPk M q t' := by unfold bPk; rw [R _ _ (by omega) (by omega) (by omega) (by omega)]
      have x2 : bFl M' q t' = bFl M q t' := by unfold bFl; rw [R _ _ (by omega) (by omega) (by omega) (by omega)]
      have x3 : bUp M' q t' = bUp M q t' := by unfold bUp; rw [R _ _ (by omega) (by omega) (by omega) (by omega)]
      rw [x1, x2, x3]
      refine ⟨z1, z2, z3, ?_⟩
      by_cases e : t' = t
      · rw [show bVa M' q t' = andNot (bVa M q t) (2 ^ u) from n32_of (by rw [F5, if_pos e]) (by omega)]
        exact hva
      · rw [show bVa M' q t' = bVa M q t' by unfold bVa; rw [F5, if_neg e]]
        exact z4
    · rw [F4]
      by_cases e : k = t * 24 + u
      · rw [if_pos e]; exact hv
      · rw [if_neg e]; exact w3 k hk
  have Wo : ∀ q', (q' = 2 ∨ q' = 9) → bW M q' → bW M' q' := fun q' h1 h2 => by
    by_cases e : q' = q
    · rw [e]; exact W
    · exact bW_fr (R _ _ (by omega) (by omega) (by omega) (by omega)) (fun j k _ _ _ _ => R _ _ (by omega) (by omega) (by omega) (by omega)) h2
  refine iV_b h (fun q' k z => R _ _ (by omega) (by omega) (by omega) (by omega)) (Wo 2 (Or.inl rfl) b2) (Wo 9 (Or.inr rfl) b9) (fun b' hb' t' ht' => ?_) hvD
  have hq' := mq_c hb'
  have hO := hB b' hb' t' ht'
  by_cases e : b' = b ∧ t' = t
  · obtain ⟨rfl, rfl⟩ := e
    rw [hQ] at hq'
    have xT : bTh M' q = bTh M q := by unfold bTh; rw [R _ _ (by omega) (by omega) (by omega) (by omega)]
    have x1 : bPk M' q t' = bPk M q t' := by unfold bPk; rw [R _ _ (by omega) (by omega) (by omega) (by omega)]
    have x2 : bFl M' q t' = bFl M q t' := by unfold bFl; rw [R _ _ (by omega) (by omega) (by omega) (by omega)]
    have x3 : bUp M' q t' = bUp M q t' := by unfold bUp; rw [R _ _ (by omega) (by omega) (by omega) (by omega)]
    have x4 : bVa M' q t' = andNot (bVa M q t') (2 ^ u) := n32_of (by rw [F5, if_pos rfl]) (by omega)
    unfold mBt at hO ⊢
    rw [hQ] at hO ⊢
    obtain ⟨o1, o2, o3, o4, o5, o6, o7⟩ := hO
    refine ⟨?_, ?_, ?_, fun z => ?_, fun s hs => ?_, fun s hs hh => ?_, o7⟩
    · rw [R _ _ (by omega) (by omega) (by omega) (by omega), xT]; exact o1
    · rw [R _ _ (by omega) (by omega) (by omega) (by omega), x1]; exact o2
    · rw [R _ _ (by omega) (by omega) (by omega) (by omega), x2]; exact o3
    · rw [xT] at z
      have o := o4 z
      unfold upOk at o ⊢
      rw [R _ _ (by omega) (by omega) (by omega) (by omega), R _ _ (by omega) (by omega) (by omega) (by omega), hQ, x3]
      rw [hQ] at o
      exact o
    · rw [G6, F4]
      by_cases e2 : s = u
      · rw [if_pos (by omega), if_pos (by omega)]
      · rw [if_neg (by omega), if_neg (by omega)]; exact o5 s hs
    · by_cases e2 : s = u
      · subst e2
        rcases G1v hs with z | z
        · exfalso
          apply hh
          rw [F4, if_pos rfl]
          exact z
        · rw [z, bN_f]
          rw [x4, an_p2 (by omega)]
          simp
      · unfold bHas at hh
        rw [F4, if_neg (by omega)] at hh
        rw [G1 _ (by omega), x4]
        have o := o6 s hs hh
        rw [o]
        refine bN_c ?_
        rw [an_p2 (by omega), decide_eq_false (fun z : u = s => e2 z.symm)]
        simp
  · refine mBt_fr hO ?_ (R _ _ (by omega) (by omega) (by omega) (by omega)) (R _ _ (by omega) (by omega) (by omega) (by omega)) (R _ _ (by omega) (by omega) (by omega) (by omega)) (fun s hs => ?_) ?_ (fun _ _ => rfl) (R _ _ (by omega) (by omega) (by omega) (by omega)) (fun s hs => G1 _ (by omega)) (R _ _ (by omega) (by omega) (by omega) (by omega)) (R _ _ (by omega) (by omega) (by omega) (by omega)) (R _ _ (by omega) (by omega) (by omega) (by omega)) (R _ _ (by omega) (by omega) (by omega) (by omega)) (fun s hs => by rw [G6, if_neg (by omega)]) (fun _ _ => rfl)
    · unfold bTh
      rw [R _ _ (by omega) (by omega) (by omega) (by omega)]
    · by_cases e2 : b' = b
      · subst e2
        rw [hQ, F4, if_neg (by omega)]
      · exact R _ _ (by omega) (by omega) (by omega) (by omega)
    · by_cases e2 : b' = b
      · subst e2
        rw [hQ, F5, if_neg (by omega)]
      · exact R _ _ (by omega) (by omega) (by omega) (by omega)
theorem iV_member {M : Nat → Nat → Int32} {D : Nat → Nat → UInt64} {b t s j : Nat} {m : Prop} {hm : Decidable m} (h : iV M D) (hb : b < 2) (ht : t < 8) (hs : s < 12) (hj : j < 32) : iV (mmM (smM M (mq b) t (if m then 12 + s else s) (nI j)) (8 * b + t) s m hm j) D := by
  have hq := mq_c hb
  by_cases h0 : m
  · rw [if_pos h0]
    unfold mmM
    rw [if_pos h0]
    refine iV_mem (u := 12 + s) h hb ht (by omega) (Or.inr ⟨j, hj, rfl⟩) (fun k => ?_) (fun k => ?_) (fun k => ?_) (fun k z => ?_) (fun z => by omega) (fun q' k z1 z2 z3 z4 => ?_)
    · simp (disch := omega) only [smM, up_q, up_i]
    · simp (disch := omega) only [smM, up_q, up_i]
    · simp (disch := omega) only [smM, up_q, up_i]
    · simp (disch := omega) only [smM, up_q]
    · simp (disch := omega) only [smM, up_q]
  · rw [if_neg h0]
    unfold mmM
    rw [if_neg h0]
    refine iV_mem (u := s) h hb ht (by omega) (Or.inr ⟨j, hj, rfl⟩) (fun k => ?_) (fun k => ?_) (fun k => ?_) (fun k z => ?_) (fun z => Or.inr (up_s _ _ _ _)) (fun q' k z1 z2 z3 z4 => ?_)
    · simp (disch := omega) only [smM, up_q, up_i]
    · simp (disch := omega) only [smM, up_q, up_i]
    · simp (disch := omega) only [smM, up_q, up_i]
    · rw [up_k (by omega)]
      simp (disch := omega) only [smM, up_q]
    · simp (disch := omega) only [smM, up_q]
theorem iV_remove {M : Nat → Nat → Int32} {D : Nat → Nat → UInt64} {b t u : Nat} (h : iV M D) (hb : b < 2) (ht : t < 8) (hu : u < 24) : iV (am_up (smM M (mq b) t u (-1)) 56 (24 * (8 * b + t) + u) (-1)) D := by
  have hq := mq_c hb
  refine iV_mem (u := u) h hb ht (by omega) (Or.inl rfl) (fun k => ?_) (fun k => ?_) (fun k => ?_) (fun k z => ?_) (fun z => Or.inl rfl) (fun q' k z1 z2 z3 z4 => ?_)
  · simp (disch := omega) only [smM, up_q, up_i]
  · simp (disch := omega) only [smM, up_q, up_i]
  · simp (disch := omega) only [smM, up_q, up_i]
  · simp (disch := omega) only [smM, up_q]
  · simp (disch := omega) only [smM, up_q]
