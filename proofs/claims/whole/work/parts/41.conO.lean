/-! THE MODEL: what is above -/
def pc8 (x : Nat) : Nat := (x.testBit 0).toNat + (x.testBit 1).toNat + (x.testBit 2).toNat + (x.testBit 3).toNat + (x.testBit 4).toNat + (x.testBit 5).toNat + (x.testBit 6).toNat + (x.testBit 7).toNat
def subB (a b : Nat) : Prop := ∀ v, a.testBit v = true → b.testBit v = true
theorem tb_lt8 {a v : Nat} (h : a < 256) (hv : a.testBit v = true) : v < 8 := by
  by_cases h8 : v < 8
  · exact h8
  · have h1 : a < 2 ^ v := Nat.lt_of_lt_of_le h (Nat.pow_le_pow_right (n := 2) (i := 8) (by decide) (by omega))
    rw [Nat.testBit_lt_two_pow h1] at hv
    cases hv
theorem subB_eq {a b : Nat} (h : subB a b) (h2 : subB b a) : a = b := by
  apply Nat.eq_of_testBit_eq
  intro i
  rw [Bool.eq_iff_iff]
  exact ⟨h i, h2 i⟩
theorem toN_le {a b : Bool} (h : a = true → b = true) : a.toNat ≤ b.toNat := by cases a <;> cases b <;> simp at h ⊢
theorem pc8_lt {a b : Nat} (h : subB a b) (hb : b < 256) (hn : a ≠ b) : pc8 a < pc8 b := by
  have hx : ∃ v, b.testBit v = true ∧ a.testBit v = false := by
    apply Classical.byContradiction
    intro hc
    apply hn
    refine subB_eq h (fun v hv => ?_)
    cases e : a.testBit v with
    | true => rfl
    | false => exact absurd ⟨v, hv, e⟩ hc
  obtain ⟨v, h1, h2⟩ := hx
  have hv := tb_lt8 hb h1
  have l := fun i => toN_le (h i)
  have l0 := l 0
  have l1 := l 1
  have l2 := l 2
  have l3 := l 3
  have l4 := l 4
  have l5 := l 5
  have l6 := l 6
  have l7 := l 7
  have hs : (a.testBit v).toNat < (b.testBit v).toNat := by rw [h1, h2]; decide
  unfold pc8
  have hc : v = 0 ∨ v = 1 ∨ v = 2 ∨ v = 3 ∨ v = 4 ∨ v = 5 ∨ v = 6 ∨ v = 7 := by omega
  rcases hc with rfl | rfl | rfl | rfl | rfl | rfl | rfl | rfl <;> omega
theorem pc8_8 {a v : Nat} (h : 8 ≤ pc8 a) (hv : v < 8) : a.testBit v = true := by
  unfold pc8 at h
  have l := fun i => Bool.toNat_le (a.testBit i)
  have l0 := l 0
  have l1 := l 1
  have l2 := l 2
  have l3 := l 3
  have l4 := l 4
  have l5 := l 5
  have l6 := l 6
  have l7 := l 7
  have e : (a.testBit v).toNat = 1 := by
    have hc : v = 0 ∨ v = 1 ∨ v = 2 ∨ v = 3 ∨ v = 4 ∨ v = 5 ∨ v = 6 ∨ v = 7 := by omega
    rcases hc with rfl | rfl | rfl | rfl | rfl | rfl | rfl | rfl <;> omega
  cases h2 : a.testBit v with
  | true => rfl
  | false => rw [h2] at e; cases e
section AB
variable {M : Nat → Nat → Int32} {q : Nat}
/-- closed under what is above -/
def cloB (M : Nat → Nat → Int32) (q met : Nat) : Prop := ∀ u, u < 8 → met.testBit u = true → ∀ v, (bUp M q u &&& bTh M q).testBit v = true → met.testBit v = true
theorem abStep_tb (u met v : Nat) : (abStep M q u met).testBit v = true ↔ met.testBit v = true ∨ (met.testBit u = true ∧ (bUp M q u &&& bTh M q).testBit v = true) := by
  unfold abStep
  by_cases h : met.testBit u = true
  · rw [if_pos h, Nat.testBit_or, Bool.or_eq_true]
    simp [h]
  · rw [if_neg h]
    simp [h]
theorem abStep_s (u met : Nat) : subB met (abStep M q u met) := fun v h => (abStep_tb u met v).mpr (Or.inl h)
theorem abR_s : ∀ (k u met : Nat), subB met (abR M q k u met) := by
  intro k
  induction k with
  | zero => intro u met v h; exact h
  | succ k ih => intro u met v h; exact ih _ _ v (abStep_s u met v h)
theorem abR_fix : ∀ (k u met : Nat), abR M q k u met = met → ∀ w, u ≤ w → w < u + k → met.testBit w = true → ∀ v, (bUp M q w &&& bTh M q).testBit v = true → met.testBit v = true := by
  intro k
  induction k with
  | zero => intro u met _ w h1 h2; omega
  | succ k ih =>
    intro u met he w h1 h2 hw v hv
    rw [abR] at he
    have e : abStep M q u met = met := by
      refine subB_eq (fun v h => ?_) (abStep_s u met)
      have h3 := abR_s (M := M) (q := q) k (u + 1) (abStep M q u met) v h
      rwa [he] at h3
    by_cases hu : w = u
    · subst hu
      rw [← e]
      exact (abStep_tb w met v).mpr (Or.inr ⟨hw, hv⟩)
    · rw [e] at he
      exact ih (u + 1) met he w (by omega) (by omega) hw v hv
theorem abO_fix {met : Nat} (h : abR M q 8 0 met = met) : ∀ n, abO M q n met = met := by
  intro n
  induction n with
  | zero => rfl
  | succ n ih => rw [abO, h, ih]
theorem abO_s : ∀ (n met : Nat), subB met (abO M q n met) := by
  intro n
  induction n with
  | zero => intro met v h; exact h
  | succ n ih => intro met v h; exact ih _ v (abR_s 8 0 met v h)
theorem abO_clo (hw : bW M q) : ∀ (n met : Nat), met < 256 → 8 ≤ pc8 met + n → cloB M q (abO M q n met) := by
  intro n
  induction n with
  | zero =>
    intro met hm hp u hu h1 v hv
    rw [Nat.testBit_and, Bool.and_eq_true] at hv
    exact pc8_8 hp (tb_lt8 hw.1 hv.2)
  | succ n ih =>
    intro met hm hp
    by_cases hf : abR M q 8 0 met = met
    · rw [abO_fix hf]
      exact fun u hu h1 v hv => abR_fix 8 0 met hf u (Nat.zero_le _) (by omega) h1 v hv
    · rw [abO]
      have h1 := abR_lt hw 8 0 met hm
      have h2 := pc8_lt (abR_s 8 0 met) h1 (fun z => hf z.symm)
      exact ih _ h1 (by omega)
theorem abStep_min {u met Y : Nat} (hu : u < 8) (hY : cloB M q Y) (h : subB met Y) : subB (abStep M q u met) Y := by
  intro v hv
  rcases (abStep_tb u met v).mp hv with hv | ⟨h1, h2⟩
  · exact h v hv
  · exact hY u hu (h u h1) v h2
theorem abR_min {Y : Nat} (hY : cloB M q Y) : ∀ (k u met : Nat), u + k ≤ 8 → subB met Y → subB (abR M q k u met) Y := by
  intro k
  induction k with
  | zero => intro u met _ h; exact h
  | succ k ih => intro u met hk h; exact ih (u + 1) _ (by omega) (abStep_min (by omega) hY h)
theorem abO_min {Y : Nat} (hY : cloB M q Y) : ∀ (n met : Nat), subB met Y → subB (abO M q n met) Y := by
  intro n
  induction n with
  | zero => intro met h; exact h
  | succ n ih => intro met h; exact ih _ (abR_min hY 8 0 met (by decide) h)
theorem p2_tb (t v : Nat) : (2 ^ t).testBit v = true ↔ v = t := by
  rw [Nat.testBit_two_pow, decide_eq_true_iff]
  exact eq_comm
/-- next, fresh -/
def nxR (M : Nat → Nat → Int32) (q todo : Nat) : Nat → Nat → Nat → Nat
  | 0, _, x => x
  | k + 1, u, x => nxR M q todo k (u + 1) (if todo.testBit u = true then x ||| bUp M q u else x)
theorem nxR_tb {todo v : Nat} : ∀ (k u x : Nat), (nxR M q todo k u x).testBit v = true ↔ x.testBit v = true ∨ ∃ w, u ≤ w ∧ w < u + k ∧ todo.testBit w = true ∧ (bUp M q w).testBit v = true := by
  intro k
  induction k with
  | zero =>
    intro u x
    refine ⟨fun h => Or.inl h, fun h => h.elim id (fun ⟨w, h1, h2, _⟩ => by omega)⟩
  | succ k ih =>
    intro u x
    rw [nxR, ih]
    by_cases h : todo.testBit u = true
    · rw [if_pos h, Nat.testBit_or, Bool.or_eq_true]
      constructor
      · rintro ((h1 | h1) | ⟨w, h1, h2, h3, h4⟩)
        · exact Or.inl h1
        · exact Or.inr ⟨u, Nat.le_refl _, by omega, h, h1⟩
        · exact Or.inr ⟨w, by omega, by omega, h3, h4⟩
      · rintro (h1 | ⟨w, h1, h2, h3, h4⟩)
        · exact Or.inl (Or.inl h1)
        · by_cases e : w = u
          · subst e; exact Or.inl (Or.inr h4)
          · exact Or.inr ⟨w, by omega, by omega, h3, h4⟩
    · rw [if_neg h]
      constructor
      · rintro (h1 | ⟨w, h1, h2, h3, h4⟩)
        · exact Or.inl h1
        · exact Or.inr ⟨w, by omega, by omega, h3, h4⟩
      · rintro (h1 | ⟨w, h1, h2, h3, h4⟩)
        · exact Or.inl h1
        · by_cases e : w = u
          · subst e; exact absurd h3 h
          · exact Or.inr ⟨w, by omega, by omega, h3, h4⟩
theorem nxR_lt {todo : Nat} (hw : bW M q) : ∀ (k u x : Nat), u + k ≤ 8 → x < 256 → nxR M q todo k u x < 256 := by
  intro k
  induction k with
  | zero => intro u x _ h; exact h
  | succ k ih =>
    intro u x hk h
    refine ih _ _ (by omega) ?_
    by_cases e : todo.testBit u = true
    · rw [if_pos e]; exact or_lt8 h (hw.2.1 u (by omega)).2.2.1
    · rw [if_neg e]; exact h
def frR (th st t nx : Nat) : Nat → Nat → Nat → Nat
  | 0, _, x => x
  | k + 1, u, x => frR th st t nx k (u + 1) (if nx.testBit u = true ∧ u ≠ t ∧ th.testBit u = true ∧ ¬ st.testBit u = true then x ||| 2 ^ u else x)
theorem frR_tb {th st t nx v : Nat} : ∀ (k u x : Nat), (frR th st t nx k u x).testBit v = true ↔ x.testBit v = true ∨ (u ≤ v ∧ v < u + k ∧ nx.testBit v = true ∧ v ≠ t ∧ th.testBit v = true ∧ ¬ st.testBit v = true) := by
  intro k
  induction k with
  | zero =>
    intro u x
    refine ⟨fun h => Or.inl h, fun h => h.elim id (fun ⟨h1, h2, _⟩ => by omega)⟩
  | succ k ih =>
    intro u x
    rw [frR, ih]
    by_cases h : nx.testBit u = true ∧ u ≠ t ∧ th.testBit u = true ∧ ¬ st.testBit u = true
    · rw [if_pos h, Nat.testBit_or, Bool.or_eq_true, p2_tb]
      constructor
      · rintro ((h1 | rfl) | ⟨h1, h2, h3⟩)
        · exact Or.inl h1
        · exact Or.inr ⟨Nat.le_refl _, by omega, h⟩
        · exact Or.inr ⟨by omega, by omega, h3⟩
      · rintro (h1 | ⟨h1, h2, h3⟩)
        · exact Or.inl (Or.inl h1)
        · by_cases e : v = u
          · exact Or.inl (Or.inr e)
          · exact Or.inr ⟨by omega, by omega, h3⟩
    · rw [if_neg h]
      constructor
      · rintro (h1 | ⟨h1, h2, h3⟩)
        · exact Or.inl h1
        · exact Or.inr ⟨by omega, by omega, h3⟩
      · rintro (h1 | ⟨h1, h2, h3⟩)
        · exact Or.inl h1
        · by_cases e : v = u
          · subst e; exact absurd h3 h
          · exact Or.inr ⟨by omega, by omega, h3⟩
theorem frR_lt {th st t nx : Nat} : ∀ (k u x : Nat), u + k ≤ 8 → x < 256 → frR th st t nx k u x < 256 := by
  intro k
  induction k with
  | zero => intro u x _ h; exact h
  | succ k ih =>
    intro u x hk h
    refine ih _ _ (by omega) ?_
    by_cases e : nx.testBit u = true ∧ u ≠ t ∧ th.testBit u = true ∧ ¬ st.testBit u = true
    · rw [if_pos e]; exact or_lt8 h (Nat.pow_lt_pow_right (m := u) (n := 8) (by omega) (by omega))
    · rw [if_neg e]; exact h
/-- the model's search: what holds at its head -/
def abI (M : Nat → Nat → Int32) (q t st todo : Nat) : Prop := st < 256 ∧ todo < 256 ∧ (∀ v, st.testBit v = true → (abO M q 8 (2 ^ t)).testBit v = true ∧ v ≠ t ∧ (bTh M q).testBit v = true) ∧ (∀ v, todo.testBit v = true → v = t ∨ st.testBit v = true) ∧ ∀ u, u < 8 → (u = t ∨ st.testBit u = true) → ¬ todo.testBit u = true → ∀ v, (bUp M q u &&& bTh M q).testBit v = true → v = t ∨ st.testBit v = true
theorem p2_256 {t : Nat} (ht : t < 8) : 2 ^ t < 256 := Nat.pow_lt_pow_right (m := t) (n := 8) (by omega) ht
theorem abX_clo (hw : bW M q) {t : Nat} (ht : t < 8) : cloB M q (abO M q 8 (2 ^ t)) := abO_clo hw 8 _ (p2_256 ht) (Nat.le_add_left _ _)
theorem abX_t {t : Nat} : (abO M q 8 (2 ^ t)).testBit t = true := abO_s 8 _ t ((p2_tb t t).mpr rfl)
theorem abI_0 {t : Nat} (ht : t < 8) : abI M q t 0 (2 ^ t) := by
  refine ⟨by decide, p2_256 ht, fun v h => ?_, fun v h => Or.inl ((p2_tb t v).mp h), fun u hu h1 h2 v hv => ?_⟩
  · rw [Nat.zero_testBit] at h; cases h
  · rcases h1 with rfl | h1
    · exact absurd ((p2_tb u u).mpr rfl) h2
    · rw [Nat.zero_testBit] at h1; cases h1
theorem abI_e (hw : bW M q) {t st : Nat} (ht : t < 8) (h : abI M q t st 0) : st = bAb M q t := by
  obtain ⟨h1, -, h3, -, h5⟩ := h
  have hX := abO_lt hw 8 _ (p2_256 ht)
  have hb := bAb_lt hw ht
  have hY : cloB M q (st ||| 2 ^ t) := by
    intro u hu hm v hv
    rw [Nat.testBit_or, Bool.or_eq_true, p2_tb] at hm ⊢
    have := h5 u hu (hm.elim Or.inr Or.inl) (by rw [Nat.zero_testBit]; decide) v hv
    exact this.elim Or.inr Or.inl
  have hsub := abO_min hY 8 (2 ^ t) (fun v hv => by rw [Nat.testBit_or, Bool.or_eq_true]; exact Or.inr hv)
  unfold bAb
  refine subB_eq (fun v hv => ?_) (fun v hv => ?_)
  · obtain ⟨k1, k2, k3⟩ := h3 v hv
    have hv8 := tb_lt8 h1 hv
    rw [andNot_tb _ _ _ (by omega), k1, Bool.true_and]
    have : ¬ (2 ^ t).testBit v = true := fun z => k2 ((p2_tb t v).mp z)
    simpa using this
  · have hv8 := tb_lt8 hb hv
    rw [andNot_tb _ _ _ (by omega), Bool.and_eq_true] at hv
    have k := hsub v hv.1
    rw [Nat.testBit_or, Bool.or_eq_true] at k
    rcases k with k | k
    · exact k
    · rw [k] at hv; exact absurd hv.2 (by decide)
theorem abI_s (hw : bW M q) {t st todo : Nat} (ht : t < 8) (h : abI M q t st todo) : abI M q t (st ||| frR (bTh M q) st t (nxR M q todo 8 0 0) 8 0 0) (frR (bTh M q) st t (nxR M q todo 8 0 0) 8 0 0) := by
  obtain ⟨h1, h2, h3, h4, h5⟩ := h
  have hf := frR_lt (th := bTh M q) (st := st) (t := t) (nx := nxR M q todo 8 0 0) 8 0 0 (by decide) (by decide)
  have fr : ∀ v, (frR (bTh M q) st t (nxR M q todo 8 0 0) 8 0 0).testBit v = true ↔ (v < 8 ∧ (∃ w, w < 8 ∧ todo.testBit w = true ∧ (bUp M q w).testBit v = true) ∧ v ≠ t ∧ (bTh M q).testBit v = true ∧ ¬ st.testBit v = true) := by
    intro v
    rw [frR_tb, nxR_tb, Nat.zero_testBit]
    constructor
    · rintro (h | ⟨_, k2, k3, k4⟩)
      · cases h
      · rcases k3 with k3 | ⟨w, _, k5, k6⟩
        · cases k3
        · exact ⟨by omega, ⟨w, by omega, k6⟩, k4⟩
    · rintro ⟨k2, ⟨w, k5, k6⟩, k4⟩
      exact Or.inr ⟨Nat.zero_le _, by omega, Or.inr ⟨w, Nat.zero_le _, by omega, k6⟩, k4⟩
  generalize frR (bTh M q) st t (nxR M q todo 8 0 0) 8 0 0 = fs at *
  refine ⟨or_lt8 h1 hf, hf, fun v hv => ?_, fun v hv => ?_, fun u hu k1 k2 v hv => ?_⟩
  · rw [Nat.testBit_or, Bool.or_eq_true] at hv
    rcases hv with hv | hv
    · exact h3 v hv
    · obtain ⟨a1, ⟨w, a2, a3, a4⟩, a5, a6, a7⟩ := (fr v).mp hv
      refine ⟨?_, a5, a6⟩
      refine abX_clo hw ht w a2 ?_ v (by rw [Nat.testBit_and, a4, a6]; rfl)
      rcases h4 w a3 with rfl | hw2
      · exact abX_t
      · exact (h3 w hw2).1
  · rw [Nat.testBit_or, Bool.or_eq_true]; exact Or.inr (Or.inr hv)
  · rw [Nat.testBit_or, Bool.or_eq_true] at k1 ⊢
    have k3 : u = t ∨ st.testBit u = true := by
      rcases k1 with k1 | k1 | k1
      · exact Or.inl k1
      · exact Or.inr k1
      · exact absurd k1 k2
    by_cases htd : todo.testBit u = true
    · by_cases e1 : v = t
      · exact Or.inl e1
      · by_cases e2 : st.testBit v = true
        · exact Or.inr (Or.inl e2)
        · rw [Nat.testBit_and, Bool.and_eq_true] at hv
          exact Or.inr (Or.inr ((fr v).mpr ⟨tb_lt8 hw.1 hv.2, ⟨u, hu, htd, hv.1⟩, e1, hv.2, e2⟩))
    · exact (h5 u hu k3 htd v hv).elim Or.inl (fun z => Or.inr (Or.inl z))
theorem fr_gr {th st t nx : Nat} (hne : frR th st t nx 8 0 0 ≠ 0) : st < st ||| frR th st t nx 8 0 0 := by
  have h1 : st ≤ st ||| frR th st t nx 8 0 0 := Nat.left_le_or
  refine Nat.lt_of_le_of_ne h1 (fun e => hne ?_)
  apply Nat.eq_of_testBit_eq
  intro v
  rw [Nat.zero_testBit]
  cases hv : (frR th st t nx 8 0 0).testBit v with
  | false => rfl
  | true =>
    have h2 := (frR_tb 8 0 0).mp hv
    rw [Nat.zero_testBit] at h2
    rcases h2 with h2 | h2
    · cases h2
    · exfalso
      apply h2.2.2.2.2.2
      rw [e, Nat.testBit_or, hv, Bool.or_true]
end AB
def soR (M : Nat → Nat → Int32) (q st : Nat) : Nat → Nat → Nat → Nat
  | 0, _, x => x
  | k + 1, u, x => soR M q st k (u + 1) (if st.testBit u = true ∧ bSeen M q u then x ||| 2 ^ u else x)
theorem soR_tb {M : Nat → Nat → Int32} {q st v : Nat} : ∀ (k u x : Nat), (soR M q st k u x).testBit v = true ↔ x.testBit v = true ∨ (u ≤ v ∧ v < u + k ∧ st.testBit v = true ∧ bSeen M q v) := by
  intro k
  induction k with
  | zero =>
    intro u x
    refine ⟨fun h => Or.inl h, fun h => h.elim id (fun ⟨h1, h2, _⟩ => by omega)⟩
  | succ k ih =>
    intro u x
    rw [soR, ih]
    by_cases h : st.testBit u = true ∧ bSeen M q u
    · rw [if_pos h, Nat.testBit_or, Bool.or_eq_true, p2_tb]
      constructor
      · rintro ((h1 | rfl) | ⟨h1, h2, h3⟩)
        · exact Or.inl h1
        · exact Or.inr ⟨Nat.le_refl _, by omega, h⟩
        · exact Or.inr ⟨by omega, by omega, h3⟩
      · rintro (h1 | ⟨h1, h2, h3⟩)
        · exact Or.inl (Or.inl h1)
        · by_cases e : v = u
          · exact Or.inl (Or.inr e)
          · exact Or.inr ⟨by omega, by omega, h3⟩
    · rw [if_neg h]
      constructor
      · rintro (h1 | ⟨h1, h2, h3⟩)
        · exact Or.inl h1
        · exact Or.inr ⟨by omega, by omega, h3⟩
      · rintro (h1 | ⟨h1, h2, h3⟩)
        · exact Or.inl h1
        · by_cases e : v = u
          · subst e; exact absurd h3 h
          · exact Or.inr ⟨by omega, by omega, h3⟩
theorem soR_lt {M : Nat → Nat → Int32} {q st : Nat} : ∀ (k u x : Nat), u + k ≤ 8 → x < 256 → soR M q st k u x < 256 := by
  intro k
  induction k with
  | zero => intro u x _ h; exact h
  | succ k ih =>
    intro u x hk h
    refine ih _ _ (by omega) ?_
    by_cases e : st.testBit u = true ∧ bSeen M q u
    · rw [if_pos e]; exact or_lt8 h (p2_256 (by omega))
    · rw [if_neg e]; exact h
theorem saR_tb {M : Nat → Nat → Int32} {q v : Nat} (hv : v < 32) : ∀ (k u x : Nat), (saR M q k u x).testBit v = true ↔ x.testBit v = true ∧ (u ≤ v → v < u + k → bSeen M q v) := by
  intro k
  induction k with
  | zero =>
    intro u x
    exact ⟨fun h => ⟨h, fun h1 h2 => by omega⟩, fun h => h.1⟩
  | succ k ih =>
    intro u x
    rw [saR, ih]
    by_cases h : bSeen M q u
    · rw [if_pos h]
      refine ⟨fun ⟨h1, h2⟩ => ⟨h1, fun a b => ?_⟩, fun ⟨h1, h2⟩ => ⟨h1, fun a b => h2 (by omega) (by omega)⟩⟩
      by_cases e : v = u
      · rw [e]; exact h
      · exact h2 (by omega) (by omega)
    · rw [if_neg h, andNot_tb _ _ _ hv, Bool.and_eq_true]
      constructor
      · rintro ⟨⟨h1, h2⟩, h3⟩
        refine ⟨h1, fun a b => ?_⟩
        by_cases e : v = u
        · subst e
          rw [(p2_tb v v).mpr rfl] at h2
          cases h2
        · exact h3 (by omega) (by omega)
      · rintro ⟨h1, h2⟩
        refine ⟨⟨h1, ?_⟩, fun a b => h2 (by omega) (by omega)⟩
        have : ¬ (2 ^ u).testBit v = true := fun z => by
          have e := (p2_tb u v).mp z
          subst e
          exact h (h2 (Nat.le_refl _) (by omega))
        simpa using this
theorem so_sa {M : Nat → Nat → Int32} {q st : Nat} (h : st < 256) : soR M q st 8 0 0 = saR M q 8 0 st := by
  have l1 := soR_lt (M := M) (q := q) (st := st) 8 0 0 (by decide) (by decide)
  have l2 : saR M q 8 0 st < 256 := Nat.lt_of_le_of_lt (bSa_le M q 8 0 st) h
  refine subB_eq (fun v hv => ?_) (fun v hv => ?_)
  · have hv8 := tb_lt8 l1 hv
    rw [soR_tb, Nat.zero_testBit] at hv
    rw [saR_tb (by omega)]
    rcases hv with hv | hv
    · cases hv
    · exact ⟨hv.2.2.1, fun _ _ => hv.2.2.2⟩
  · have hv8 := tb_lt8 l2 hv
    rw [saR_tb (by omega)] at hv
    rw [soR_tb]
    exact Or.inr ⟨Nat.zero_le _, by omega, hv.1, hv.2 (Nat.zero_le _) (by omega)⟩
section CN
variable {Q : Option Value → amM → Prop} {μ : amM} {S : List (Nat ⊕ (Nat × Nat))} {M : Nat → Nat → Int32} {D : Nat → Nat → UInt64} {F : Nat → Nat → Option Nat} {sl : Nat}
variable {M0 : Nat → Nat → Int32}
theorem c51a {b todo : Nat} {x2 x3 : Int32} {v7 : Value} (hb : b < 2) (hw : bW M0 (mq b)) (h : ∀ t, t < 8 → mBt M0 D M b t) (htd : todo < 256) (hth : ∀ v, todo.testBit v = true → (bTh M0 (mq b)).testBit v = true) : ∀ (k u x : Nat), u + k = 8 → x < 256 → (RR 51 18 [.ref 49, .int (nI b), .int x2, .int x3, .int (nI todo), .int (nI x), .int (nI u), v7] [] (SH, (0, 0, sl), M, D, RF) Q ↔ RR 51 95 [.ref 49, .int (nI b), .int x2, .int x3, .int (nI todo), .int (nI (nxR M0 (mq b) todo k u x)), .int (nI 8), v7] [] (SH, (0, 0, sl), M, D, RF) Q) := by
  intro k
  induction k with
  | zero =>
    intro u x hk hx
    have e : u = 8 := by omega
    subst e
    rw [r51_18]
    simp only [r51_20, r51_22, am_cat0, am_catI, am_catR, am_catD, am_ndI, am_ndR, am_ndL, va_rfS, true_and, and_true, Option.toList_some, Option.toList_none, List.cons_append, List.nil_append, Nat.reduceAdd, Nat.reduceLeDiff, Nat.zero_add, Nat.le_refl, Int32.le_refl, if_true, nxR]
  | succ k ih =>
    intro u x hk hx
    have hu : u < 8 := by omega
    rw [r51_18]
    by_cases ht : todo.testBit u = true
    · obtain ⟨f, f1, f2, f3⟩ := (h u hu).2.2.2.1 (hth u ht)
      have hu256 := (hw.2.1 u hu).2.2.1
      rcases f3 with ⟨f4, f5⟩ | ⟨a, f4, f5, f6⟩
      · have e0 : (-1 : Int32) < 0 := by decide
        simp (disch := omega) only [r51_0, r51_1, r51_2, r51_3, r51_4, r51_5, r51_7, r51_9, r51_12, r51_13, r51_15, r51_16, r51_20, r51_22, r51_25, r51_27, r51_29, r51_30, r51_31, r51_32, r51_35, r51_38, r51_40, r51_41, r51_44, r51_46, r51_47, r51_48, r51_50, r51_51, r51_52, r51_53, r51_55, r51_56, r51_59, r51_61, r51_62, r51_63, r51_65, r51_66, r51_67, r51_70, r51_72, r51_73, r51_74, r51_77, r51_79, r51_80, r51_81, r51_83, r51_84, r51_85, r51_86, r51_87, r51_89, r51_92, r51_96, r51_98, r51_99, r51_101, r51_103, r51_105, r51_108, r51_110, r51_112, r51_113, r51_114, r51_115, r51_116, r51_119, r51_121, r51_122, r51_125, r51_126, r51_129, r51_131, r51_132, r51_133, r51_135, r51_136, r51_137, r51_140, r51_141, r51_143, r51_144, r51_145, r51_146, r51_149, r51_151, r51_152, r51_154, r51_155, r51_156, r51_158, r51_161, r51_164, r51_165, r51_167, r51_168, r51_169, r51_171, r51_173, r51_176, r51_177, am_cat0, am_catI, am_catR, am_catD, am_ndI, am_ndR, am_ndL, va_rfS, true_and, and_true, Option.toList_some, Option.toList_none, List.cons_append, List.nil_append, Nat.reduceAdd, Nat.reduceLeDiff, Nat.zero_add, Nat.le_refl, rw_mrg, ite_Q, ite_bN, ite_bN', ib_0b, ib_b0, ib_1b, ib_b1, bN_0, bN_n0, bN_01T, nI1_0, nI0_0, nI01a, nI01b, bN_1, no_or, true_or, or_true, false_or, or_false, ite_not, if_true, if_false, Decidable.not_not, nx_le, Nat.not_le.mpr hu, nx_tb, ht, nI1_0, not_false_eq_true, so49, sf49_4, sf49_5, sd54, sd55, am_bd, pk_mul, nI_add, bd_n, nI_tn, f2, f4, e0, nx_or, am_ndI]
        rw [ih (u + 1) _ (by omega) (or_lt8 hx (by omega)), nxR, if_pos ht, f5]
      · have e0 : ¬ nI a < 0 := nI_pos (by omega)
        simp (disch := omega) only [r51_0, r51_1, r51_2, r51_3, r51_4, r51_5, r51_7, r51_9, r51_12, r51_13, r51_15, r51_16, r51_20, r51_22, r51_25, r51_27, r51_29, r51_30, r51_31, r51_32, r51_35, r51_38, r51_40, r51_41, r51_44, r51_46, r51_47, r51_48, r51_50, r51_51, r51_52, r51_53, r51_55, r51_56, r51_59, r51_61, r51_62, r51_63, r51_65, r51_66, r51_67, r51_70, r51_72, r51_73, r51_74, r51_77, r51_79, r51_80, r51_81, r51_83, r51_84, r51_85, r51_86, r51_87, r51_89, r51_92, r51_96, r51_98, r51_99, r51_101, r51_103, r51_105, r51_108, r51_110, r51_112, r51_113, r51_114, r51_115, r51_116, r51_119, r51_121, r51_122, r51_125, r51_126, r51_129, r51_131, r51_132, r51_133, r51_135, r51_136, r51_137, r51_140, r51_141, r51_143, r51_144, r51_145, r51_146, r51_149, r51_151, r51_152, r51_154, r51_155, r51_156, r51_158, r51_161, r51_164, r51_165, r51_167, r51_168, r51_169, r51_171, r51_173, r51_176, r51_177, am_cat0, am_catI, am_catR, am_catD, am_ndI, am_ndR, am_ndL, va_rfS, true_and, and_true, Option.toList_some, Option.toList_none, List.cons_append, List.nil_append, Nat.reduceAdd, Nat.reduceLeDiff, Nat.zero_add, Nat.le_refl, rw_mrg, ite_Q, ite_bN, ite_bN', ib_0b, ib_b0, ib_1b, ib_b1, bN_0, bN_n0, bN_01T, nI1_0, nI0_0, nI01a, nI01b, bN_1, no_or, true_or, or_true, false_or, or_false, ite_not, if_true, if_false, Decidable.not_not, nx_le, Nat.not_le.mpr hu, nx_tb, ht, nI1_0, not_false_eq_true, so49, sf49_4, sf49_5, sd54, sd55, am_bd, pk_mul, nI_add, bd_n, nI_tn, f2, f5, e0, nx_or, nx_1t, am_ndI]
        rw [Nat.or_assoc, ← f6]
        rw [ih (u + 1) _ (by omega) (or_lt8 hx hu256), nxR, if_pos ht]
    · simp (disch := omega) only [r51_0, r51_1, r51_2, r51_3, r51_4, r51_5, r51_7, r51_9, r51_12, r51_13, r51_15, r51_16, r51_20, r51_22, r51_25, r51_27, r51_29, r51_30, r51_31, r51_32, r51_35, r51_38, r51_40, r51_41, r51_44, r51_46, r51_47, r51_48, r51_50, r51_51, r51_52, r51_53, r51_55, r51_56, r51_59, r51_61, r51_62, r51_63, r51_65, r51_66, r51_67, r51_70, r51_72, r51_73, r51_74, r51_77, r51_79, r51_80, r51_81, r51_83, r51_84, r51_85, r51_86, r51_87, r51_89, r51_92, r51_96, r51_98, r51_99, r51_101, r51_103, r51_105, r51_108, r51_110, r51_112, r51_113, r51_114, r51_115, r51_116, r51_119, r51_121, r51_122, r51_125, r51_126, r51_129, r51_131, r51_132, r51_133, r51_135, r51_136, r51_137, r51_140, r51_141, r51_143, r51_144, r51_145, r51_146, r51_149, r51_151, r51_152, r51_154, r51_155, r51_156, r51_158, r51_161, r51_164, r51_165, r51_167, r51_168, r51_169, r51_171, r51_173, r51_176, r51_177, am_cat0, am_catI, am_catR, am_catD, am_ndI, am_ndR, am_ndL, va_rfS, true_and, and_true, Option.toList_some, Option.toList_none, List.cons_append, List.nil_append, Nat.reduceAdd, Nat.reduceLeDiff, Nat.zero_add, Nat.le_refl, rw_mrg, ite_Q, ite_bN, ite_bN', ib_0b, ib_b0, ib_1b, ib_b1, bN_0, bN_n0, bN_01T, nI1_0, nI0_0, nI01a, nI01b, bN_1, no_or, true_or, or_true, false_or, or_false, ite_not, if_true, if_false, Decidable.not_not, nx_le, Nat.not_le.mpr hu, nx_tb, ht, Bool.false_eq_true, not_true_eq_false, nI_add, am_ndI]
      rw [ih (u + 1) _ (by omega) hx, nxR, if_neg ht]
theorem c51b {b todo st t nx : Nat} (hb : b < 2) (hw : bW M0 (mq b)) (h : ∀ t, t < 8 → mBt M0 D M b t) (ht8 : t < 8) (hst : st < 256) (hnx : nx < 256) : ∀ (k u x : Nat), u + k = 8 → x < 256 → (RR 51 101 [.ref 49, .int (nI b), .int (nI t), .int (nI st), .int (nI todo), .int (nI nx), .int (nI x), .int (nI u)] [] (SH, (0, 0, sl), M, D, RF) Q ↔ RR 51 164 [.ref 49, .int (nI b), .int (nI t), .int (nI st), .int (nI todo), .int (nI nx), .int (nI (frR (bTh M0 (mq b)) st t nx k u x)), .int (nI 8)] [] (SH, (0, 0, sl), M, D, RF) Q) := by
  intro k
  induction k with
  | zero =>
    intro u x hk hx
    have e : u = 8 := by omega
    subst e
    rw [r51_101]
    simp only [r51_103, r51_105, am_cat0, am_catI, am_catR, am_catD, am_ndI, am_ndR, am_ndL, va_rfS, true_and, and_true, Option.toList_some, Option.toList_none, List.cons_append, List.nil_append, Nat.reduceAdd, Nat.reduceLeDiff, Nat.zero_add, Nat.le_refl, Int32.le_refl, if_true, frR]
  | succ k ih =>
    intro u x hk hx
    have hu : u < 8 := by omega
    have hT := (h u hu).1
    have hx2 := or_lt8 hx (p2_256 hu)
    rw [r51_101]
    have lo := ih (u + 1) x (by omega) hx
    have hi := ih (u + 1) (x ||| 2 ^ u) (by omega) hx2
    by_cases g1 : nx.testBit u = true
    · by_cases g2 : u = t
      · have g2' : (nI u = nI t) = True := eq_true (by rw [g2])
        simp (disch := omega) only [r51_0, r51_1, r51_2, r51_3, r51_4, r51_5, r51_7, r51_9, r51_12, r51_13, r51_15, r51_16, r51_18, r51_20, r51_22, r51_25, r51_27, r51_29, r51_30, r51_31, r51_32, r51_35, r51_38, r51_40, r51_41, r51_44, r51_46, r51_47, r51_48, r51_50, r51_51, r51_52, r51_53, r51_55, r51_56, r51_59, r51_61, r51_62, r51_63, r51_65, r51_66, r51_67, r51_70, r51_72, r51_73, r51_74, r51_77, r51_79, r51_80, r51_81, r51_83, r51_84, r51_85, r51_86, r51_87, r51_89, r51_92, r51_95, r51_96, r51_98, r51_99, r51_103, r51_105, r51_108, r51_110, r51_112, r51_113, r51_114, r51_115, r51_116, r51_119, r51_121, r51_122, r51_125, r51_126, r51_129, r51_131, r51_132, r51_133, r51_135, r51_136, r51_137, r51_140, r51_141, r51_143, r51_144, r51_145, r51_146, r51_149, r51_151, r51_152, r51_154, r51_155, r51_156, r51_158, r51_161, r51_165, r51_167, r51_168, r51_169, r51_171, r51_173, r51_176, r51_177, am_cat0, am_catI, am_catR, am_catD, am_ndI, am_ndR, am_ndL, va_rfS, true_and, and_true, Option.toList_some, Option.toList_none, List.cons_append, List.nil_append, Nat.reduceAdd, Nat.reduceLeDiff, Nat.zero_add, Nat.le_refl, rw_mrg, ite_Q, ite_bN, ite_bN', ib_0b, ib_b0, ib_1b, ib_b1, bN_0, bN_n0, bN_01T, nI1_0, nI0_0, nI01a, nI01b, bN_1, no_or, true_or, or_true, false_or, or_false, ite_not, if_true, if_false, Decidable.not_not, nx_le, Nat.not_le.mpr hu, nx_tb, g1, g2', not_true_eq_false, nI_add, am_ndI]
        rw [lo, frR, if_neg (fun z => z.2.1 g2)]
      · have g2' : (nI u = nI t) = False := eq_false (by rw [nx_eq (by omega) (by omega)]; exact g2)
        by_cases g3 : (bTh M0 (mq b)).testBit u = true
        · by_cases g4 : st.testBit u = true
          · simp (disch := omega) only [r51_0, r51_1, r51_2, r51_3, r51_4, r51_5, r51_7, r51_9, r51_12, r51_13, r51_15, r51_16, r51_18, r51_20, r51_22, r51_25, r51_27, r51_29, r51_30, r51_31, r51_32, r51_35, r51_38, r51_40, r51_41, r51_44, r51_46, r51_47, r51_48, r51_50, r51_51, r51_52, r51_53, r51_55, r51_56, r51_59, r51_61, r51_62, r51_63, r51_65, r51_66, r51_67, r51_70, r51_72, r51_73, r51_74, r51_77, r51_79, r51_80, r51_81, r51_83, r51_84, r51_85, r51_86, r51_87, r51_89, r51_92, r51_95, r51_96, r51_98, r51_99, r51_103, r51_105, r51_108, r51_110, r51_112, r51_113, r51_114, r51_115, r51_116, r51_119, r51_121, r51_122, r51_125, r51_126, r51_129, r51_131, r51_132, r51_133, r51_135, r51_136, r51_137, r51_140, r51_141, r51_143, r51_144, r51_145, r51_146, r51_149, r51_151, r51_152, r51_154, r51_155, r51_156, r51_158, r51_161, r51_165, r51_167, r51_168, r51_169, r51_171, r51_173, r51_176, r51_177, am_cat0, am_catI, am_catR, am_catD, am_ndI, am_ndR, am_ndL, va_rfS, true_and, and_true, Option.toList_some, Option.toList_none, List.cons_append, List.nil_append, Nat.reduceAdd, Nat.reduceLeDiff, Nat.zero_add, Nat.le_refl, rw_mrg, ite_Q, ite_bN, ite_bN', ib_0b, ib_b0, ib_1b, ib_b1, bN_0, bN_n0, bN_01T, nI1_0, nI0_0, nI01a, nI01b, bN_1, no_or, true_or, or_true, false_or, or_false, ite_not, if_true, if_false, Decidable.not_not, nx_le, Nat.not_le.mpr hu, nx_tb, g1, g2', g3, g4, Bool.false_eq_true, not_true_eq_false, not_false_eq_true, so49, sf49_0, sd50, am_bd, pk_mul, bd_n, nI_tn, hT, nI_add, am_ndI]
            rw [lo, frR, if_neg (fun z => z.2.2.2 g4)]
          · simp (disch := omega) only [r51_0, r51_1, r51_2, r51_3, r51_4, r51_5, r51_7, r51_9, r51_12, r51_13, r51_15, r51_16, r51_18, r51_20, r51_22, r51_25, r51_27, r51_29, r51_30, r51_31, r51_32, r51_35, r51_38, r51_40, r51_41, r51_44, r51_46, r51_47, r51_48, r51_50, r51_51, r51_52, r51_53, r51_55, r51_56, r51_59, r51_61, r51_62, r51_63, r51_65, r51_66, r51_67, r51_70, r51_72, r51_73, r51_74, r51_77, r51_79, r51_80, r51_81, r51_83, r51_84, r51_85, r51_86, r51_87, r51_89, r51_92, r51_95, r51_96, r51_98, r51_99, r51_103, r51_105, r51_108, r51_110, r51_112, r51_113, r51_114, r51_115, r51_116, r51_119, r51_121, r51_122, r51_125, r51_126, r51_129, r51_131, r51_132, r51_133, r51_135, r51_136, r51_137, r51_140, r51_141, r51_143, r51_144, r51_145, r51_146, r51_149, r51_151, r51_152, r51_154, r51_155, r51_156, r51_158, r51_161, r51_165, r51_167, r51_168, r51_169, r51_171, r51_173, r51_176, r51_177, am_cat0, am_catI, am_catR, am_catD, am_ndI, am_ndR, am_ndL, va_rfS, true_and, and_true, Option.toList_some, Option.toList_none, List.cons_append, List.nil_append, Nat.reduceAdd, Nat.reduceLeDiff, Nat.zero_add, Nat.le_refl, rw_mrg, ite_Q, ite_bN, ite_bN', ib_0b, ib_b0, ib_1b, ib_b1, bN_0, bN_n0, bN_01T, nI1_0, nI0_0, nI01a, nI01b, bN_1, no_or, true_or, or_true, false_or, or_false, ite_not, if_true, if_false, Decidable.not_not, nx_le, Nat.not_le.mpr hu, nx_tb, g1, g2', g3, g4, Bool.false_eq_true, not_true_eq_false, not_false_eq_true, so49, sf49_0, sd50, am_bd, pk_mul, bd_n, nI_tn, hT, nI_add, nx_1t, nx_or, am_ndI]
            rw [hi, frR, if_pos ⟨g1, g2, g3, g4⟩]
        · simp (disch := omega) only [r51_0, r51_1, r51_2, r51_3, r51_4, r51_5, r51_7, r51_9, r51_12, r51_13, r51_15, r51_16, r51_18, r51_20, r51_22, r51_25, r51_27, r51_29, r51_30, r51_31, r51_32, r51_35, r51_38, r51_40, r51_41, r51_44, r51_46, r51_47, r51_48, r51_50, r51_51, r51_52, r51_53, r51_55, r51_56, r51_59, r51_61, r51_62, r51_63, r51_65, r51_66, r51_67, r51_70, r51_72, r51_73, r51_74, r51_77, r51_79, r51_80, r51_81, r51_83, r51_84, r51_85, r51_86, r51_87, r51_89, r51_92, r51_95, r51_96, r51_98, r51_99, r51_103, r51_105, r51_108, r51_110, r51_112, r51_113, r51_114, r51_115, r51_116, r51_119, r51_121, r51_122, r51_125, r51_126, r51_129, r51_131, r51_132, r51_133, r51_135, r51_136, r51_137, r51_140, r51_141, r51_143, r51_144, r51_145, r51_146, r51_149, r51_151, r51_152, r51_154, r51_155, r51_156, r51_158, r51_161, r51_165, r51_167, r51_168, r51_169, r51_171, r51_173, r51_176, r51_177, am_cat0, am_catI, am_catR, am_catD, am_ndI, am_ndR, am_ndL, va_rfS, true_and, and_true, Option.toList_some, Option.toList_none, List.cons_append, List.nil_append, Nat.reduceAdd, Nat.reduceLeDiff, Nat.zero_add, Nat.le_refl, rw_mrg, ite_Q, ite_bN, ite_bN', ib_0b, ib_b0, ib_1b, ib_b1, bN_0, bN_n0, bN_01T, nI1_0, nI0_0, nI01a, nI01b, bN_1, no_or, true_or, or_true, false_or, or_false, ite_not, if_true, if_false, Decidable.not_not, nx_le, Nat.not_le.mpr hu, nx_tb, g1, g2', g3, Bool.false_eq_true, not_true_eq_false, not_false_eq_true, so49, sf49_0, sd50, am_bd, pk_mul, bd_n, nI_tn, hT, nI_add, am_ndI]
          rw [lo, frR, if_neg (fun z => g3 z.2.2.1)]
    · simp (disch := omega) only [r51_0, r51_1, r51_2, r51_3, r51_4, r51_5, r51_7, r51_9, r51_12, r51_13, r51_15, r51_16, r51_18, r51_20, r51_22, r51_25, r51_27, r51_29, r51_30, r51_31, r51_32, r51_35, r51_38, r51_40, r51_41, r51_44, r51_46, r51_47, r51_48, r51_50, r51_51, r51_52, r51_53, r51_55, r51_56, r51_59, r51_61, r51_62, r51_63, r51_65, r51_66, r51_67, r51_70, r51_72, r51_73, r51_74, r51_77, r51_79, r51_80, r51_81, r51_83, r51_84, r51_85, r51_86, r51_87, r51_89, r51_92, r51_95, r51_96, r51_98, r51_99, r51_103, r51_105, r51_108, r51_110, r51_112, r51_113, r51_114, r51_115, r51_116, r51_119, r51_121, r51_122, r51_125, r51_126, r51_129, r51_131, r51_132, r51_133, r51_135, r51_136, r51_137, r51_140, r51_141, r51_143, r51_144, r51_145, r51_146, r51_149, r51_151, r51_152, r51_154, r51_155, r51_156, r51_158, r51_161, r51_165, r51_167, r51_168, r51_169, r51_171, r51_173, r51_176, r51_177, am_cat0, am_catI, am_catR, am_catD, am_ndI, am_ndR, am_ndL, va_rfS, true_and, and_true, Option.toList_some, Option.toList_none, List.cons_append, List.nil_append, Nat.reduceAdd, Nat.reduceLeDiff, Nat.zero_add, Nat.le_refl, rw_mrg, ite_Q, ite_bN, ite_bN', ib_0b, ib_b0, ib_1b, ib_b1, bN_0, bN_n0, bN_01T, nI1_0, nI0_0, nI01a, nI01b, bN_1, no_or, true_or, or_true, false_or, or_false, ite_not, if_true, if_false, Decidable.not_not, nx_le, Nat.not_le.mpr hu, nx_tb, g1, Bool.false_eq_true, nI_01n, not_true_eq_false, not_false_eq_true, nI_add, am_ndI]
      rw [lo, frR, if_neg (fun z => g1 z.1)]
theorem c51o {b t : Nat} (hb : b < 2) (ht : t < 8) (hw : bW M0 (mq b)) (h : ∀ t, t < 8 → mBt M0 D M b t) (hth : (bTh M0 (mq b)).testBit t = true) : ∀ (n st todo : Nat) (v5 v6 v7 : Value), 2 * (256 - st) + (if todo = 0 then 0 else 1) ≤ n → abI M0 (mq b) t st todo → (RR 51 7 [.ref 49, .int (nI b), .int (nI t), .int (nI st), .int (nI todo), v5, v6, v7] [] (SH, (0, 0, sl), M, D, RF) Q ↔ Q (some (.int (nI (bAb M0 (mq b) t)))) (SH, (0, 0, sl), M, D, RF)) := by
  intro n
  induction n with
  | zero =>
    intro st todo v5 v6 v7 hn hI
    have := hI.1
    omega
  | succ n ih =>
    intro st todo v5 v6 v7 hn hI
    have hI2 := hI
    obtain ⟨i1, i2, i3, i4, i5⟩ := hI
    rw [r51_7]
    by_cases h0 : todo = 0
    · subst h0
      have e : (nI 0 = 0) = True := eq_true (by decide)
      simp only [r51_9, e, if_true, r51_176, r51_177, am_cat0, am_catI, am_catR, am_catD, am_ndI, am_ndR, am_ndL, va_rfS, true_and, and_true, Option.toList_some, Option.toList_none, List.cons_append, List.nil_append, Nat.reduceAdd, Nat.reduceLeDiff, Nat.zero_add, Nat.le_refl]
      rw [abI_e hw ht hI2]
    · have e : (nI todo = 0) = False := eq_false (by rw [nx_0 (by omega)]; exact h0)
      have hthd : ∀ v, todo.testBit v = true → (bTh M0 (mq b)).testBit v = true := fun v hv => by
        rcases i4 v hv with rfl | hv
        · exact hth
        · exact (i3 v hv).2.2
      have l1 := nxR_lt (todo := todo) hw 8 0 0 (by decide) (by decide)
      have l2 := frR_lt (th := bTh M0 (mq b)) (st := st) (t := t) (nx := nxR M0 (mq b) todo 8 0 0) 8 0 0 (by decide) (by decide)
      simp only [r51_9, e, if_false, r51_12, r51_13, r51_15, r51_16, am_cat0, am_catI, am_catR, am_catD, am_ndI, am_ndR, am_ndL, va_rfS, true_and, and_true, Option.toList_some, Option.toList_none, List.cons_append, List.nil_append, Nat.reduceAdd, Nat.reduceLeDiff, Nat.zero_add, Nat.le_refl]
      rw [c51a hb hw h i2 hthd 8 0 0 (by decide) (by decide)]
      simp only [r51_95, r51_96, r51_98, r51_99, am_cat0, am_catI, am_catR, am_catD, am_ndI, am_ndR, am_ndL, va_rfS, true_and, and_true, Option.toList_some, Option.toList_none, List.cons_append, List.nil_append, Nat.reduceAdd, Nat.reduceLeDiff, Nat.zero_add, Nat.le_refl]
      rw [c51b hb hw h ht i1 l1 8 0 0 (by decide) (by decide)]
      simp only [r51_164, r51_165, r51_167, r51_168, r51_169, r51_171, r51_173, am_cat0, am_catI, am_catR, am_catD, am_ndI, am_ndR, am_ndL, va_rfS, true_and, and_true, Option.toList_some, Option.toList_none, List.cons_append, List.nil_append, Nat.reduceAdd, Nat.reduceLeDiff, Nat.zero_add, Nat.le_refl, nx_or]
      refine ih _ _ _ _ _ ?_ (abI_s hw ht hI2)
      rw [if_neg h0] at hn
      by_cases hf : frR (bTh M0 (mq b)) st t (nxR M0 (mq b) todo 8 0 0) 8 0 0 = 0
      · rw [hf, Nat.or_zero, if_pos rfl]
        omega
      · rw [if_neg hf]
        have hg := fr_gr hf
        omega
theorem c51 {b t : Nat} (hb : b < 2) (ht : t < 8) (hw : bW M0 (mq b)) (h : ∀ t, t < 8 → mBt M0 D M b t) (hth : (bTh M0 (mq b)).testBit t = true) : RR 51 0 [.ref 49, .int (nI b), .int (nI t), .long 0, .long 0, .long 0, .long 0, .long 0] [] (SH, (0, 0, sl), M, D, RF) Q ↔ Q (some (.int (nI (bAb M0 (mq b) t)))) (SH, (0, 0, sl), M, D, RF) := by
  simp (disch := omega) only [r51_0, r51_1, r51_2, r51_3, r51_4, r51_5, am_cat0, am_catI, am_catR, am_catD, am_ndI, am_ndR, am_ndL, va_rfS, true_and, and_true, Option.toList_some, Option.toList_none, List.cons_append, List.nil_append, Nat.reduceAdd, Nat.reduceLeDiff, Nat.zero_add, Nat.le_refl, nx_1t]
  exact c51o hb ht hw h hth _ _ _ _ _ _ (Nat.le_refl _) (abI_0 ht)
theorem c55o {b st : Nat} (hb : b < 2) (hw : bW M0 (mq b)) (h : ∀ t, t < 8 → mBt M0 D M b t) (hst : st < 256) : ∀ (k u x : Nat), u + k = 8 → x < 256 → (RR 55 5 [.ref 49, .int (nI b), .int (nI st), .int (nI x), .int (nI u)] [] (SH, (0, 0, sl), M, D, RF) Q ↔ Q (some (.int (nI (soR M0 (mq b) st k u x)))) (SH, (0, 0, sl), M, D, RF)) := by
  intro k
  induction k with
  | zero =>
    intro u x hk hx
    have e : u = 8 := by omega
    subst e
    rw [r55_5]
    simp only [r55_0, r55_1, r55_2, r55_3, r55_7, r55_9, r55_12, r55_13, r55_15, r55_16, r55_17, r55_18, r55_19, r55_22, r55_23, r55_24, r55_26, r55_29, r55_32, r55_33, r55_34, r55_36, r55_37, r55_38, r55_39, r55_42, r55_45, r55_46, am_cat0, am_catI, am_catR, am_catD, am_ndI, am_ndR, am_ndL, va_rfS, true_and, and_true, Option.toList_some, Option.toList_none, List.cons_append, List.nil_append, Nat.reduceAdd, Nat.reduceLeDiff, Nat.zero_add, Nat.le_refl, rw_mrg, ite_Q, ite_bN, ite_bN', ib_0b, ib_b0, ib_1b, ib_b1, bN_0, bN_n0, bN_01T, nI1_0, nI0_0, nI01a, nI01b, bN_1, no_or, true_or, or_true, false_or, or_false, ite_not, if_true, if_false, Decidable.not_not, Int32.le_refl, soR]
  | succ k ih =>
    intro u x hk hx
    have hu : u < 8 := by omega
    rw [r55_5]
    by_cases g1 : st.testBit u = true
    · by_cases g20 : bSeen M0 (mq b) u
      · have g2 := eq_true g20
        simp (disch := omega) only [r55_0, r55_1, r55_2, r55_3, r55_7, r55_9, r55_12, r55_13, r55_15, r55_16, r55_17, r55_18, r55_19, r55_22, r55_23, r55_24, r55_26, r55_29, r55_32, r55_33, r55_34, r55_36, r55_37, r55_38, r55_39, r55_42, r55_45, r55_46, am_cat0, am_catI, am_catR, am_catD, am_ndI, am_ndR, am_ndL, va_rfS, true_and, and_true, Option.toList_some, Option.toList_none, List.cons_append, List.nil_append, Nat.reduceAdd, Nat.reduceLeDiff, Nat.zero_add, Nat.le_refl, rw_mrg, ite_Q, ite_bN, ite_bN', ib_0b, ib_b0, ib_1b, ib_b1, bN_0, bN_n0, bN_01T, nI1_0, nI0_0, nI01a, nI01b, bN_1, no_or, true_or, or_true, false_or, or_false, ite_not, if_true, if_false, Decidable.not_not, nx_le, Nat.not_le.mpr hu, nx_tb, g1, so49, c49 hb hu hw (h u hu), g2, not_true_eq_false, nI_add, nx_1t, nx_or, am_ndI]
        rw [ih (u + 1) _ (by omega) (or_lt8 hx (p2_256 hu)), soR, if_pos ⟨g1, g20⟩]
      · have g2 := eq_false g20
        simp (disch := omega) only [r55_0, r55_1, r55_2, r55_3, r55_7, r55_9, r55_12, r55_13, r55_15, r55_16, r55_17, r55_18, r55_19, r55_22, r55_23, r55_24, r55_26, r55_29, r55_32, r55_33, r55_34, r55_36, r55_37, r55_38, r55_39, r55_42, r55_45, r55_46, am_cat0, am_catI, am_catR, am_catD, am_ndI, am_ndR, am_ndL, va_rfS, true_and, and_true, Option.toList_some, Option.toList_none, List.cons_append, List.nil_append, Nat.reduceAdd, Nat.reduceLeDiff, Nat.zero_add, Nat.le_refl, rw_mrg, ite_Q, ite_bN, ite_bN', ib_0b, ib_b0, ib_1b, ib_b1, bN_0, bN_n0, bN_01T, nI1_0, nI0_0, nI01a, nI01b, bN_1, no_or, true_or, or_true, false_or, or_false, ite_not, if_true, if_false, Decidable.not_not, nx_le, Nat.not_le.mpr hu, nx_tb, g1, so49, c49 hb hu hw (h u hu), g2, not_false_eq_true, not_true_eq_false, nI_add, am_ndI]
        rw [ih (u + 1) _ (by omega) hx, soR, if_neg (fun z => g20 z.2)]
    · simp (disch := omega) only [r55_0, r55_1, r55_2, r55_3, r55_7, r55_9, r55_12, r55_13, r55_15, r55_16, r55_17, r55_18, r55_19, r55_22, r55_23, r55_24, r55_26, r55_29, r55_32, r55_33, r55_34, r55_36, r55_37, r55_38, r55_39, r55_42, r55_45, r55_46, am_cat0, am_catI, am_catR, am_catD, am_ndI, am_ndR, am_ndL, va_rfS, true_and, and_true, Option.toList_some, Option.toList_none, List.cons_append, List.nil_append, Nat.reduceAdd, Nat.reduceLeDiff, Nat.zero_add, Nat.le_refl, rw_mrg, ite_Q, ite_bN, ite_bN', ib_0b, ib_b0, ib_1b, ib_b1, bN_0, bN_n0, bN_01T, nI1_0, nI0_0, nI01a, nI01b, bN_1, no_or, true_or, or_true, false_or, or_false, ite_not, if_true, if_false, Decidable.not_not, nx_le, Nat.not_le.mpr hu, nx_tb, g1, Bool.false_eq_true, nI_01n, not_true_eq_false, not_false_eq_true, nI_add, am_ndI]
      rw [ih (u + 1) _ (by omega) hx, soR, if_neg (fun z => g1 z.1)]
theorem c55 {b t : Nat} (hb : b < 2) (ht : t < 8) (hw : bW M0 (mq b)) (h : ∀ t, t < 8 → mBt M0 D M b t) : RR 55 0 [.ref 49, .int (nI b), .int (nI (bAb M0 (mq b) t)), .long 0, .long 0] [] (SH, (0, 0, sl), M, D, RF) Q ↔ Q (some (.int (nI (bSa M0 (mq b) t)))) (SH, (0, 0, sl), M, D, RF) := by
  have hl := bAb_lt hw ht
  simp only [r55_0, r55_1, r55_2, r55_3, am_cat0, am_catI, am_catR, am_catD, am_ndI, am_ndR, am_ndL, va_rfS, true_and, and_true, Option.toList_some, Option.toList_none, List.cons_append, List.nil_append, Nat.reduceAdd, Nat.reduceLeDiff, Nat.zero_add, Nat.le_refl]
  rw [c55o hb hw h hl 8 0 0 (by decide) (by decide), so_sa hl]
  rfl
theorem c58o {t s : Nat} (h2 : bW M0 2) (h9 : bW M0 9) (h : ∀ t, t < 8 → mBt M0 D M 1 t) (ht : t < 8) (hs : s < 24) (hh : bHas M0 2 t s) : ∀ (k u : Nat), u + k = 8 → (RR 58 11 [.ref 49, .int (nI t), .int (nI (s + 1)), .int (nI (bMo M0 2 t s / 8)), .int (nI (bAb M0 9 t)), .int (nI u)] [] (SH, (0, 0, sl), M, D, RF) Q ↔ Q (some (.int (bN (inB M0 t s k u = true)))) (SH, (0, 0, sl), M, D, RF)) := by
  intro k
  have hab := bAb_lt h9 ht
  have hm2 := bMo_lt h2 ht hs hh
  have e8 : ¬ nI 8 = 0 := by decide
  induction k with
  | zero =>
    intro u h
    have hu : u = 8 := by omega
    subst hu
    rw [r58_11]
    simp only [r58_0, r58_1, r58_2, r58_3, r58_6, r58_8, r58_9, r58_13, r58_15, r58_18, r58_20, r58_22, r58_23, r58_24, r58_25, r58_26, r58_29, r58_30, r58_31, r58_33, r58_34, r58_37, r58_40, r58_41, r58_44, r58_45, r58_47, r58_48, r58_51, r58_52, r58_54, r58_55, r58_56, r58_59, r58_60, r58_61, r58_64, r58_67, r58_68, am_cat0, am_catI, am_catR, am_catD, am_ndI, am_ndR, am_ndL, va_rfS, true_and, and_true, Option.toList_some, Option.toList_none, List.cons_append, List.nil_append, Nat.reduceAdd, Nat.reduceLeDiff, Nat.zero_add, Nat.le_refl, rw_mrg, ite_Q, ite_bN, ite_bN', ib_0b, ib_b0, ib_1b, ib_b1, bN_0, bN_n0, bN_01T, nI1_0, nI0_0, nI01a, nI01b, bN_1, no_or, true_or, or_true, false_or, or_false, ite_not, if_true, if_false, Decidable.not_not, Int32.le_refl]
    rw [bN_f (p := inB M0 t s 0 8 = true) (by simp [inB])]
  | succ k ih =>
    intro u hk
    have hu : u < 8 := by omega
    have hB := h u hu
    have c50' := fun Q => c50 (Q := Q) (D := D) (sl := sl) (b := 1) (by decide) hu hs h9 hB
    have hmode := hB.2.2.2.2.1 s hs
    rw [r58_11]
    by_cases b1 : (bAb M0 9 t).testBit u = true
    · by_cases b20 : bSh M0 9 u s
      · have b2 : ∀ hd, @bN (bSh M0 (mq 1) u s) hd = nI 1 := fun hd => bN_t b20
        have hm9 := bMo_lt h9 hu hs b20.2.1
        have hmode2 : M 56 (24 * (8 * 1 + u) + s) = nI (bMo M0 9 u s) := hmode.trans (bMo_e M0 9 u s)
        by_cases b3 : bMo M0 2 t s / 8 ≤ bMo M0 9 u s / 8
        · have b3' : ¬ bMo M0 9 u s / 8 < bMo M0 2 t s / 8 := by omega
          simp (disch := omega) only [r58_0, r58_1, r58_2, r58_3, r58_6, r58_8, r58_9, r58_13, r58_15, r58_18, r58_20, r58_22, r58_23, r58_24, r58_25, r58_26, r58_29, r58_30, r58_31, r58_33, r58_34, r58_37, r58_40, r58_41, r58_44, r58_45, r58_47, r58_48, r58_51, r58_52, r58_54, r58_55, r58_56, r58_59, r58_60, r58_61, r58_64, r58_67, r58_68, am_cat0, am_catI, am_catR, am_catD, am_ndI, am_ndR, am_ndL, va_rfS, true_and, and_true, Option.toList_some, Option.toList_none, List.cons_append, List.nil_append, Nat.reduceAdd, Nat.reduceLeDiff, Nat.zero_add, Nat.le_refl, rw_mrg, ite_Q, ite_bN, ite_bN', ib_0b, ib_b0, ib_1b, ib_b1, bN_0, bN_n0, bN_01T, nI1_0, nI0_0, nI01a, nI01b, bN_1, no_or, true_or, or_true, false_or, or_false, ite_not, if_true, if_false, Decidable.not_not, nx_le, Nat.not_le.mpr hu, nx_tb, b1, so49, c50', b2, sf49_6, sd56, c36 (show 1 < 2 by decide) hu hs, am_bd, bd_n, nI_tn, hmode2, e8, nx_dv, nx_lt, b3', not_true_eq_false, not_false_eq_true]
          rw [bN_t (by rw [inB]; simp [b1, b20, b3])]
        · have b3' : bMo M0 9 u s / 8 < bMo M0 2 t s / 8 := by omega
          simp (disch := omega) only [r58_0, r58_1, r58_2, r58_3, r58_6, r58_8, r58_9, r58_13, r58_15, r58_18, r58_20, r58_22, r58_23, r58_24, r58_25, r58_26, r58_29, r58_30, r58_31, r58_33, r58_34, r58_37, r58_40, r58_41, r58_44, r58_45, r58_47, r58_48, r58_51, r58_52, r58_54, r58_55, r58_56, r58_59, r58_60, r58_61, r58_64, r58_67, r58_68, am_cat0, am_catI, am_catR, am_catD, am_ndI, am_ndR, am_ndL, va_rfS, true_and, and_true, Option.toList_some, Option.toList_none, List.cons_append, List.nil_append, Nat.reduceAdd, Nat.reduceLeDiff, Nat.zero_add, Nat.le_refl, rw_mrg, ite_Q, ite_bN, ite_bN', ib_0b, ib_b0, ib_1b, ib_b1, bN_0, bN_n0, bN_01T, nI1_0, nI0_0, nI01a, nI01b, bN_1, no_or, true_or, or_true, false_or, or_false, ite_not, if_true, if_false, Decidable.not_not, nx_le, Nat.not_le.mpr hu, nx_tb, b1, so49, c50', b2, sf49_6, sd56, c36 (show 1 < 2 by decide) hu hs, am_bd, bd_n, nI_tn, hmode2, e8, nx_dv, nx_lt, b3', not_true_eq_false, not_false_eq_true, nI_add, am_ndI]
          rw [ih (u + 1) (by omega)]
          refine bN_Q ?_
          rw [inB, decide_eq_false (fun z => b3 z.2.2), Bool.false_or]
      · have b2 : ∀ hd, @bN (bSh M0 (mq 1) u s) hd = nI 0 := fun hd => bN_f b20
        simp (disch := omega) only [r58_0, r58_1, r58_2, r58_3, r58_6, r58_8, r58_9, r58_13, r58_15, r58_18, r58_20, r58_22, r58_23, r58_24, r58_25, r58_26, r58_29, r58_30, r58_31, r58_33, r58_34, r58_37, r58_40, r58_41, r58_44, r58_45, r58_47, r58_48, r58_51, r58_52, r58_54, r58_55, r58_56, r58_59, r58_60, r58_61, r58_64, r58_67, r58_68, am_cat0, am_catI, am_catR, am_catD, am_ndI, am_ndR, am_ndL, va_rfS, true_and, and_true, Option.toList_some, Option.toList_none, List.cons_append, List.nil_append, Nat.reduceAdd, Nat.reduceLeDiff, Nat.zero_add, Nat.le_refl, rw_mrg, ite_Q, ite_bN, ite_bN', ib_0b, ib_b0, ib_1b, ib_b1, bN_0, bN_n0, bN_01T, nI1_0, nI0_0, nI01a, nI01b, bN_1, no_or, true_or, or_true, false_or, or_false, ite_not, if_true, if_false, Decidable.not_not, nx_le, Nat.not_le.mpr hu, nx_tb, b1, so49, c50', b2, not_true_eq_false, not_false_eq_true, nI_add, am_ndI]
        rw [ih (u + 1) (by omega)]
        refine bN_Q ?_
        rw [inB, decide_eq_false (fun z => b20 z.2.1), Bool.false_or]
    · simp (disch := omega) only [r58_0, r58_1, r58_2, r58_3, r58_6, r58_8, r58_9, r58_13, r58_15, r58_18, r58_20, r58_22, r58_23, r58_24, r58_25, r58_26, r58_29, r58_30, r58_31, r58_33, r58_34, r58_37, r58_40, r58_41, r58_44, r58_45, r58_47, r58_48, r58_51, r58_52, r58_54, r58_55, r58_56, r58_59, r58_60, r58_61, r58_64, r58_67, r58_68, am_cat0, am_catI, am_catR, am_catD, am_ndI, am_ndR, am_ndL, va_rfS, true_and, and_true, Option.toList_some, Option.toList_none, List.cons_append, List.nil_append, Nat.reduceAdd, Nat.reduceLeDiff, Nat.zero_add, Nat.le_refl, rw_mrg, ite_Q, ite_bN, ite_bN', ib_0b, ib_b0, ib_1b, ib_b1, bN_0, bN_n0, bN_01T, nI1_0, nI0_0, nI01a, nI01b, bN_1, no_or, true_or, or_true, false_or, or_false, ite_not, if_true, if_false, Decidable.not_not, nx_le, Nat.not_le.mpr hu, nx_tb, b1, nI_01n, not_true_eq_false, not_false_eq_true, nI_add, am_ndI]
      rw [ih (u + 1) (by omega)]
      refine bN_Q ?_
      rw [inB, decide_eq_false (fun z => b1 z.1), Bool.false_or]
theorem c58 {t s : Nat} (h2 : bW M0 2) (h9 : bW M0 9) (h : ∀ t, t < 8 → mBt M0 D M 1 t) (ht : t < 8) (hs : s < 24) (hh : bHas M0 2 t s) (hth : (bTh M0 9).testBit t = true) : RR 58 0 [.ref 49, .int (nI t), .int (nI (s + 1)), .int (nI (bMo M0 2 t s / 8)), .long 0, .long 0] [] (SH, (0, 0, sl), M, D, RF) Q ↔ Q (some (.int (bN (inB M0 t s 8 0 = true)))) (SH, (0, 0, sl), M, D, RF) := by
  have e := fun Q => c51 (Q := Q) (M0 := M0) (sl := sl) (b := 1) (by decide) ht h9 h hth
  simp only [r58_0, r58_1, r58_2, r58_3, r58_6, r58_8, r58_9, am_cat0, am_catI, am_catR, am_catD, am_ndI, am_ndR, am_ndL, va_rfS, true_and, and_true, Option.toList_some, Option.toList_none, List.cons_append, List.nil_append, Nat.reduceAdd, Nat.reduceLeDiff, Nat.zero_add, Nat.le_refl, so49, e]
  exact c58o h2 h9 h ht hs hh 8 0 (by decide)
end CN
