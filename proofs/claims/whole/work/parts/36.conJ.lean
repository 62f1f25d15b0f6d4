/-! CONTRACTS: shiftOf, find; the changes -/
theorem RR.imp {mi pc : Nat} {L st : List Value} {μ : amM} {Q Q' : Option Value → amM → Prop} (h : RR mi pc L st μ Q) (hq : ∀ rv μ', Q rv μ' → Q' rv μ') : RR mi pc L st μ Q' := by
  obtain ⟨n, r, h1, h2⟩ := h
  exact ⟨n, r, h1, hq _ _ h2⟩
/-- the changes: code, type, member -/
def gT (M : Nat → Nat → Int32) (D : Nat → Nat → UInt64) (t : Nat) : Nat → Nat → List (Nat × Nat)
  | 0, _ => []
  | k + 1, s => cmL M D t s ++ gT M D t k (s + 1)
def gU (M : Nat → Nat → Int32) (D : Nat → Nat → UInt64) (t : Nat) : List (Nat × Nat) := if bSeen M 2 t ∧ bSeen M 9 t then ctL M t ++ gT M D t 24 0 else csO M t ++ csN M t
def gA (M : Nat → Nat → Int32) (D : Nat → Nat → UInt64) : Nat → Nat → List (Nat × Nat × Nat)
  | 0, _ => []
  | k + 1, t => (gU M D t).map (fun z => (z.1, t, z.2)) ++ gA M D k (t + 1)
/-- the package of a change's type -/
def gP (M : Nat → Nat → Int32) (c t : Nat) : Nat := bPk M (if c = 3 then 9 else 2) t
def rw3 (M : Nat → Nat → Int32) (e : Nat × Nat × Nat) : Nat := rE 0 (gP M e.1 e.2.1) e.2.1 0 e.1 e.2.2
theorem oN_sub {a : Prop} {h : Decidable a} {x : Nat × Nat} : List.Sublist (@oN a h x) [x] := by
  unfold oN
  by_cases e : a
  · rw [if_pos e]; exact List.Sublist.refl _
  · rw [if_neg e]; exact List.nil_sublist _
theorem ct_sub (M : Nat → Nat → Int32) (t : Nat) : List.Sublist (ctL M t) [(4, 0), (5, 0), (6, 0), (7, 0), (8, 0), (9, 0), (10, 0), (11, 0)] := by
  have h := ((((((oN_sub (a := ¬ bPk M 2 t = bPk M 9 t) (h := inferInstance) (x := (4, 0))).append (oN_sub (a := (andNot (bFl M 2 t) (bFl M 9 t) ||| andNot (bFl M 9 t) (bFl M 2 t)).testBit 1 = true) (h := inferInstance) (x := (5, 0)))).append (oN_sub (a := (andNot (bFl M 9 t) (bFl M 2 t)).testBit 2 = true) (h := inferInstance) (x := (6, 0)))).append (oN_sub (a := (andNot (bFl M 2 t) (bFl M 9 t)).testBit 2 = true) (h := inferInstance) (x := (7, 0)))).append (oN_sub (a := (andNot (bFl M 9 t) (bFl M 2 t)).testBit 3 = true) (h := inferInstance) (x := (8, 0)))).append (oN_sub (a := (andNot (bFl M 2 t) (bFl M 9 t)).testBit 3 = true) (h := inferInstance) (x := (9, 0)))).append (oN_sub (a := ¬ andNot (bSa M 2 t) (bAb M 9 t) = 0) (h := inferInstance) (x := (10, 0)))
  exact h.append (oN_sub (a := ¬ andNot (bSa M 9 t) (bAb M 2 t) = 0) (h := inferInstance) (x := (11, 0)))
theorem cmS_sub (M : Nat → Nat → Int32) (D : Nat → Nat → UInt64) (t s : Nat) : List.Sublist (cmS M D t s) [(22, s + 1), (25, s + 1), (26, s + 1), (27, s + 1), (28, s + 1), (29, s + 1), (30, s + 1), (31, s + 1), (32, s + 1), (33, s + 1)] := by
  unfold cmS
  have h := ((((oN_sub (a := ¬ bMo M 2 t s / 8 ≤ bMo M 9 t s / 8) (h := inferInstance) (x := (22, s + 1))).append (oN_sub (a := ¬ bMo M 9 t s / 8 ≤ bMo M 2 t s / 8) (h := inferInstance) (x := (25, s + 1)))).append (oN_sub (a := (andNot (bMo M 2 t s % 8) (bMo M 9 t s % 8) ||| andNot (bMo M 9 t s % 8) (bMo M 2 t s % 8)).testBit 0 = true) (h := inferInstance) (x := (26, s + 1)))).append (oN_sub (a := (andNot (bMo M 9 t s % 8) (bMo M 2 t s % 8)).testBit 2 = true) (h := inferInstance) (x := (27, s + 1)))).append (oN_sub (a := (andNot (bMo M 2 t s % 8) (bMo M 9 t s % 8)).testBit 2 = true) (h := inferInstance) (x := (28, s + 1)))
  by_cases e : 12 ≤ s
  · rw [if_pos e]
    exact (h.append ((oN_sub (a := (andNot (bMo M 9 t s % 8) (bMo M 2 t s % 8)).testBit 1 = true) (h := inferInstance) (x := (29, s + 1))).append (oN_sub (a := (andNot (bMo M 2 t s % 8) (bMo M 9 t s % 8)).testBit 1 = true) (h := inferInstance) (x := (30, s + 1))))).trans (List.Sublist.append (List.Sublist.refl [(22, s + 1), (25, s + 1), (26, s + 1), (27, s + 1), (28, s + 1)]) (List.Sublist.append (List.Sublist.refl [(29, s + 1), (30, s + 1)]) (List.nil_sublist [(31, s + 1), (32, s + 1), (33, s + 1)])))
  · rw [if_neg e]
    have h2 := ((oN_sub (a := (bVa M 2 t).testBit s = true ∧ (bVa M 9 t).testBit s = true ∧ cdP (D 8 (t * 12 + s)) (D 15 (t * 12 + s))) (h := inferInstance) (x := (31, s + 1))).append (oN_sub (a := (bVa M 2 t).testBit s = true ∧ ¬ (bVa M 9 t).testBit s = true) (h := inferInstance) (x := (32, s + 1)))).append (oN_sub (a := ¬ (bVa M 2 t).testBit s = true ∧ (bVa M 9 t).testBit s = true) (h := inferInstance) (x := (33, s + 1)))
    exact (h.append h2).trans (List.Sublist.append (List.Sublist.refl [(22, s + 1), (25, s + 1), (26, s + 1), (27, s + 1), (28, s + 1)]) (List.Sublist.append (List.nil_sublist [(29, s + 1), (30, s + 1)]) (List.Sublist.refl [(31, s + 1), (32, s + 1), (33, s + 1)])))
theorem cm_sub (M : Nat → Nat → Int32) (D : Nat → Nat → UInt64) (t s : Nat) : List.Sublist (cmL M D t s) [(20, s + 1), (21, s + 1), (22, s + 1), (23, s + 1), (24, s + 1), (25, s + 1), (26, s + 1), (27, s + 1), (28, s + 1), (29, s + 1), (30, s + 1), (31, s + 1), (32, s + 1), (33, s + 1)] := by
  unfold cmL
  by_cases h2 : bSh M 2 t s
  · rw [if_pos h2]
    by_cases h9 : bSh M 9 t s
    · rw [if_pos h9]
      refine (cmS_sub M D t s).trans ?_
      exact List.Sublist.append (List.nil_sublist [(20, s + 1), (21, s + 1)]) (List.Sublist.append (List.Sublist.refl [(22, s + 1)]) (List.Sublist.append (List.nil_sublist [(23, s + 1), (24, s + 1)]) (List.Sublist.refl [(25, s + 1), (26, s + 1), (27, s + 1), (28, s + 1), (29, s + 1), (30, s + 1), (31, s + 1), (32, s + 1), (33, s + 1)])))
    · rw [if_neg h9]
      have h := ((oN_sub (a := ¬ bHas M 9 t s ∧ ¬ inB M t s 8 0 = true) (h := inferInstance) (x := (20, s + 1))).append (oN_sub (a := ¬ bHas M 9 t s ∧ inB M t s 8 0 = true) (h := inferInstance) (x := (21, s + 1)))).append (oN_sub (a := bHas M 9 t s) (h := inferInstance) (x := (22, s + 1)))
      exact h.trans (List.Sublist.append (List.Sublist.refl [(20, s + 1), (21, s + 1), (22, s + 1)]) (List.nil_sublist _))
  · rw [if_neg h2]
    by_cases h9 : bSh M 9 t s
    · rw [if_pos h9]
      by_cases e : 12 ≤ s ∧ (bMo M 9 t s % 8).testBit 1 = true
      · rw [if_pos e]
        exact List.Sublist.append (List.nil_sublist [(20, s + 1), (21, s + 1), (22, s + 1), (23, s + 1)]) (List.Sublist.append (List.Sublist.refl [(24, s + 1)]) (List.nil_sublist _))
      · rw [if_neg e]
        exact List.Sublist.append (List.nil_sublist [(20, s + 1), (21, s + 1), (22, s + 1)]) (List.Sublist.append (List.Sublist.refl [(23, s + 1)]) (List.nil_sublist _))
    · rw [if_neg h9]; exact List.nil_sublist _
/-- how long a part can be -/
theorem oN_2 {a b : Prop} {ha : Decidable a} {hb : Decidable b} {x y : Nat × Nat} (h : a → ¬ b) : (@oN a ha x).length + (@oN b hb y).length ≤ 1 := by
  unfold oN
  by_cases e : a
  · rw [if_pos e, if_neg (h e)]; exact Nat.le_refl _
  · rw [if_neg e]
    by_cases f : b
    · rw [if_pos f]; exact Nat.le_refl _
    · rw [if_neg f]; exact Nat.zero_le _
theorem an_ex {a b i : Nat} (hi : i < 32) (h : (andNot a b).testBit i = true) : ¬ (andNot b a).testBit i = true := by
  rw [andNot_tb _ _ _ hi] at h ⊢
  revert h
  cases a.testBit i <;> cases b.testBit i <;> simp
theorem ct_len6 (M : Nat → Nat → Int32) (t : Nat) : (ctL M t).length ≤ 6 := by
  unfold ctL
  simp only [List.length_append]
  have h := fun (a : Prop) (ha : Decidable a) (x : Nat × Nat) => @oN_len a ha x
  have h1 := h (¬ bPk M 2 t = bPk M 9 t) inferInstance (4, 0)
  have h2 := h ((andNot (bFl M 2 t) (bFl M 9 t) ||| andNot (bFl M 9 t) (bFl M 2 t)).testBit 1 = true) inferInstance (5, 0)
  have h3 := oN_2 (ha := inferInstance) (hb := inferInstance) (x := (6, 0)) (y := (7, 0)) (an_ex (a := bFl M 9 t) (b := bFl M 2 t) (i := 2) (by decide))
  have h5 := oN_2 (ha := inferInstance) (hb := inferInstance) (x := (8, 0)) (y := (9, 0)) (an_ex (a := bFl M 9 t) (b := bFl M 2 t) (i := 3) (by decide))
  have h7 := h (¬ andNot (bSa M 2 t) (bAb M 9 t) = 0) inferInstance (10, 0)
  have h8 := h (¬ andNot (bSa M 9 t) (bAb M 2 t) = 0) inferInstance (11, 0)
  omega
theorem cmS_len (M : Nat → Nat → Int32) (D : Nat → Nat → UInt64) (t s : Nat) : (cmS M D t s).length ≤ 4 := by
  unfold cmS
  simp only [List.length_append]
  have h := fun (a : Prop) (ha : Decidable a) (x : Nat × Nat) => @oN_len a ha x
  have h1 := oN_2 (a := ¬ bMo M 2 t s / 8 ≤ bMo M 9 t s / 8) (b := ¬ bMo M 9 t s / 8 ≤ bMo M 2 t s / 8) (ha := inferInstance) (hb := inferInstance) (x := (22, s + 1)) (y := (25, s + 1)) (by omega)
  have h2 := h ((andNot (bMo M 2 t s % 8) (bMo M 9 t s % 8) ||| andNot (bMo M 9 t s % 8) (bMo M 2 t s % 8)).testBit 0 = true) inferInstance (26, s + 1)
  have h3 := oN_2 (ha := inferInstance) (hb := inferInstance) (x := (27, s + 1)) (y := (28, s + 1)) (an_ex (a := bMo M 9 t s % 8) (b := bMo M 2 t s % 8) (i := 2) (by decide))
  by_cases e : 12 ≤ s
  · rw [if_pos e, List.length_append]
    have h4 := oN_2 (ha := inferInstance) (hb := inferInstance) (x := (29, s + 1)) (y := (30, s + 1)) (an_ex (a := bMo M 9 t s % 8) (b := bMo M 2 t s % 8) (i := 1) (by decide))
    omega
  · rw [if_neg e, List.length_append, List.length_append]
    have h4 : (oN ((bVa M 2 t).testBit s = true ∧ (bVa M 9 t).testBit s = true ∧ cdP (D 8 (t * 12 + s)) (D 15 (t * 12 + s))) (31, s + 1)).length + (oN ((bVa M 2 t).testBit s = true ∧ ¬ (bVa M 9 t).testBit s = true) (32, s + 1)).length + (oN (¬ (bVa M 2 t).testBit s = true ∧ (bVa M 9 t).testBit s = true) (33, s + 1)).length ≤ 1 := by
      by_cases x1 : (bVa M 2 t).testBit s = true <;> by_cases x2 : (bVa M 9 t).testBit s = true
      · have z1 := h ((bVa M 2 t).testBit s = true ∧ (bVa M 9 t).testBit s = true ∧ cdP (D 8 (t * 12 + s)) (D 15 (t * 12 + s))) inferInstance (31, s + 1)
        have z2 : (oN ((bVa M 2 t).testBit s = true ∧ ¬ (bVa M 9 t).testBit s = true) (32, s + 1)) = [] := if_neg (fun z => z.2 x2)
        have z3 : (oN (¬ (bVa M 2 t).testBit s = true ∧ (bVa M 9 t).testBit s = true) (33, s + 1)) = [] := if_neg (fun z => z.1 x1)
        rw [z2, z3]; simpa using z1
      · have z1 : (oN ((bVa M 2 t).testBit s = true ∧ (bVa M 9 t).testBit s = true ∧ cdP (D 8 (t * 12 + s)) (D 15 (t * 12 + s))) (31, s + 1)) = [] := if_neg (fun z => x2 z.2.1)
        have z2 := h ((bVa M 2 t).testBit s = true ∧ ¬ (bVa M 9 t).testBit s = true) inferInstance (32, s + 1)
        have z3 : (oN (¬ (bVa M 2 t).testBit s = true ∧ (bVa M 9 t).testBit s = true) (33, s + 1)) = [] := if_neg (fun z => z.1 x1)
        rw [z1, z3]; simpa using z2
      · have z1 : (oN ((bVa M 2 t).testBit s = true ∧ (bVa M 9 t).testBit s = true ∧ cdP (D 8 (t * 12 + s)) (D 15 (t * 12 + s))) (31, s + 1)) = [] := if_neg (fun z => x1 z.1)
        have z2 : (oN ((bVa M 2 t).testBit s = true ∧ ¬ (bVa M 9 t).testBit s = true) (32, s + 1)) = [] := if_neg (fun z => x1 z.1)
        have z3 := h (¬ (bVa M 2 t).testBit s = true ∧ (bVa M 9 t).testBit s = true) inferInstance (33, s + 1)
        rw [z1, z2]; simpa using z3
      · have z1 : (oN ((bVa M 2 t).testBit s = true ∧ (bVa M 9 t).testBit s = true ∧ cdP (D 8 (t * 12 + s)) (D 15 (t * 12 + s))) (31, s + 1)) = [] := if_neg (fun z => x1 z.1)
        have z2 : (oN ((bVa M 2 t).testBit s = true ∧ ¬ (bVa M 9 t).testBit s = true) (32, s + 1)) = [] := if_neg (fun z => x1 z.1)
        have z3 : (oN (¬ (bVa M 2 t).testBit s = true ∧ (bVa M 9 t).testBit s = true) (33, s + 1)) = [] := if_neg (fun z => x2 z.2)
        rw [z1, z2, z3]; simp
    omega
theorem cm_len (M : Nat → Nat → Int32) (D : Nat → Nat → UInt64) (t s : Nat) : (cmL M D t s).length ≤ 4 := by
  unfold cmL
  by_cases h2 : bSh M 2 t s
  · rw [if_pos h2]
    by_cases h9 : bSh M 9 t s
    · rw [if_pos h9]; exact cmS_len M D t s
    · rw [if_neg h9]
      simp only [List.length_append]
      have z1 := oN_len (a := ¬ bHas M 9 t s ∧ ¬ inB M t s 8 0 = true) (h := inferInstance) (x := (20, s + 1))
      have z2 := oN_len (a := ¬ bHas M 9 t s ∧ inB M t s 8 0 = true) (h := inferInstance) (x := (21, s + 1))
      have z3 := oN_len (a := bHas M 9 t s) (h := inferInstance) (x := (22, s + 1))
      omega
  · rw [if_neg h2]
    by_cases h9 : bSh M 9 t s
    · rw [if_pos h9]; simp
    · rw [if_neg h9]; simp
theorem cs_len (M : Nat → Nat → Int32) (t : Nat) : (csO M t).length + (csN M t).length ≤ 1 := by
  unfold csO csN
  by_cases h : bSeen M 2 t
  · rw [if_pos h, if_pos h]; simp
  · rw [if_neg h, if_neg h]
    by_cases h9 : bSeen M 9 t
    · rw [if_pos h9]; simp
    · rw [if_neg h9]; simp
theorem gT_len (M : Nat → Nat → Int32) (D : Nat → Nat → UInt64) (t : Nat) : ∀ (k s : Nat), (gT M D t k s).length ≤ 4 * k := by
  intro k
  induction k with
  | zero => intro s; simp [gT]
  | succ k ih =>
    intro s
    have h1 := ih (s + 1)
    have h2 := cm_len M D t s
    rw [gT, List.length_append]
    omega
theorem gU_len (M : Nat → Nat → Int32) (D : Nat → Nat → UInt64) (t : Nat) : (gU M D t).length ≤ 102 := by
  unfold gU
  by_cases h : bSeen M 2 t ∧ bSeen M 9 t
  · rw [if_pos h, List.length_append]
    have h1 := ct_len6 M t
    have h2 := gT_len M D t 24 0
    omega
  · rw [if_neg h, List.length_append]
    have := cs_len M t
    omega
theorem gA_len (M : Nat → Nat → Int32) (D : Nat → Nat → UInt64) : ∀ (k t : Nat), (gA M D k t).length ≤ 102 * k := by
  intro k
  induction k with
  | zero => intro t; simp [gA]
  | succ k ih =>
    intro t
    have h1 := ih (t + 1)
    have h2 := gU_len M D t
    rw [gA, List.length_append, List.length_map]
    omega
/-- rows of changes -/
theorem ct_map (M : Nat → Nat → Int32) (t : Nat) : (ctL M t).map (rwO M t) = ((ctL M t).map (fun z => (z.1, t, z.2))).map (rw3 M) := by
  rw [List.map_map]
  apply List.map_congr_left
  intro z hz
  have h := (ct_sub M t).subset hz
  have h3 : z.1 ≠ 3 := by
    simp only [List.mem_cons, List.not_mem_nil, or_false] at h
    rcases h with rfl | rfl | rfl | rfl | rfl | rfl | rfl | rfl <;> decide
  simp only [Function.comp, rw3, gP, rwO, if_neg h3]
theorem cm_map (M : Nat → Nat → Int32) (D : Nat → Nat → UInt64) (t s : Nat) : (cmL M D t s).map (rwO M t) = ((cmL M D t s).map (fun z => (z.1, t, z.2))).map (rw3 M) := by
  rw [List.map_map]
  apply List.map_congr_left
  intro z hz
  have h := (cm_sub M D t s).subset hz
  have h3 : z.1 ≠ 3 := by
    simp only [List.mem_cons, List.not_mem_nil, or_false] at h
    rcases h with rfl | rfl | rfl | rfl | rfl | rfl | rfl | rfl | rfl | rfl | rfl | rfl | rfl | rfl <;> simp
  simp only [Function.comp, rw3, gP, rwO, if_neg h3]
theorem gT_map (M : Nat → Nat → Int32) (D : Nat → Nat → UInt64) (t : Nat) : ∀ (k s : Nat), chT M D t k s = ((gT M D t k s).map (fun z => (z.1, t, z.2))).map (rw3 M) := by
  intro k
  induction k with
  | zero => intro s; rfl
  | succ k ih => intro s; rw [chT, gT, List.map_append, List.map_append, ih, cm_map]
theorem gU_map (M : Nat → Nat → Int32) (D : Nat → Nat → UInt64) (t : Nat) : chU M D t = ((gU M D t).map (fun z => (z.1, t, z.2))).map (rw3 M) := by
  unfold chU gU
  by_cases h : bSeen M 2 t ∧ bSeen M 9 t
  · rw [if_pos h, if_pos h, List.map_append, List.map_append, gT_map, ct_map]
  · rw [if_neg h, if_neg h, List.map_append, List.map_append]
    congr 1
    · unfold csO
      by_cases h2 : bSeen M 2 t
      · rw [if_pos h2]
        by_cases h3 : (bTh M 9).testBit t = true <;> simp [h3, rwO, rw3, gP]
      · rw [if_neg h2]; rfl
    · unfold csN
      by_cases h2 : bSeen M 2 t
      · rw [if_pos h2]; rfl
      · rw [if_neg h2]
        by_cases h9 : bSeen M 9 t
        · rw [if_pos h9]; simp [rwN, rw3, gP]
        · rw [if_neg h9]; rfl
theorem gA_map (M : Nat → Nat → Int32) (D : Nat → Nat → UInt64) : ∀ (k t : Nat), chA M D k t = (gA M D k t).map (rw3 M) := by
  intro k
  induction k with
  | zero => intro t; rfl
  | succ k ih => intro t; rw [chA, gA, List.map_append, ih, gU_map]
section CN
variable {Q : Option Value → amM → Prop} {μ : amM} {S : List (Nat ⊕ (Nat × Nat))} {M : Nat → Nat → Int32} {D : Nat → Nat → UInt64} {F : Nat → Nat → Option Nat} {sl : Nat}
variable {R : List Nat}
theorem c103 {t s : Nat} {x y : UInt64} (ht : t < 8) (hs : s < 12) (hx : D 8 (t * 12 + s) = x) (hy : D 15 (t * 12 + s) = y) (ex : Op.cmpValue (FP.dcmp x x) .l = 0) (ey : Op.cmpValue (FP.dcmp y y) .l = 0) (hd : vf_n64 (FP.dsub y x)) : RR 103 0 [.ref 1, .int (nI t), .int (nI s), .long 0, .long 0, .long 0, .long 0] [] (SH, (0, 0, sl), M, D, RF) Q ↔ Q (some (.double (FP.dsub y x))) (SH, (0, 0, sl), M, D, RF) := by
  simp only [r103_0, r103_1, r103_4, r103_5, r103_6, r103_9, r103_10, r103_11, r103_14, r103_15, r103_16, r103_19, r103_21, r103_22, r103_23, r103_24, r103_27, r103_28, r103_29, r103_31, r103_33, r103_34, r103_37, r103_39, r103_40, r103_42, r103_43, r103_44, am_cat0, am_catI, am_catR, am_catD, am_ndI, am_ndR, am_ndL, va_rfS, true_and, and_true, Option.toList_some, Option.toList_none, List.cons_append, List.nil_append, Nat.reduceAdd, Nat.reduceLeDiff, Nat.zero_add, Nat.le_refl, rw_mrg, ite_Q, ite_bN, ite_bN', ib_0b, ib_b0, ib_1b, ib_b1, bN_0, bN_n0, bN_01T, nI1_0, nI0_0, nI01a, nI01b, bN_1, no_or, true_or, or_true, false_or, or_false, ite_not, if_true, if_false, Decidable.not_not, so1, sf1_0, sf1_1, so2, so9, c93 (Or.inl rfl) ht hs, c93 (Or.inr rfl) ht hs, hx, hy, ex, ey, hd]
theorem c96i {t : Nat} (h2 : bW M 2) (h9 : bW M 9) (ht : t < 8) : ∀ (k s : Nat) (R : List Nat), s + k = 24 → (R ++ chT M D t k s).length ≤ 816 → (RR 96 44 [.ref 1, .int (nI t), .int (nI s)] [] (SH, (0, 0, sl), liM M R, D, RF) Q ↔ RR 96 62 [.ref 1, .int (nI t), .int (nI 24)] [] (SH, (0, 0, sl), liM M (R ++ chT M D t k s), D, RF) Q) := by
  intro k
  induction k with
  | zero =>
    intro s R h hn
    have e : s = 24 := by omega
    subst e
    rw [r96_44]
    simp only [r96_45, r96_47, am_cat0, am_catI, am_catR, am_catD, am_ndI, am_ndR, am_ndL, va_rfS, true_and, and_true, Option.toList_some, Option.toList_none, List.cons_append, List.nil_append, Nat.reduceAdd, Nat.reduceLeDiff, Nat.zero_add, Nat.le_refl, Int32.le_refl, if_true, chT, List.append_nil]
  | succ k ih =>
    intro s R h hn
    have hs : s < 24 := by omega
    rw [chT, ← List.append_assoc] at hn
    have hn1 : (R ++ (cmL M D t s).map (rwO M t)).length ≤ 816 := by rw [List.length_append] at hn; omega
    rw [r96_44]
    simp (disch := omega) only [r96_45, r96_47, r96_50, r96_51, r96_52, r96_53, r96_56, r96_59, am_cat0, am_catI, am_catR, am_catD, am_ndI, am_ndR, am_ndL, va_rfS, true_and, and_true, Option.toList_some, Option.toList_none, List.cons_append, List.nil_append, Nat.reduceAdd, Nat.reduceLeDiff, Nat.zero_add, Nat.le_refl, nx_le, Nat.not_le.mpr hs, if_false, so1, c99 h2 h9 ht hs hn1, am_ndI, nI_add]
    rw [ih (s + 1) _ (by omega) hn, chT, ← List.append_assoc]
theorem c96o (h2 : bW M 2) (h9 : bW M 9) : ∀ (k t : Nat) (R : List Nat) (v : Value), t + k = 8 → (R ++ chA M D k t).length ≤ 816 → (RR 96 9 [.ref 1, .int (nI t), v] [] (SH, (0, 0, sl), liM M R, D, RF) Q ↔ Q none (SH, (0, 0, sl), liM M (R ++ chA M D k t), D, RF)) := by
  intro k
  induction k with
  | zero =>
    intro t R v h hn
    have e : t = 8 := by omega
    subst e
    rw [r96_9]
    simp only [r96_10, r96_12, r96_76, am_cat0, am_catI, am_catR, am_catD, am_ndI, am_ndR, am_ndL, va_rfS, true_and, and_true, Option.toList_some, Option.toList_none, List.cons_append, List.nil_append, Nat.reduceAdd, Nat.reduceLeDiff, Nat.zero_add, Nat.le_refl, Int32.le_refl, if_true, chA, List.append_nil]
  | succ k ih =>
    intro t R v h hn
    have ht : t < 8 := by omega
    have hL2 := fun R : List Nat => li_W (R := R) (Or.inl rfl : (2 : Nat) = 2 ∨ (2 : Nat) = 9) h2
    have hL9 := fun R : List Nat => li_W (R := R) (Or.inr rfl : (9 : Nat) = 2 ∨ (9 : Nat) = 9) h9
    rw [chA, ← List.append_assoc] at hn
    rw [r96_9]
    by_cases b0 : bSeen M 2 t ∧ bSeen M 9 t
    · have b2 := eq_true b0.1
      have b9 := eq_true b0.2
      have eU : chU M D t = (ctL M t).map (rwO M t) ++ chT M D t 24 0 := if_pos b0
      rw [eU, ← List.append_assoc] at hn
      have hn1 : (R ++ (ctL M t).map (rwO M t)).length ≤ 816 := by rw [List.length_append, List.length_append] at hn; omega
      have hn2 : ((R ++ (ctL M t).map (rwO M t)) ++ chT M D t 24 0).length ≤ 816 := by rw [List.length_append] at hn; omega
      simp (disch := omega) only [r96_0, r96_1, r96_4, r96_7, r96_8, r96_10, r96_12, r96_15, r96_16, r96_19, r96_20, r96_23, r96_26, r96_27, r96_30, r96_31, r96_34, r96_37, r96_38, r96_39, r96_42, r96_43, r96_45, r96_47, r96_50, r96_51, r96_52, r96_53, r96_56, r96_59, r96_65, r96_66, r96_67, r96_70, r96_73, r96_76, am_cat0, am_catI, am_catR, am_catD, am_ndI, am_ndR, am_ndL, va_rfS, true_and, and_true, Option.toList_some, Option.toList_none, List.cons_append, List.nil_append, Nat.reduceAdd, Nat.reduceLeDiff, Nat.zero_add, Nat.le_refl, rw_mrg, ite_Q, ite_bN, ite_bN', ib_0b, ib_b0, ib_1b, ib_b1, bN_0, bN_n0, bN_01T, nI1_0, nI0_0, nI01a, nI01b, bN_1, no_or, true_or, or_true, false_or, or_false, ite_not, if_true, if_false, Decidable.not_not, nx_le, Nat.not_le.mpr ht, so1, sf1_0, sf1_1, so2, so9, c83 (Or.inl rfl) (hL2 _) ht, c83 (Or.inr rfl) (hL9 _) ht, li_Se (Or.inl rfl), li_Se (Or.inr rfl), b2, b9, not_true_eq_false, not_false_eq_true, c98 h2 h9 ht hn1, am_ndI]
      rw [c96i h2 h9 ht 24 0 _ (by omega) hn2]
      simp only [r96_62, r96_70, r96_73, am_ndI, am_ndR, nI_add]
      rw [ih (t + 1) _ _ (by omega) hn]
      rw [chA, eU, ← List.append_assoc, ← List.append_assoc]
    · have eU : chU M D t = (csO M t).map (rwO M t) ++ (csN M t).map (rwN M t) := if_neg b0
      rw [eU, ← List.append_assoc] at hn
      have hn1 : (R ++ (csO M t).map (rwO M t) ++ (csN M t).map (rwN M t)).length ≤ 816 := by rw [List.length_append] at hn; omega
      have hq : RR 96 65 [.ref 1, .int (nI t), v] [] (SH, (0, 0, sl), liM M R, D, RF) Q ↔ Q none (SH, (0, 0, sl), liM M (R ++ chA M D (k + 1) t), D, RF) := by
        simp only [r96_65, r96_66, r96_67, r96_70, r96_73, am_cat0, am_catI, am_catR, am_catD, am_ndI, am_ndR, am_ndL, va_rfS, true_and, and_true, Option.toList_some, Option.toList_none, List.cons_append, List.nil_append, Nat.reduceAdd, Nat.reduceLeDiff, Nat.zero_add, Nat.le_refl, so1, c97 h2 h9 ht hn1, am_ndI, nI_add]
        rw [ih (t + 1) _ _ (by omega) hn]
        rw [chA, eU, ← List.append_assoc, ← List.append_assoc]
      by_cases c0 : bSeen M 2 t
      · have b2 := eq_true c0
        have b9 := eq_false (fun z => b0 ⟨c0, z⟩)
        simp (disch := omega) only [r96_0, r96_1, r96_4, r96_7, r96_8, r96_10, r96_12, r96_15, r96_16, r96_19, r96_20, r96_23, r96_26, r96_27, r96_30, r96_31, r96_34, r96_37, r96_38, r96_39, r96_42, r96_43, r96_45, r96_47, r96_50, r96_51, r96_52, r96_53, r96_56, r96_59, r96_66, r96_67, r96_70, r96_73, r96_76, am_cat0, am_catI, am_catR, am_catD, am_ndI, am_ndR, am_ndL, va_rfS, true_and, and_true, Option.toList_some, Option.toList_none, List.cons_append, List.nil_append, Nat.reduceAdd, Nat.reduceLeDiff, Nat.zero_add, Nat.le_refl, rw_mrg, ite_Q, ite_bN, ite_bN', ib_0b, ib_b0, ib_1b, ib_b1, bN_0, bN_n0, bN_01T, nI1_0, nI0_0, nI01a, nI01b, bN_1, no_or, true_or, or_true, false_or, or_false, ite_not, if_true, if_false, Decidable.not_not, nx_le, Nat.not_le.mpr ht, so1, sf1_0, sf1_1, so2, so9, c83 (Or.inl rfl) (hL2 _) ht, c83 (Or.inr rfl) (hL9 _) ht, li_Se (Or.inl rfl), li_Se (Or.inr rfl), b2, b9, not_true_eq_false, not_false_eq_true, hq]
      · have b2 := eq_false c0
        simp (disch := omega) only [r96_0, r96_1, r96_4, r96_7, r96_8, r96_10, r96_12, r96_15, r96_16, r96_19, r96_20, r96_23, r96_26, r96_27, r96_30, r96_31, r96_34, r96_37, r96_38, r96_39, r96_42, r96_43, r96_45, r96_47, r96_50, r96_51, r96_52, r96_53, r96_56, r96_59, r96_66, r96_67, r96_70, r96_73, r96_76, am_cat0, am_catI, am_catR, am_catD, am_ndI, am_ndR, am_ndL, va_rfS, true_and, and_true, Option.toList_some, Option.toList_none, List.cons_append, List.nil_append, Nat.reduceAdd, Nat.reduceLeDiff, Nat.zero_add, Nat.le_refl, rw_mrg, ite_Q, ite_bN, ite_bN', ib_0b, ib_b0, ib_1b, ib_b1, bN_0, bN_n0, bN_01T, nI1_0, nI0_0, nI01a, nI01b, bN_1, no_or, true_or, or_true, false_or, or_false, ite_not, if_true, if_false, Decidable.not_not, nx_le, Nat.not_le.mpr ht, so1, sf1_0, sf1_1, so2, so9, c83 (Or.inl rfl) (hL2 _) ht, li_Se (Or.inl rfl), b2, not_true_eq_false, not_false_eq_true, hq]
theorem c96 (h2 : bW M 2) (h9 : bW M 9) : RR 96 0 [.ref 1, .long 0, .long 0] [] (SH, (0, 0, sl), M, D, RF) Q ↔ Q none (SH, (0, 0, sl), liM M ((gA M D 8 0).map (rw3 M)), D, RF) := by
  have hl : (([] : List Nat) ++ chA M D 8 0).length ≤ 816 := by
    rw [gA_map, List.nil_append, List.length_map]
    exact gA_len M D 8 0
  simp only [r96_0, r96_1, r96_4, r96_7, r96_8, am_cat0, am_catI, am_catR, am_catD, am_ndI, am_ndR, am_ndL, va_rfS, true_and, and_true, Option.toList_some, Option.toList_none, List.cons_append, List.nil_append, Nat.reduceAdd, Nat.reduceLeDiff, Nat.zero_add, Nat.le_refl, so1, sf1_2, so16, c106, liM_0]
  rw [c96o h2 h9 8 0 [] _ (by omega) hl, List.nil_append, gA_map]
end CN
