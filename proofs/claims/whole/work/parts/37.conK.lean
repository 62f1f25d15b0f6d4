/-! THE LIST -/
theorem nmL_ok : ∀ p, p < 4 → ∀ t, t < 8 → ∀ m, m < 25 → (nmL p t m).length ≤ 15 ∧ ∀ i, i < (nmL p t m).length → (nmL p t m).getD i 0 < 128 := by
  have h : ∀ p, p < 4 → ∀ t, t < 8 → ∀ m, m < 25 → (nmL p t m).length ≤ 15 ∧ ∀ i, i < 15 → (nmL p t m).getD i 0 < 128 := by decide +kernel
  intro p hp t ht m hm
  obtain ⟨h1, h2⟩ := h p hp t ht m hm
  exact ⟨h1, fun i hi => h2 i (by omega)⟩
theorem plO_inj : ∀ m, m < 25 → ∀ m', m' < 25 → plO m = plO m' → m = m' := by decide +kernel
theorem plO_lt : ∀ m, m < 25 → plO m < 32 := by decide +kernel
/-- an entry: weight, package, type, member, code -/
abbrev En : Type := Nat × Nat × Nat × Nat × Nat
def e0 : En := (0, 0, 0, 0, 0)
def eR (e : En) : Nat := rE (3 - e.1) e.2.1 e.2.2.1 (plO e.2.2.2.1) e.2.2.2.2 e.2.2.2.1
def eN (e : En) : Nat := (e.2.1 * 8 + e.2.2.1) * 32 + plO e.2.2.2.1
/-- x is to stand behind e -/
def eG (e x : En) : Bool := decide (x.1 < e.1 ∨ x.1 = e.1 ∧ eN e < eN x)
def okE (e : En) : Prop := 1 ≤ e.1 ∧ e.1 ≤ 3 ∧ e.2.1 < 3 ∧ e.2.2.1 < 8 ∧ e.2.2.2.1 < 25 ∧ 1 ≤ e.2.2.2.2 ∧ e.2.2.2.2 < 34
def zz (h : Nat × Nat × Nat) : Nat := h.2.1 * 2048 + h.2.2 * 64 + h.1
def eZ (e : En) : Nat × Nat × Nat := (e.2.2.2.2, e.2.2.1, e.2.2.2.1)
def okH (h : Nat × Nat × Nat) : Prop := 1 ≤ h.1 ∧ h.1 < 34 ∧ h.2.1 < 8 ∧ h.2.2 < 25
theorem eR_lt {e : En} (h : okE e) : eR e < 6291456 := by
  obtain ⟨h1, h2, h3, h4, h5, h6, h7⟩ := h
  have h8 := plO_lt _ h5
  unfold eR rE
  omega
theorem eN_lt {e : En} (h : okE e) : eN e < 1024 := by
  obtain ⟨h1, h2, h3, h4, h5, h6, h7⟩ := h
  have h8 := plO_lt _ h5
  unfold eN
  omega
theorem eG_row {e x : En} (he : okE e) (hx : okE x) (hz : zz (eZ x) < zz (eZ e)) : (eR e < eR x) ↔ eG e x = true := by
  obtain ⟨h1, h2, h3, h4, h5, h6, h7⟩ := he
  obtain ⟨k1, k2, k3, k4, k5, k6, k7⟩ := hx
  have h8 := plO_lt _ h5
  have k8 := plO_lt _ k5
  have hi := plO_inj _ h5 _ k5
  unfold eG eN
  unfold zz eZ at hz
  rw [decide_eq_true_iff]
  unfold eR rE
  dsimp only at hz
  generalize plO e.2.2.2.1 = a at *
  generalize plO x.2.2.2.1 = b at *
  have hi2 : a = b → e.2.2.1 = x.2.2.1 → x.2.2.2.2 < e.2.2.2.2 := fun z1 z2 => by
    have := hi z1
    omega
  omega
/-- where an entry comes in -/
def cutI (P : Nat → Bool) : Nat → Nat
  | 0 => 0
  | a + 1 => if P a = true then cutI P a else a + 1
theorem cutI_le (P : Nat → Bool) : ∀ n, cutI P n ≤ n := by
  intro n
  induction n with
  | zero => exact Nat.le_refl _
  | succ n ih =>
    unfold cutI
    by_cases h : P n = true
    · rw [if_pos h]; omega
    · rw [if_neg h]; exact Nat.le_refl _
theorem cutI_c {P P' : Nat → Bool} : ∀ n, (∀ k, k < n → P k = P' k) → cutI P n = cutI P' n := by
  intro n
  induction n with
  | zero => intro _; rfl
  | succ n ih =>
    intro h
    unfold cutI
    rw [h n (by omega), ih (fun k hk => h k (by omega))]
def insE (e : En) (L : List En) : List En := L.take (cutI (fun k => eG e (L.getD k e0)) L.length) ++ e :: L.drop (cutI (fun k => eG e (L.getD k e0)) L.length)
theorem ins_getD (L : List En) (e : En) (j k : Nat) (hj : j ≤ L.length) : (L.take j ++ e :: L.drop j).getD k e0 = if k < j then L.getD k e0 else if k = j then e else L.getD (k - 1) e0 := by
  have hl : (L.take j).length = j := by rw [List.length_take]; omega
  by_cases h : k < j
  · rw [if_pos h, List.getD_eq_getElem?_getD, List.getElem?_append_left (by omega), List.getElem?_take_of_lt h, List.getD_eq_getElem?_getD]
  · rw [if_neg h]
    by_cases h2 : k = j
    · rw [if_pos h2, List.getD_eq_getElem?_getD, List.getElem?_append_right (by omega), hl, h2, Nat.sub_self]
      rfl
    · rw [if_neg h2, List.getD_eq_getElem?_getD, List.getElem?_append_right (by omega), hl]
      have e1 : k - j = (k - 1 - j) + 1 := by omega
      rw [e1, List.getElem?_cons_succ, List.getElem?_drop, List.getD_eq_getElem?_getD]
      have e2 : j + (k - 1 - j) = k - 1 := by omega
      rw [e2]
theorem insE_len (e : En) (L : List En) : (insE e L).length = L.length + 1 := by
  unfold insE
  have h := cutI_le (fun k => eG e (L.getD k e0)) L.length
  rw [List.length_append, List.length_cons, List.length_take, List.length_drop]
  omega
theorem insE_mem {e x : En} {L : List En} (h : x ∈ insE e L) : x = e ∨ x ∈ L := by
  unfold insE at h
  rw [List.mem_append, List.mem_cons] at h
  rcases h with h | h | h
  · exact Or.inr (List.mem_of_mem_take h)
  · exact Or.inl h
  · exact Or.inr (List.mem_of_mem_drop h)
theorem getD_mem {α : Type} {L : List α} {k : Nat} {d : α} (h : k < L.length) : L.getD k d ∈ L := by
  rw [List.getD_eq_getElem?_getD, List.getElem?_eq_getElem h]
  exact List.getElem_mem h
/-- the weights by the rules -/
noncomputable def stE (M : Nat → Nat → Int32) (P : Nat → List Nat) (n : Nat) (L : List En) (h : Nat × Nat × Nat) : List En := if n32 (ruW M (nmL (gP M h.1 h.2.1) h.2.1 h.2.2) P h.1 n) = 0 then L else insE (n32 (ruW M (nmL (gP M h.1 h.2.1) h.2.1 h.2.2) P h.1 n), gP M h.1 h.2.1, h.2.1, h.2.2, h.1) L
/-- THE LIST -/
noncomputable def wA (M : Nat → Nat → Int32) (D : Nat → Nat → UInt64) (P : Nat → List Nat) (n : Nat) : List En := (gA M D 8 0).foldl (stE M P n) []
def rlW (M : Nat → Nat → Int32) (P : Nat → List Nat) (n : Nat) : Prop := M 20 1 = nI n ∧ n ≤ 8 ∧ ∀ i, i < n → ptIs M (23 + 3 * i) (P i) ∧ ∃ w, w ≤ 3 ∧ M (22 + 3 * i) 3 = nI w
def agC (M M' : Nat → Nat → Int32) : Prop := ∀ q k, q ≠ 16 → q ≠ 17 → q ≠ 46 → q ≠ 47 → M' q k = M q k
theorem agC_z {M : Nat → Nat → Int32} {l : List Nat} : agC M (nzM M l) := fun q k _ _ h1 h2 => nzM_o h1 h2
theorem agC_t {M M' M2 : Nat → Nat → Int32} (h : agC M M') (h2 : agC M' M2) : agC M M2 := fun q k a b c d => (h2 q k a b c d).trans (h q k a b c d)
theorem rlW_ag {M M' : Nat → Nat → Int32} {P : Nat → List Nat} {n : Nat} (h : agC M M') (hr : rlW M P n) : rlW M' P n := by
  obtain ⟨h1, h2, h3⟩ := hr
  refine ⟨by rw [h _ _ (by omega) (by omega) (by omega) (by omega)]; exact h1, h2, fun i hi => ?_⟩
  obtain ⟨⟨k1, k2, k3, k4⟩, w, k5, k6⟩ := h3 i hi
  refine ⟨⟨?_, k2, fun j hj => ?_, k4⟩, w, k5, ?_⟩
  · rw [h _ _ (by omega) (by omega) (by omega) (by omega)]; exact k1
  · rw [h _ _ (by omega) (by omega) (by omega) (by omega)]; exact k3 j hj
  · rw [h _ _ (by omega) (by omega) (by omega) (by omega)]; exact k6
theorem ruW_ag {M M' : Nat → Nat → Int32} {P : Nat → List Nat} {l : List Nat} {c : Nat} (h : agC M M') : ∀ k, k ≤ 8 → ruW M' l P c k = ruW M l P c k := by
  intro k
  induction k with
  | zero => intro _; rfl
  | succ k ih =>
    intro hk
    have e : ∀ j, M' (22 + 3 * k) j = M (22 + 3 * k) j := fun j => h _ _ (by omega) (by omega) (by omega) (by omega)
    rw [ruW, ruW, ih (by omega)]
    unfold ruA
    rw [e, e, e]
theorem ruW_n {M : Nat → Nat → Int32} {P : Nat → List Nat} {l : List Nat} {c n : Nat} (hr : rlW M P n) : ∀ k, k ≤ n → ∃ w, w ≤ 3 ∧ ruW M l P c k = nI w := by
  intro k
  induction k with
  | zero =>
    intro _
    refine ⟨owL.getD c 0, ?_, rfl⟩
    by_cases hc : c < 34
    · exact (by decide : ∀ c, c < 34 → owL.getD c 0 ≤ 3) c hc
    · rw [List.getD_eq_getElem?_getD, List.getElem?_eq_none (by show 34 ≤ c; omega)]
      exact Nat.zero_le _
  | succ k ih =>
    intro hk
    unfold ruW
    by_cases h : ruA M l (P k) k c
    · rw [if_pos h]; exact (hr.2.2 k (by omega)).2
    · rw [if_neg h]; exact ih (by omega)
/-- the changes rise -/
theorem ct_srt (M : Nat → Nat → Int32) (t : Nat) : (ctL M t).Pairwise (fun x y => x.2 * 64 + x.1 < y.2 * 64 + y.1) ∧ ∀ z ∈ ctL M t, z.2 = 0 ∧ 4 ≤ z.1 ∧ z.1 ≤ 11 := by
  refine ⟨List.Pairwise.sublist (ct_sub M t) (by decide), fun z hz => ?_⟩
  have h := (ct_sub M t).subset hz
  exact (by decide : ∀ z ∈ [(4, 0), (5, 0), (6, 0), (7, 0), (8, 0), (9, 0), (10, 0), (11, 0)], z.2 = 0 ∧ 4 ≤ z.1 ∧ z.1 ≤ 11) z h
theorem cm_srt (M : Nat → Nat → Int32) (D : Nat → Nat → UInt64) (t s : Nat) : (cmL M D t s).Pairwise (fun x y => x.2 * 64 + x.1 < y.2 * 64 + y.1) ∧ ∀ z ∈ cmL M D t s, z.2 = s + 1 ∧ 20 ≤ z.1 ∧ z.1 ≤ 33 := by
  refine ⟨List.Pairwise.sublist (cm_sub M D t s) (by simp), fun z hz => ?_⟩
  have h := (cm_sub M D t s).subset hz
  simp only [List.mem_cons, List.not_mem_nil, or_false] at h
  rcases h with rfl | rfl | rfl | rfl | rfl | rfl | rfl | rfl | rfl | rfl | rfl | rfl | rfl | rfl <;> simp
theorem gT_srt (M : Nat → Nat → Int32) (D : Nat → Nat → UInt64) (t : Nat) : ∀ (k s : Nat), (gT M D t k s).Pairwise (fun x y => x.2 * 64 + x.1 < y.2 * 64 + y.1) ∧ ∀ z ∈ gT M D t k s, s + 1 ≤ z.2 ∧ z.2 ≤ s + k ∧ 20 ≤ z.1 ∧ z.1 ≤ 33 := by
  intro k
  induction k with
  | zero => intro s; exact ⟨List.Pairwise.nil, fun z hz => absurd hz List.not_mem_nil⟩
  | succ k ih =>
    intro s
    obtain ⟨h1, h2⟩ := ih (s + 1)
    obtain ⟨k1, k2⟩ := cm_srt M D t s
    rw [gT]
    refine ⟨List.pairwise_append.mpr ⟨k1, h1, fun a ha b hb => ?_⟩, fun z hz => ?_⟩
    · have := k2 a ha
      have := h2 b hb
      omega
    · rcases List.mem_append.mp hz with hz | hz
      · have := k2 z hz; omega
      · have := h2 z hz; omega
theorem gU_srt (M : Nat → Nat → Int32) (D : Nat → Nat → UInt64) (t : Nat) : (gU M D t).Pairwise (fun x y => x.2 * 64 + x.1 < y.2 * 64 + y.1) ∧ ∀ z ∈ gU M D t, z.2 < 25 ∧ 1 ≤ z.1 ∧ z.1 < 34 := by
  unfold gU
  by_cases h : bSeen M 2 t ∧ bSeen M 9 t
  · rw [if_pos h]
    obtain ⟨h1, h2⟩ := gT_srt M D t 24 0
    obtain ⟨k1, k2⟩ := ct_srt M t
    refine ⟨List.pairwise_append.mpr ⟨k1, h1, fun a ha b hb => ?_⟩, fun z hz => ?_⟩
    · have := k2 a ha
      have := h2 b hb
      omega
    · rcases List.mem_append.mp hz with hz | hz
      · have := k2 z hz; omega
      · have := h2 z hz; omega
  · rw [if_neg h]
    unfold csO csN
    by_cases a : bSeen M 2 t
    · rw [if_pos a, if_pos a]
      by_cases b : (bTh M 9).testBit t = true
      · rw [if_pos b]; exact ⟨by simp, by simp⟩
      · rw [if_neg b]; exact ⟨by simp, by simp⟩
    · rw [if_neg a, if_neg a]
      by_cases b : bSeen M 9 t
      · rw [if_pos b]; exact ⟨by simp, by simp⟩
      · rw [if_neg b]; exact ⟨by simp, by simp⟩
theorem gA_srt (M : Nat → Nat → Int32) (D : Nat → Nat → UInt64) : ∀ (k t : Nat), t + k ≤ 8 → (gA M D k t).Pairwise (fun x y => zz x < zz y) ∧ ∀ z ∈ gA M D k t, okH z ∧ t ≤ z.2.1 := by
  intro k
  induction k with
  | zero => intro t _; exact ⟨List.Pairwise.nil, fun z hz => absurd hz List.not_mem_nil⟩
  | succ k ih =>
    intro t ht
    obtain ⟨h1, h2⟩ := ih (t + 1) (by omega)
    obtain ⟨k1, k2⟩ := gU_srt M D t
    rw [gA]
    refine ⟨List.pairwise_append.mpr ⟨List.pairwise_map.mpr (k1.imp ?_), h1, fun a ha b hb => ?_⟩, fun z hz => ?_⟩
    · intro a b h
      unfold zz
      dsimp only
      omega
    · obtain ⟨x, hx, rfl⟩ := List.mem_map.mp ha
      have z1 := k2 x hx
      have z2 := h2 b hb
      unfold zz
      dsimp only
      omega
    · rcases List.mem_append.mp hz with hz | hz
      · obtain ⟨x, hx, rfl⟩ := List.mem_map.mp hz
        have z1 := k2 x hx
        refine ⟨?_, Nat.le_refl _⟩
        unfold okH
        dsimp only
        omega
      · have z1 := h2 z hz; exact ⟨z1.1, by omega⟩
theorem gP_lt {M : Nat → Nat → Int32} {c t : Nat} (h2 : bW M 2) (h9 : bW M 9) (ht : t < 8) : gP M c t < 3 := by
  unfold gP
  by_cases h : c = 3
  · rw [if_pos h]; exact (h9.2.1 t ht).1
  · rw [if_neg h]; exact (h2.2.1 t ht).1
theorem stE_ok {M : Nat → Nat → Int32} {P : Nat → List Nat} {n : Nat} {L : List En} {h : Nat × Nat × Nat} (h2 : bW M 2) (h9 : bW M 9) (hr : rlW M P n) (hh : okH h) (hL : ∀ x ∈ L, okE x) : (∀ x ∈ stE M P n L h, okE x ∧ (x ∈ L ∨ eZ x = h)) ∧ (stE M P n L h).length ≤ L.length + 1 := by
  obtain ⟨w, hw, ew⟩ := ruW_n (l := nmL (gP M h.1 h.2.1) h.2.1 h.2.2) (c := h.1) hr n (Nat.le_refl _)
  unfold stE
  rw [ew, n32_nI (by omega)]
  by_cases h0 : w = 0
  · rw [if_pos h0]; exact ⟨fun x hx => ⟨hL x hx, Or.inl hx⟩, by omega⟩
  · rw [if_neg h0]
    refine ⟨fun x hx => ?_, by rw [insE_len]; omega⟩
    rcases insE_mem hx with rfl | hx
    · refine ⟨?_, Or.inr rfl⟩
      obtain ⟨a, b, c, d⟩ := hh
      have := gP_lt (c := h.1) h2 h9 c
      exact ⟨by show 1 ≤ w; omega, hw, this, c, d, a, b⟩
    · exact ⟨hL x hx, Or.inl hx⟩
/-- the list in the class's memory -/
def lsC (M : Nat → Nat → Int32) (L : List En) : Prop := M 16 1 = nI L.length ∧ L.length ≤ 816 ∧ (∀ x ∈ L, okE x) ∧ ∀ k, k < L.length → M 17 k = nI (eR (L.getD k e0))
theorem inR_spec : ∀ (a : Nat) (M : Nat → Nat → Int32) (row : Int32), (∀ k, k < cutI (fun k => decide (row < M 17 k)) a → inR a M row 17 k = M 17 k) ∧ inR a M row 17 (cutI (fun k => decide (row < M 17 k)) a) = row ∧ (∀ k, cutI (fun k => decide (row < M 17 k)) a < k → k ≤ a → inR a M row 17 k = M 17 (k - 1)) ∧ ∀ k, a < k → inR a M row 17 k = M 17 k := by
  intro a
  induction a with
  | zero =>
    intro M row
    refine ⟨fun k hk => absurd hk (Nat.not_lt_zero _), up_s _ _ _ _, fun k h1 h2 => ?_, fun k hk => up_k (by omega)⟩
    have : cutI (fun k => decide (row < M 17 k)) 0 = 0 := rfl
    omega
  | succ a ih =>
    intro M row
    by_cases h : row < M 17 a
    · have e1 : inR (a + 1) M row = inR a (am_up M 17 (a + 1) (M 17 a)) row := by rw [inR, if_pos h]
      have e2 : cutI (fun k => decide (row < M 17 k)) (a + 1) = cutI (fun k => decide (row < M 17 k)) a := by rw [cutI, if_pos (decide_eq_true h)]
      have e3 : cutI (fun k => decide (row < am_up M 17 (a + 1) (M 17 a) 17 k)) a = cutI (fun k => decide (row < M 17 k)) a := cutI_c a (fun k hk => by rw [up_k (by omega)])
      obtain ⟨i1, i2, i3, i4⟩ := ih (am_up M 17 (a + 1) (M 17 a)) row
      rw [e3] at i1 i2 i3
      have hle := cutI_le (fun k => decide (row < M 17 k)) a
      rw [e1, e2]
      refine ⟨fun k hk => by rw [i1 k hk, up_k (by omega)], i2, fun k h1 h2 => ?_, fun k hk => by rw [i4 k (by omega), up_k (by omega)]⟩
      by_cases hk : k = a + 1
      · subst hk
        rw [i4 (a + 1) (by omega), up_s, Nat.add_sub_cancel]
      · rw [i3 k h1 (by omega), up_k (by omega)]
    · have e1 : inR (a + 1) M row = am_up M 17 (a + 1) row := by rw [inR, if_neg h]
      have e2 : cutI (fun k => decide (row < M 17 k)) (a + 1) = a + 1 := by rw [cutI, if_neg (by rw [decide_eq_true_iff]; exact h)]
      rw [e1, e2]
      exact ⟨fun k hk => up_k (by omega), up_s _ _ _ _, fun k h1 h2 => by omega, fun k hk => up_k (by omega)⟩
theorem lsC_ins {M : Nat → Nat → Int32} {L : List En} {e : En} (h : lsC M L) (hl : L.length < 816) (he : okE e) (hz : ∀ x ∈ L, zz (eZ x) < zz (eZ e)) : lsC (am_up (inR L.length M (nI (eR e))) 16 1 (nI (L.length + 1))) (insE e L) ∧ ∀ k, L.length < k → am_up (inR L.length M (nI (eR e))) 16 1 (nI (L.length + 1)) 17 k = M 17 k := by
  obtain ⟨h1, h2, h3, h4⟩ := h
  obtain ⟨i1, i2, i3, i4⟩ := inR_spec L.length M (nI (eR e))
  have hc : cutI (fun k => decide (nI (eR e) < M 17 k)) L.length = cutI (fun k => eG e (L.getD k e0)) L.length := by
    refine cutI_c _ (fun k hk => ?_)
    have hx := getD_mem (d := e0) hk
    have a1 := eR_lt he
    have a2 := eR_lt (h3 _ hx)
    rw [h4 k hk]
    refine Bool.eq_iff_iff.mpr (decide_eq_true_iff.trans ?_)
    rw [nx_lt (by omega) (by omega)]
    exact eG_row he (h3 _ hx) (hz _ hx)
  rw [hc] at i1 i2 i3
  have hle := cutI_le (fun k => eG e (L.getD k e0)) L.length
  refine ⟨⟨by rw [up_s, insE_len], by rw [insE_len]; omega, fun x hx => ?_, fun k hk => ?_⟩, fun k hk => by rw [up_q (by decide)]; exact i4 k hk⟩
  · rcases insE_mem hx with rfl | hx
    · exact he
    · exact h3 x hx
  · rw [insE_len] at hk
    rw [up_q (by decide)]
    unfold insE
    rw [ins_getD _ _ _ _ hle]
    by_cases a : k < cutI (fun k => eG e (L.getD k e0)) L.length
    · rw [if_pos a, i1 k a, h4 k (by omega)]
    · rw [if_neg a]
      by_cases b : k = cutI (fun k => eG e (L.getD k e0)) L.length
      · rw [if_pos b, b, i2]
      · rw [if_neg b, i3 k (by omega) (by omega), h4 (k - 1) (by omega)]
theorem rE_up {lt p t pl c m : Nat} (hl : lt < 4) (hp : p < 4) (ht : t < 8) (hpl : pl < 32) (hc : c < 64) (hm : m < 32) : rE 0 p t 0 c m ||| lt * 2 ^ 21 ||| pl * 2 ^ 11 = rE lt p t pl c m := by
  have e1 : rE 0 p t 0 c m ||| lt * 2 ^ 21 = lt * 2 ^ 21 + rE 0 p t 0 c m := by
    rw [Nat.or_comm, or_sum lt _ 21 (by unfold rE; omega)]
  have e2 : lt * 2 ^ 21 + rE 0 p t 0 c m = (lt * 32 + p * 8 + t) * 2 ^ 16 ||| (c * 32 + m) := by
    rw [or_sum _ _ 16 (by omega)]
    unfold rE
    simp only [Nat.reducePow]
    omega
  have e3 : (c * 32 + m) ||| pl * 2 ^ 11 = pl * 2 ^ 11 + (c * 32 + m) := by
    rw [Nat.or_comm, or_sum pl _ 11 (by omega)]
  rw [e1, e2, Nat.or_assoc, e3, or_sum _ _ 16 (by omega)]
  clear e1 e2 e3
  unfold rE
  simp only [Nat.reducePow]
  omega
theorem rE_c {lt p t pl c m : Nat} (hc : c < 64) (hm : m < 32) : rE lt p t pl c m / 32 % 64 = c := by unfold rE; omega
theorem rE_l {lt p t pl c m : Nat} (hp : p < 4) (ht : t < 8) (hpl : pl < 32) (hc : c < 64) (hm : m < 32) : rE lt p t pl c m / 2097152 = lt := by unfold rE; omega
theorem rE_t {lt p t pl c m : Nat} (ht : t < 8) (hpl : pl < 32) (hc : c < 64) (hm : m < 32) : rE lt p t pl c m / 65536 % 8 = t := by unfold rE; omega
theorem rE_p {lt p t pl c m : Nat} (hp : p < 4) (ht : t < 8) (hpl : pl < 32) (hc : c < 64) (hm : m < 32) : rE lt p t pl c m / 524288 % 4 = p := by unfold rE; omega
theorem rE_m {lt p t pl c m : Nat} (hm : m < 32) : rE lt p t pl c m % 32 = m := by unfold rE; omega
theorem rE_lt {lt p t pl c m : Nat} (hl : lt < 4) (hp : p < 4) (ht : t < 8) (hpl : pl < 32) (hc : c < 64) (hm : m < 32) : rE lt p t pl c m < 8388608 := by unfold rE; omega
theorem sl_m {m : Nat} (hm : m < 25) : (m = 0 ∧ nI m - nI 1 = -1) ∨ (m ≠ 0 ∧ nI m - nI 1 = nI (m - 1)) := by
  by_cases h : m = 0
  · subst h; exact Or.inl ⟨rfl, by decide⟩
  · exact Or.inr ⟨h, pk_sub (by omega)⟩
section CN
variable {Q : Option Value → amM → Prop} {μ : amM} {S : List (Nat ⊕ (Nat × Nat))} {M : Nat → Nat → Int32} {D : Nat → Nat → UInt64} {F : Nat → Nat → Option Nat} {sl : Nat}

theorem c113 {k lt p t pl c m : Nat} (hk : k < 816) (hl : lt < 4) (hp : p < 4) (ht : t < 8) (hpl : pl < 32) (hc : c < 64) (hm : m < 25) (h : M 17 k = nI (rE lt p t pl c m)) : RR 113 0 [.ref 16, .int (nI k), .ref 46] [] (SH, (0, 0, sl), M, D, RF) Q ↔ Q none (SH, (0, 0, sl), nzM M (nmL p t m), D, RF) := by
  have h2 := rE_lt hl hp ht hpl hc (show m < 32 by omega)
  have hR : lR M k = rE lt p t pl c m := n32_of h (by omega)
  have e1 : rE lt p t pl c m / 2 ^ 19 % 4 = p := rE_p hp ht hpl hc (by omega)
  simp (disch := omega) only [r113_0, r113_1, r113_2, r113_5, r113_6, r113_7, r113_9, r113_10, r113_11, r113_12, r113_13, r113_14, r113_17, r113_18, r113_19, r113_22, r113_25, am_cat0, am_catI, am_catR, am_catD, am_ndI, am_ndR, am_ndL, va_rfS, true_and, and_true, Option.toList_some, Option.toList_none, List.cons_append, List.nil_append, Nat.reduceAdd, Nat.reduceLeDiff, Nat.zero_add, Nat.le_refl, so16, so46, sf16_0, sd17, am_bd, bd_n, nI_tn, lR_e M, hR, nx_shr, nx_m3, e1, c116 hk (by rw [hR]; omega), c117 hk, rE_t ht hpl hc (show m < 32 by omega), rE_m (show m < 32 by omega), c121 (show p < 8 by omega) ht hm (sl_m hm)]
theorem c111o {M0 : Nat → Nat → Int32} {P : Nat → List Nat} {n N : Nat} (h2 : bW M0 2) (h9 : bW M0 9) (hr : rlW M0 P n) (hN : N ≤ 816) : ∀ (G : List (Nat × Nat × Nat)) (k : Nat) (L : List En) (M : Nat → Nat → Int32) (v5 v6 : Value), k + G.length = N → L.length ≤ k → G.Pairwise (fun x y => zz x < zz y) → (∀ z ∈ G, okH z) → (∀ x ∈ L, ∀ z ∈ G, zz (eZ x) < zz z) → lsC M L → agC M0 M → (∀ i, i < G.length → M 17 (k + i) = nI (rw3 M0 (G.getD i (0, 0, 0)))) → RR 111 13 [.ref 16, .ref 20, .ref 46, .int (nI N), .int (nI k), v5, v6] [] (SH, (0, 0, sl), M, D, RF) (fun rv μ' => rv = none ∧ ∃ M', μ' = (SH, (0, 0, sl), M', D, RF) ∧ lsC M' (G.foldl (stE M0 P n) L) ∧ agC M0 M') := by
  intro G
  induction G with
  | nil =>
    intro k L M v5 v6 h1 h3 h4 h5 h6 h7 h8 h10
    have e : k = N := by simpa using h1
    subst e
    rw [r111_13]
    simp only [r111_15, r111_16, r111_86, am_cat0, am_catI, am_catR, am_catD, am_ndI, am_ndR, am_ndL, va_rfS, true_and, and_true, Option.toList_some, Option.toList_none, List.cons_append, List.nil_append, Nat.reduceAdd, Nat.reduceLeDiff, Nat.zero_add, Nat.le_refl, Int32.le_refl, if_true]
    exact ⟨M, rfl, h7, h8⟩
  | cons ch G ih =>
    intro k L M v5 v6 h1 h3 h4 h5 h6 h7 h8 h10
    rw [List.length_cons] at h1
    have hk : k < N := by omega
    obtain ⟨g1, g2⟩ := List.pairwise_cons.mp h4
    have hh := h5 ch List.mem_cons_self
    have hrow : M 17 k = nI (rE 0 (gP M0 ch.1 ch.2.1) ch.2.1 0 ch.1 ch.2.2) := h10 0 (by simp)
    have hp3 := gP_lt (c := ch.1) h2 h9 hh.2.2.1
    obtain ⟨hc1, hc2, ht, hm⟩ := hh
    have hok := stE_ok (L := L) h2 h9 hr ⟨hc1, hc2, ht, hm⟩ h7.2.2.1
    obtain ⟨w, hw, ew⟩ := ruW_n (l := nmL (gP M0 ch.1 ch.2.1) ch.2.1 ch.2.2) (c := ch.1) hr n (Nat.le_refl _)
    obtain ⟨n1, n2⟩ := nmL_ok _ (show gP M0 ch.1 ch.2.1 < 4 by omega) _ ht _ hm
    generalize hp : gP M0 ch.1 ch.2.1 = p at *
    have hst : stE M0 P n L ch = if w = 0 then L else insE (w, p, ch.2.1, ch.2.2, ch.1) L := by
      unfold stE
      rw [hp, ew, n32_nI (by omega)]
    generalize hnm : nmL p ch.2.1 ch.2.2 = l at *
    have hz := nmIs_z (M := M) (l := l) n1 n2
    have hag : agC M0 (nzM M l) := agC_t h8 agC_z
    have hrz := rlW_ag hag hr
    have hR17 : nzM M l 17 k = nI (rE 0 p ch.2.1 0 ch.1 ch.2.2) := by rw [nzM_o (by decide) (by decide)]; exact hrow
    have hlt := rE_lt (lt := 0) (p := p) (t := ch.2.1) (pl := 0) (c := ch.1) (m := ch.2.2) (by decide) (by omega) ht (by decide) (by omega) (by omega)
    have hR : lR (nzM M l) k = rE 0 p ch.2.1 0 ch.1 ch.2.2 := n32_of hR17 (by omega)
    have ez : ruW (nzM M l) l P ch.1 n = nI w := (ruW_ag hag n hr.2.1).trans ew
    have h113 := fun Q => c113 (Q := Q) (D := D) (sl := sl) (show k < 816 by omega) (show 0 < 4 by decide) (show p < 4 by omega) ht (show 0 < 32 by decide) (show ch.1 < 64 by omega) hm hrow
    rw [hnm] at h113
    have h155 := fun Q => c155 (Q := Q) (D := D) (sl := sl) (c := ch.1) hz (by omega) hrz.1 hrz.2.1 (fun i hi => (hrz.2.2 i hi).1)
    rw [ez] at h155
    have eC := rE_c (lt := 0) (p := p) (t := ch.2.1) (pl := 0) (c := ch.1) (m := ch.2.2) (by omega) (by omega)
    rw [r111_13]
    by_cases h0 : w = 0
    · have e0 : nI w ≤ 0 := by rw [h0]; decide
      simp (disch := omega) only [r111_0, r111_1, r111_4, r111_5, r111_6, r111_7, r111_10, r111_11, r111_15, r111_16, r111_19, r111_20, r111_22, r111_23, r111_26, r111_27, r111_28, r111_30, r111_33, r111_34, r111_37, r111_39, r111_41, r111_44, r111_45, r111_47, r111_48, r111_50, r111_51, r111_52, r111_55, r111_57, r111_58, r111_60, r111_62, r111_63, r111_64, r111_65, r111_67, r111_70, r111_73, r111_75, r111_76, r111_77, r111_80, r111_83, r111_86, am_cat0, am_catI, am_catR, am_catD, am_ndI, am_ndR, am_ndL, va_rfS, true_and, and_true, Option.toList_some, Option.toList_none, List.cons_append, List.nil_append, Nat.reduceAdd, Nat.reduceLeDiff, Nat.zero_add, Nat.le_refl, rw_mrg, ite_Q, ite_bN, ite_bN', ib_0b, ib_b0, ib_1b, ib_b1, bN_0, bN_n0, bN_01T, nI1_0, nI0_0, nI01a, nI01b, bN_1, no_or, true_or, or_true, false_or, or_false, ite_not, if_true, if_false, Decidable.not_not, nx_le, Nat.not_le.mpr hk, so16, so20, so46, h113, c114 (show k < 816 by omega) (show lR (nzM M l) k < 2 ^ 31 by rw [hR]; omega), hR, eC, h155, e0, nI_add, am_ndI]
      rw [List.foldl_cons]
      have est : stE M0 P n L ch = L := by rw [hst, if_pos h0]
      rw [est]
      refine ih (k + 1) L (nzM M l) _ _ (by omega) (by omega) g2 (fun z hz => h5 z (List.mem_cons_of_mem _ hz)) (fun x hx z hz => h6 x hx z (List.mem_cons_of_mem _ hz)) ?_ hag (fun i hi => ?_)
      · exact ⟨by rw [nzM_o (by decide) (by decide)]; exact h7.1, h7.2.1, h7.2.2.1, fun k hk => by rw [nzM_o (by decide) (by decide)]; exact h7.2.2.2 k hk⟩
      · rw [nzM_o (by decide) (by decide)]
        have := h10 (i + 1) (by rw [List.length_cons]; omega)
        rw [show k + 1 + i = k + (i + 1) by omega, this]
        rfl
    · have e0 : ¬ nI w ≤ 0 := nI_nle (by omega) (by omega)
      have est : stE M0 P n L ch = insE (w, p, ch.2.1, ch.2.2, ch.1) L := by rw [hst, if_neg h0]
      have hlz : lsC (nzM M l) L := ⟨by rw [nzM_o (by decide) (by decide)]; exact h7.1, h7.2.1, h7.2.2.1, fun k hk => by rw [nzM_o (by decide) (by decide)]; exact h7.2.2.2 k hk⟩
      have hpl := plO_lt _ hm
      have erow : rE 0 p ch.2.1 0 ch.1 ch.2.2 ||| (3 - w) * 2 ^ 21 ||| plO ch.2.2 * 2 ^ 11 = eR (w, p, ch.2.1, ch.2.2, ch.1) := rE_up (by omega) (by omega) ht hpl (by omega) (by omega)
      have eM : rE 0 p ch.2.1 0 ch.1 ch.2.2 % 32 = ch.2.2 := rE_m (by omega)
      simp (disch := omega) only [r111_0, r111_1, r111_4, r111_5, r111_6, r111_7, r111_10, r111_11, r111_15, r111_16, r111_19, r111_20, r111_22, r111_23, r111_26, r111_27, r111_28, r111_30, r111_33, r111_34, r111_37, r111_39, r111_41, r111_44, r111_45, r111_47, r111_48, r111_50, r111_51, r111_52, r111_55, r111_57, r111_58, r111_60, r111_62, r111_63, r111_64, r111_65, r111_67, r111_70, r111_73, r111_75, r111_76, r111_77, r111_80, r111_83, r111_86, am_cat0, am_catI, am_catR, am_catD, am_ndI, am_ndR, am_ndL, va_rfS, true_and, and_true, Option.toList_some, Option.toList_none, List.cons_append, List.nil_append, Nat.reduceAdd, Nat.reduceLeDiff, Nat.zero_add, Nat.le_refl, rw_mrg, ite_Q, ite_bN, ite_bN', ib_0b, ib_b0, ib_1b, ib_b1, bN_0, bN_n0, bN_01T, nI1_0, nI0_0, nI01a, nI01b, bN_1, no_or, true_or, or_true, false_or, or_false, ite_not, if_true, if_false, Decidable.not_not, nx_le, Nat.not_le.mpr hk, so16, so20, so46, sf16_0, sd17, am_bd, bd_n, nI_tn, h113, c114 (show k < 816 by omega) (show lR (nzM M l) k < 2 ^ 31 by rw [hR]; omega), hR, eC, h155, e0, nI_add, am_ndI, pk_sub, hR17, nx_shl, nx_or, c117 (show k < 816 by omega), eM, c110 hm (sl_m hm), erow, c112 hlz.1 (show L.length < 816 by omega)]
      rw [List.foldl_cons, est]
      have heok : okE (w, p, ch.2.1, ch.2.2, ch.1) := ⟨by show 1 ≤ w; omega, hw, by show p < 3; omega, ht, hm, hc1, hc2⟩
      have hzz : ∀ x ∈ L, zz (eZ x) < zz (eZ (w, p, ch.2.1, ch.2.2, ch.1)) := fun x hx => h6 x hx ch List.mem_cons_self
      obtain ⟨q1, q2⟩ := lsC_ins hlz (by omega) heok hzz
      refine ih (k + 1) _ _ _ _ (by omega) (by rw [insE_len]; omega) g2 (fun z hz => h5 z (List.mem_cons_of_mem _ hz)) (fun x hx z hz => ?_) q1 ?_ (fun i hi => ?_)
      · rcases insE_mem hx with rfl | hx
        · exact g1 z hz
        · exact h6 x hx z (List.mem_cons_of_mem _ hz)
      · refine agC_t hag (fun q k a b c d => ?_)
        rw [up_q a, inR_o _ _ _ _ _ b]
      · rw [q2 _ (by omega), nzM_o (by decide) (by decide)]
        have := h10 (i + 1) (by rw [List.length_cons]; omega)
        rw [show k + 1 + i = k + (i + 1) by omega, this]
        rfl
theorem c111 {P : Nat → List Nat} {n : Nat} (h2 : bW M 2) (h9 : bW M 9) (hr : rlW M P n) : RR 111 0 [.ref 16, .ref 20, .ref 46, .long 0, .long 0, .long 0, .long 0] [] (SH, (0, 0, sl), liM M ((gA M D 8 0).map (rw3 M)), D, RF) (fun rv μ' => rv = none ∧ ∃ M', μ' = (SH, (0, 0, sl), M', D, RF) ∧ lsC M' (wA M D P n) ∧ agC M M') := by
  obtain ⟨s1, s2⟩ := gA_srt M D 8 0 (by decide)
  have hl := gA_len M D 8 0
  have hag : agC M (liM M ((gA M D 8 0).map (rw3 M))) := fun q k a b _ _ => liM_o a b
  simp only [r111_0, r111_1, r111_4, r111_5, r111_6, r111_7, r111_10, r111_11, am_cat0, am_catI, am_catR, am_catD, am_ndI, am_ndR, am_ndL, va_rfS, true_and, and_true, Option.toList_some, Option.toList_none, List.cons_append, List.nil_append, Nat.reduceAdd, Nat.reduceLeDiff, Nat.zero_add, Nat.le_refl, so16, liM_L]
  rw [List.length_map]
  refine c111o h2 h9 hr hl (gA M D 8 0) 0 [] _ _ _ (by omega) (Nat.le_refl _) s1 (fun z hz => (s2 z hz).1) (fun x hx => absurd hx List.not_mem_nil) ?_ ?_ (fun i hi => ?_)
  · exact ⟨up_s _ _ _ _, by simp, fun x hx => absurd hx List.not_mem_nil, fun k hk => absurd hk (Nat.not_lt_zero _)⟩
  · exact fun q k a b _ _ => by rw [up_q a, liM_o a b]
  · rw [up_q (by decide), Nat.zero_add]
    unfold liM
    rw [if_neg (by omega), if_pos ⟨rfl, by rw [List.length_map]; exact hi⟩]
    congr 1
    rw [List.getD_eq_getElem?_getD, List.getD_eq_getElem?_getD, List.getElem?_map, List.getElem?_eq_getElem hi]
    rfl
theorem c18 {P : Nat → List Nat} {n : Nat} (h2 : bW M 2) (h9 : bW M 9) (hr : rlW M P n) : RR 18 0 [.ref 0] [] (SH, (0, 0, sl), M, D, RF) (fun rv μ' => rv = some (.ref 16) ∧ ∃ M', μ' = (SH, (0, 0, sl), M', D, RF) ∧ lsC M' (wA M D P n) ∧ agC M M') := by
  simp only [r18_0, r18_1, r18_4, r18_7, r18_8, r18_11, r18_14, r18_15, r18_18, r18_19, r18_22, am_cat0, am_catI, am_catR, am_catD, am_ndI, am_ndR, am_ndL, va_rfS, true_and, and_true, Option.toList_some, Option.toList_none, List.cons_append, List.nil_append, Nat.reduceAdd, Nat.reduceLeDiff, Nat.zero_add, Nat.le_refl, so0, so1, so16, sf0_0, sf0_2, sf0_3, sf1_2, c96 h2 h9]
  refine RR.imp (c111 h2 h9 hr) ?_
  rintro rv μ' ⟨rfl, M', rfl, h3, h4⟩
  simp only [r18_25, r18_26, r18_29, r18_32, am_cat0, am_catI, am_catR, am_catD, am_ndI, am_ndR, am_ndL, va_rfS, true_and, and_true, Option.toList_some, Option.toList_none, List.cons_append, List.nil_append, Nat.reduceAdd, Nat.reduceLeDiff, Nat.zero_add, Nat.le_refl, so0, so1, sf0_0, sf1_2]
  exact ⟨M', rfl, h3, h4⟩
end CN
