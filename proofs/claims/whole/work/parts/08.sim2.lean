/-! ARRAYS, FIELDS, NEW CELLS -/
def nmTy (ci k : Nat) : FieldType := (parseFieldDescriptor (nmT ci k).2.2.1).getD .int
set_option maxRecDepth 100000 in
theorem nmT_ck : (List.range 10).all (fun ci => (List.range (am_fn ci)).all (fun k => decide (parseFieldDescriptor (nmT ci k).2.2.1 ≠ none) && (decide (defaultValue (nmTy ci k) = if (nmT ci k).2.2.1 = "I" then .int 0 else .null) && (decide ((nmT ci k).2.2.1 = "I" → nmTy ci k = .int) && (decide ((nmT ci k).2.2.1 = "I" ↔ (nmT ci k).2.2.2 = false) && (decide ((nmT ci k).2.2.1 ≠ "I" → narrow (nmTy ci k) (.ref 0) = .ref 0 ∧ fits (nmTy ci k) (.ref 0) = true) && (List.range (am_fn ci)).all (fun j => decide (k ≠ j → (nmT ci k).2.1 ≠ (nmT ci j).2.1)))))))) = true := by decide +kernel
theorem nmT_at {ci k : Nat} (h : ci < 10) (hk : k < am_fn ci) : parseFieldDescriptor (nmT ci k).2.2.1 = some (nmTy ci k) ∧ (defaultValue (nmTy ci k) = if (nmT ci k).2.2.1 = "I" then .int 0 else .null) ∧ ((nmT ci k).2.2.1 = "I" → nmTy ci k = .int) ∧ ((nmT ci k).2.2.1 = "I" ↔ (nmT ci k).2.2.2 = false) ∧ ((nmT ci k).2.2.1 ≠ "I" → narrow (nmTy ci k) (.ref 0) = .ref 0 ∧ fits (nmTy ci k) (.ref 0) = true) ∧ ∀ j, j < am_fn ci → k ≠ j → (nmT ci k).2.1 ≠ (nmT ci j).2.1 := by
  have h1 := List.all_eq_true.mp (List.all_eq_true.mp nmT_ck ci (List.mem_range.mpr h)) k (List.mem_range.mpr hk)
  simp only [Bool.and_eq_true, decide_eq_true_eq] at h1
  obtain ⟨a1, a2, a3, a4, a5, a6⟩ := h1
  refine ⟨?_, a2, a3, a4, a5, fun j hj hn => ?_⟩
  · cases hp : parseFieldDescriptor (nmT ci k).2.2.1 with
    | none => exact absurd hp a1
    | some t => simp [nmTy, hp]
  · have := List.all_eq_true.mp a6 j (List.mem_range.mpr hj)
    simp only [decide_eq_true_eq] at this
    exact this hn
theorem sm_nref {ty : FieldType} {a : Nat} (h : narrow ty (.ref 0) = .ref 0 ∧ fits ty (.ref 0) = true) : narrow ty (.ref a) = .ref a ∧ fits ty (.ref a) = true := by
  cases ty <;> first | exact ⟨rfl, rfl⟩ | exact absurd h.2 (by decide)
theorem nmCl_at : ∀ ci, ci < 10 → nmCl[ci]? = some (nmC ci, nmT ci, am_fn ci) := by
  intro ci h
  match ci, h with
  | 0, _ => rfl
  | 1, _ => rfl
  | 2, _ => rfl
  | 3, _ => rfl
  | 4, _ => rfl
  | 5, _ => rfl
  | 6, _ => rfl
  | 7, _ => rfl
  | 8, _ => rfl
  | 9, _ => rfl
  | ci + 10, h => exact absurd h (by omega)
section SM
variable {p : Program} {l : Launch} {e : Env} {R : Room} {s : State} {m : MethodId} {args : Array Value} {below : List Frame} {meth : Method} {c : Code} {Q : State → Prop}
variable {D : va_G} {ca : Nat → Nat} {base b : Nat} {aK : Nat → Nat} {sl : Nat} {xs : Nat → Int32} {SF : State → Prop} {mi pc pc' : Nat} {L st L' st' : List Value} {μ μ' : amM}
theorem sm_tys_at (t : Nat) (h : t < 5) : ∃ ty, (sm_tys ca)[t]? = some (ca t, ty) := by
  match t, h with
  | 0, _ => exact ⟨_, rfl⟩
  | 1, _ => exact ⟨_, rfl⟩
  | 2, _ => exact ⟨_, rfl⟩
  | 3, _ => exact ⟨_, rfl⟩
  | 4, _ => exact ⟨_, rfl⟩
  | t + 5, h => exact absurd h (by omega)
theorem sm_lt {q : Nat} {sh : Nat ⊕ (Nat × Nat)} {H : Heap} {locs : List Loc} {ls : Array Slot} {cells slots : Nat} (hS : sm_S R s D ca base b aK sl xs mi μ H locs L ls cells slots) (h : μ.1[q]? = some sh) : q < 1000000 ∧ (sm_ad base b aK) q = base + q := by
  have h1 : q < μ.1.length := (List.getElem?_eq_some_iff.mp h).1
  have h2 : q < 1000000 := Nat.lt_of_lt_of_le h1 hS.2.2.2.2.2.2.2.2
  exact ⟨h2, sm_cv_h h2⟩
theorem sm_ar {q t n : Nat} (h : μ.1[q]? = some (.inr (t, n))) (h3 : t ≠ 3) (h4 : t ≠ 4) : (sm_ws (sm_ad base b aK) ca base μ)[q]? = some (base + q, .inl (ca t, n, .inl (μ.2.2.1 q))) := by
  rw [sm_ws_get h]
  simp [sm_ce, h3, h4]
theorem sm_ard {q n : Nat} (h : μ.1[q]? = some (.inr (3, n))) : (sm_ws (sm_ad base b aK) ca base μ)[q]? = some (base + q, .inl (ca 3, n, .inr (.inr (.inr (.inl (μ.2.2.2.1 q)))))) := by
  rw [sm_ws_get h]
  simp [sm_ce]
theorem sm_arq {q n : Nat} (h : μ.1[q]? = some (.inr (4, n))) : (sm_ws (sm_ad base b aK) ca base μ)[q]? = some (base + q, .inl (ca 4, n, .inr (.inr (.inr (.inr (fun i => (μ.2.2.2.2 q i).map (sm_ad base b aK))))))) := by
  rw [sm_ws_get h]
  simp [sm_ce]
theorem sm_ob {q ci : Nat} (h : μ.1[q]? = some (.inl ci)) : (sm_ws (sm_ad base b aK) ca base μ)[q]? = some (base + q, .inr (ci, (List.range (am_fn ci)).map (fun j => if (nmT ci j).2.2.1 = "I" then .int (μ.2.2.1 q j) else va_rf ((μ.2.2.2.2 q j).map (sm_ad base b aK))))) := by
  rw [sm_ws_get h]
  rfl
/-- a world in which the ints of one place are others -/
theorem sm_setI {q : Nat} {x : va_E} {N : Nat → Nat → Int32} {sh : Nat ⊕ (Nat × Nat)} (hq : μ.1[q]? = some sh) (hN : ∀ k, k ≠ q → N k = μ.2.2.1 k) (hx : sm_ce (sm_ad base b aK) ca (some sh) (N q) (μ.2.2.2.1 q) (μ.2.2.2.2 q) = x) : (sm_ws (sm_ad base b aK) ca base μ).set q (base + q, x) = sm_ws (sm_ad base b aK) ca base (μ.1, μ.2.1, N, μ.2.2.2) := by
  refine sm_ws_set rfl ?_ (fun k hk => ?_)
  · rw [← hx]; simp only [sm_cell, hq]
  · simp only [sm_cell, hN k hk]
theorem sm_setD {q : Nat} {x : va_E} {N : Nat → Nat → UInt64} {sh : Nat ⊕ (Nat × Nat)} (hq : μ.1[q]? = some sh) (hN : ∀ k, k ≠ q → N k = μ.2.2.2.1 k) (hx : sm_ce (sm_ad base b aK) ca (some sh) (μ.2.2.1 q) (N q) (μ.2.2.2.2 q) = x) : (sm_ws (sm_ad base b aK) ca base μ).set q (base + q, x) = sm_ws (sm_ad base b aK) ca base (μ.1, μ.2.1, μ.2.2.1, N, μ.2.2.2.2) := by
  refine sm_ws_set rfl ?_ (fun k hk => ?_)
  · rw [← hx]; simp only [sm_cell, hq]
  · simp only [sm_cell, hN k hk]
theorem sm_setF {q : Nat} {x : va_E} {N : Nat → Nat → Option Nat} {sh : Nat ⊕ (Nat × Nat)} (hq : μ.1[q]? = some sh) (hN : ∀ k, k ≠ q → N k = μ.2.2.2.2 k) (hx : sm_ce (sm_ad base b aK) ca (some sh) (μ.2.2.1 q) (μ.2.2.2.1 q) (N q) = x) : (sm_ws (sm_ad base b aK) ca base μ).set q (base + q, x) = sm_ws (sm_ad base b aK) ca base (μ.1, μ.2.1, μ.2.2.1, μ.2.2.2.1, N) := by
  refine sm_ws_set rfl ?_ (fun k hk => ?_)
  · rw [← hx]; simp only [sm_cell, hq]
  · simp only [sm_cell, hN k hk]
/-- the state behind a write -/
theorem sm_S.wr {H H1 : Heap} {locs locs1 : List Loc} {ls : Array Slot} {cells slots : Nat} (h : sm_S R s D ca base b aK sl xs mi μ H locs L ls cells slots) (h1 : μ'.1 = μ.1) (h2 : μ'.2.1 = μ.2.1) (hx : ∀ j, j < sl → μ'.2.2.1 1000000 j = μ.2.2.1 1000000 j) (hP : va_P D nmCl (sm_ws (sm_ad base b aK) ca base μ') H1) (hS : va_S (fun q => base ≤ q) s.heap H1 locs1) : sm_S R s D ca base b aK sl xs mi μ' H1 locs1 L ls cells slots := by
  obtain ⟨a1, a2, a3, a4, a5, a6, a7, a8, a9⟩ := h
  refine ⟨hP, hS, by rw [h1]; exact a3, a4, by rw [h2]; exact a5, by rw [h2]; exact a6, by rw [h2]; exact a7, fun j hj => (hx j hj).trans (a8 j hj), by rw [h1]; exact a9⟩

theorem sm_o_iaload (hd : decode (mB mi) pc = .ok (.iaload, 1)) (C : sm_C p R s m args meth c D ca base b aK sl xs SF mi) (hs : am_xld (pc + 1) 0 L st μ = some (.inl (pc', L', st', μ'))) (k : sm_T p l e R s m args below meth c Q D ca base b aK sl xs mi pc' L' st' μ') : sm_T p l e R s m args below meth c Q D ca base b aK sl xs mi pc L st μ := by
  unfold am_xld at hs
  split at hs
  case h_2 => cases hs
  rename_i i q r
  split at hs
  case h_2 => cases hs
  rename_i t' n hx
  split at hs
  case isFalse => cases hs
  rename_i hz
  unfold am_sh at hx
  split at hx
  · rename_i hq0
    cases hx
    subst hq0
    cases hs
    intro H locs ls cells slots hS
    have hsl : i.toInt < (sl : Int) := by rw [← hS.2.2.2.2.2.2.1]; exact hz.2.2
    have hv := hS.2.2.2.2.2.2.2.1 i.toInt.toNat (by omega)
    obtain ⟨-, -, -, hX, hbb, -⟩ := C.2.2.2.2.2.2.2.2.1
    refine va_sld C.1 C.2.1 hX (Nat.lt_of_lt_of_le hbb C.2.2.2.2.2.2.2.2.2.1) (Nat.not_le.mpr hbb) hS.2.1 (sm_in hz.2.1 hsl) hd ?_
    have kk := k H locs ls cells slots hS
    rw [hv] at kk
    exact kk
  · cases hs
    intro H locs ls cells slots hS
    obtain ⟨hq1, hq2⟩ := sm_lt hS hx
    obtain ⟨rfl, hz1, hz2⟩ := hz
    show W p l e R s m args below meth c H locs cells slots Q (F0 m pc ls (.int i :: .ref ((sm_ad base b aK) q) :: _))
    rw [hq2]
    exact va_iald C.1 C.2.1 C.2.2.2.2.2.2.2.2.1.1 hS.1 q 0 (sm_ar hx (by decide) (by decide)) rfl (sm_in hz1 hz2) hd (k H locs ls cells slots hS)
theorem sm_o_caload (hd : decode (mB mi) pc = .ok (.caload, 1)) (C : sm_C p R s m args meth c D ca base b aK sl xs SF mi) (hs : am_xld (pc + 1) 1 L st μ = some (.inl (pc', L', st', μ'))) (k : sm_T p l e R s m args below meth c Q D ca base b aK sl xs mi pc' L' st' μ') : sm_T p l e R s m args below meth c Q D ca base b aK sl xs mi pc L st μ := by
  unfold am_xld at hs
  split at hs
  case h_2 => cases hs
  rename_i i q r
  split at hs
  case h_2 => cases hs
  rename_i t' n hx
  split at hs
  case isFalse => cases hs
  rename_i hz
  unfold am_sh at hx
  split at hx
  · rename_i hq0
    cases hx
    exact absurd hz.1 (by decide)
  · cases hs
    intro H locs ls cells slots hS
    obtain ⟨hq1, hq2⟩ := sm_lt hS hx
    obtain ⟨rfl, hz1, hz2⟩ := hz
    show W p l e R s m args below meth c H locs cells slots Q (F0 m pc ls (.int i :: .ref ((sm_ad base b aK) q) :: _))
    rw [hq2]
    exact va_cald C.1 C.2.1 C.2.2.2.2.2.2.2.2.1.1 hS.1 q 1 (sm_ar hx (by decide) (by decide)) rfl (sm_in hz1 hz2) hd (k H locs ls cells slots hS)
theorem sm_o_baload (hd : decode (mB mi) pc = .ok (.baload, 1)) (C : sm_C p R s m args meth c D ca base b aK sl xs SF mi) (hs : am_xld (pc + 1) 2 L st μ = some (.inl (pc', L', st', μ'))) (k : sm_T p l e R s m args below meth c Q D ca base b aK sl xs mi pc' L' st' μ') : sm_T p l e R s m args below meth c Q D ca base b aK sl xs mi pc L st μ := by
  unfold am_xld at hs
  split at hs
  case h_2 => cases hs
  rename_i i q r
  split at hs
  case h_2 => cases hs
  rename_i t' n hx
  split at hs
  case isFalse => cases hs
  rename_i hz
  unfold am_sh at hx
  split at hx
  · rename_i hq0
    cases hx
    exact absurd hz.1 (by decide)
  · cases hs
    intro H locs ls cells slots hS
    obtain ⟨hq1, hq2⟩ := sm_lt hS hx
    obtain ⟨rfl, hz1, hz2⟩ := hz
    show W p l e R s m args below meth c H locs cells slots Q (F0 m pc ls (.int i :: .ref ((sm_ad base b aK) q) :: _))
    rw [hq2]
    exact va_zald C.1 C.2.1 C.2.2.2.2.2.2.2.2.1.1 hS.1 q 2 (sm_ar hx (by decide) (by decide)) rfl (sm_in hz1 hz2) hd (k H locs ls cells slots hS)
theorem sm_o_iastore (hd : decode (mB mi) pc = .ok (.iastore, 1)) (C : sm_C p R s m args meth c D ca base b aK sl xs SF mi) (hs : am_xst (pc + 1) 0 L st μ (fun x => x) = some (.inl (pc', L', st', μ'))) (k : sm_T p l e R s m args below meth c Q D ca base b aK sl xs mi pc' L' st' μ') : sm_T p l e R s m args below meth c Q D ca base b aK sl xs mi pc L st μ := by
  unfold am_xst at hs
  split at hs
  case h_2 => cases hs
  rename_i x i q r
  split at hs
  case h_2 => cases hs
  rename_i t' n hx
  split at hs
  case isFalse => cases hs
  rename_i hz
  cases hs
  intro H locs ls cells slots hS
  obtain ⟨hq1, hq2⟩ := sm_lt hS hx
  obtain ⟨rfl, hz1, hz2⟩ := hz
  show W p l e R s m args below meth c H locs cells slots Q (F0 m pc ls (.int x :: .int i :: .ref ((sm_ad base b aK) q) :: _))
  rw [hq2]
  refine va_iast C.1 C.2.1 C.2.2.2.2.2.2.2.2.1.1 hS.1 sm_D hS.2.1 q 0 (sm_ar hx (by decide) (by decide)) rfl (sm_in hz1 hz2) hd (fun H1 locs1 hP1 _ hS1 => ?_)
  rw [sm_setI (N := am_up μ.2.2.1 q i.toInt.toNat _) hx (fun k hk => am_up_ne hk) (by simp only [sm_ce, am_up_eq]; rfl)] at hP1
  exact k H1 locs1 ls cells slots (hS.wr rfl rfl (fun j _ => congrFun (am_up_ne (by omega)) j) hP1 hS1)
theorem sm_o_castore (hd : decode (mB mi) pc = .ok (.castore, 1)) (C : sm_C p R s m args meth c D ca base b aK sl xs SF mi) (hs : am_xst (pc + 1) 1 L st μ (fun x => vp_nar .char x) = some (.inl (pc', L', st', μ'))) (k : sm_T p l e R s m args below meth c Q D ca base b aK sl xs mi pc' L' st' μ') : sm_T p l e R s m args below meth c Q D ca base b aK sl xs mi pc L st μ := by
  unfold am_xst at hs
  split at hs
  case h_2 => cases hs
  rename_i x i q r
  split at hs
  case h_2 => cases hs
  rename_i t' n hx
  split at hs
  case isFalse => cases hs
  rename_i hz
  cases hs
  intro H locs ls cells slots hS
  obtain ⟨hq1, hq2⟩ := sm_lt hS hx
  obtain ⟨rfl, hz1, hz2⟩ := hz
  show W p l e R s m args below meth c H locs cells slots Q (F0 m pc ls (.int x :: .int i :: .ref ((sm_ad base b aK) q) :: _))
  rw [hq2]
  refine va_cast C.1 C.2.1 C.2.2.2.2.2.2.2.2.1.1 hS.1 sm_D hS.2.1 q 1 (sm_ar hx (by decide) (by decide)) rfl (sm_in hz1 hz2) hd (fun H1 locs1 hP1 _ hS1 => ?_)
  rw [sm_setI (N := am_up μ.2.2.1 q i.toInt.toNat _) hx (fun k hk => am_up_ne hk) (by simp only [sm_ce, am_up_eq]; rfl)] at hP1
  exact k H1 locs1 ls cells slots (hS.wr rfl rfl (fun j _ => congrFun (am_up_ne (by omega)) j) hP1 hS1)
theorem sm_o_bastore (hd : decode (mB mi) pc = .ok (.bastore, 1)) (C : sm_C p R s m args meth c D ca base b aK sl xs SF mi) (hs : am_xst (pc + 1) 2 L st μ (fun x => vp_nar .boolean x) = some (.inl (pc', L', st', μ'))) (k : sm_T p l e R s m args below meth c Q D ca base b aK sl xs mi pc' L' st' μ') : sm_T p l e R s m args below meth c Q D ca base b aK sl xs mi pc L st μ := by
  unfold am_xst at hs
  split at hs
  case h_2 => cases hs
  rename_i x i q r
  split at hs
  case h_2 => cases hs
  rename_i t' n hx
  split at hs
  case isFalse => cases hs
  rename_i hz
  cases hs
  intro H locs ls cells slots hS
  obtain ⟨hq1, hq2⟩ := sm_lt hS hx
  obtain ⟨rfl, hz1, hz2⟩ := hz
  show W p l e R s m args below meth c H locs cells slots Q (F0 m pc ls (.int x :: .int i :: .ref ((sm_ad base b aK) q) :: _))
  rw [hq2]
  refine va_zast C.1 C.2.1 C.2.2.2.2.2.2.2.2.1.1 hS.1 sm_D hS.2.1 q 2 (sm_ar hx (by decide) (by decide)) rfl (sm_in hz1 hz2) hd (fun H1 locs1 hP1 _ hS1 => ?_)
  rw [sm_setI (N := am_up μ.2.2.1 q i.toInt.toNat _) hx (fun k hk => am_up_ne hk) (by simp only [sm_ce, am_up_eq]; rfl)] at hP1
  exact k H1 locs1 ls cells slots (hS.wr rfl rfl (fun j _ => congrFun (am_up_ne (by omega)) j) hP1 hS1)
theorem sm_o_daload (hd : decode (mB mi) pc = .ok (.daload, 1)) (C : sm_C p R s m args meth c D ca base b aK sl xs SF mi) (hs : am_dxld (pc + 1) L st μ = some (.inl (pc', L', st', μ'))) (k : sm_T p l e R s m args below meth c Q D ca base b aK sl xs mi pc' L' st' μ') : sm_T p l e R s m args below meth c Q D ca base b aK sl xs mi pc L st μ := by
  unfold am_dxld at hs
  split at hs
  case h_2 => cases hs
  rename_i i q r
  split at hs
  case h_2 => cases hs
  rename_i t' n hx
  split at hs
  case isFalse => cases hs
  rename_i hz
  cases hs
  intro H locs ls cells slots hS
  obtain ⟨hq1, hq2⟩ := sm_lt hS hx
  obtain ⟨rfl, hz1, hz2⟩ := hz
  show W p l e R s m args below meth c H locs cells slots Q (F0 m pc ls (.int i :: .ref ((sm_ad base b aK) q) :: _))
  rw [hq2]
  exact va_dald C.1 C.2.1 C.2.2.2.2.2.2.2.2.1.1 hS.1 q 3 (sm_ard hx) rfl (sm_in hz1 hz2) hd (k H locs ls cells slots hS)
theorem sm_o_dastore (hd : decode (mB mi) pc = .ok (.dastore, 1)) (C : sm_C p R s m args meth c D ca base b aK sl xs SF mi) (hs : am_dxst (pc + 1) L st μ = some (.inl (pc', L', st', μ'))) (k : sm_T p l e R s m args below meth c Q D ca base b aK sl xs mi pc' L' st' μ') : sm_T p l e R s m args below meth c Q D ca base b aK sl xs mi pc L st μ := by
  unfold am_dxst at hs
  split at hs
  case h_2 => cases hs
  rename_i x i q r
  split at hs
  case h_2 => cases hs
  rename_i t' n hx
  split at hs
  case isFalse => cases hs
  rename_i hz
  cases hs
  intro H locs ls cells slots hS
  obtain ⟨hq1, hq2⟩ := sm_lt hS hx
  obtain ⟨rfl, hz1, hz2⟩ := hz
  show W p l e R s m args below meth c H locs cells slots Q (F0 m pc ls (.double x :: .int i :: .ref ((sm_ad base b aK) q) :: _))
  rw [hq2]
  refine va_dast C.1 C.2.1 C.2.2.2.2.2.2.2.2.1.1 hS.1 sm_D hS.2.1 q 3 (sm_ard hx) rfl (sm_in hz1 hz2) hd (fun H1 locs1 hP1 _ hS1 => ?_)
  rw [sm_setD (N := am_up μ.2.2.2.1 q i.toInt.toNat x) hx (fun k hk => am_up_ne hk) (by simp [sm_ce, am_up_eqD]; try rfl)] at hP1
  exact k H1 locs1 ls cells slots (hS.wr rfl rfl (fun j _ => rfl) hP1 hS1)
theorem sm_o_aaload (hd : decode (mB mi) pc = .ok (.aaload, 1)) (C : sm_C p R s m args meth c D ca base b aK sl xs SF mi) (hs : am_axld (pc + 1) L st μ = some (.inl (pc', L', st', μ'))) (k : sm_T p l e R s m args below meth c Q D ca base b aK sl xs mi pc' L' st' μ') : sm_T p l e R s m args below meth c Q D ca base b aK sl xs mi pc L st μ := by
  unfold am_axld at hs
  split at hs
  case h_2 => cases hs
  rename_i i q r
  split at hs
  case h_2 => cases hs
  rename_i t' n hx
  split at hs
  case isFalse => cases hs
  rename_i hz
  cases hs
  intro H locs ls cells slots hS
  obtain ⟨hq1, hq2⟩ := sm_lt hS hx
  obtain ⟨rfl, hz1, hz2⟩ := hz
  show W p l e R s m args below meth c H locs cells slots Q (F0 m pc ls (.int i :: .ref ((sm_ad base b aK) q) :: _))
  rw [hq2]
  refine va_aldq C.1 C.2.1 C.2.2.2.2.2.2.2.2.1.1 hS.1 q 4 (sm_arq hx) rfl (sm_in hz1 hz2) hd ?_
  have kk := (k H locs ls cells slots hS)
  rw [List.map_cons, sm_cvr] at kk
  exact kk
theorem sm_o_aastore (hd : decode (mB mi) pc = .ok (.aastore, 1)) (C : sm_C p R s m args meth c D ca base b aK sl xs SF mi) (hs : am_axst (pc + 1) L st μ = some (.inl (pc', L', st', μ'))) (k : sm_T p l e R s m args below meth c Q D ca base b aK sl xs mi pc' L' st' μ') : sm_T p l e R s m args below meth c Q D ca base b aK sl xs mi pc L st μ := by
  unfold am_axst at hs
  split at hs
  case h_2 => cases hs
  rename_i v i q r
  split at hs
  case h_2 => cases hs
  rename_i t' n hx
  split at hs
  case isFalse => cases hs
  rename_i hz
  cases hs
  intro H locs ls cells slots hS
  obtain ⟨hq1, hq2⟩ := sm_lt hS hx
  obtain ⟨rfl, hz1, hz2, hz3⟩ := hz
  obtain ⟨hv1, hv2⟩ := sm_lt hS hz3
  show W p l e R s m args below meth c H locs cells slots Q (F0 m pc ls (.ref ((sm_ad base b aK) v) :: .int i :: .ref ((sm_ad base b aK) q) :: _))
  rw [hq2, hv2]
  refine va_astq C.1 C.2.1 C.2.2.2.2.2.2.2.2.1.1 hS.1 sm_D hS.2.1 q 4 v 6 (r := ("ReleaseDesk$Rule", nmT 6, 4)) (sm_arq hx) rfl (sm_ob hz3) rfl (sm_in hz1 hz2) hd (fun H1 locs1 hP1 _ hS1 => ?_)
  rw [sm_setF (N := am_up μ.2.2.2.2 q i.toInt.toNat (some v)) hx (fun k hk => am_up_ne hk) (by
    have e : ∀ ii : Nat, (fun a => (va_up (μ.2.2.2.2 q) ii (some v) a).map (sm_ad base b aK)) = va_up (fun a => (μ.2.2.2.2 q a).map (sm_ad base b aK)) ii (some (base + v)) := by
      intro ii
      funext a
      by_cases h : a = ii
      · simp [va_up, h, hv2]
      · simp [va_up, h]
    simp [sm_ce, am_up_eqF, e]; try rfl)] at hP1
  exact k H1 locs1 ls cells slots (hS.wr rfl rfl (fun j _ => rfl) hP1 hS1)
theorem sm_o_arraylength (hd : decode (mB mi) pc = .ok (.arraylength, 1)) (C : sm_C p R s m args meth c D ca base b aK sl xs SF mi) (hs : am_alen (pc + 1) L st μ = some (.inl (pc', L', st', μ'))) (k : sm_T p l e R s m args below meth c Q D ca base b aK sl xs mi pc' L' st' μ') : sm_T p l e R s m args below meth c Q D ca base b aK sl xs mi pc L st μ := by
  unfold am_alen at hs
  split at hs
  case h_2 => cases hs
  rename_i q r
  split at hs
  case h_2 => cases hs
  rename_i t' n hx
  split at hs
  case isFalse => cases hs
  rename_i ht5
  cases hs
  intro H locs ls cells slots hS
  unfold am_sh at hx
  split at hx
  · rename_i hq0
    cases hx
    subst hq0
    obtain ⟨-, -, -, hX, hbb, -⟩ := C.2.2.2.2.2.2.2.2.1
    refine va_slen C.1 C.2.1 hX (Nat.lt_of_lt_of_le hbb C.2.2.2.2.2.2.2.2.2.1) (Nat.not_le.mpr hbb) hS.2.1 hd ?_
    have kk := (k H locs ls cells slots hS)
    rw [hS.2.2.2.2.2.2.1] at kk
    exact kk
  · obtain ⟨hq1, hq2⟩ := sm_lt hS hx
    show W p l e R s m args below meth c H locs cells slots Q (F0 m pc ls (.ref ((sm_ad base b aK) q) :: _))
    rw [hq2]
    have hh := sm_ws_get (ad := (sm_ad base b aK)) (ca := ca) (base := base) hx
    simp only [sm_ce] at hh
    obtain ⟨ty, hty⟩ := sm_tys_at (ca := ca) t' ht5
    exact va_alen C.1 C.2.1 C.2.2.2.2.2.2.2.2.1.1 hS.1 q t' hh hty rfl hd (k H locs ls cells slots hS)
theorem ck_lk_of {lt : List (Nat × Nat × Nat × Nat)} {oc idx c : Nat} (h : ck_lk lt oc idx c = true) : ∃ w, (oc, idx, c, w) ∈ lt := by
  obtain ⟨⟨a, b2, d, w⟩, h1, h2⟩ := List.any_eq_true.mp h
  simp only [Bool.and_eq_true, beq_iff_eq] at h2
  obtain ⟨rfl, rfl, rfl⟩ := h2
  exact ⟨w, h1⟩
theorem sm_o_getfield {idx : Nat} {info : List Nat} (hd : decode (mB mi) pc = .ok (.getfield idx, 3)) (hf : ∀ ci k kd, info = [ci, k, kd] → (ci < 10 ∧ k < am_fn ci) ∧ (Cond.fieldLink (nmC (mO mi)) idx (nmT ci k).1 (nmT ci k).2.1 (nmT ci k).2.2.1 ∈ KW ∧ ∀ w ∈ u_ws (nmC ci) (nmT ci) (am_fn ci), w ∈ KW) ∧ (kd = 0 ↔ (nmT ci k).2.2.1 = "I")) (C : sm_C p R s m args meth c D ca base b aK sl xs SF mi) (hs : am_get (pc + 3) L st μ info = some (.inl (pc', L', st', μ'))) (k : sm_T p l e R s m args below meth c Q D ca base b aK sl xs mi pc' L' st' μ') : sm_T p l e R s m args below meth c Q D ca base b aK sl xs mi pc L st μ := by
  unfold am_get at hs
  split at hs
  case h_2 => cases hs
  rename_i q r ci kf kd
  split at hs
  case isFalse => cases hs
  rename_i hx
  cases hs
  obtain ⟨⟨hf1, hf2⟩, ⟨hf3, hf4⟩, hf5⟩ := hf _ _ _ rfl
  intro H locs ls cells slots hS
  obtain ⟨hq1, hq2⟩ := sm_lt hS hx
  show W p l e R s m args below meth c H locs cells slots Q (F0 m pc ls (.ref ((sm_ad base b aK) q) :: _))
  rw [hq2]
  refine va_get C.1 C.2.1 (T := nmT ci) C.2.2.2.2.2.1 hf4 C.2.2.2.2.1 C.2.2.2.2.2.2.2.2.1.1 hS.1 q (sm_ob hx) (nmCl_at ci hf1) kf hf2 (C.2.2.2.2.2.1 _ hf3) (fun _ h => h) (v := sm_cv (sm_ad base b aK) (if kd = 0 then .int (μ.2.2.1 q kf) else va_rf (μ.2.2.2.2 q kf))) ?_ hd (k H locs ls cells slots hS)
  rw [List.getElem?_map, List.getElem?_range hf2]
  by_cases h0 : kd = 0
  · simp [h0, hf5.mp h0, sm_cv]
  · have h1 : ¬ (nmT ci kf).2.2.1 = "I" := fun z => h0 (hf5.mpr z)
    simp [h0, h1, sm_cvr]
theorem sm_o_putfield {idx : Nat} {info : List Nat} (hd : decode (mB mi) pc = .ok (.putfield idx, 3)) (hf : ∀ ci k kd, info = [ci, k, kd] → (ci < 10 ∧ k < am_fn ci) ∧ (Cond.fieldLink (nmC (mO mi)) idx (nmT ci k).1 (nmT ci k).2.1 (nmT ci k).2.2.1 ∈ KW ∧ ∀ w ∈ u_ws (nmC ci) (nmT ci) (am_fn ci), w ∈ KW) ∧ (kd = 0 ↔ (nmT ci k).2.2.1 = "I") ∧ ((nmT ci k).2.2.2 = true → (mY mi).name = "<init>" ∧ (nmT ci k).1 = nmC (mO mi))) (C : sm_C p R s m args meth c D ca base b aK sl xs SF mi) (hs : am_put (pc + 3) L st μ info = some (.inl (pc', L', st', μ'))) (k : sm_T p l e R s m args below meth c Q D ca base b aK sl xs mi pc' L' st' μ') : sm_T p l e R s m args below meth c Q D ca base b aK sl xs mi pc L st μ := by
  unfold am_put at hs
  split at hs
  case h_3 => cases hs
  · rename_i x q r ci kf
    split at hs
    case isFalse => cases hs
    rename_i hx
    cases hs
    obtain ⟨⟨hf1, hf2⟩, ⟨hf3, hf4⟩, hf5, hf6⟩ := hf _ _ _ rfl
    intro H locs ls cells slots hS
    obtain ⟨hq1, hq2⟩ := sm_lt hS hx
    show W p l e R s m args below meth c H locs cells slots Q (F0 m pc ls (.int x :: .ref ((sm_ad base b aK) q) :: _))
    rw [hq2]
    have hI := hf5.mp rfl
    obtain ⟨g1, g2, g3, g4, g5, g6⟩ := nmT_at hf1 hf2
    refine va_put C.1 C.2.1 (T := nmT ci) C.2.2.2.2.2.1 hf4 (nmTy ci) (fun j hj => (nmT_at hf1 hj).1) (fun a ha b hb hn => (nmT_at hf1 ha).2.2.2.2.2 b hb hn) C.2.2.2.2.1 C.2.2.2.2.2.2.2.2.1.1 hS.1 sm_D hS.2.1 q (sm_ob hx) (nmCl_at ci hf1) kf hf2 (C.2.2.2.2.2.1 _ hf3) (fun _ h => h) (g4.mp hI) (ty := .int) (v := .int x) (by rw [g1, g3 hI]) rfl rfl (by simp; exact hf2) hd (fun H1 locs1 hP1 _ hS1 => ?_)
    rw [sm_setI (N := am_up μ.2.2.1 q kf x) hx (fun k hk => am_up_ne hk) (by
      simp only [sm_ce, am_up_eq]
      congr 2
      apply List.ext_getElem?
      intro j
      rw [List.getElem?_set]
      by_cases hj : j < am_fn ci
      · by_cases e : kf = j
        · subst e
          simp [hj, hI, upd]
        · have e' : ¬ j = kf := fun z => e z.symm
          simp [hj, e, e', upd]
      · have e : ¬ kf = j := fun z => hj (z ▸ hf2)
        simp [hj, e])] at hP1
    exact k H1 locs1 ls cells slots (hS.wr rfl rfl (fun j _ => congrFun (am_up_ne (by omega)) j) hP1 hS1)
  · rename_i v q r ci kf
    split at hs
    case isFalse => cases hs
    rename_i hx
    cases hs
    obtain ⟨⟨hf1, hf2⟩, ⟨hf3, hf4⟩, hf5, hf6⟩ := hf _ _ _ rfl
    intro H locs ls cells slots hS
    obtain ⟨hq1, hq2⟩ := sm_lt hS hx
    have hI : ¬ (nmT ci kf).2.2.1 = "I" := fun z => absurd (hf5.mpr z) (by decide)
    obtain ⟨g1, g2, g3, g4, g5, g6⟩ := nmT_at hf1 hf2
    show W p l e R s m args below meth c H locs cells slots Q (F0 m pc ls (.ref ((sm_ad base b aK) v) :: .ref ((sm_ad base b aK) q) :: _))
    rw [hq2]
    have hfin : (nmT ci kf).2.2.2 = true := by
      cases hb : (nmT ci kf).2.2.2 with
      | true => rfl
      | false => exact absurd (g4.mpr hb) hI
    obtain ⟨n1, n2⟩ := sm_nref (a := (sm_ad base b aK) v) (g5 hI)
    refine va_putF C.1 C.2.1 (T := nmT ci) C.2.2.2.2.2.1 hf4 (nmTy ci) (fun j hj => (nmT_at hf1 hj).1) (fun a ha b hb hn => (nmT_at hf1 ha).2.2.2.2.2 b hb hn) C.2.2.2.2.1 C.2.2.2.2.2.2.2.2.1.1 hS.1 sm_D hS.2.1 q (sm_ob hx) (nmCl_at ci hf1) kf hf2 (C.2.2.2.2.2.1 _ hf3) (fun _ h => h) hfin (C.2.2.2.2.2.2.2.1 (hf6 hfin).1) (hf6 hfin).2 (ty := nmTy ci kf) (v := .ref ((sm_ad base b aK) v)) g1 n1 n2 (by simp; exact hf2) hd (fun H1 locs1 hP1 _ hS1 => ?_)
    rw [sm_setF (N := am_up μ.2.2.2.2 q kf (some v)) hx (fun k hk => am_up_ne hk) (by
      simp only [sm_ce, am_up_eqF]
      congr 2
      apply List.ext_getElem?
      intro j
      rw [List.getElem?_set]
      by_cases hj : j < am_fn ci
      · by_cases e : kf = j
        · subst e
          simp [hj, hI, va_up, va_rf]
        · have e' : ¬ j = kf := fun z => e z.symm
          simp [hj, e, e', va_up]
      · have e : ¬ kf = j := fun z => hj (z ▸ hf2)
        simp [hj, e])] at hP1
    exact k H1 locs1 ls cells slots (hS.wr rfl rfl (fun j _ => rfl) hP1 hS1)
end SM
