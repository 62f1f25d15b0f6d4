/-! THE TABLES ARE AS THEY SAY -/
theorem tabFl : ∀ ci, ci < 10 → ∀ w ∈ u_ws (nmC ci) (nmT ci) (am_fn ci), w ∈ KW := by
  have key : ∀ (n : Nat) (f : Nat → Cond) (q : Nat → Nat), (List.range n).all (fun k => ck_w (q k) (f k)) = true → ∀ w ∈ (List.range n).map f, w ∈ KW := by
    intro n f q h w hw
    obtain ⟨k, hk, rfl⟩ := List.mem_map.mp hw
    exact ck_w_in (List.all_eq_true.mp h k hk)
  intro ci h
  match ci, h with
  | 0, _ => exact key _ _ _ lkFl_0
  | 1, _ => exact key _ _ _ lkFl_1
  | 2, _ => exact key _ _ _ lkFl_2
  | 3, _ => exact key _ _ _ lkFl_3
  | 4, _ => exact key _ _ _ lkFl_4
  | 5, _ => exact key _ _ _ lkFl_5
  | 6, _ => exact key _ _ _ lkFl_6
  | 7, _ => exact key _ _ _ lkFl_7
  | 8, _ => exact key _ _ _ lkFl_8
  | 9, _ => exact key _ _ _ lkFl_9
  | ci + 10, h => exact absurd h (by omega)
theorem tabF : tb_F := by
  intro oc idx ci k h
  obtain ⟨⟨a, b2, d, e, w⟩, h1, h2⟩ := List.any_eq_true.mp h
  simp only [Bool.and_eq_true, beq_iff_eq] at h2
  obtain ⟨rfl, rfl, rfl, rfl⟩ := h2
  have h3 := List.all_eq_true.mp lkF_ok _ h1
  simp only [Bool.and_eq_true, decide_eq_true_eq] at h3
  obtain ⟨g1, g2, g3⟩ := h3
  exact ⟨⟨g2, g3⟩, ck_w_in g1, tabFl _ g2⟩
theorem tabO : tb_O := by
  intro ci h
  have h1 := List.all_eq_true.mp lkO_ok ci (List.mem_range.mpr h)
  simp only [Bool.and_eq_true] at h1
  exact ⟨ck_w_in h1.1, ck_w_in h1.2, tabFl ci h⟩
theorem tabL {lt : List (Nat × Nat × Nat × Nat)} {f : Nat → Nat → Nat → Cond} (h : lt.all (fun r => ck_w r.2.2.2 (f r.1 r.2.1 r.2.2.1)) = true) : tb_L lt f := by
  intro oc idx x hx
  obtain ⟨w, hw⟩ := ck_lk_of hx
  exact ck_w_in (List.all_eq_true.mp h _ hw)
theorem tabM : tb_M := by
  intro oc idx y h
  obtain ⟨w, hw⟩ := ck_lk_of h
  have h1 := List.all_eq_true.mp lkM_ok _ hw
  simp only [Bool.and_eq_true, decide_eq_true_eq] at h1
  exact ⟨ck_w_in h1.1, h1.2⟩
theorem tabN : tb_N := by
  intro oc idx y h
  obtain ⟨w, hw⟩ := ck_lk_of h
  have h1 := List.all_eq_true.mp lkN_ok _ hw
  simp only [Bool.and_eq_true, decide_eq_true_eq] at h1
  exact h1.2
theorem tabI {lt : List (Nat × Nat × Nat)} {y : MethodName} (h : lt.all (fun r => ck_w r.2.2 (.methodLink (nmC r.1) r.2.1 y)) = true) : tb_I lt y := by
  intro oc idx hx
  obtain ⟨⟨a, b2, w⟩, h1, h2⟩ := List.any_eq_true.mp hx
  simp only [Bool.and_eq_true, beq_iff_eq] at h2
  obtain ⟨rfl, rfl⟩ := h2
  exact ck_w_in (List.all_eq_true.mp h _ h1)
theorem tabY : tb_Y := by
  intro y h
  obtain ⟨r, hr⟩ := lkY_ok y h
  have hB : Cond.code (mY y) (mB y) (am_nL y) (mR y) ∈ KW := List.mem_filter.mpr ⟨lkB_ok y h, rfl⟩
  unfold ck_y at hr
  simp only [Bool.and_eq_true, decide_eq_true_eq] at hr
  obtain ⟨a1, a2, a3, a4, a5, a6⟩ := hr
  refine ⟨⟨hB, ck_w_in a1, a4, a5.1, a5.2, a2, a3⟩, fun hk => ?_, fun hk => ?_, fun hk => ?_⟩
  · rw [hk] at a6
    simp only [Bool.and_eq_true] at a6
    exact ⟨ck_w_in a6.1, ck_w_in a6.2⟩
  · rw [hk] at a6
    exact ck_w_in a6
  · rw [hk] at a6
    simp only [Bool.and_eq_true, decide_eq_true_eq] at a6
    exact ⟨ck_w_in a6.1, a6.2⟩
theorem tabZ : tb_Z := by
  obtain ⟨h1, h2, h3, h4, h5, h6, h7, h8, h9⟩ := lkZ_ok
  exact ⟨⟨ck_w_in h1, ck_w_in h2⟩, ⟨ck_w_in h3, ck_w_in h4, ck_w_in h5⟩, ck_w_in h6, ck_w_in h7, ck_w_in h8, ck_w_in h9⟩
theorem tabS : tb_S := by
  obtain ⟨h1, h2, h3, h4, h5⟩ := lkT_ok
  exact ⟨ck_w_in h1, ⟨ck_w_in h2, ck_w_in h3, List.mem_filter.mpr ⟨List.mem_of_getElem? lkT_1, rfl⟩⟩, ck_w_in h4, ck_w_in h5, List.mem_filter.mpr ⟨List.mem_of_getElem? lkT_2, rfl⟩⟩
theorem tabP : tb_P := by
  intro mi pc ins len info h
  unfold prog at h
  split at h
  · rename_i l hl
    have h1 := ckP_all mi l hl
    obtain ⟨r, hr, hr2⟩ := Option.map_eq_some_iff.mp h
    have h2 := List.all_eq_true.mp h1 r (List.mem_of_find?_eq_some hr)
    have h3 : r.1 = pc := by simpa using List.find?_some hr
    obtain ⟨a, b2⟩ := r
    dsimp only at h3 hr2
    subst h3
    subst hr2
    exact h2
  · cases h
theorem sm_tab_ok : sm_tab := ⟨tabF, tabO, tabL lkC_ok, tabL lkK_ok, tabL lkD_ok, tabM, tabN, tabI lkI_ok, tabI lkA_ok, tabI lkL_ok, tabI lkH_ok, tabY, tabZ, tabS, tabP⟩
