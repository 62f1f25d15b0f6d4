/-! THE MACHINE FOLLOWS THE ABSTRACT ONE: the cell at place k stands at the address base + k -/
def sm_ad (base b : Nat) (aK : Nat → Nat) (k : Nat) : Nat := if k < 1000000 then base + k else if k = 1000000 then b else aK (k - 1000001)
def sm_cv (ad : Nat → Nat) (v : Value) : Value := match v with
  | .ref k => .ref (ad k)
  | w => w
def sm_tys (ca : Nat → Nat) : List (ClassId × FieldType) := [(ca 0, .int), (ca 1, .char), (ca 2, .boolean), (ca 3, .double), (ca 4, .object "ReleaseDesk$Rule")]
def sm_ce (ad ca : Nat → Nat) (sh : Option (Nat ⊕ (Nat × Nat))) (mk : Nat → Int32) (dk : Nat → UInt64) (fk : Nat → Option Nat) : va_E := match sh with
  | some (.inl ci) => .inr (ci, (List.range (am_fn ci)).map (fun j => if (nmT ci j).2.2.1 = "I" then .int (mk j) else va_rf ((fk j).map ad)))
  | some (.inr (t, n)) => .inl (ca t, n, if t = 3 then .inr (.inr (.inr (.inl dk))) else if t = 4 then .inr (.inr (.inr (.inr (fun i => (fk i).map ad)))) else .inl mk)
  | none => .inl (0, 0, .inl (fun _ => 0))
def sm_cell (ad ca : Nat → Nat) (μ : amM) (k : Nat) : va_E := sm_ce ad ca μ.1[k]? (μ.2.2.1 k) (μ.2.2.2.1 k) (μ.2.2.2.2 k)
def sm_ws (ad ca : Nat → Nat) (base : Nat) (μ : amM) : va_W := (List.range μ.1.length).map (fun k => (base + k, sm_cell ad ca μ k))
theorem sm_ws_get {ad ca : Nat → Nat} {base q : Nat} {μ : amM} {sh : Nat ⊕ (Nat × Nat)} (h : μ.1[q]? = some sh) : (sm_ws ad ca base μ)[q]? = some (base + q, sm_ce ad ca (some sh) (μ.2.2.1 q) (μ.2.2.2.1 q) (μ.2.2.2.2 q)) := by
  have hq : q < μ.1.length := (List.getElem?_eq_some_iff.mp h).1
  simp only [sm_ws, List.getElem?_map, List.getElem?_range hq, Option.map_some, sm_cell, h]
theorem sm_ws_some {ad ca : Nat → Nat} {base i : Nat} {μ : amM} {q : Nat × va_E} (h : (sm_ws ad ca base μ)[i]? = some q) : i < μ.1.length ∧ q = (base + i, sm_cell ad ca μ i) := by
  have hl : i < (sm_ws ad ca base μ).length := (List.getElem?_eq_some_iff.mp h).1
  have hi : i < μ.1.length := by simpa [sm_ws] using hl
  refine ⟨hi, ?_⟩
  simp only [sm_ws, List.getElem?_map, List.getElem?_range hi, Option.map_some] at h
  exact (Option.some.inj h).symm
theorem sm_D {ad ca : Nat → Nat} {base : Nat} {μ : amM} : va_D (fun q => base ≤ q) (sm_ws ad ca base μ) := by
  refine ⟨fun i j p q hi hj e => ?_, fun k q hk => ?_⟩
  · obtain ⟨-, rfl⟩ := sm_ws_some hi
    obtain ⟨-, rfl⟩ := sm_ws_some hj
    have : base + i = base + j := e
    omega
  · obtain ⟨-, rfl⟩ := sm_ws_some hk
    exact Nat.le_add_right _ _
theorem sm_ws_set {ad ca : Nat → Nat} {base q : Nat} {μ μ' : amM} {x : va_E} (h1 : μ'.1 = μ.1) (hx : sm_cell ad ca μ' q = x) (hk : ∀ k, k ≠ q → sm_cell ad ca μ' k = sm_cell ad ca μ k) : (sm_ws ad ca base μ).set q (base + q, x) = sm_ws ad ca base μ' := by
  subst hx
  apply List.ext_getElem?
  intro k
  rw [List.getElem?_set]
  simp only [sm_ws, List.getElem?_map, List.length_map, List.length_range, h1]
  by_cases e : q = k
  · subst e
    by_cases hl : q < μ.1.length
    · simp [hl]
    · simp [hl]
  · rw [if_neg e]
    by_cases hl : k < μ.1.length
    · simp [hl, hk k (fun z => e z.symm)]
    · simp [hl]
theorem am_up_ne {α : Type} {M : Nat → Nat → α} {q k a : Nat} {x : α} (h : a ≠ q) : am_up M q k x a = M a := by
  funext j
  simp [am_up, h]
theorem am_up_eq {M : Nat → Nat → Int32} {q k : Nat} {x : Int32} : am_up M q k x q = upd (M q) k x := by
  funext j
  simp [am_up, upd]
theorem am_up_eqD {M : Nat → Nat → UInt64} {q k : Nat} {x : UInt64} : am_up M q k x q = vf_upd (M q) k x := by
  funext j
  simp [am_up, vf_upd]
theorem am_up_eqF {M : Nat → Nat → Option Nat} {q k : Nat} {x : Option Nat} : am_up M q k x q = va_up (M q) k x := by
  funext j
  simp [am_up, va_up]
theorem am_row_ne {α : Type} {M : Nat → Nat → α} {q a : Nat} {f : Nat → α} (h : a ≠ q) : am_row M q f a = M a := by simp [am_row, h]
theorem am_row_eq {α : Type} {M : Nat → Nat → α} {q : Nat} {f : Nat → α} : am_row M q f q = f := by simp [am_row]
theorem sm_cvr (ad : Nat → Nat) (r : Option Nat) : sm_cv ad (va_rf r) = va_rf (r.map ad) := by cases r <;> rfl
theorem sm_cvc (ad : Nat → Nat) (v : Value) : (sm_cv ad v).category = v.category := by cases v <;> rfl
theorem sm_cat (ad : Nat → Nat) (st : List Value) : ((st.map (sm_cv ad)).map fun v => v.category).sum = am_cat st := by
  unfold am_cat
  rw [List.map_map]
  congr 1
  exact List.map_congr_left fun v _ => sm_cvc ad v
/-- the locals -/
def sm_L (ad : Nat → Nat) (ls : Array Slot) (nL : Nat) (L : List Value) : Prop := ls.size = nL ∧ L.length = nL ∧ lv_wf ls ∧ ∀ (i : Nat) (v : Value), L[i]? = some v → v ≠ Value.long 0 → ls[i]? = some (Slot.val (sm_cv ad v))
def sm_lv (ad : Nat → Nat) (L : List Value) : List (Nat × Value) := (List.range L.length).filterMap fun i => match L[i]? with
  | some v => if v = Value.long 0 then none else some (i, sm_cv ad v)
  | none => none
theorem sm_lv_mem {ad : Nat → Nat} {L : List Value} {i : Nat} {w : Value} : (i, w) ∈ sm_lv ad L ↔ ∃ v, L[i]? = some v ∧ v ≠ Value.long 0 ∧ w = sm_cv ad v := by
  unfold sm_lv
  rw [List.mem_filterMap]
  constructor
  · rintro ⟨j, hj, h⟩
    split at h
    · rename_i v hv
      split at h
      · cases h
      · rename_i hn
        cases h
        exact ⟨v, hv, hn, rfl⟩
    · cases h
  · rintro ⟨v, hv, hn, rfl⟩
    refine ⟨i, List.mem_range.mpr (List.getElem?_eq_some_iff.mp hv).1, ?_⟩
    rw [hv]
    simp [hn]
theorem sm_L.lv {ad : Nat → Nat} {ls : Array Slot} {nL : Nat} {L : List Value} (h : sm_L ad ls nL L) : lv_has ls nL (sm_lv ad L) := by
  refine ⟨h.1, h.2.2.1, fun q hq => ?_⟩
  obtain ⟨i, w⟩ := q
  obtain ⟨v, h1, h2, rfl⟩ := sm_lv_mem.mp hq
  exact h.2.2.2 i v h1 h2
theorem am_st_len : ∀ (i : Nat) (v : Value) (L : List Value), (am_st i v L).length = L.length := by
  intro i
  induction i using Nat.strongRecOn with
  | ind i ih =>
    intro v L
    match i, L with
    | 0, [] => rfl
    | 1, [] => rfl
    | i + 2, [] => rfl
    | 0, _ :: l => rfl
    | 1, a :: l => simp [am_st, ih 0 (by omega)]
    | i + 2, a :: l => simp [am_st, ih (i + 1) (by omega)]
theorem am_st_get : ∀ (i : Nat) (v : Value) (L : List Value) (j : Nat), (am_st i v L)[j]? = if j = i then (if i < L.length then some v else none) else if j + 1 = i then L[j]?.map am_nd else L[j]? := by
  intro i
  induction i using Nat.strongRecOn with
  | ind i ih =>
    intro v L j
    match i, L, j with
    | 0, [], j => simp [am_st]
    | 1, [], j => simp [am_st]
    | i + 2, [], j => simp [am_st]
    | 0, _ :: l, 0 => simp [am_st]
    | 0, _ :: l, j + 1 => simp [am_st]
    | 1, a :: l, 0 => simp [am_st]
    | 1, a :: l, j + 1 => simp [am_st, ih 0 (by omega)]
    | i + 2, a :: l, 0 => simp [am_st]
    | i + 2, a :: l, j + 1 =>
      have e : (i + 2 < l.length + 1) = (i + 1 < l.length) := propext ⟨by omega, by omega⟩
      simp [am_st, ih (i + 1) (by omega), e]
theorem am_nd_ne {w : Value} (h : am_nd w ≠ Value.long 0) : am_nd w = w ∧ w.category = 1 := by
  cases w <;> first | exact ⟨rfl, rfl⟩ | exact absurd rfl h
theorem sm_L.st {ad : Nat → Nat} {ls ls' : Array Slot} {nL i : Nat} {L : List Value} {x : Value} (h : sm_L ad ls nL L) (hi : i < nL) (h' : lv_has ls' nL ((i, sm_cv ad x) :: (sm_lv ad L).filter (fun q => !(q.1 == i) && !(q.1 + 1 == i && q.2.category == 2)))) : sm_L ad ls' nL (am_st i x L) := by
  refine ⟨h'.1, (am_st_len _ _ _).trans h.2.1, h'.2.1, fun j v hj hv => ?_⟩
  rw [am_st_get] at hj
  by_cases e : j = i
  · rw [if_pos e, if_pos (by rw [h.2.1]; exact hi)] at hj
    cases hj
    subst e
    exact h'.2.2 (j, sm_cv ad x) (List.mem_cons_self)
  · rw [if_neg e] at hj
    have key : ∃ w, L[j]? = some w ∧ v = w ∧ (j + 1 = i → w.category = 1) := by
      by_cases e2 : j + 1 = i
      · rw [if_pos e2] at hj
        cases hL : L[j]? with
        | none => rw [hL] at hj; cases hj
        | some w =>
          rw [hL] at hj
          have hw : am_nd w = v := Option.some.inj hj
          have := am_nd_ne (w := w) (by rw [hw]; exact hv)
          exact ⟨w, rfl, by rw [← hw]; exact this.1, fun _ => this.2⟩
      · rw [if_neg e2] at hj
        exact ⟨v, hj, rfl, fun z => absurd z e2⟩
    obtain ⟨w, h1, rfl, h3⟩ := key
    refine h'.2.2 (j, sm_cv ad v) (List.mem_cons_of_mem _ (List.mem_filter.mpr ⟨sm_lv_mem.mpr ⟨v, h1, hv, rfl⟩, ?_⟩))
    have n1 : (j == i) = false := by simp [e]
    by_cases e2 : j + 1 = i
    · have hc := h3 e2
      simp [n1, sm_cvc, hc]
    · simp [n1, e2]
theorem am_st2_len : ∀ (i : Nat) (v : Value) (L : List Value), (am_st2 i v L).length = L.length := by
  intro i
  induction i using Nat.strongRecOn with
  | ind i ih =>
    intro v L
    match i, L with
    | 0, [] => rfl
    | 1, [] => rfl
    | i + 2, [] => rfl
    | 0, _ :: l => simp [am_st2, am_st_len]
    | 1, a :: l => simp [am_st2, ih 0 (by omega)]
    | i + 2, a :: l => simp [am_st2, ih (i + 1) (by omega)]
theorem am_st2_get : ∀ (i : Nat) (v : Value) (L : List Value) (j : Nat), i + 1 < L.length → (am_st2 i v L)[j]? = if j = i then some v else if j = i + 1 then some (.long 0) else if j + 1 = i then L[j]?.map am_nd else L[j]? := by
  intro i
  induction i using Nat.strongRecOn with
  | ind i ih =>
    intro v L j hL
    match i, L, j, hL with
    | 0, [_], j, hL => simp at hL
    | 0, _ :: _ :: l, 0, _ => simp [am_st2]
    | 0, _ :: _ :: l, 1, _ => simp [am_st2, am_st]
    | 0, _ :: _ :: l, j + 2, _ => simp [am_st2, am_st]
    | 1, a :: l, 0, _ => simp [am_st2]
    | 1, a :: l, j + 1, hL => simp [am_st2, ih 0 (by omega) v l j (by simp only [List.length_cons] at hL; omega)]
    | i + 2, a :: l, 0, _ => simp [am_st2]
    | i + 2, a :: l, j + 1, hL => simp [am_st2, ih (i + 1) (by omega) v l j (by simp only [List.length_cons] at hL; omega)]
theorem sm_L.st2 {ad : Nat → Nat} {ls ls' : Array Slot} {nL i : Nat} {L : List Value} {x : Value} (h : sm_L ad ls nL L) (hi : i + 1 < nL) (h' : lv_has ls' nL ((i, sm_cv ad x) :: (sm_lv ad L).filter (fun q => !(q.1 == i) && (!(q.1 == i + 1) && !(q.1 + 1 == i && q.2.category == 2))))) : sm_L ad ls' nL (am_st2 i x L) := by
  refine ⟨h'.1, (am_st2_len _ _ _).trans h.2.1, h'.2.1, fun j v hj hv => ?_⟩
  rw [am_st2_get _ _ _ _ (by rw [h.2.1]; exact hi)] at hj
  by_cases e : j = i
  · rw [if_pos e] at hj
    cases hj
    subst e
    exact h'.2.2 (j, sm_cv ad x) (List.mem_cons_self)
  · rw [if_neg e] at hj
    by_cases e1 : j = i + 1
    · rw [if_pos e1] at hj
      cases hj
      exact absurd rfl hv
    · rw [if_neg e1] at hj
      have key : ∃ w, L[j]? = some w ∧ v = w ∧ (j + 1 = i → w.category = 1) := by
        by_cases e2 : j + 1 = i
        · rw [if_pos e2] at hj
          cases hL : L[j]? with
          | none => rw [hL] at hj; cases hj
          | some w =>
            rw [hL] at hj
            have hw : am_nd w = v := Option.some.inj hj
            have := am_nd_ne (w := w) (by rw [hw]; exact hv)
            exact ⟨w, rfl, by rw [← hw]; exact this.1, fun _ => this.2⟩
        · rw [if_neg e2] at hj
          exact ⟨v, hj, rfl, fun z => absurd z e2⟩
      obtain ⟨w, h1, rfl, h3⟩ := key
      refine h'.2.2 (j, sm_cv ad v) (List.mem_cons_of_mem _ (List.mem_filter.mpr ⟨sm_lv_mem.mpr ⟨v, h1, hv, rfl⟩, ?_⟩))
      have n1 : (j == i) = false := by simp [e]
      have n2 : (j == i + 1) = false := by simp [e1]
      by_cases e2 : j + 1 = i
      · have hc := h3 e2
        simp [n1, n2, sm_cvc, hc]
      · simp [n1, n2, e2]
theorem sm_in {i : Int32} {n : Nat} (h0 : 0 ≤ i.toInt) (h : i.toInt < (n : Int)) : vp_in i n := vp_in_iff.mpr ⟨h0, h⟩
/-- what holds of a state that a method starts in: the tables, the script, the texts -/
def sm_G (D : va_G) (ca : Nat → Nat) (base b sl : Nat) (xs : Nat → Int32) (SF : State → Prop) (U : State) : Prop := va_K D nmCl (sm_tys ca) U ∧ (∀ r ∈ lkN, va_Nw (.methodLinkNest (nmC r.1) r.2.1 (mY r.2.2.1) "ReleaseDesk") U) ∧ va_AO "ReleaseDesk$Rule" U ∧ va_X b sl xs U U.heap ∧ b < base ∧ SF U
def sm_C (p : Program) (R : Room) (s : State) (m : MethodId) (args : Array Value) (meth : Method) (c : Code) (D : va_G) (ca : Nat → Nat) (base b : Nat) (aK : Nat → Nat) (sl : Nat) (xs : Nat → Int32) (SF : State → Prop) (mi : Nat) : Prop := p.tables.exec = Jvm.exec ∧ c.code = mB mi ∧ c.maxLocals = am_nL mi ∧ meth.sig.returnType = mR mi ∧ s.vm.findClass (nmC (mO mi)) = some m.cls ∧ (∀ w ∈ KW, w.before args s = true) ∧ meth.locks = false ∧ ((mY mi).name = "<init>" → meth.name = "<init>") ∧ sm_G D ca base b sl xs SF s ∧ base ≤ s.heap.size ∧ R.frames = (mRm mi).frames ∧ R.locals = (mRm mi).locals
def sm_S (R : Room) (s : State) (D : va_G) (ca : Nat → Nat) (base b : Nat) (aK : Nat → Nat) (sl : Nat) (xs : Nat → Int32) (mi : Nat) (μ : amM) (H : Heap) (locs : List Loc) (L : List Value) (ls : Array Slot) (cells slots : Nat) : Prop := va_P D nmCl (sm_ws (sm_ad base b aK) ca base μ) H ∧ va_S (fun q => base ≤ q) s.heap H locs ∧ s.heap.size + cells = base + μ.1.length ∧ sm_L (sm_ad base b aK) ls (am_nL mi) L ∧ cells + μ.2.1.1 ≤ R.cells ∧ slots + μ.2.1.2.1 ≤ R.slots ∧ μ.2.1.2.2 = sl ∧ (∀ j, j < sl → μ.2.2.1 1000000 j = xs j) ∧ μ.1.length ≤ 1000000
def sm_T (p : Program) (l : Launch) (e : Env) (R : Room) (s : State) (m : MethodId) (args : Array Value) (below : List Frame) (meth : Method) (c : Code) (Q : State → Prop) (D : va_G) (ca : Nat → Nat) (base b : Nat) (aK : Nat → Nat) (sl : Nat) (xs : Nat → Int32) (mi : Nat) (pc : Nat) (L st : List Value) (μ : amM) : Prop := ∀ (H : Heap) (locs : List Loc) (ls : Array Slot) (cells slots : Nat), sm_S R s D ca base b aK sl xs mi μ H locs L ls cells slots → W p l e R s m args below meth c H locs cells slots Q (F0 m pc ls (st.map (sm_cv (sm_ad base b aK))))
section SM
variable {p : Program} {l : Launch} {e : Env} {R : Room} {s : State} {m : MethodId} {args : Array Value} {below : List Frame} {meth : Method} {c : Code} {Q : State → Prop}
variable {D : va_G} {ca : Nat → Nat} {base b : Nat} {aK : Nat → Nat} {sl : Nat} {xs : Nat → Int32} {SF : State → Prop} {mi pc pc' : Nat} {L st L' st' : List Value} {μ μ' : amM}
theorem sm_cv_h {base b k : Nat} {aK : Nat → Nat} (h : k < 1000000) : sm_ad base b aK k = base + k := by simp [sm_ad, h]
theorem sm_SL {H : Heap} {locs : List Loc} {ls : Array Slot} {cells slots : Nat} (h : sm_S R s D ca base b aK sl xs mi μ H locs L ls cells slots) (ls' : Array Slot) (h' : sm_L (sm_ad base b aK) ls' (am_nL mi) L') : sm_S R s D ca base b aK sl xs mi μ H locs L' ls' cells slots := ⟨h.1, h.2.1, h.2.2.1, h', h.2.2.2.2⟩

theorem sm_o_iconst {n : Int} (hd : decode (mB mi) pc = .ok (.iconst n, 1)) (C : sm_C p R s m args meth c D ca base b aK sl xs SF mi)  (hs : am_nx (pc + 1) L (.int (Int32.ofInt n) :: st) μ = some (.inl (pc', L', st', μ'))) (k : sm_T p l e R s m args below meth c Q D ca base b aK sl xs mi pc' L' st' μ') : sm_T p l e R s m args below meth c Q D ca base b aK sl xs mi pc L st μ := by
  cases hs
  intro H locs ls cells slots hS
  exact lv_iconst C.1 C.2.1 hd rfl (k H locs ls cells slots hS)
theorem sm_o_bipush {n : Int} (hd : decode (mB mi) pc = .ok (.bipush n, 2)) (C : sm_C p R s m args meth c D ca base b aK sl xs SF mi)  (hs : am_nx (pc + 2) L (.int (Int8.ofInt n).toInt32 :: st) μ = some (.inl (pc', L', st', μ'))) (k : sm_T p l e R s m args below meth c Q D ca base b aK sl xs mi pc' L' st' μ') : sm_T p l e R s m args below meth c Q D ca base b aK sl xs mi pc L st μ := by
  cases hs
  intro H locs ls cells slots hS
  exact lv_bipush C.1 C.2.1 hd rfl (k H locs ls cells slots hS)
theorem sm_o_sipush {n : Int} (hd : decode (mB mi) pc = .ok (.sipush n, 3)) (C : sm_C p R s m args meth c D ca base b aK sl xs SF mi)  (hs : am_nx (pc + 3) L (.int (Int16.ofInt n).toInt32 :: st) μ = some (.inl (pc', L', st', μ'))) (k : sm_T p l e R s m args below meth c Q D ca base b aK sl xs mi pc' L' st' μ') : sm_T p l e R s m args below meth c Q D ca base b aK sl xs mi pc L st μ := by
  cases hs
  intro H locs ls cells slots hS
  exact lv_sipush C.1 C.2.1 hd rfl (k H locs ls cells slots hS)
theorem sm_o_iload_n {i : Fin 4} (hd : decode (mB mi) pc = .ok (.iload_n i, 1)) (C : sm_C p R s m args meth c D ca base b aK sl xs SF mi)  (hs : am_ild (pc + 1) L st μ L[i.val]? = some (.inl (pc', L', st', μ'))) (k : sm_T p l e R s m args below meth c Q D ca base b aK sl xs mi pc' L' st' μ') : sm_T p l e R s m args below meth c Q D ca base b aK sl xs mi pc L st μ := by
  unfold am_ild at hs
  split at hs
  · rename_i x hx
    cases hs
    intro H locs ls cells slots hS
    exact lv_iload_n C.1 C.2.1 hd rfl (hS.2.2.2.1.2.2.2 _ _ hx (by simp)) (k H locs ls cells slots hS)
  · cases hs
theorem sm_o_iload {i : Nat} (hd : decode (mB mi) pc = .ok (.iload i, 2)) (C : sm_C p R s m args meth c D ca base b aK sl xs SF mi)  (hs : am_ild (pc + 2) L st μ L[i]? = some (.inl (pc', L', st', μ'))) (k : sm_T p l e R s m args below meth c Q D ca base b aK sl xs mi pc' L' st' μ') : sm_T p l e R s m args below meth c Q D ca base b aK sl xs mi pc L st μ := by
  unfold am_ild at hs
  split at hs
  · rename_i x hx
    cases hs
    intro H locs ls cells slots hS
    exact lv_iload C.1 C.2.1 hd (hS.2.2.2.1.2.2.2 _ _ hx (by simp)) (k H locs ls cells slots hS)
  · cases hs
theorem sm_o_dload_n {i : Fin 4} (hd : decode (mB mi) pc = .ok (.dload_n i, 1)) (C : sm_C p R s m args meth c D ca base b aK sl xs SF mi)  (hs : am_dld (pc + 1) L st μ L[i.val]? = some (.inl (pc', L', st', μ'))) (k : sm_T p l e R s m args below meth c Q D ca base b aK sl xs mi pc' L' st' μ') : sm_T p l e R s m args below meth c Q D ca base b aK sl xs mi pc L st μ := by
  unfold am_dld at hs
  split at hs
  · rename_i x hx
    cases hs
    intro H locs ls cells slots hS
    exact lv_dload_n C.1 C.2.1 hd rfl (hS.2.2.2.1.2.2.2 _ _ hx (by simp)) (k H locs ls cells slots hS)
  · cases hs
theorem sm_o_dload {i : Nat} (hd : decode (mB mi) pc = .ok (.dload i, 2)) (C : sm_C p R s m args meth c D ca base b aK sl xs SF mi)  (hs : am_dld (pc + 2) L st μ L[i]? = some (.inl (pc', L', st', μ'))) (k : sm_T p l e R s m args below meth c Q D ca base b aK sl xs mi pc' L' st' μ') : sm_T p l e R s m args below meth c Q D ca base b aK sl xs mi pc L st μ := by
  unfold am_dld at hs
  split at hs
  · rename_i x hx
    cases hs
    intro H locs ls cells slots hS
    exact lv_dload C.1 C.2.1 hd (hS.2.2.2.1.2.2.2 _ _ hx (by simp)) (k H locs ls cells slots hS)
  · cases hs
theorem sm_o_aload_n {i : Fin 4} (hd : decode (mB mi) pc = .ok (.aload_n i, 1)) (C : sm_C p R s m args meth c D ca base b aK sl xs SF mi)  (hs : am_ald (pc + 1) L st μ L[i.val]? = some (.inl (pc', L', st', μ'))) (k : sm_T p l e R s m args below meth c Q D ca base b aK sl xs mi pc' L' st' μ') : sm_T p l e R s m args below meth c Q D ca base b aK sl xs mi pc L st μ := by
  unfold am_ald at hs
  split at hs
  · rename_i x hx
    cases hs
    intro H locs ls cells slots hS
    exact lv_aload_n C.1 C.2.1 hd rfl (hS.2.2.2.1.2.2.2 _ _ hx (by simp)) (k H locs ls cells slots hS)
  · cases hs
theorem sm_o_aload {i : Nat} (hd : decode (mB mi) pc = .ok (.aload i, 2)) (C : sm_C p R s m args meth c D ca base b aK sl xs SF mi)  (hs : am_ald (pc + 2) L st μ L[i]? = some (.inl (pc', L', st', μ'))) (k : sm_T p l e R s m args below meth c Q D ca base b aK sl xs mi pc' L' st' μ') : sm_T p l e R s m args below meth c Q D ca base b aK sl xs mi pc L st μ := by
  unfold am_ald at hs
  split at hs
  · rename_i x hx
    cases hs
    intro H locs ls cells slots hS
    exact lv_aload C.1 C.2.1 hd (hS.2.2.2.1.2.2.2 _ _ hx (by simp)) (k H locs ls cells slots hS)
  · cases hs
theorem sm_o_istore_n {i : Fin 4} (hd : decode (mB mi) pc = .ok (.istore_n i, 1)) (C : sm_C p R s m args meth c D ca base b aK sl xs SF mi)  (hs : am_ist (pc + 1) i.val L st μ = some (.inl (pc', L', st', μ'))) (k : sm_T p l e R s m args below meth c Q D ca base b aK sl xs mi pc' L' st' μ') : sm_T p l e R s m args below meth c Q D ca base b aK sl xs mi pc L st μ := by
  unfold am_ist at hs
  split at hs
  · rename_i x r
    split at hs
    · rename_i hi
      cases hs
      intro H locs ls cells slots hS
      have hi' : i.val < am_nL mi := by rw [← hS.2.2.2.1.2.1]; exact hi
      exact lv_istore_n C.1 C.2.1 hd rfl hS.2.2.2.1.lv hi' rfl (fun ls' h' => k H locs ls' cells slots (sm_SL hS ls' (sm_L.st (x := .int x) hS.2.2.2.1 hi' h')))
    · cases hs
  · cases hs
theorem sm_o_istore {i : Nat} (hd : decode (mB mi) pc = .ok (.istore i, 2)) (C : sm_C p R s m args meth c D ca base b aK sl xs SF mi)  (hs : am_ist (pc + 2) i L st μ = some (.inl (pc', L', st', μ'))) (k : sm_T p l e R s m args below meth c Q D ca base b aK sl xs mi pc' L' st' μ') : sm_T p l e R s m args below meth c Q D ca base b aK sl xs mi pc L st μ := by
  unfold am_ist at hs
  split at hs
  · rename_i x r
    split at hs
    · rename_i hi
      cases hs
      intro H locs ls cells slots hS
      have hi' : i < am_nL mi := by rw [← hS.2.2.2.1.2.1]; exact hi
      exact lv_istore C.1 C.2.1 hd hS.2.2.2.1.lv hi' rfl (fun ls' h' => k H locs ls' cells slots (sm_SL hS ls' (sm_L.st (x := .int x) hS.2.2.2.1 hi' h')))
    · cases hs
  · cases hs
theorem sm_o_astore_n {i : Fin 4} (hd : decode (mB mi) pc = .ok (.astore_n i, 1)) (C : sm_C p R s m args meth c D ca base b aK sl xs SF mi)  (hs : am_ast (pc + 1) i.val L st μ = some (.inl (pc', L', st', μ'))) (k : sm_T p l e R s m args below meth c Q D ca base b aK sl xs mi pc' L' st' μ') : sm_T p l e R s m args below meth c Q D ca base b aK sl xs mi pc L st μ := by
  unfold am_ast at hs
  split at hs
  · rename_i x r
    split at hs
    · rename_i hi
      cases hs
      intro H locs ls cells slots hS
      have hi' : i.val < am_nL mi := by rw [← hS.2.2.2.1.2.1]; exact hi
      exact lv_astore_n C.1 C.2.1 hd rfl hS.2.2.2.1.lv hi' rfl (fun ls' h' => k H locs ls' cells slots (sm_SL hS ls' (sm_L.st (x := .ref x) hS.2.2.2.1 hi' h')))
    · cases hs
  · cases hs
theorem sm_o_astore {i : Nat} (hd : decode (mB mi) pc = .ok (.astore i, 2)) (C : sm_C p R s m args meth c D ca base b aK sl xs SF mi)  (hs : am_ast (pc + 2) i L st μ = some (.inl (pc', L', st', μ'))) (k : sm_T p l e R s m args below meth c Q D ca base b aK sl xs mi pc' L' st' μ') : sm_T p l e R s m args below meth c Q D ca base b aK sl xs mi pc L st μ := by
  unfold am_ast at hs
  split at hs
  · rename_i x r
    split at hs
    · rename_i hi
      cases hs
      intro H locs ls cells slots hS
      have hi' : i < am_nL mi := by rw [← hS.2.2.2.1.2.1]; exact hi
      exact lv_astore C.1 C.2.1 hd hS.2.2.2.1.lv hi' rfl (fun ls' h' => k H locs ls' cells slots (sm_SL hS ls' (sm_L.st (x := .ref x) hS.2.2.2.1 hi' h')))
    · cases hs
  · cases hs
theorem sm_o_dstore_n {i : Fin 4} (hd : decode (mB mi) pc = .ok (.dstore_n i, 1)) (C : sm_C p R s m args meth c D ca base b aK sl xs SF mi)  (hs : am_dst (pc + 1) i.val L st μ = some (.inl (pc', L', st', μ'))) (k : sm_T p l e R s m args below meth c Q D ca base b aK sl xs mi pc' L' st' μ') : sm_T p l e R s m args below meth c Q D ca base b aK sl xs mi pc L st μ := by
  unfold am_dst at hs
  split at hs
  · rename_i x r
    split at hs
    · rename_i hi
      cases hs
      intro H locs ls cells slots hS
      have hi' : i.val + 1 < am_nL mi := by rw [← hS.2.2.2.1.2.1]; exact hi
      exact lv_dstore_n C.1 C.2.1 hd rfl hS.2.2.2.1.lv hi' rfl (fun ls' h' => k H locs ls' cells slots (sm_SL hS ls' (sm_L.st2 (x := .double x) hS.2.2.2.1 hi' h')))
    · cases hs
  · cases hs
theorem sm_o_dstore {i : Nat} (hd : decode (mB mi) pc = .ok (.dstore i, 2)) (C : sm_C p R s m args meth c D ca base b aK sl xs SF mi)  (hs : am_dst (pc + 2) i L st μ = some (.inl (pc', L', st', μ'))) (k : sm_T p l e R s m args below meth c Q D ca base b aK sl xs mi pc' L' st' μ') : sm_T p l e R s m args below meth c Q D ca base b aK sl xs mi pc L st μ := by
  unfold am_dst at hs
  split at hs
  · rename_i x r
    split at hs
    · rename_i hi
      cases hs
      intro H locs ls cells slots hS
      have hi' : i + 1 < am_nL mi := by rw [← hS.2.2.2.1.2.1]; exact hi
      exact lv_dstore C.1 C.2.1 hd hS.2.2.2.1.lv hi' rfl (fun ls' h' => k H locs ls' cells slots (sm_SL hS ls' (sm_L.st2 (x := .double x) hS.2.2.2.1 hi' h')))
    · cases hs
  · cases hs
theorem sm_o_iinc {i : Nat} {n : Int} (hd : decode (mB mi) pc = .ok (.iinc i n, 3)) (C : sm_C p R s m args meth c D ca base b aK sl xs SF mi)  (hs : (match L[i]? with
    | some (.int x) => am_nx (pc + 3) (am_st i (.int (x + Int32.ofInt n)) L) st μ
    | _ => none) = some (.inl (pc', L', st', μ'))) (k : sm_T p l e R s m args below meth c Q D ca base b aK sl xs mi pc' L' st' μ') : sm_T p l e R s m args below meth c Q D ca base b aK sl xs mi pc L st μ := by
  split at hs
  · rename_i x hx
    cases hs
    intro H locs ls cells slots hS
    have hi' : i < am_nL mi := by rw [← hS.2.2.2.1.2.1]; exact (List.getElem?_eq_some_iff.mp hx).1
    obtain ⟨kk, hkk⟩ := List.getElem?_of_mem (sm_lv_mem.mpr ⟨_, hx, by simp, rfl⟩ : (i, sm_cv (sm_ad base b aK) (.int x)) ∈ sm_lv (sm_ad base b aK) L)
    exact lv_iinc C.1 C.2.1 hd hS.2.2.2.1.lv hkk rfl hi' rfl (fun ls' h' => k H locs ls' cells slots (sm_SL hS ls' (sm_L.st (x := .int (x + Int32.ofInt n)) hS.2.2.2.1 hi' h')))
  · cases hs
theorem sm_o_iadd (hd : decode (mB mi) pc = .ok (.iadd, 1)) (C : sm_C p R s m args meth c D ca base b aK sl xs SF mi)  (hs : am_op (pc + 1) L st μ (fun x y => x + y) = some (.inl (pc', L', st', μ'))) (k : sm_T p l e R s m args below meth c Q D ca base b aK sl xs mi pc' L' st' μ') : sm_T p l e R s m args below meth c Q D ca base b aK sl xs mi pc L st μ := by
  unfold am_op at hs
  split at hs
  · cases hs
    intro H locs ls cells slots hS
    exact lv_iadd C.1 C.2.1 hd (k H locs ls cells slots hS)
  · cases hs
theorem sm_o_isub (hd : decode (mB mi) pc = .ok (.isub, 1)) (C : sm_C p R s m args meth c D ca base b aK sl xs SF mi)  (hs : am_op (pc + 1) L st μ (fun x y => x - y) = some (.inl (pc', L', st', μ'))) (k : sm_T p l e R s m args below meth c Q D ca base b aK sl xs mi pc' L' st' μ') : sm_T p l e R s m args below meth c Q D ca base b aK sl xs mi pc L st μ := by
  unfold am_op at hs
  split at hs
  · cases hs
    intro H locs ls cells slots hS
    exact lv_isub C.1 C.2.1 hd (k H locs ls cells slots hS)
  · cases hs
theorem sm_o_imul (hd : decode (mB mi) pc = .ok (.imul, 1)) (C : sm_C p R s m args meth c D ca base b aK sl xs SF mi)  (hs : am_op (pc + 1) L st μ (fun x y => x * y) = some (.inl (pc', L', st', μ'))) (k : sm_T p l e R s m args below meth c Q D ca base b aK sl xs mi pc' L' st' μ') : sm_T p l e R s m args below meth c Q D ca base b aK sl xs mi pc L st μ := by
  unfold am_op at hs
  split at hs
  · cases hs
    intro H locs ls cells slots hS
    exact lv_imul C.1 C.2.1 hd (k H locs ls cells slots hS)
  · cases hs
theorem sm_o_ishl (hd : decode (mB mi) pc = .ok (.ishl, 1)) (C : sm_C p R s m args meth c D ca base b aK sl xs SF mi)  (hs : am_op (pc + 1) L st μ (fun x y => x <<< (y &&& 31)) = some (.inl (pc', L', st', μ'))) (k : sm_T p l e R s m args below meth c Q D ca base b aK sl xs mi pc' L' st' μ') : sm_T p l e R s m args below meth c Q D ca base b aK sl xs mi pc L st μ := by
  unfold am_op at hs
  split at hs
  · cases hs
    intro H locs ls cells slots hS
    exact lv_ishl C.1 C.2.1 hd (k H locs ls cells slots hS)
  · cases hs
theorem sm_o_ishr (hd : decode (mB mi) pc = .ok (.ishr, 1)) (C : sm_C p R s m args meth c D ca base b aK sl xs SF mi)  (hs : am_op (pc + 1) L st μ (fun x y => x >>> (y &&& 31)) = some (.inl (pc', L', st', μ'))) (k : sm_T p l e R s m args below meth c Q D ca base b aK sl xs mi pc' L' st' μ') : sm_T p l e R s m args below meth c Q D ca base b aK sl xs mi pc L st μ := by
  unfold am_op at hs
  split at hs
  · cases hs
    intro H locs ls cells slots hS
    exact lv_ishr C.1 C.2.1 hd (k H locs ls cells slots hS)
  · cases hs
theorem sm_o_iand (hd : decode (mB mi) pc = .ok (.iand, 1)) (C : sm_C p R s m args meth c D ca base b aK sl xs SF mi)  (hs : am_op (pc + 1) L st μ (fun x y => x &&& y) = some (.inl (pc', L', st', μ'))) (k : sm_T p l e R s m args below meth c Q D ca base b aK sl xs mi pc' L' st' μ') : sm_T p l e R s m args below meth c Q D ca base b aK sl xs mi pc L st μ := by
  unfold am_op at hs
  split at hs
  · cases hs
    intro H locs ls cells slots hS
    exact lv_iand C.1 C.2.1 hd (k H locs ls cells slots hS)
  · cases hs
theorem sm_o_ior (hd : decode (mB mi) pc = .ok (.ior, 1)) (C : sm_C p R s m args meth c D ca base b aK sl xs SF mi)  (hs : am_op (pc + 1) L st μ (fun x y => x ||| y) = some (.inl (pc', L', st', μ'))) (k : sm_T p l e R s m args below meth c Q D ca base b aK sl xs mi pc' L' st' μ') : sm_T p l e R s m args below meth c Q D ca base b aK sl xs mi pc L st μ := by
  unfold am_op at hs
  split at hs
  · cases hs
    intro H locs ls cells slots hS
    exact lv_ior C.1 C.2.1 hd (k H locs ls cells slots hS)
  · cases hs
theorem sm_o_ixor (hd : decode (mB mi) pc = .ok (.ixor, 1)) (C : sm_C p R s m args meth c D ca base b aK sl xs SF mi)  (hs : am_op (pc + 1) L st μ (fun x y => x ^^^ y) = some (.inl (pc', L', st', μ'))) (k : sm_T p l e R s m args below meth c Q D ca base b aK sl xs mi pc' L' st' μ') : sm_T p l e R s m args below meth c Q D ca base b aK sl xs mi pc L st μ := by
  unfold am_op at hs
  split at hs
  · cases hs
    intro H locs ls cells slots hS
    exact lv_ixor C.1 C.2.1 hd (k H locs ls cells slots hS)
  · cases hs
theorem sm_o_idiv (hd : decode (mB mi) pc = .ok (.idiv, 1)) (C : sm_C p R s m args meth c D ca base b aK sl xs SF mi)  (hs : am_opz (pc + 1) L st μ (fun x y => x / y) = some (.inl (pc', L', st', μ'))) (k : sm_T p l e R s m args below meth c Q D ca base b aK sl xs mi pc' L' st' μ') : sm_T p l e R s m args below meth c Q D ca base b aK sl xs mi pc L st μ := by
  unfold am_opz at hs
  split at hs
  · split at hs
    · cases hs
    · rename_i hz
      cases hs
      intro H locs ls cells slots hS
      exact lv_idiv C.1 C.2.1 hd hz (k H locs ls cells slots hS)
  · cases hs
theorem sm_o_irem (hd : decode (mB mi) pc = .ok (.irem, 1)) (C : sm_C p R s m args meth c D ca base b aK sl xs SF mi)  (hs : am_opz (pc + 1) L st μ (fun x y => x - x / y * y) = some (.inl (pc', L', st', μ'))) (k : sm_T p l e R s m args below meth c Q D ca base b aK sl xs mi pc' L' st' μ') : sm_T p l e R s m args below meth c Q D ca base b aK sl xs mi pc L st μ := by
  unfold am_opz at hs
  split at hs
  · split at hs
    · cases hs
    · rename_i hz
      cases hs
      intro H locs ls cells slots hS
      exact lv_irem C.1 C.2.1 hd hz (k H locs ls cells slots hS)
  · cases hs
theorem sm_o_ineg (hd : decode (mB mi) pc = .ok (.ineg, 1)) (C : sm_C p R s m args meth c D ca base b aK sl xs SF mi)  (hs : am_op1 (pc + 1) L st μ (fun x => .int (-x)) = some (.inl (pc', L', st', μ'))) (k : sm_T p l e R s m args below meth c Q D ca base b aK sl xs mi pc' L' st' μ') : sm_T p l e R s m args below meth c Q D ca base b aK sl xs mi pc L st μ := by
  unfold am_op1 at hs
  split at hs
  · cases hs
    intro H locs ls cells slots hS
    exact lv_ineg C.1 C.2.1 hd (k H locs ls cells slots hS)
  · cases hs
theorem sm_o_i2c (hd : decode (mB mi) pc = .ok (.i2c, 1)) (C : sm_C p R s m args meth c D ca base b aK sl xs SF mi)  (hs : am_op1 (pc + 1) L st μ (fun x => .int (x.toUInt32 % 65536).toInt32) = some (.inl (pc', L', st', μ'))) (k : sm_T p l e R s m args below meth c Q D ca base b aK sl xs mi pc' L' st' μ') : sm_T p l e R s m args below meth c Q D ca base b aK sl xs mi pc L st μ := by
  unfold am_op1 at hs
  split at hs
  · cases hs
    intro H locs ls cells slots hS
    exact lv_i2c C.1 C.2.1 hd rfl (k H locs ls cells slots hS)
  · cases hs
theorem sm_o_i2d (hd : decode (mB mi) pc = .ok (.i2d, 1)) (C : sm_C p R s m args meth c D ca base b aK sl xs SF mi)  (hs : am_op1 (pc + 1) L st μ (fun x => .double (FP.i2d x)) = some (.inl (pc', L', st', μ'))) (k : sm_T p l e R s m args below meth c Q D ca base b aK sl xs mi pc' L' st' μ') : sm_T p l e R s m args below meth c Q D ca base b aK sl xs mi pc L st μ := by
  unfold am_op1 at hs
  split at hs
  · cases hs
    intro H locs ls cells slots hS
    exact lv_i2d C.1 C.2.1 hd (k H locs ls cells slots hS)
  · cases hs
theorem sm_o_dmul (hd : decode (mB mi) pc = .ok (.dmul, 1)) (C : sm_C p R s m args meth c D ca base b aK sl xs SF mi)  (hs : am_dop (pc + 1) L st μ FP.dmul = some (.inl (pc', L', st', μ'))) (k : sm_T p l e R s m args below meth c Q D ca base b aK sl xs mi pc' L' st' μ') : sm_T p l e R s m args below meth c Q D ca base b aK sl xs mi pc L st μ := by
  unfold am_dop at hs
  split at hs
  · split at hs
    · rename_i hz
      cases hs
      intro H locs ls cells slots hS
      exact lv_dmul C.1 C.2.1 hd hz (k H locs ls cells slots hS)
    · cases hs
  · cases hs
theorem sm_o_dsub (hd : decode (mB mi) pc = .ok (.dsub, 1)) (C : sm_C p R s m args meth c D ca base b aK sl xs SF mi)  (hs : am_dop (pc + 1) L st μ FP.dsub = some (.inl (pc', L', st', μ'))) (k : sm_T p l e R s m args below meth c Q D ca base b aK sl xs mi pc' L' st' μ') : sm_T p l e R s m args below meth c Q D ca base b aK sl xs mi pc L st μ := by
  unfold am_dop at hs
  split at hs
  · split at hs
    · rename_i hz
      cases hs
      intro H locs ls cells slots hS
      exact lv_dsub C.1 C.2.1 hd hz (k H locs ls cells slots hS)
    · cases hs
  · cases hs
theorem sm_o_dcmp {op : CmpOp} (hd : decode (mB mi) pc = .ok (.dcmp op, 1)) (C : sm_C p R s m args meth c D ca base b aK sl xs SF mi)  (hs : (match st with
    | .double y :: .double x :: r => am_nx (pc + 1) L (.int (Op.cmpValue (FP.dcmp x y) op) :: r) μ
    | _ => none) = some (.inl (pc', L', st', μ'))) (k : sm_T p l e R s m args below meth c Q D ca base b aK sl xs mi pc' L' st' μ') : sm_T p l e R s m args below meth c Q D ca base b aK sl xs mi pc L st μ := by
  split at hs
  · cases hs
    intro H locs ls cells slots hS
    exact lv_dcmp C.1 C.2.1 hd (k H locs ls cells slots hS)
  · cases hs
theorem sm_o_dconst {d : Fin 2} (hd : decode (mB mi) pc = .ok (.dconst d, 1)) (C : sm_C p R s m args meth c D ca base b aK sl xs SF mi)  (hs : (if d = 0 then am_nx (pc + 1) L (.double FP.dconst0 :: st) μ else none) = some (.inl (pc', L', st', μ'))) (k : sm_T p l e R s m args below meth c Q D ca base b aK sl xs mi pc' L' st' μ') : sm_T p l e R s m args below meth c Q D ca base b aK sl xs mi pc L st μ := by
  split at hs
  · rename_i hz
    subst hz
    cases hs
    intro H locs ls cells slots hS
    exact lv_dconst0 C.1 C.2.1 hd (k H locs ls cells slots hS)
  · cases hs
theorem sm_o_dup (hd : decode (mB mi) pc = .ok (.dup, 1)) (C : sm_C p R s m args meth c D ca base b aK sl xs SF mi)  (hs : (match st with
    | v :: r => if v.category = 1 then am_nx (pc + 1) L (v :: v :: r) μ else none
    | _ => none) = some (.inl (pc', L', st', μ'))) (k : sm_T p l e R s m args below meth c Q D ca base b aK sl xs mi pc' L' st' μ') : sm_T p l e R s m args below meth c Q D ca base b aK sl xs mi pc L st μ := by
  split at hs
  · split at hs
    · rename_i hz
      cases hs
      intro H locs ls cells slots hS
      exact lv_dup C.1 C.2.1 hd ((sm_cvc _ _).trans hz) (k H locs ls cells slots hS)
    · cases hs
  · cases hs
theorem sm_o_dup2 (hd : decode (mB mi) pc = .ok (.dup2, 1)) (C : sm_C p R s m args meth c D ca base b aK sl xs SF mi)  (hs : (match st with
    | v :: w :: r => if v.category = 1 ∧ w.category = 1 then am_nx (pc + 1) L (v :: w :: v :: w :: r) μ else none
    | _ => none) = some (.inl (pc', L', st', μ'))) (k : sm_T p l e R s m args below meth c Q D ca base b aK sl xs mi pc' L' st' μ') : sm_T p l e R s m args below meth c Q D ca base b aK sl xs mi pc L st μ := by
  split at hs
  · split at hs
    · rename_i hz
      cases hs
      intro H locs ls cells slots hS
      exact lv_dup2_11 C.1 C.2.1 hd ((sm_cvc _ _).trans hz.1) ((sm_cvc _ _).trans hz.2) (k H locs ls cells slots hS)
    · cases hs
  · cases hs
theorem sm_o_if_eq {off : Int} {info : List Nat} (hd : decode (mB mi) pc = .ok (.ifCond .eq off, 3)) (ho : ∀ t, info = [t] → (pc : Int) + off = (t : Int)) (C : sm_C p R s m args meth c D ca base b aK sl xs SF mi)  (hs : am_if (pc + 3) L st μ .eq info = some (.inl (pc', L', st', μ'))) (k : sm_T p l e R s m args below meth c Q D ca base b aK sl xs mi pc' L' st' μ') : sm_T p l e R s m args below meth c Q D ca base b aK sl xs mi pc L st μ := by
  unfold am_if at hs
  split at hs
  · rename_i t
    split at hs
    · rename_i hz
      cases hs
      simp only [am_c, decide_eq_true_eq] at hz
      intro H locs ls cells slots hS
      exact lv_if_eq C.1 C.2.1 hd (ho _ rfl) (fun _ => (k H locs ls cells slots hS)) (fun z => absurd hz z)
    · rename_i hz
      cases hs
      simp only [am_c, decide_eq_true_eq] at hz
      intro H locs ls cells slots hS
      exact lv_if_eq C.1 C.2.1 hd (ho _ rfl) (fun z => absurd z hz) (fun _ => (k H locs ls cells slots hS))
  · cases hs
theorem sm_o_icmp_eq {off : Int} {info : List Nat} (hd : decode (mB mi) pc = .ok (.if_icmp .eq off, 3)) (ho : ∀ t, info = [t] → (pc : Int) + off = (t : Int)) (C : sm_C p R s m args meth c D ca base b aK sl xs SF mi)  (hs : am_if2 (pc + 3) L st μ .eq info = some (.inl (pc', L', st', μ'))) (k : sm_T p l e R s m args below meth c Q D ca base b aK sl xs mi pc' L' st' μ') : sm_T p l e R s m args below meth c Q D ca base b aK sl xs mi pc L st μ := by
  unfold am_if2 at hs
  split at hs
  · rename_i t
    split at hs
    · rename_i hz
      cases hs
      simp only [am_c, decide_eq_true_eq] at hz
      intro H locs ls cells slots hS
      exact lv_icmp_eq C.1 C.2.1 hd (ho _ rfl) (fun _ => (k H locs ls cells slots hS)) (fun z => absurd hz z)
    · rename_i hz
      cases hs
      simp only [am_c, decide_eq_true_eq] at hz
      intro H locs ls cells slots hS
      exact lv_icmp_eq C.1 C.2.1 hd (ho _ rfl) (fun z => absurd z hz) (fun _ => (k H locs ls cells slots hS))
  · cases hs
theorem sm_o_if_ne {off : Int} {info : List Nat} (hd : decode (mB mi) pc = .ok (.ifCond .ne off, 3)) (ho : ∀ t, info = [t] → (pc : Int) + off = (t : Int)) (C : sm_C p R s m args meth c D ca base b aK sl xs SF mi)  (hs : am_if (pc + 3) L st μ .ne info = some (.inl (pc', L', st', μ'))) (k : sm_T p l e R s m args below meth c Q D ca base b aK sl xs mi pc' L' st' μ') : sm_T p l e R s m args below meth c Q D ca base b aK sl xs mi pc L st μ := by
  unfold am_if at hs
  split at hs
  · rename_i t
    split at hs
    · rename_i hz
      cases hs
      simp only [am_c, decide_eq_true_eq] at hz
      intro H locs ls cells slots hS
      exact lv_if_ne C.1 C.2.1 hd (ho _ rfl) (fun _ => (k H locs ls cells slots hS)) (fun z => absurd z hz)
    · rename_i hz
      cases hs
      simp only [am_c, decide_eq_true_eq] at hz
      intro H locs ls cells slots hS
      exact lv_if_ne C.1 C.2.1 hd (ho _ rfl) (fun z => absurd z hz) (fun _ => (k H locs ls cells slots hS))
  · cases hs
theorem sm_o_icmp_ne {off : Int} {info : List Nat} (hd : decode (mB mi) pc = .ok (.if_icmp .ne off, 3)) (ho : ∀ t, info = [t] → (pc : Int) + off = (t : Int)) (C : sm_C p R s m args meth c D ca base b aK sl xs SF mi)  (hs : am_if2 (pc + 3) L st μ .ne info = some (.inl (pc', L', st', μ'))) (k : sm_T p l e R s m args below meth c Q D ca base b aK sl xs mi pc' L' st' μ') : sm_T p l e R s m args below meth c Q D ca base b aK sl xs mi pc L st μ := by
  unfold am_if2 at hs
  split at hs
  · rename_i t
    split at hs
    · rename_i hz
      cases hs
      simp only [am_c, decide_eq_true_eq] at hz
      intro H locs ls cells slots hS
      exact lv_icmp_ne C.1 C.2.1 hd (ho _ rfl) (fun _ => (k H locs ls cells slots hS)) (fun z => absurd z hz)
    · rename_i hz
      cases hs
      simp only [am_c, decide_eq_true_eq] at hz
      intro H locs ls cells slots hS
      exact lv_icmp_ne C.1 C.2.1 hd (ho _ rfl) (fun z => absurd z hz) (fun _ => (k H locs ls cells slots hS))
  · cases hs
theorem sm_o_if_lt {off : Int} {info : List Nat} (hd : decode (mB mi) pc = .ok (.ifCond .lt off, 3)) (ho : ∀ t, info = [t] → (pc : Int) + off = (t : Int)) (C : sm_C p R s m args meth c D ca base b aK sl xs SF mi)  (hs : am_if (pc + 3) L st μ .lt info = some (.inl (pc', L', st', μ'))) (k : sm_T p l e R s m args below meth c Q D ca base b aK sl xs mi pc' L' st' μ') : sm_T p l e R s m args below meth c Q D ca base b aK sl xs mi pc L st μ := by
  unfold am_if at hs
  split at hs
  · rename_i t
    split at hs
    · rename_i hz
      cases hs
      simp only [am_c, decide_eq_true_eq] at hz
      intro H locs ls cells slots hS
      exact lv_if_lt C.1 C.2.1 hd (ho _ rfl) (fun _ => (k H locs ls cells slots hS)) (fun z => absurd hz z)
    · rename_i hz
      cases hs
      simp only [am_c, decide_eq_true_eq] at hz
      intro H locs ls cells slots hS
      exact lv_if_lt C.1 C.2.1 hd (ho _ rfl) (fun z => absurd z hz) (fun _ => (k H locs ls cells slots hS))
  · cases hs
theorem sm_o_icmp_lt {off : Int} {info : List Nat} (hd : decode (mB mi) pc = .ok (.if_icmp .lt off, 3)) (ho : ∀ t, info = [t] → (pc : Int) + off = (t : Int)) (C : sm_C p R s m args meth c D ca base b aK sl xs SF mi)  (hs : am_if2 (pc + 3) L st μ .lt info = some (.inl (pc', L', st', μ'))) (k : sm_T p l e R s m args below meth c Q D ca base b aK sl xs mi pc' L' st' μ') : sm_T p l e R s m args below meth c Q D ca base b aK sl xs mi pc L st μ := by
  unfold am_if2 at hs
  split at hs
  · rename_i t
    split at hs
    · rename_i hz
      cases hs
      simp only [am_c, decide_eq_true_eq] at hz
      intro H locs ls cells slots hS
      exact lv_icmp_lt C.1 C.2.1 hd (ho _ rfl) (fun _ => (k H locs ls cells slots hS)) (fun z => absurd hz z)
    · rename_i hz
      cases hs
      simp only [am_c, decide_eq_true_eq] at hz
      intro H locs ls cells slots hS
      exact lv_icmp_lt C.1 C.2.1 hd (ho _ rfl) (fun z => absurd z hz) (fun _ => (k H locs ls cells slots hS))
  · cases hs
theorem sm_o_if_ge {off : Int} {info : List Nat} (hd : decode (mB mi) pc = .ok (.ifCond .ge off, 3)) (ho : ∀ t, info = [t] → (pc : Int) + off = (t : Int)) (C : sm_C p R s m args meth c D ca base b aK sl xs SF mi)  (hs : am_if (pc + 3) L st μ .ge info = some (.inl (pc', L', st', μ'))) (k : sm_T p l e R s m args below meth c Q D ca base b aK sl xs mi pc' L' st' μ') : sm_T p l e R s m args below meth c Q D ca base b aK sl xs mi pc L st μ := by
  unfold am_if at hs
  split at hs
  · rename_i t
    split at hs
    · rename_i hz
      cases hs
      simp only [am_c, decide_eq_true_eq] at hz
      intro H locs ls cells slots hS
      exact lv_if_ge C.1 C.2.1 hd (ho _ rfl) (fun _ => (k H locs ls cells slots hS)) (fun z => absurd hz z)
    · rename_i hz
      cases hs
      simp only [am_c, decide_eq_true_eq] at hz
      intro H locs ls cells slots hS
      exact lv_if_ge C.1 C.2.1 hd (ho _ rfl) (fun z => absurd z hz) (fun _ => (k H locs ls cells slots hS))
  · cases hs
theorem sm_o_icmp_ge {off : Int} {info : List Nat} (hd : decode (mB mi) pc = .ok (.if_icmp .ge off, 3)) (ho : ∀ t, info = [t] → (pc : Int) + off = (t : Int)) (C : sm_C p R s m args meth c D ca base b aK sl xs SF mi)  (hs : am_if2 (pc + 3) L st μ .ge info = some (.inl (pc', L', st', μ'))) (k : sm_T p l e R s m args below meth c Q D ca base b aK sl xs mi pc' L' st' μ') : sm_T p l e R s m args below meth c Q D ca base b aK sl xs mi pc L st μ := by
  unfold am_if2 at hs
  split at hs
  · rename_i t
    split at hs
    · rename_i hz
      cases hs
      simp only [am_c, decide_eq_true_eq] at hz
      intro H locs ls cells slots hS
      exact lv_icmp_ge C.1 C.2.1 hd (ho _ rfl) (fun _ => (k H locs ls cells slots hS)) (fun z => absurd hz z)
    · rename_i hz
      cases hs
      simp only [am_c, decide_eq_true_eq] at hz
      intro H locs ls cells slots hS
      exact lv_icmp_ge C.1 C.2.1 hd (ho _ rfl) (fun z => absurd z hz) (fun _ => (k H locs ls cells slots hS))
  · cases hs
theorem sm_o_if_gt {off : Int} {info : List Nat} (hd : decode (mB mi) pc = .ok (.ifCond .gt off, 3)) (ho : ∀ t, info = [t] → (pc : Int) + off = (t : Int)) (C : sm_C p R s m args meth c D ca base b aK sl xs SF mi)  (hs : am_if (pc + 3) L st μ .gt info = some (.inl (pc', L', st', μ'))) (k : sm_T p l e R s m args below meth c Q D ca base b aK sl xs mi pc' L' st' μ') : sm_T p l e R s m args below meth c Q D ca base b aK sl xs mi pc L st μ := by
  unfold am_if at hs
  split at hs
  · rename_i t
    split at hs
    · rename_i hz
      cases hs
      simp only [am_c, decide_eq_true_eq] at hz
      intro H locs ls cells slots hS
      exact lv_if_gt C.1 C.2.1 hd (ho _ rfl) (fun _ => (k H locs ls cells slots hS)) (fun z => absurd hz z)
    · rename_i hz
      cases hs
      simp only [am_c, decide_eq_true_eq] at hz
      intro H locs ls cells slots hS
      exact lv_if_gt C.1 C.2.1 hd (ho _ rfl) (fun z => absurd z hz) (fun _ => (k H locs ls cells slots hS))
  · cases hs
theorem sm_o_icmp_gt {off : Int} {info : List Nat} (hd : decode (mB mi) pc = .ok (.if_icmp .gt off, 3)) (ho : ∀ t, info = [t] → (pc : Int) + off = (t : Int)) (C : sm_C p R s m args meth c D ca base b aK sl xs SF mi)  (hs : am_if2 (pc + 3) L st μ .gt info = some (.inl (pc', L', st', μ'))) (k : sm_T p l e R s m args below meth c Q D ca base b aK sl xs mi pc' L' st' μ') : sm_T p l e R s m args below meth c Q D ca base b aK sl xs mi pc L st μ := by
  unfold am_if2 at hs
  split at hs
  · rename_i t
    split at hs
    · rename_i hz
      cases hs
      simp only [am_c, decide_eq_true_eq] at hz
      intro H locs ls cells slots hS
      exact lv_icmp_gt C.1 C.2.1 hd (ho _ rfl) (fun _ => (k H locs ls cells slots hS)) (fun z => absurd hz z)
    · rename_i hz
      cases hs
      simp only [am_c, decide_eq_true_eq] at hz
      intro H locs ls cells slots hS
      exact lv_icmp_gt C.1 C.2.1 hd (ho _ rfl) (fun z => absurd z hz) (fun _ => (k H locs ls cells slots hS))
  · cases hs
theorem sm_o_if_le {off : Int} {info : List Nat} (hd : decode (mB mi) pc = .ok (.ifCond .le off, 3)) (ho : ∀ t, info = [t] → (pc : Int) + off = (t : Int)) (C : sm_C p R s m args meth c D ca base b aK sl xs SF mi)  (hs : am_if (pc + 3) L st μ .le info = some (.inl (pc', L', st', μ'))) (k : sm_T p l e R s m args below meth c Q D ca base b aK sl xs mi pc' L' st' μ') : sm_T p l e R s m args below meth c Q D ca base b aK sl xs mi pc L st μ := by
  unfold am_if at hs
  split at hs
  · rename_i t
    split at hs
    · rename_i hz
      cases hs
      simp only [am_c, decide_eq_true_eq] at hz
      intro H locs ls cells slots hS
      exact lv_if_le C.1 C.2.1 hd (ho _ rfl) (fun _ => (k H locs ls cells slots hS)) (fun z => absurd hz z)
    · rename_i hz
      cases hs
      simp only [am_c, decide_eq_true_eq] at hz
      intro H locs ls cells slots hS
      exact lv_if_le C.1 C.2.1 hd (ho _ rfl) (fun z => absurd z hz) (fun _ => (k H locs ls cells slots hS))
  · cases hs
theorem sm_o_icmp_le {off : Int} {info : List Nat} (hd : decode (mB mi) pc = .ok (.if_icmp .le off, 3)) (ho : ∀ t, info = [t] → (pc : Int) + off = (t : Int)) (C : sm_C p R s m args meth c D ca base b aK sl xs SF mi)  (hs : am_if2 (pc + 3) L st μ .le info = some (.inl (pc', L', st', μ'))) (k : sm_T p l e R s m args below meth c Q D ca base b aK sl xs mi pc' L' st' μ') : sm_T p l e R s m args below meth c Q D ca base b aK sl xs mi pc L st μ := by
  unfold am_if2 at hs
  split at hs
  · rename_i t
    split at hs
    · rename_i hz
      cases hs
      simp only [am_c, decide_eq_true_eq] at hz
      intro H locs ls cells slots hS
      exact lv_icmp_le C.1 C.2.1 hd (ho _ rfl) (fun _ => (k H locs ls cells slots hS)) (fun z => absurd hz z)
    · rename_i hz
      cases hs
      simp only [am_c, decide_eq_true_eq] at hz
      intro H locs ls cells slots hS
      exact lv_icmp_le C.1 C.2.1 hd (ho _ rfl) (fun z => absurd z hz) (fun _ => (k H locs ls cells slots hS))
  · cases hs
theorem sm_o_goto {off : Int} {info : List Nat} (hd : decode (mB mi) pc = .ok (.goto off, 3)) (ho : ∀ t, info = [t] → (pc : Int) + off = (t : Int)) (C : sm_C p R s m args meth c D ca base b aK sl xs SF mi)  (hs : (match info with
    | [t] => am_nx t L st μ
    | _ => none) = some (.inl (pc', L', st', μ'))) (k : sm_T p l e R s m args below meth c Q D ca base b aK sl xs mi pc' L' st' μ') : sm_T p l e R s m args below meth c Q D ca base b aK sl xs mi pc L st μ := by
  split at hs
  · cases hs
    intro H locs ls cells slots hS
    exact lv_goto C.1 C.2.1 hd (ho _ rfl) (k H locs ls cells slots hS)
  · cases hs
theorem ck_tg_get {pc : Nat} : ∀ {as : List Int} {ts : List Nat}, ck_tg pc as ts = true → ∀ (j t : Nat), ts[j]? = some t → ∃ a, as[j]? = some a ∧ (pc : Int) + a = (t : Int) := by
  intro as
  induction as with
  | nil =>
    intro ts h j t ht
    cases ts with
    | nil => simp at ht
    | cons => cases h
  | cons a as ih =>
    intro ts h j t ht
    cases ts with
    | nil => cases h
    | cons t0 ts =>
      simp only [ck_tg, ck_off, Bool.and_eq_true, decide_eq_true_eq] at h
      cases j with
      | zero => simp at ht; subst ht; exact ⟨a, rfl, h.1⟩
      | succ j => obtain ⟨x, h1, h2⟩ := ih h.2 j t (by simpa using ht); exact ⟨x, by simpa using h1, h2⟩
theorem sm_o_tsw {d lo hi : Int} {offs : Array Int} {len : Nat} {info : List Nat} (hd : decode (mB mi) pc = .ok (.tableswitch d lo hi offs, len)) (hk : ∀ t ts, info = t :: ts → (pc : Int) + d = (t : Int) ∧ ck_tg pc offs.toList ts = true) (C : sm_C p R s m args meth c D ca base b aK sl xs SF mi)  (hs : (match st, info with
    | .int x :: r, d :: ts => if x.toInt < lo ∨ hi < x.toInt then am_nx d L r μ else (match ts[(x.toInt - lo).toNat]? with
      | some t => am_nx t L r μ
      | none => none)
    | _, _ => none) = some (.inl (pc', L', st', μ'))) (k : sm_T p l e R s m args below meth c Q D ca base b aK sl xs mi pc' L' st' μ') : sm_T p l e R s m args below meth c Q D ca base b aK sl xs mi pc L st μ := by
  split at hs
  · rename_i x r t0 ts
    obtain ⟨h1, h2⟩ := hk _ _ rfl
    split at hs
    · rename_i hz
      cases hs
      intro H locs ls cells slots hS
      exact lv_tableOut C.1 C.2.1 hd hz h1 (k H locs ls cells slots hS)
    · rename_i hz
      split at hs
      · rename_i t ht
        cases hs
        obtain ⟨a, ha, hb⟩ := ck_tg_get h2 _ _ ht
        intro H locs ls cells slots hS
        exact lv_tableIn C.1 C.2.1 hd (fun q => hz (Or.inl q)) (fun q => hz (Or.inr q)) (by rw [← Array.getElem?_toList]; exact ha) hb (k H locs ls cells slots hS)
      · cases hs
  · cases hs
theorem sm_o_lsw {d : Int} {ps : Array (Int × Int)} {len : Nat} (hd : decode (mB mi) pc = .ok (.lookupswitch d ps, len)) (hp : (ps.toList.zip (ps.toList.drop 1)).all (fun (a, next) => a.1 < next.1) = true) (C : sm_C p R s m args meth c D ca base b aK sl xs SF mi)  (hs : (match st with
    | .int x :: r => if 0 ≤ (pc : Int) + Op.lookupswitch.offset ps.toList d x.toInt then am_nx ((pc : Int) + Op.lookupswitch.offset ps.toList d x.toInt).toNat L r μ else none
    | _ => none) = some (.inl (pc', L', st', μ'))) (k : sm_T p l e R s m args below meth c Q D ca base b aK sl xs mi pc' L' st' μ') : sm_T p l e R s m args below meth c Q D ca base b aK sl xs mi pc L st μ := by
  split at hs
  · split at hs
    · rename_i hz
      cases hs
      intro H locs ls cells slots hS
      exact lv_lookup C.1 C.2.1 hd hp rfl (by omega) (k H locs ls cells slots hS)
    · cases hs
  · cases hs
end SM
