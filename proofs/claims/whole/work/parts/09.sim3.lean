/-! NEW CELLS, Object.<init>, arraycopy -/
section SM
variable {p : Program} {l : Launch} {e : Env} {R : Room} {s : State} {m : MethodId} {args : Array Value} {below : List Frame} {meth : Method} {c : Code} {Q : State → Prop}
variable {D : va_G} {ca : Nat → Nat} {base b : Nat} {aK : Nat → Nat} {sl : Nat} {xs : Nat → Int32} {SF : State → Prop} {mi pc pc' : Nat} {L st L' st' : List Value} {μ μ' : amM}
theorem sm_sz {H : Heap} {locs : List Loc} {cells slots : Nat} {g : JFrame} (k : H.size ≤ s.heap.size + cells → W p l e R s m args below meth c H locs cells slots Q g) : W p l e R s m args below meth c H locs cells slots Q g := by
  intro T hT X
  have h := X.same.2.2.1
  exact k (by rw [← hT]; exact h) T hT X
theorem sm_lb {H : Heap} {locs : List Loc} {ls : Array Slot} {cells slots : Nat} (hb : base ≤ s.heap.size) (hS : sm_S R s D ca base b aK sl xs mi μ H locs L ls cells slots) : base + μ.1.length ≤ H.size := by
  cases hn : μ.1.length with
  | zero => exact Nat.le_trans hb hS.2.1.1
  | succ n =>
    have hq : n < μ.1.length := by omega
    have h := (hS.1 n _ (sm_ws_get (sh := μ.1[n]) (by simp))).lt
    have : base + n < H.size := h
    omega
theorem sm_nn {x : Int32} (h : 0 ≤ x.toInt) : ¬ x < 0 := by
  intro z
  have := Int32.lt_iff_toInt_lt.mp z
  simp at this
  omega
theorem sm_ws_push {ad : Nat → Nat} {sh : Nat ⊕ (Nat × Nat)} {bb : Nat × Nat × Nat} : sm_ws ad ca base (μ.1 ++ [sh], bb, am_row μ.2.2.1 μ.1.length (fun _ => 0), am_row μ.2.2.2.1 μ.1.length (fun _ => 0), am_row μ.2.2.2.2 μ.1.length (fun _ => none)) = sm_ws ad ca base μ ++ [(base + μ.1.length, sm_ce ad ca (some sh) (fun _ => 0) (fun _ => 0) (fun _ => none))] := by
  unfold sm_ws
  rw [List.length_append, List.length_singleton, List.range_succ, List.map_append]
  congr 1
  · apply List.map_congr_left
    intro k hk
    have hk := List.mem_range.mp hk
    have hn : k ≠ μ.1.length := by omega
    simp only [sm_cell, am_row_ne hn]
    rw [List.getElem?_append_left hk]
  · simp only [List.map_cons, List.map_nil, sm_cell, am_row_eq]
    rw [List.getElem?_append_right (Nat.le_refl _)]
    simp
/-- behind a new cell -/
theorem sm_made {sh : Nat ⊕ (Nat × Nat)} {N : Nat} {H H1 : Heap} {locs : List Loc} {ls : Array Slot} {cells slots : Nat} (hS : sm_S R s D ca base b aK sl xs mi μ H locs L ls cells slots) (hb : base ≤ s.heap.size) (h1 : 1 ≤ μ.2.1.1) (h2 : N ≤ μ.2.1.2.1) (h3 : μ.1.length < 1000000) (hz : H.size = base + μ.1.length) (hz1 : H1.size = H.size + 1) (ho : ∀ q, q < H.size → H1[q]? = H[q]?) (hat : va_at D nmCl (base + μ.1.length, sm_ce (sm_ad base b aK) ca (some sh) (fun _ => 0) (fun _ => 0) (fun _ => none)) H1) : sm_S R s D ca base b aK sl xs mi (μ.1 ++ [sh], (μ.2.1.1 - 1, μ.2.1.2.1 - N, μ.2.1.2.2), am_row μ.2.2.1 μ.1.length (fun _ => 0), am_row μ.2.2.2.1 μ.1.length (fun _ => 0), am_row μ.2.2.2.2 μ.1.length (fun _ => none)) H1 locs L ls (cells + 1) (slots + N) := by
  obtain ⟨a1, a2, a3, a4, a5, a6, a7, a8, a9⟩ := hS
  refine ⟨?_, ⟨Nat.le_trans a2.1 (by omega), fun x g1 g2 => (ho x (Nat.lt_of_lt_of_le g1 a2.1)).trans (a2.2.1 x g1 g2), a2.2.2⟩, ?_, a4, ?_, ?_, a7, fun j hj => ?_, ?_⟩
  · rw [sm_ws_push]
    refine (a1.kept (fun k x hx => ho x.1 ((a1 k x hx).lt))).app (fun k x hx => ?_)
    have hz : k < 1 := (List.getElem?_eq_some_iff.mp hx).1
    rw [show k = 0 by omega] at hx
    cases hx
    exact hat
  · simp only [List.length_append, List.length_singleton]; omega
  · dsimp only; omega
  · dsimp only; omega
  · dsimp only
    rw [am_row_ne (by omega)]
    exact a8 j hj
  · simp only [List.length_append, List.length_singleton]; omega

theorem sm_o_new {idx ci : Nat} (hd : decode (mB mi) pc = .ok (.new idx, 3)) (hci : ci < 10) (hf : Cond.classLink (nmC (mO mi)) idx (nmC ci) ∈ KW ∧ Cond.instantiable (nmC ci) (am_fn ci) ∈ KW ∧ Cond.initialized (nmC ci) ∈ KW ∧ ∀ w ∈ u_ws (nmC ci) (nmT ci) (am_fn ci), w ∈ KW) (C : sm_C p R s m args meth c D ca base b aK sl xs SF mi) (hs : am_new (pc + 3) L st μ (.inl ci) (am_fn ci) = some (.inl (pc', L', st', μ'))) (k : sm_T p l e R s m args below meth c Q D ca base b aK sl xs mi pc' L' st' μ') : sm_T p l e R s m args below meth c Q D ca base b aK sl xs mi pc L st μ := by
  unfold am_new at hs
  split at hs
  case isFalse => cases hs
  rename_i hz
  cases hs
  intro H locs ls cells slots hS
  refine sm_sz (fun hub => ?_)
  have hlb := sm_lb C.2.2.2.2.2.2.2.2.2.1 hS
  have hcells := hS.2.2.1
  have hsz : H.size = base + μ.1.length := by omega
  have hts := C.2.2.2.2.2.1
  have hK := C.2.2.2.2.2.2.2.2.1.1
  have hKn := hK.1 ci _ (nmCl_at ci hci)
  obtain ⟨f1, f2, f3, f4⟩ := hf
  refine W.newcK C.1 C.2.1 C.2.2.2.2.1 (hts _ f1) (hts _ f2) (hts _ f3) rfl hd (by have := hS.2.2.2.2.1; omega) (by have := hS.2.2.2.2.2.1; omega) hKn.2.1 rfl fun H1 kC hkC e1 z1 o1 => ?_
  have hS1 := sm_made (N := am_fn ci) (sh := .inl ci) hS C.2.2.2.2.2.2.2.2.2.1 hz.1 hz.2.1 hz.2.2 hsz z1 o1 (by
    refine ⟨_, nmCl_at ci hci, ?_⟩
    rw [← hsz]
    refine (u_born (nmTy ci) hts f4 hKn hkC e1 (fun j hj => (nmT_at hci hj).1)).to (fun j hj => ?_)
    rw [(nmT_at hci hj).2.1]
    simp only [vp_V, List.getD_eq_getElem?_getD, List.getElem?_map, List.getElem?_range hj]
    by_cases h : (nmT ci j).2.2.1 = "I"
    · simp [h]
    · simp [h, va_rf])
  have kk := k H1 locs ls (cells + 1) (slots + am_fn ci) hS1
  rw [List.map_cons, show sm_cv (sm_ad base b aK) (.ref μ.1.length) = .ref H.size by simp only [sm_cv, sm_cv_h hz.2.2, hsz]] at kk
  exact kk
theorem sm_o_newarray {at0 : ArrayType} {t : Nat} (hd : decode (mB mi) pc = .ok (.newarray at0, 2)) (hat : ck_at at0 t = true) (hf : Cond.arrayClass (newarray.typeOf at0) ∈ KW) (C : sm_C p R s m args meth c D ca base b aK sl xs SF mi) (hs : am_newa (pc + 2) t L st μ = some (.inl (pc', L', st', μ'))) (k : sm_T p l e R s m args below meth c Q D ca base b aK sl xs mi pc' L' st' μ') : sm_T p l e R s m args below meth c Q D ca base b aK sl xs mi pc L st μ := by
  unfold am_newa at hs
  split at hs
  case h_2 => cases hs
  rename_i x r
  split at hs
  case isFalse => cases hs
  rename_i hx
  unfold am_new at hs
  split at hs
  case isFalse => cases hs
  rename_i hz
  cases hs
  intro H locs ls cells slots hS
  refine sm_sz (fun hub => ?_)
  have hlb := sm_lb C.2.2.2.2.2.2.2.2.2.1 hS
  have hcells := hS.2.2.1
  have hsz : H.size = base + μ.1.length := by omega
  have hts := C.2.2.2.2.2.1
  have hK := C.2.2.2.2.2.2.2.2.1.1
  have hbytes : x.toInt.toNat * componentBytes (newarray.typeOf at0) ≤ 536870912 := by
    have hc : componentBytes (newarray.typeOf at0) ≤ 8 := by cases at0 <;> decide
    have hx2 : x.toInt.toNat ≤ 1000000 := by omega
    calc x.toInt.toNat * componentBytes (newarray.typeOf at0) ≤ 1000000 * 8 := Nat.mul_le_mul hx2 hc
      _ ≤ 536870912 := by decide
  refine va_newaK C.1 C.2.1 (hts _ hf) rfl hd rfl (sm_nn hx.1) rfl hbytes (by have := hS.2.2.2.2.1; omega) (by have := hS.2.2.2.2.2.1; have h2 := hz.2.1; show slots + x.toInt.toNat ≤ R.slots; omega) rfl fun H1 cA e1 z1 o1 hAr hNm => ?_
  have hat2 : va_at D nmCl (base + μ.1.length, sm_ce (sm_ad base b aK) ca (some (.inr (t, x.toInt.toNat))) (fun _ => 0) (fun _ => 0) (fun _ => none)) H1 := by
    rw [← hsz]
    match at0, t, hat with
    | .int, 0, _ =>
      have e2 : cA = ca 0 := Option.some.inj (hNm.symm.trans (hK.2 0 _ rfl).2)
      subst e2
      exact e1
    | .char, 1, _ =>
      have e2 : cA = ca 1 := Option.some.inj (hNm.symm.trans (hK.2 1 _ rfl).2)
      subst e2
      exact e1
    | .boolean, 2, _ =>
      have e2 : cA = ca 2 := Option.some.inj (hNm.symm.trans (hK.2 2 _ rfl).2)
      subst e2
      exact e1
    | .double, 3, _ =>
      have e2 : cA = ca 3 := Option.some.inj (hNm.symm.trans (hK.2 3 _ rfl).2)
      subst e2
      exact e1
  have hS1 := sm_made (N := x.toInt.toNat) (sh := .inr (t, x.toInt.toNat)) hS C.2.2.2.2.2.2.2.2.2.1 hz.1 hz.2.1 hz.2.2 hsz z1 o1 hat2
  have kk := k H1 locs ls (cells + 1) (slots + x.toInt.toNat) hS1
  rw [List.map_cons, show sm_cv (sm_ad base b aK) (.ref μ.1.length) = .ref H.size by simp only [sm_cv, sm_cv_h hz.2.2, hsz]] at kk
  exact kk
theorem sm_o_anewarray {idx : Nat} (hd : decode (mB mi) pc = .ok (.anewarray idx, 3)) (hf : Cond.classLink (nmC (mO mi)) idx "ReleaseDesk$Rule" ∈ KW) (C : sm_C p R s m args meth c D ca base b aK sl xs SF mi) (hs : am_newa (pc + 3) 4 L st μ = some (.inl (pc', L', st', μ'))) (k : sm_T p l e R s m args below meth c Q D ca base b aK sl xs mi pc' L' st' μ') : sm_T p l e R s m args below meth c Q D ca base b aK sl xs mi pc L st μ := by
  unfold am_newa at hs
  split at hs
  case h_2 => cases hs
  rename_i x r
  split at hs
  case isFalse => cases hs
  rename_i hx
  unfold am_new at hs
  split at hs
  case isFalse => cases hs
  rename_i hz
  cases hs
  intro H locs ls cells slots hS
  refine sm_sz (fun hub => ?_)
  have hlb := sm_lb C.2.2.2.2.2.2.2.2.2.1 hS
  have hcells := hS.2.2.1
  have hsz : H.size = base + μ.1.length := by omega
  have hts := C.2.2.2.2.2.1
  have hK := C.2.2.2.2.2.2.2.2.1.1
  have hbytes : x.toInt.toNat * 4 ≤ 536870912 := by omega
  refine W.anew C.1 C.2.1 C.2.2.2.2.1 (hts _ hf) (va_AO.use C.2.2.2.2.2.2.2.2.1.2.2.1) rfl hd rfl (sm_nn hx.1) hbytes (by have := hS.2.2.2.2.1; omega) (by have := hS.2.2.2.2.2.1; have h2 := hz.2.1; show slots + x.toInt.toNat ≤ R.slots; omega) fun cA kA comp f1 f2 f3 f4 => ?_
  generalize hH1 : H.push ({ cls := cA, slots := Array.replicate x.toNatClampNeg .null, vm := .none } : Cell) = H1
  have z1 : H1.size = H.size + 1 := by rw [← hH1, Array.size_push]
  have e1 : H1[H.size]? = some (arrV cA x.toNatClampNeg (fun _ => .null)) := by rw [← hH1, Array.getElem?_push_size, ← arrV_new]
  have o1 : ∀ q : Nat, q < H.size → H1[q]? = H[q]? := fun q hq => by rw [← hH1, Array.getElem?_push, if_neg (Nat.ne_of_lt hq)]
  have hat2 : va_at D nmCl (base + μ.1.length, sm_ce (sm_ad base b aK) ca (some (.inr (4, x.toInt.toNat))) (fun _ => 0) (fun _ => 0) (fun _ => none)) H1 := by
    rw [← hsz]
    obtain ⟨kA', comp', -, -, -, q4⟩ := (hK.2 4 _ rfl).2
    have e2 : cA = ca 4 := Option.some.inj (f1.symm.trans q4)
    subst e2
    exact e1
  have hS1 := sm_made (N := x.toInt.toNat) (sh := .inr (4, x.toInt.toNat)) hS C.2.2.2.2.2.2.2.2.2.1 hz.1 hz.2.1 hz.2.2 hsz z1 o1 hat2
  have kk := k H1 locs ls (cells + 1) (slots + x.toInt.toNat) hS1
  rw [List.map_cons, show sm_cv (sm_ad base b aK) (.ref μ.1.length) = .ref H.size by simp only [sm_cv, sm_cv_h hz.2.2, hsz]] at kk
  exact kk
theorem sm_o_oinit {idx : Nat} (hd : decode (mB mi) pc = .ok (.invokespecial idx, 3)) (hf : Cond.methodLink (nmC (mO mi)) idx objectInit ∈ KW ∧ Cond.instanceMethod objectInit ∈ KW ∧ Cond.code objectInit ⟨#[0xb1]⟩ 1 none ∈ KW) (hr : 1 ≤ (mRm mi).frames ∧ 20 ≤ (mRm mi).locals) (C : sm_C p R s m args meth c D ca base b aK sl xs SF mi) (hs : am_oinit (pc + 3) L st μ = some (.inl (pc', L', st', μ'))) (k : sm_T p l e R s m args below meth c Q D ca base b aK sl xs mi pc' L' st' μ') : sm_T p l e R s m args below meth c Q D ca base b aK sl xs mi pc L st μ := by
  unfold am_oinit at hs
  split at hs
  case h_2 => cases hs
  rename_i q r
  split at hs
  case isFalse => cases hs
  rename_i hz
  cases hs
  intro H locs ls cells slots hS
  have hts := C.2.2.2.2.2.1
  refine W.objInit C.1 C.2.1 C.2.2.2.2.1 (hts _ hf.1) (hts _ hf.2.1) (hts _ hf.2.2) rfl (hS.2.2.2.1.1.trans C.2.2.1.symm) (a := (sm_ad base b aK) q) (rest := List.map (sm_cv (sm_ad base b aK)) st') rfl hd (by rw [C.2.2.2.2.2.2.2.2.2.2.1]; exact hr.1) ?_ (k H locs ls cells slots hS)
  have h1 := lv_room (m := m) (pc := pc) (ls := ls) (rest := List.map (sm_cv (sm_ad base b aK)) st') (st := List.map (sm_cv (sm_ad base b aK)) st') (by rw [sm_cat]; exact hz)
  have h2 : R.locals = (mRm mi).locals := C.2.2.2.2.2.2.2.2.2.2.2
  have h3 := hr.2
  have h4 : (F0 m pc ls (List.map (sm_cv (sm_ad base b aK)) (.ref q :: st'))).monitorRoom = 0 := rfl
  have h5 : ((List.map (sm_cv (sm_ad base b aK)) st').map fun v => v.category).sum ≤ 8 := by rw [sm_cat]; exact hz
  rw [h4]
  omega
theorem sm_o_copy {idx : Nat} (hd : decode (mB mi) pc = .ok (.invokestatic idx, 3)) (hf : Cond.methodLink (nmC (mO mi)) idx arraycopyName ∈ KW ∧ Cond.native arraycopyName ∈ KW ∧ Cond.static arraycopyName ∈ KW ∧ Cond.initialized "java/lang/System" ∈ KW) (hr : 1 ≤ (mRm mi).frames ∧ 8 + (nativeFrameWords "java/lang/System" "arraycopy" 5 + 11) ≤ (mRm mi).locals) (C : sm_C p R s m args meth c D ca base b aK sl xs SF mi) (hs : am_copy (pc + 3) L st μ = some (.inl (pc', L', st', μ'))) (k : sm_T p l e R s m args below meth c Q D ca base b aK sl xs mi pc' L' st' μ') : sm_T p l e R s m args below meth c Q D ca base b aK sl xs mi pc L st μ := by
  unfold am_copy at hs
  split at hs
  case h_2 => cases hs
  rename_i n dp q1 sp q0 r
  split at hs
  case h_2 => cases hs
  rename_i t n0 t' n1 hx0 hx1
  split at hs
  case isFalse => cases hs
  rename_i hz
  obtain ⟨hc, rfl, g1, g2, g3, g4, g5⟩ := hz
  have hts := C.2.2.2.2.2.1
  have hK := C.2.2.2.2.2.2.2.2.1.1
  have f4 : sp.toNatClampNeg + n.toNatClampNeg ≤ n0 := by show sp.toInt.toNat + n.toInt.toNat ≤ n0; omega
  have f5 : dp.toNatClampNeg + n.toNatClampNeg ≤ n1 := by show dp.toInt.toNat + n.toInt.toNat ≤ n1; omega
  have hfr : 1 ≤ R.frames := by rw [C.2.2.2.2.2.2.2.2.2.2.1]; exact hr.1
  have hlo : ((List.map (sm_cv (sm_ad base b aK)) r).map fun v => v.category).sum + (nativeFrameWords "java/lang/System" "arraycopy" 5 + 11) ≤ R.locals := by
    have h2 : R.locals = (mRm mi).locals := C.2.2.2.2.2.2.2.2.2.2.2
    have h3 := hr.2
    rw [sm_cat, h2]
    omega
  split at hs
  · rename_i ht
    subst ht
    cases hs
    intro H locs ls cells slots hS
    obtain ⟨-, e0⟩ := sm_lt hS hx0
    obtain ⟨hq1, e1⟩ := sm_lt hS hx1
    show W p l e R s m args below meth c H locs cells slots Q (F0 m pc ls (.int n :: .int dp :: .ref ((sm_ad base b aK) q1) :: .int sp :: .ref ((sm_ad base b aK) q0) :: _))
    rw [e0, e1]
    refine va_copyi C.1 C.2.1 (C.2.2.1.trans hS.2.2.2.1.1.symm) C.2.2.2.2.1 (hts _ hf.1) (hts _ hf.2.1) (hts _ hf.2.2.1) (hts _ hf.2.2.2) hK hS.1 sm_D hS.2.1 q0 q1 0 0 (sm_ar hx0 (by decide) (by decide)) (sm_ar hx1 (by decide) (by decide)) rfl rfl rfl (sm_nn g1) (sm_nn g2) (sm_nn g3) f4 f5 (fun _ _ => rfl) hfr hlo hd (fun H1 locs1 hP1 _ hS1 => ?_)
    rw [sm_setI (N := am_cpy μ.2.2.1 q0 q1 sp.toInt.toNat dp.toInt.toNat n.toInt.toNat) hx1 (fun k hk => am_row_ne hk) (by simp only [sm_ce, am_cpy, am_row_eq]; rfl)] at hP1
    exact k H1 locs1 ls cells slots (hS.wr rfl rfl (fun j _ => congrFun (am_row_ne (by omega)) j) hP1 hS1)
  · split at hs
    · rename_i ht
      obtain ⟨rfl, hfit⟩ := ht
      cases hs
      intro H locs ls cells slots hS
      obtain ⟨-, e0⟩ := sm_lt hS hx0
      obtain ⟨hq1, e1⟩ := sm_lt hS hx1
      show W p l e R s m args below meth c H locs cells slots Q (F0 m pc ls (.int n :: .int dp :: .ref ((sm_ad base b aK) q1) :: .int sp :: .ref ((sm_ad base b aK) q0) :: _))
      rw [e0, e1]
      refine va_copyi C.1 C.2.1 (C.2.2.1.trans hS.2.2.2.1.1.symm) C.2.2.2.2.1 (hts _ hf.1) (hts _ hf.2.1) (hts _ hf.2.2.1) (hts _ hf.2.2.2) hK hS.1 sm_D hS.2.1 q0 q1 1 1 (sm_ar hx0 (by decide) (by decide)) (sm_ar hx1 (by decide) (by decide)) rfl rfl rfl (sm_nn g1) (sm_nn g2) (sm_nn g3) f4 f5 hfit hfr hlo hd (fun H1 locs1 hP1 _ hS1 => ?_)
      rw [sm_setI (N := am_cpy μ.2.2.1 q0 q1 sp.toInt.toNat dp.toInt.toNat n.toInt.toNat) hx1 (fun k hk => am_row_ne hk) (by simp only [sm_ce, am_cpy, am_row_eq]; rfl)] at hP1
      exact k H1 locs1 ls cells slots (hS.wr rfl rfl (fun j _ => congrFun (am_row_ne (by omega)) j) hP1 hS1)
    · split at hs
      case isFalse => cases hs
      rename_i ht
      subst ht
      cases hs
      intro H locs ls cells slots hS
      obtain ⟨-, e0⟩ := sm_lt hS hx0
      obtain ⟨hq1, e1⟩ := sm_lt hS hx1
      show W p l e R s m args below meth c H locs cells slots Q (F0 m pc ls (.int n :: .int dp :: .ref ((sm_ad base b aK) q1) :: .int sp :: .ref ((sm_ad base b aK) q0) :: _))
      rw [e0, e1]
      refine va_copyd C.1 C.2.1 (C.2.2.1.trans hS.2.2.2.1.1.symm) C.2.2.2.2.1 (hts _ hf.1) (hts _ hf.2.1) (hts _ hf.2.2.1) (hts _ hf.2.2.2) hK hS.1 sm_D hS.2.1 q0 q1 3 3 (sm_ard hx0) (sm_ard hx1) rfl rfl rfl (sm_nn g1) (sm_nn g2) (sm_nn g3) f4 f5 (fun _ _ => rfl) hfr hlo hd (fun H1 locs1 hP1 _ hS1 => ?_)
      rw [sm_setD (N := am_cpy μ.2.2.2.1 q0 q1 sp.toInt.toNat dp.toInt.toNat n.toInt.toNat) hx1 (fun k hk => am_row_ne hk) (by simp only [sm_ce, am_cpy, am_row_eq]; rfl)] at hP1
      exact k H1 locs1 ls cells slots (hS.wr rfl rfl (fun j _ => rfl) hP1 hS1)
end SM
