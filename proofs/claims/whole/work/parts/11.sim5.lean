/-! WHICH INSTRUCTION IT IS; RETURNS; THE WHOLE WALK -/
def sm_yL : MethodName := ⟨"java/lang/String", "length", "()I"⟩
def sm_yH : MethodName := ⟨"java/lang/String", "charAt", "(I)C"⟩
def sm_wL : List Cond := Cond.code sm_yL prog_12_method_54_code 1 (some .int) :: KW
def sm_wH : List Cond := Cond.code sm_yH prog_12_method_56_code 2 (some .char) :: KW
/-- what is asked of the texts -/
def sm_str (l : Launch) (base : Nat) (aK : Nat → Nat) (SF : State → Prop) : Prop := sm_SF base SF ∧
  (∀ U, SF U → ∀ i, i < am_strs.length → aK i < base ∧ ∃ cell : Cell, U.heap[aK i]? = some cell ∧ cell.vm.isStatics = false ∧ U.vm.findClass "java/lang/String" = some cell.cls) ∧
  (∀ U, SF U → ∀ oc idx i w, (oc, idx, i, w) ∈ lkS → ∃ tx, vk_R (nmC oc) idx tx (aK i) U) ∧
  (∀ i, i < am_strs.length → Met l sm_yL sm_wL { frames := 2, cells := 0, slots := 0, locals := 60 } (va_Pc [.ref (aK i)] SF) (va_Qi (fun (r : Int32) (_ : Unit) => r = Int32.ofNat (am_strs.getD i []).length) (fun _ _ => True) (fun _ => False)) 0 0 (fun _ => False)) ∧
  (∀ i, i < am_strs.length → ∀ k : Int32, 0 ≤ k.toInt → k.toInt < ((am_strs.getD i []).length : Int) → Met l sm_yH sm_wH { frames := 4, cells := 0, slots := 0, locals := 140 } (va_Pc [.ref (aK i), .int k] SF) (va_Qi (fun (r : Int32) (_ : Unit) => r = Int32.ofNat ((am_strs.getD i []).getD k.toInt.toNat 0)) (fun _ _ => True) (fun _ => False)) 0 0 (fun _ => False))
def tb_F : Prop := ∀ oc idx ci k, ck_fl oc idx ci k = true → (ci < 10 ∧ k < am_fn ci) ∧ (Cond.fieldLink (nmC oc) idx (nmT ci k).1 (nmT ci k).2.1 (nmT ci k).2.2.1 ∈ KW ∧ ∀ w ∈ u_ws (nmC ci) (nmT ci) (am_fn ci), w ∈ KW)
def tb_O : Prop := ∀ ci, ci < 10 → Cond.instantiable (nmC ci) (am_fn ci) ∈ KW ∧ Cond.initialized (nmC ci) ∈ KW ∧ ∀ w ∈ u_ws (nmC ci) (nmT ci) (am_fn ci), w ∈ KW
def tb_L (lt : List (Nat × Nat × Nat × Nat)) (f : Nat → Nat → Nat → Cond) : Prop := ∀ oc idx x, ck_lk lt oc idx x = true → f oc idx x ∈ KW
def tb_M : Prop := ∀ oc idx y, ck_lk lkM oc idx y = true → Cond.methodLink (nmC oc) idx (mY y) ∈ KW ∧ y < 157
def tb_N : Prop := ∀ oc idx y, ck_lk lkN oc idx y = true → y < 157
def tb_I (lt : List (Nat × Nat × Nat)) (y : MethodName) : Prop := ∀ oc idx, lt.any (fun r => r.1 == oc && r.2.1 == idx) = true → Cond.methodLink (nmC oc) idx y ∈ KW
def tb_Y : Prop := ∀ y, y < 157 → sm_yF y ∧ (lkX[y]? = some 0 → Cond.instanceMethod (mY y) ∈ KW ∧ Cond.selects (mY y).cls (mY y) (mY y) ∈ KW) ∧ (lkX[y]? = some 1 → Cond.static (mY y) ∈ KW) ∧ (lkX[y]? = some 2 → Cond.instanceMethod (mY y) ∈ KW ∧ (mY y).name = "<init>" ∧ mR y = none)
def tb_Z : Prop := (Cond.instanceMethod objectInit ∈ KW ∧ Cond.code objectInit ⟨#[0xb1]⟩ 1 none ∈ KW) ∧ (Cond.native arraycopyName ∈ KW ∧ Cond.static arraycopyName ∈ KW ∧ Cond.initialized "java/lang/System" ∈ KW) ∧ (Cond.arrayClass .int ∈ KW ∧ Cond.arrayClass .char ∈ KW ∧ Cond.arrayClass .boolean ∈ KW ∧ Cond.arrayClass .double ∈ KW)
def tb_S : Prop := Cond.initialized "java/lang/String" ∈ KW ∧ (Cond.instanceMethod sm_yL ∈ KW ∧ Cond.selects "java/lang/String" sm_yL sm_yL ∈ KW ∧ Cond.code sm_yL prog_12_method_54_code 1 (some .int) ∈ KW) ∧ (Cond.instanceMethod sm_yH ∈ KW ∧ Cond.selects "java/lang/String" sm_yH sm_yH ∈ KW ∧ Cond.code sm_yH prog_12_method_56_code 2 (some .char) ∈ KW)
def tb_P : Prop := ∀ mi pc ins len info, prog mi pc = some (ins, len, info) → ck_i mi (pc, ins, len, info) = true
def sm_tab : Prop := tb_F ∧ tb_O ∧ tb_L lkC (fun oc idx ci => .classLink (nmC oc) idx (nmC ci)) ∧ tb_L lkK (fun oc idx v => .constant (nmC oc) idx (Int32.ofNat v)) ∧ tb_L lkD (fun oc idx v => .constantDouble (nmC oc) idx (UInt64.ofNat v)) ∧ tb_M ∧ tb_N ∧ tb_I lkI objectInit ∧ tb_I lkA arraycopyName ∧ tb_I lkL sm_yL ∧ tb_I lkH sm_yH ∧ tb_Y ∧ tb_Z ∧ tb_S ∧ tb_P
theorem sm_gi0 {y : MethodName} {bs : ByteArray} {n : Nat} {r : Option FieldType} (h : Cond.code y bs n r ∈ KW) : GoodIn KW (Cond.code y bs n r :: KW) := by
  intro w hw
  rcases List.mem_cons.mp hw with rfl | hw
  · exact ⟨h, KW_good h⟩
  · exact ⟨hw, KW_good hw⟩
section SM
variable {p : Program} {l : Launch} {e : Env} {R : Room} {s : State} {m : MethodId} {args : Array Value} {below : List Frame} {meth : Method} {c : Code} {Q : State → Prop}
variable {D : va_G} {ca : Nat → Nat} {base b : Nat} {aK : Nat → Nat} {sl : Nat} {xs : Nat → Int32} {SF : State → Prop} {mi pc pc' : Nat} {L st L' st' : List Value} {μ μ' : amM}
theorem sm_ad_s {q : Nat} (h : 1000001 ≤ q) : (sm_ad base b aK) q = aK (q - 1000001) := by
  have h1 : ¬ q < 1000000 := by omega
  have h2 : ¬ q = 1000000 := by omega
  simp [sm_ad, h1, h2]
/-- a text's method: what is answered, nothing else is changed -/
theorem sm_textK {H : Heap} {locs : List Loc} {ls : Array Slot} {cells slots : Nat} {st0 rest : List Value} {a0 : Array Value} {v : Int32} (hr : va_Run p l e R s m args below meth c H locs cells slots 0 0 (F0 m pc ls st0) rest (va_Qi (fun (r : Int32) (_ : Unit) => r = v) (fun _ _ => True) (fun _ => False) a0) (fun _ => False)) (hS : sm_S R s D ca base b aK sl xs mi μ H locs L ls cells slots)
    (kk : ∀ (H1 : Heap) (locs1 : List Loc), sm_S R s D ca base b aK sl xs mi μ H1 locs1 L ls cells slots → W p l e R s m args below meth c H1 locs1 cells slots Q (F0 m (pc + 3) ls (.int v :: rest))) : W p l e R s m args below meth c H locs cells slots Q (F0 m pc ls st0) := by
  refine va_calli hr hS.2.1 (fun q _ h => h.elim) (fun q h => h.elim) (fun r u t H1 locs1 ht hvm hw hB hz hk hS1 => ?_)
  rw [hw]
  have hP1 : va_P D nmCl (sm_ws (sm_ad base b aK) ca base μ) H1 := hS.1.kept (fun k x hx => hk x.1 ((hS.1 k x hx).lt) (fun h => h))
  exact kk H1 locs1 ⟨hP1, hS1, hS.2.2⟩
theorem sm_o_slen {idx : Nat} (hst : sm_str l base aK SF) (C : sm_C p R s m args meth c D ca base b aK sl xs SF mi) (hs : am_slen (pc + 3) L st μ = some (.inl (pc', L', st', μ'))) (k : sm_T p l e R s m args below meth c Q D ca base b aK sl xs mi pc' L' st' μ') (hd : decode (mB mi) pc = .ok (.invokevirtual idx, 3)) (hl : Cond.methodLink (nmC (mO mi)) idx sm_yL ∈ KW) (tbS : tb_S) (hr : 2 + 1 ≤ (mRm mi).frames ∧ 8 + (1 + 11) + 60 ≤ (mRm mi).locals) : sm_T p l e R s m args below meth c Q D ca base b aK sl xs mi pc L st μ := by
  unfold am_slen at hs
  split at hs
  case h_2 => cases hs
  rename_i q r
  split at hs
  case isFalse => cases hs
  rename_i hz
  cases hs
  obtain ⟨z1, z2, z3⟩ := hz
  intro H locs ls cells slots hS
  have hts := C.2.2.2.2.2.1
  have hSFs := C.2.2.2.2.2.2.2.2.1.2.2.2.2.2
  have hb := C.2.2.2.2.2.2.2.2.2.1
  obtain ⟨hlt, cell, c1, c2, c3⟩ := hst.2.1 s hSFs _ z2
  have cb := callB_of (own := nmC (mO mi)) (index := idx) (y := sm_yL) (bytes := prog_12_method_54_code) (maxL := 1) (ret := some .int) (rm := { frames := 2, cells := 0, slots := 0, locals := 60 }) (R := R) (mc := 0) (ms := 0) 0 hts (sm_gi0 tbS.2.1.2.2) rfl rfl rfl (hts _ tbS.1) (hts _ hl) ⟨by decide, by decide, by decide +kernel⟩ ⟨by rw [C.2.2.2.2.2.2.2.2.2.2.1]; exact hr.1, by rw [C.2.2.2.2.2.2.2.2.2.2.2]; exact hr.2⟩
  have hfix : CallFix p m c (mB mi) (am_nL mi) s args KW (nmC (mO mi)) := ⟨C.1, C.2.1, C.2.2.1, C.2.2.2.2.1, hts⟩
  have hW : 2 * (F0 m pc ls ((Value.ref q :: r).map (sm_cv (sm_ad base b aK)))).monitorRoom + ((r.map (sm_cv (sm_ad base b aK))).map fun v => v.category).sum ≤ 8 := lv_room (by rw [sm_cat]; exact z3)
  have hrun := va_runV (locs := locs) (cells := cells) (slots := slots) (e := e) (below := below) (meth := meth) (C := "java/lang/String") (b := aK (q - 1000001)) (H := H) (g := F0 m pc ls ((Value.ref q :: r).map (sm_cv (sm_ad base b aK)))) (rest := r.map (sm_cv (sm_ad base b aK))) (As := []) hfix (hst.2.2.2.1 _ z2) ⟨cb, hts _ tbS.2.1.1, hts _ tbS.2.1.2.1⟩ ⟨fun v U g mk h => ⟨h.1, hst.1.2 v U g mk h.2⟩, ⟨cell, by rw [hS.2.1.2.1 _ (by omega) (by omega)]; exact c1, c2, c3⟩, fun U hU hW2 => ⟨rfl, hst.1.1 s U hW2 hb (fun x hx => by rw [hU]; exact hS.2.1.2.1 x (by omega) (by omega)) hSFs⟩⟩ rfl rfl hS.2.2.2.1.1 (by
    show (Value.ref ((sm_ad base b aK) q) :: r.map (sm_cv (sm_ad base b aK))) = _
    rw [sm_ad_s z1]; rfl) hW hd ⟨by have := hS.2.2.2.2.1; omega, by have := hS.2.2.2.2.2.1; omega⟩
  exact sm_textK hrun hS (fun H1 locs1 hS1 => k H1 locs1 ls cells slots hS1)
theorem sm_o_sch {idx : Nat} (hst : sm_str l base aK SF) (C : sm_C p R s m args meth c D ca base b aK sl xs SF mi) (hs : am_sch (pc + 3) L st μ = some (.inl (pc', L', st', μ'))) (k : sm_T p l e R s m args below meth c Q D ca base b aK sl xs mi pc' L' st' μ') (hd : decode (mB mi) pc = .ok (.invokevirtual idx, 3)) (hl : Cond.methodLink (nmC (mO mi)) idx sm_yH ∈ KW) (tbS : tb_S) (hr : 4 + 1 ≤ (mRm mi).frames ∧ 8 + (2 + 11) + 140 ≤ (mRm mi).locals) : sm_T p l e R s m args below meth c Q D ca base b aK sl xs mi pc L st μ := by
  unfold am_sch at hs
  split at hs
  case h_2 => cases hs
  rename_i i q r
  split at hs
  case isFalse => cases hs
  rename_i hz
  cases hs
  obtain ⟨z1, z2, z3, z4, z5⟩ := hz
  intro H locs ls cells slots hS
  have hts := C.2.2.2.2.2.1
  have hSFs := C.2.2.2.2.2.2.2.2.1.2.2.2.2.2
  have hb := C.2.2.2.2.2.2.2.2.2.1
  obtain ⟨hlt, cell, c1, c2, c3⟩ := hst.2.1 s hSFs _ z2
  have cb := callB_of (own := nmC (mO mi)) (index := idx) (y := sm_yH) (bytes := prog_12_method_56_code) (maxL := 2) (ret := some .char) (rm := { frames := 4, cells := 0, slots := 0, locals := 140 }) (R := R) (mc := 0) (ms := 0) 1 hts (sm_gi0 tbS.2.2.2.2) rfl rfl rfl (hts _ tbS.1) (hts _ hl) ⟨by decide, by decide, by decide +kernel⟩ ⟨by rw [C.2.2.2.2.2.2.2.2.2.2.1]; exact hr.1, by rw [C.2.2.2.2.2.2.2.2.2.2.2]; exact hr.2⟩
  have hfix : CallFix p m c (mB mi) (am_nL mi) s args KW (nmC (mO mi)) := ⟨C.1, C.2.1, C.2.2.1, C.2.2.2.2.1, hts⟩
  have hW : 2 * (F0 m pc ls ((Value.int i :: Value.ref q :: r).map (sm_cv (sm_ad base b aK)))).monitorRoom + ((r.map (sm_cv (sm_ad base b aK))).map fun v => v.category).sum ≤ 8 := lv_room (by rw [sm_cat]; exact z3)
  have hrun := va_runV (locs := locs) (cells := cells) (slots := slots) (e := e) (below := below) (meth := meth) (C := "java/lang/String") (b := aK (q - 1000001)) (H := H) (g := F0 m pc ls ((Value.int i :: Value.ref q :: r).map (sm_cv (sm_ad base b aK)))) (rest := r.map (sm_cv (sm_ad base b aK))) (As := [.int i]) hfix (hst.2.2.2.2 _ z2 i z4 z5) ⟨cb, hts _ tbS.2.2.1, hts _ tbS.2.2.2.1⟩ ⟨fun v U g mk h => ⟨h.1, hst.1.2 v U g mk h.2⟩, ⟨cell, by rw [hS.2.1.2.1 _ (by omega) (by omega)]; exact c1, c2, c3⟩, fun U hU hW2 => ⟨rfl, hst.1.1 s U hW2 hb (fun x hx => by rw [hU]; exact hS.2.1.2.1 x (by omega) (by omega)) hSFs⟩⟩ rfl rfl hS.2.2.2.1.1 (by
    show (Value.int i :: Value.ref ((sm_ad base b aK) q) :: r.map (sm_cv (sm_ad base b aK))) = _
    rw [sm_ad_s z1]; rfl) hW hd ⟨by have := hS.2.2.2.2.1; omega, by have := hS.2.2.2.2.2.1; omega⟩
  exact sm_textK hrun hS (fun H1 locs1 hS1 => k H1 locs1 ls cells slots hS1)
theorem sm_o_ldc {idx : Nat} {info : List Nat} (hst : sm_str l base aK SF) (C : sm_C p R s m args meth c D ca base b aK sl xs SF mi) (hs : am_ldc (pc + 2) L st μ info = some (.inl (pc', L', st', μ'))) (k : sm_T p l e R s m args below meth c Q D ca base b aK sl xs mi pc' L' st' μ') (hd : decode (mB mi) pc = .ok (.ldc idx, 2)) (h0 : ∀ v, info = [0, v] → Cond.constant (nmC (mO mi)) idx (Int32.ofNat v) ∈ KW) (h1 : ∀ i, info = [1, i] → ∃ w, (mO mi, idx, i, w) ∈ lkS) : sm_T p l e R s m args below meth c Q D ca base b aK sl xs mi pc L st μ := by
  unfold am_ldc at hs
  split at hs
  · cases hs
    intro H locs ls cells slots hS
    exact lv_ldc C.1 C.2.1 C.2.2.2.2.1 (C.2.2.2.2.2.1 _ (h0 _ rfl)) hd (k H locs ls cells slots hS)
  · split at hs
    · rename_i i hi
      cases hs
      intro H locs ls cells slots hS
      obtain ⟨w, hw⟩ := h1 _ rfl
      obtain ⟨tx, htx⟩ := hst.2.2.1 s C.2.2.2.2.2.2.2.2.1.2.2.2.2.2 _ _ _ _ hw
      refine va_ldcS C.1 C.2.1 C.2.2.2.2.1 htx hd ?_
      have kk := k H locs ls cells slots hS
      rw [List.map_cons, show sm_cv (sm_ad base b aK) (.ref (1000001 + i)) = .ref (aK i) by
        simp only [sm_cv]; rw [sm_ad_s (Nat.le_add_right _ _), Nat.add_sub_cancel_left]] at kk
      exact kk
    · cases hs
  · cases hs

theorem am_vcall_no {na ci y : Nat} (h : am_vcall pc L st μ y na ci = some (.inl (pc', L', st', μ'))) : False := by
  unfold am_vcall at h
  split at h
  · split at h
    · cases h
    · cases h
  · cases h
theorem am_scall_no {na y : Nat} (h : am_scall pc L st μ y na = some (.inl (pc', L', st', μ'))) : False := by
  unfold am_scall at h
  split at h
  · cases h
  · cases h
theorem am_icall_no {na y : Nat} (h : am_icall pc L st μ y na = some (.inl (pc', L', st', μ'))) : False := by
  unfold am_icall at h
  split at h
  · split at h
    · cases h
    · cases h
  · cases h
theorem am_iret_no {info : List Nat} (h : am_iret st info = some (.inl (pc', L', st', μ'))) : False := by
  unfold am_iret at h
  split at h
  · cases h
  · split at h <;> cases h
  · split at h <;> cases h
  · cases h
set_option maxHeartbeats 4000000 in
theorem sm_next {ins : Instr} {len : Nat} {info : List Nat} (tb : sm_tab) (hst : sm_str l base aK SF) (C : sm_C p R s m args meth c D ca base b aK sl xs SF mi) (hp : prog mi pc = some (ins, len, info)) (hs : am_stp pc ins len info L st μ = some (.inl (pc', L', st', μ'))) (k : sm_T p l e R s m args below meth c Q D ca base b aK sl xs mi pc' L' st' μ') : sm_T p l e R s m args below meth c Q D ca base b aK sl xs mi pc L st μ := by
  have hck := tb.2.2.2.2.2.2.2.2.2.2.2.2.2.2 _ _ _ _ _ hp
  obtain ⟨hd0, hi⟩ := (Bool.and_eq_true _ _).mp (show (decide (decode (mB mi) pc = .ok (ins, len)) && ck_ins mi (mO mi) pc ins len info) = true from hck)
  have hd := of_decide_eq_true hd0
  clear hd0 hck hp
  cases ins
  case iconst n =>
    have hl : len = 1 := by simpa using (show (len == 1) = true from hi)
    subst hl
    exact sm_o_iconst hd C hs k
  case bipush n =>
    have hl : len = 2 := by simpa using (show (len == 2) = true from hi)
    subst hl
    exact sm_o_bipush hd C hs k
  case sipush n =>
    have hl : len = 3 := by simpa using (show (len == 3) = true from hi)
    subst hl
    exact sm_o_sipush hd C hs k
  case dconst d =>
    have hl : len = 1 := by simpa using (show (len == 1) = true from hi)
    subst hl
    exact sm_o_dconst hd C hs k
  case iload_n i =>
    have hl : len = 1 := by simpa using (show (len == 1) = true from hi)
    subst hl
    exact sm_o_iload_n hd C hs k
  case iload i =>
    have hl : len = 2 := by simpa using (show (len == 2) = true from hi)
    subst hl
    exact sm_o_iload hd C hs k
  case dload_n i =>
    have hl : len = 1 := by simpa using (show (len == 1) = true from hi)
    subst hl
    exact sm_o_dload_n hd C hs k
  case dload i =>
    have hl : len = 2 := by simpa using (show (len == 2) = true from hi)
    subst hl
    exact sm_o_dload hd C hs k
  case aload_n i =>
    have hl : len = 1 := by simpa using (show (len == 1) = true from hi)
    subst hl
    exact sm_o_aload_n hd C hs k
  case aload i =>
    have hl : len = 2 := by simpa using (show (len == 2) = true from hi)
    subst hl
    exact sm_o_aload hd C hs k
  case istore_n i =>
    have hl : len = 1 := by simpa using (show (len == 1) = true from hi)
    subst hl
    exact sm_o_istore_n hd C hs k
  case istore i =>
    have hl : len = 2 := by simpa using (show (len == 2) = true from hi)
    subst hl
    exact sm_o_istore hd C hs k
  case astore_n i =>
    have hl : len = 1 := by simpa using (show (len == 1) = true from hi)
    subst hl
    exact sm_o_astore_n hd C hs k
  case astore i =>
    have hl : len = 2 := by simpa using (show (len == 2) = true from hi)
    subst hl
    exact sm_o_astore hd C hs k
  case dstore_n i =>
    have hl : len = 1 := by simpa using (show (len == 1) = true from hi)
    subst hl
    exact sm_o_dstore_n hd C hs k
  case dstore i =>
    have hl : len = 2 := by simpa using (show (len == 2) = true from hi)
    subst hl
    exact sm_o_dstore hd C hs k
  case iinc i n =>
    have hl : len = 3 := by simpa using (show (len == 3) = true from hi)
    subst hl
    exact sm_o_iinc hd C hs k
  case iadd =>
    have hl : len = 1 := by simpa using (show (len == 1) = true from hi)
    subst hl
    exact sm_o_iadd hd C hs k
  case isub =>
    have hl : len = 1 := by simpa using (show (len == 1) = true from hi)
    subst hl
    exact sm_o_isub hd C hs k
  case imul =>
    have hl : len = 1 := by simpa using (show (len == 1) = true from hi)
    subst hl
    exact sm_o_imul hd C hs k
  case idiv =>
    have hl : len = 1 := by simpa using (show (len == 1) = true from hi)
    subst hl
    exact sm_o_idiv hd C hs k
  case irem =>
    have hl : len = 1 := by simpa using (show (len == 1) = true from hi)
    subst hl
    exact sm_o_irem hd C hs k
  case ineg =>
    have hl : len = 1 := by simpa using (show (len == 1) = true from hi)
    subst hl
    exact sm_o_ineg hd C hs k
  case ishl =>
    have hl : len = 1 := by simpa using (show (len == 1) = true from hi)
    subst hl
    exact sm_o_ishl hd C hs k
  case ishr =>
    have hl : len = 1 := by simpa using (show (len == 1) = true from hi)
    subst hl
    exact sm_o_ishr hd C hs k
  case iand =>
    have hl : len = 1 := by simpa using (show (len == 1) = true from hi)
    subst hl
    exact sm_o_iand hd C hs k
  case ior =>
    have hl : len = 1 := by simpa using (show (len == 1) = true from hi)
    subst hl
    exact sm_o_ior hd C hs k
  case ixor =>
    have hl : len = 1 := by simpa using (show (len == 1) = true from hi)
    subst hl
    exact sm_o_ixor hd C hs k
  case i2c =>
    have hl : len = 1 := by simpa using (show (len == 1) = true from hi)
    subst hl
    exact sm_o_i2c hd C hs k
  case i2d =>
    have hl : len = 1 := by simpa using (show (len == 1) = true from hi)
    subst hl
    exact sm_o_i2d hd C hs k
  case dmul =>
    have hl : len = 1 := by simpa using (show (len == 1) = true from hi)
    subst hl
    exact sm_o_dmul hd C hs k
  case dsub =>
    have hl : len = 1 := by simpa using (show (len == 1) = true from hi)
    subst hl
    exact sm_o_dsub hd C hs k
  case dcmp op =>
    have hl : len = 1 := by simpa using (show (len == 1) = true from hi)
    subst hl
    exact sm_o_dcmp hd C hs k
  case dup =>
    have hl : len = 1 := by simpa using (show (len == 1) = true from hi)
    subst hl
    exact sm_o_dup hd C hs k
  case dup2 =>
    have hl : len = 1 := by simpa using (show (len == 1) = true from hi)
    subst hl
    exact sm_o_dup2 hd C hs k
  case iaload =>
    have hl : len = 1 := by simpa using (show (len == 1) = true from hi)
    subst hl
    exact sm_o_iaload hd C hs k
  case caload =>
    have hl : len = 1 := by simpa using (show (len == 1) = true from hi)
    subst hl
    exact sm_o_caload hd C hs k
  case baload =>
    have hl : len = 1 := by simpa using (show (len == 1) = true from hi)
    subst hl
    exact sm_o_baload hd C hs k
  case iastore =>
    have hl : len = 1 := by simpa using (show (len == 1) = true from hi)
    subst hl
    exact sm_o_iastore hd C hs k
  case castore =>
    have hl : len = 1 := by simpa using (show (len == 1) = true from hi)
    subst hl
    exact sm_o_castore hd C hs k
  case bastore =>
    have hl : len = 1 := by simpa using (show (len == 1) = true from hi)
    subst hl
    exact sm_o_bastore hd C hs k
  case daload =>
    have hl : len = 1 := by simpa using (show (len == 1) = true from hi)
    subst hl
    exact sm_o_daload hd C hs k
  case dastore =>
    have hl : len = 1 := by simpa using (show (len == 1) = true from hi)
    subst hl
    exact sm_o_dastore hd C hs k
  case aaload =>
    have hl : len = 1 := by simpa using (show (len == 1) = true from hi)
    subst hl
    exact sm_o_aaload hd C hs k
  case aastore =>
    have hl : len = 1 := by simpa using (show (len == 1) = true from hi)
    subst hl
    exact sm_o_aastore hd C hs k
  case arraylength =>
    have hl : len = 1 := by simpa using (show (len == 1) = true from hi)
    subst hl
    exact sm_o_arraylength hd C hs k
  case ifCond cc off =>
    replace hi : (len == 3 && _) = true := hi
    obtain ⟨hl0, h3⟩ := (Bool.and_eq_true _ _).mp hi
    have hl : len = 3 := by simpa using hl0
    clear hi hl0
    subst hl
    have hi := h3
    clear h3
    have ho : ∀ t, info = [t] → (pc : Int) + off = (t : Int) := by
      intro t ht
      subst ht
      exact of_decide_eq_true hi
    cases cc
    case eq => exact sm_o_if_eq hd ho C hs k
    case ne => exact sm_o_if_ne hd ho C hs k
    case lt => exact sm_o_if_lt hd ho C hs k
    case ge => exact sm_o_if_ge hd ho C hs k
    case gt => exact sm_o_if_gt hd ho C hs k
    case le => exact sm_o_if_le hd ho C hs k
  case if_icmp cc off =>
    replace hi : (len == 3 && _) = true := hi
    obtain ⟨hl0, h3⟩ := (Bool.and_eq_true _ _).mp hi
    have hl : len = 3 := by simpa using hl0
    clear hi hl0
    subst hl
    have hi := h3
    clear h3
    have ho : ∀ t, info = [t] → (pc : Int) + off = (t : Int) := by
      intro t ht
      subst ht
      exact of_decide_eq_true hi
    cases cc
    case eq => exact sm_o_icmp_eq hd ho C hs k
    case ne => exact sm_o_icmp_ne hd ho C hs k
    case lt => exact sm_o_icmp_lt hd ho C hs k
    case ge => exact sm_o_icmp_ge hd ho C hs k
    case gt => exact sm_o_icmp_gt hd ho C hs k
    case le => exact sm_o_icmp_le hd ho C hs k
  case goto off =>
    replace hi : (len == 3 && _) = true := hi
    obtain ⟨hl0, h3⟩ := (Bool.and_eq_true _ _).mp hi
    have hl : len = 3 := by simpa using hl0
    clear hi hl0
    subst hl
    have hi := h3
    clear h3
    have ho : ∀ t, info = [t] → (pc : Int) + off = (t : Int) := by
      intro t ht
      subst ht
      exact of_decide_eq_true hi
    exact sm_o_goto hd ho C hs k
  case tableswitch d lo hi2 offs =>
    refine sm_o_tsw hd (fun t ts ht => ?_) C hs k
    subst ht
    have hi : (ck_off pc d t && ck_tg pc offs.toList ts) = true := hi
    obtain ⟨g1, g2⟩ := (Bool.and_eq_true _ _).mp hi
    exact ⟨of_decide_eq_true g1, g2⟩
  case lookupswitch d ps =>
    exact sm_o_lsw hd hi C hs k
  case ldc2_w x =>
    replace hi : (len == 3 && _) = true := hi
    obtain ⟨hl0, h3⟩ := (Bool.and_eq_true _ _).mp hi
    have hl : len = 3 := by simpa using hl0
    clear hi hl0
    subst hl
    have hi := h3
    clear h3
    have hs : (match (generalizing := false) info with
      | [v] => am_nx (pc + 3) L (.double (UInt64.ofNat v) :: st) μ
      | _ => none : amR) = some (.inl (pc', L', st', μ')) := hs
    split at hs
    · rename_i v
      cases hs
      intro H locs ls cells slots hS
      exact lv_ldc2d C.1 C.2.1 C.2.2.2.2.1 (C.2.2.2.2.2.1 _ (tb.2.2.2.2.1 _ _ _ hi)) hd (k H locs ls cells slots hS)
    · cases hs
  case ldc x =>
    replace hi : (len == 2 && _) = true := hi
    obtain ⟨hl0, h3⟩ := (Bool.and_eq_true _ _).mp hi
    have hl : len = 2 := by simpa using hl0
    clear hi hl0
    subst hl
    have hi := h3
    clear h3
    refine sm_o_ldc hst C hs k hd (fun v hv => ?_) (fun i hv => ?_)
    · subst hv
      exact tb.2.2.2.1 _ _ _ hi
    · subst hv
      exact ck_lk_of hi
  case getfield x =>
    replace hi : (len == 3 && _) = true := hi
    obtain ⟨hl0, h3⟩ := (Bool.and_eq_true _ _).mp hi
    have hl : len = 3 := by simpa using hl0
    clear hi hl0
    subst hl
    have hi := h3
    clear h3
    refine sm_o_getfield hd (fun ci kf kd ht => ?_) C hs k
    subst ht
    have hi : (ck_fl (mO mi) x ci kf && ck_kd ci kf kd) = true := hi
    obtain ⟨g1, g2⟩ := (Bool.and_eq_true _ _).mp hi
    have hkd : ck_kd ci kf kd = true → (kd = 0 ↔ (nmT ci kf).2.2.1 = "I") := fun h => by
      unfold ck_kd at h
      split at h
      · rename_i h0
        exact ⟨fun _ => of_decide_eq_true h, fun _ => h0⟩
      · rename_i h0
        simp only [Bool.and_eq_true, decide_eq_true_eq] at h
        exact ⟨fun z => absurd z h0, fun z => absurd z h.2.2⟩
    exact ⟨(tb.1 _ _ _ _ g1).1, (tb.1 _ _ _ _ g1).2, hkd g2⟩
  case putfield x =>
    replace hi : (len == 3 && _) = true := hi
    obtain ⟨hl0, h3⟩ := (Bool.and_eq_true _ _).mp hi
    have hl : len = 3 := by simpa using hl0
    clear hi hl0
    subst hl
    have hi := h3
    clear h3
    refine sm_o_putfield hd (fun ci kf kd ht => ?_) C hs k
    subst ht
    have hi : (ck_fl (mO mi) x ci kf && (ck_kd ci kf kd && (if (nmT ci kf).2.2.2 = true then decide ((mY mi).name = "<init>") && decide ((nmT ci kf).1 = nmC (mO mi)) else true))) = true := hi
    obtain ⟨g1, g2⟩ := (Bool.and_eq_true _ _).mp hi
    obtain ⟨g2, g3⟩ := (Bool.and_eq_true _ _).mp g2
    have hkd : ck_kd ci kf kd = true → (kd = 0 ↔ (nmT ci kf).2.2.1 = "I") := fun h => by
      unfold ck_kd at h
      split at h
      · rename_i h0
        exact ⟨fun _ => of_decide_eq_true h, fun _ => h0⟩
      · rename_i h0
        simp only [Bool.and_eq_true, decide_eq_true_eq] at h
        exact ⟨fun z => absurd z h0, fun z => absurd z h.2.2⟩
    refine ⟨(tb.1 _ _ _ _ g1).1, (tb.1 _ _ _ _ g1).2, hkd g2, fun hf => ?_⟩
    rw [if_pos hf] at g3
    simp only [Bool.and_eq_true, decide_eq_true_eq] at g3
    exact g3
  case new x =>
    replace hi : (len == 3 && _) = true := hi
    obtain ⟨hl0, h3⟩ := (Bool.and_eq_true _ _).mp hi
    have hl : len = 3 := by simpa using hl0
    clear hi hl0
    subst hl
    have hi := h3
    clear h3
    have hs : (match (generalizing := false) info with
      | [v] => am_new (pc + 3) L st μ (.inl v) (am_fn v)
      | _ => none : amR) = some (.inl (pc', L', st', μ')) := hs
    split at hs
    · rename_i ci _
      have hi : (ck_lk lkC (mO mi) x ci && decide (ci < 10)) = true := hi
      obtain ⟨g1, g2⟩ := (Bool.and_eq_true _ _).mp hi
      have g2 := of_decide_eq_true g2
      exact sm_o_new hd g2 ⟨tb.2.2.1 _ _ _ g1, tb.2.1 ci g2⟩ C hs k
    · cases hs
  case newarray a =>
    replace hi : (len == 2 && _) = true := hi
    obtain ⟨hl0, h3⟩ := (Bool.and_eq_true _ _).mp hi
    have hl : len = 2 := by simpa using hl0
    clear hi hl0
    subst hl
    have hi := h3
    clear h3
    have hs : (match (generalizing := false) info with
      | [v] => am_newa (pc + 2) v L st μ
      | _ => none : amR) = some (.inl (pc', L', st', μ')) := hs
    split at hs
    · rename_i t _
      have hi : ck_at a t = true := hi
      have hZ := tb.2.2.2.2.2.2.2.2.2.2.2.2.1.2.2
      refine sm_o_newarray hd hi ?_ C hs k
      match a, t, hi with
      | .int, 0, _ => exact hZ.1
      | .char, 1, _ => exact hZ.2.1
      | .boolean, 2, _ => exact hZ.2.2.1
      | .double, 3, _ => exact hZ.2.2.2
    · cases hs
  case anewarray x =>
    replace hi : (len == 3 && _) = true := hi
    obtain ⟨hl0, h3⟩ := (Bool.and_eq_true _ _).mp hi
    have hl : len = 3 := by simpa using hl0
    clear hi hl0
    subst hl
    have hi := h3
    clear h3
    exact sm_o_anewarray hd (tb.2.2.1 _ _ _ hi) C hs k
  case invokevirtual x =>
    replace hi : (len == 3 && _) = true := hi
    obtain ⟨hl0, h3⟩ := (Bool.and_eq_true _ _).mp hi
    have hl : len = 3 := by simpa using hl0
    clear hi hl0
    subst hl
    have hi := h3
    clear h3
    have hi : ck_call mi (mO mi) x 0 info = true := hi
    have hs : am_call (pc + 3) L st μ info = some (.inl (pc', L', st', μ')) := hs
    unfold am_call at hs
    split at hs
    case h_1 => exact (am_vcall_no hs).elim
    case h_2 => exact (am_scall_no hs).elim
    case h_3 => exact (am_icall_no hs).elim
    case h_4 => exact (am_scall_no hs).elim
    case h_5 => exact (am_icall_no hs).elim
    case h_6 => exact absurd hi (by simp [ck_call])
    case h_7 => exact absurd hi (by simp [ck_call])
    case h_8 => 
      simp only [ck_call, Bool.and_eq_true, decide_eq_true_eq] at hi
      exact sm_o_slen hst C hs k hd (tb.2.2.2.2.2.2.2.2.2.1 _ _ (by simpa using hi.2.1)) tb.2.2.2.2.2.2.2.2.2.2.2.2.2.1 hi.2.2
    case h_9 => 
      simp only [ck_call, Bool.and_eq_true, decide_eq_true_eq] at hi
      exact sm_o_sch hst C hs k hd (tb.2.2.2.2.2.2.2.2.2.2.1 _ _ (by simpa using hi.2.1)) tb.2.2.2.2.2.2.2.2.2.2.2.2.2.1 hi.2.2
    case h_10 => cases hs
  case invokestatic x =>
    replace hi : (len == 3 && _) = true := hi
    obtain ⟨hl0, h3⟩ := (Bool.and_eq_true _ _).mp hi
    have hl : len = 3 := by simpa using hl0
    clear hi hl0
    subst hl
    have hi := h3
    clear h3
    have hi : ck_call mi (mO mi) x 1 info = true := hi
    have hs : am_call (pc + 3) L st μ info = some (.inl (pc', L', st', μ')) := hs
    unfold am_call at hs
    split at hs
    case h_1 => exact (am_vcall_no hs).elim
    case h_2 => exact (am_scall_no hs).elim
    case h_3 => exact (am_icall_no hs).elim
    case h_4 => exact (am_scall_no hs).elim
    case h_5 => exact (am_icall_no hs).elim
    case h_6 => exact absurd hi (by simp [ck_call])
    case h_7 => 
      simp only [ck_call, Bool.and_eq_true, decide_eq_true_eq] at hi
      have hZ := tb.2.2.2.2.2.2.2.2.2.2.2.2.1.2.1
      exact sm_o_copy hd ⟨tb.2.2.2.2.2.2.2.2.1 _ _ (by simpa using hi.2.1), hZ⟩ hi.2.2 C hs k
    case h_8 => exact absurd hi (by simp [ck_call])
    case h_9 => exact absurd hi (by simp [ck_call])
    case h_10 => cases hs
  case invokespecial x =>
    replace hi : (len == 3 && _) = true := hi
    obtain ⟨hl0, h3⟩ := (Bool.and_eq_true _ _).mp hi
    have hl : len = 3 := by simpa using hl0
    clear hi hl0
    subst hl
    have hi := h3
    clear h3
    have hi : ck_call mi (mO mi) x 2 info = true := hi
    have hs : am_call (pc + 3) L st μ info = some (.inl (pc', L', st', μ')) := hs
    unfold am_call at hs
    split at hs
    case h_1 => exact (am_vcall_no hs).elim
    case h_2 => exact (am_scall_no hs).elim
    case h_3 => exact (am_icall_no hs).elim
    case h_4 => exact (am_scall_no hs).elim
    case h_5 => exact (am_icall_no hs).elim
    case h_6 => 
      simp only [ck_call, Bool.and_eq_true, decide_eq_true_eq] at hi
      have hZ := tb.2.2.2.2.2.2.2.2.2.2.2.2.1.1
      exact sm_o_oinit hd ⟨tb.2.2.2.2.2.2.2.1 _ _ (by simpa using hi.2.1), hZ⟩ hi.2.2 C hs k
    case h_7 => exact absurd hi (by simp [ck_call])
    case h_8 => exact absurd hi (by simp [ck_call])
    case h_9 => exact absurd hi (by simp [ck_call])
    case h_10 => cases hs
  case ireturn => exact (am_iret_no hs).elim
  case areturn =>
    have hs : (match (generalizing := false) st with
      | [.ref q] => some (.inr (.inr (some (.ref q))))
      | _ => none : amR) = some (.inl (pc', L', st', μ')) := hs
    split at hs <;> cases hs
  case dreturn =>
    have hs : (match (generalizing := false) st with
      | [.double q] => some (.inr (.inr (some (.double q))))
      | _ => none : amR) = some (.inl (pc', L', st', μ')) := hs
    split at hs <;> cases hs
  case return_ =>
    have hs : (match (generalizing := false) st with
      | [] => some (.inr (.inr none))
      | _ => none : amR) = some (.inl (pc', L', st', μ')) := hs
    split at hs <;> cases hs
  all_goals exact nomatch hs
end SM
