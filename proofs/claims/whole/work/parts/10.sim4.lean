/-! CALLS AND RETURNS -/
def sm_wd (y : Nat) : List Cond := Cond.code (mY y) (mB y) (am_nL y) (mR y) :: KW
def sm_Qc (D : va_G) (ca : Nat → Nat) (base b : Nat) (aK : Nat → Nat) (sl : Nat) (xs : Nat → Int32) (rv : Option Value) (μ' : amM) : Array Value → State → Outcome → State → Prop := fun _ st oc t => (oc = .returned (rv.map (sm_cv (sm_ad base b aK))) ∧ va_P D nmCl (sm_ws (sm_ad base b aK) ca base μ') t.heap ∧ (∀ j, j < sl → μ'.2.2.1 1000000 j = xs j) ∧ μ'.1.length ≤ 1000000) ∧ va_F (fun q => base ≤ q) st t
def sm_Pc (D : va_G) (ca : Nat → Nat) (base b : Nat) (aK : Nat → Nat) (sl : Nat) (xs : Nat → Int32) (SF : State → Prop) (a : List Value) (μ : amM) : Array Value → State → Prop := va_Pc (a.map (sm_cv (sm_ad base b aK))) (fun U => sm_G D ca base b sl xs SF U ∧ va_P D nmCl (sm_ws (sm_ad base b aK) ca base μ) U.heap ∧ U.heap.size = base + μ.1.length)
def sm_Met (l : Launch) (D : va_G) (ca : Nat → Nat) (base b : Nat) (aK : Nat → Nat) (sl : Nat) (xs : Nat → Int32) (SF : State → Prop) (y : Nat) (a : List Value) (μ : amM) (rv : Option Value) (μ' : amM) : Prop := Met l (mY y) (sm_wd y) (mRm y) (sm_Pc D ca base b aK sl xs SF a μ) (sm_Qc D ca base b aK sl xs rv μ') (am_mc y) (am_ms y) (fun q => base ≤ q)
/-- what stays of a fact about texts -/
def sm_SF (base : Nat) (SF : State → Prop) : Prop := (∀ (u U : State), u.WarmedH U.vm → base ≤ u.heap.size → (∀ q, q < base → U.heap[q]? = u.heap[q]?) → SF u → SF U) ∧ (∀ (a : Array Value) (U : State) (g : JFrame) (mk : MethodId), SF U → SF (U.calling g mk a))
def sm_yF (y : Nat) : Prop := Cond.code (mY y) (mB y) (am_nL y) (mR y) ∈ KW ∧ Cond.initialized (mY y).cls ∈ KW ∧ ((mY y).cls ≠ "java/lang/invoke/MethodHandle" ∧ (mY y).cls ≠ "java/lang/invoke/VarHandle") ∧ (mRm y).cells = am_mc y ∧ (mRm y).slots = am_ms y ∧ plainName (mY y).cls = true ∧ (mY y).cls = nmC (mO y)
theorem KW_good {w : Cond} (h : w ∈ KW) : (w.onTables && w.keeps) = true ∨ ∃ ty, w = .arrayClass ty := good_of_word (List.mem_filter.mp h).2
theorem sm_gi {y : Nat} (h : sm_yF y) : GoodIn KW (sm_wd y) := by
  intro w hw
  rcases List.mem_cons.mp hw with rfl | hw
  · exact ⟨h.1, KW_good h.1⟩
  · exact ⟨hw, KW_good hw⟩
section SM
variable {p : Program} {l : Launch} {e : Env} {R : Room} {s : State} {m : MethodId} {args : Array Value} {below : List Frame} {meth : Method} {c : Code} {Q : State → Prop}
variable {D : va_G} {ca : Nat → Nat} {base b : Nat} {aK : Nat → Nat} {sl : Nat} {xs : Nat → Int32} {SF : State → Prop} {mi pc pc' : Nat} {L st L' st' : List Value} {μ μ' : amM}
theorem sm_G.blind {U : State} {g : JFrame} {mk : MethodId} {a : Array Value} (hSF : sm_SF base SF) (h : sm_G D ca base b sl xs SF U) : sm_G D ca base b sl xs SF (U.calling g mk a) := by
  obtain ⟨h1, h2, h3, h4, h5, h6⟩ := h
  exact ⟨va_K.moved (u := U) (U := U.calling g mk a) (Vm.Alike.refl U.vm) h1, fun r hr => va_Nw.same rfl rfl (h2 r hr), va_AO.moved (u := U) (U := U.calling g mk a) (Vm.Alike.refl U.vm) h3, (va_X.moved (u := U) (U := U.calling g mk a) (Vm.Alike.refl U.vm) h4), h5, hSF.2 a U g mk h6⟩
theorem sm_Pc_blind {a : List Value} (hSF : sm_SF base SF) : FrameBlind (sm_Pc D ca base b aK sl xs SF a μ) := by
  intro v U g mk h
  obtain ⟨h1, h2, h3, h4⟩ := h
  exact ⟨h1, h2.blind hSF, h3, h4⟩
theorem sm_G.moved {U : State} {locs : List Loc} (hSF : sm_SF base SF) (hb : base ≤ s.heap.size) (hW : s.WarmedH U.vm) (hS : va_S (fun q => base ≤ q) s.heap U.heap locs) (h : sm_G D ca base b sl xs SF s) : sm_G D ca base b sl xs SF U := by
  obtain ⟨h1, h2, h3, h4, h5, h6⟩ := h
  refine ⟨va_K.moved hW.alike h1, fun r hr => va_Nw.warmM hW (h2 r hr), va_AO.moved hW.alike h3, (va_X.moved hW.alike h4).kept (hS.2.1 b (by omega) (by omega)), h5, hSF.1 s U hW hb (fun q hq => hS.2.1 q (by omega) (by omega)) h6⟩
theorem sm_callK {mc ms : Nat} {H : Heap} {locs : List Loc} {ls : Array Slot} {cells slots : Nat} {st0 rest : List Value} {a0 : Array Value} {rv : Option Value} (hr : va_Run p l e R s m args below meth c H locs cells slots mc ms (F0 m pc ls st0) rest (sm_Qc D ca base b aK sl xs rv μ' a0) (fun q => base ≤ q)) (hS : va_S (fun q => base ≤ q) s.heap H locs)
    (kk : ∀ (H1 : Heap) (locs1 : List Loc), va_P D nmCl (sm_ws (sm_ad base b aK) ca base μ') H1 → (∀ j, j < sl → μ'.2.2.1 1000000 j = xs j) → μ'.1.length ≤ 1000000 → va_S (fun q => base ≤ q) s.heap H1 locs1 → W p l e R s m args below meth c H1 locs1 (cells + mc) (slots + ms) Q (F0 m (pc + 3) ls ((rv.map (sm_cv (sm_ad base b aK))).toList ++ rest))) : W p l e R s m args below meth c H locs cells slots Q (F0 m pc ls st0) := by
  intro T hT X
  obtain ⟨v, st₀, t, T', L, h0, X', hL, e1, e2, ⟨⟨hv, hP, hx, hl⟩, hz, hk⟩, st⟩ := hr T hT X
  cases hv
  rw [h0] at hz hk
  obtain ⟨t2, a1, b1⟩ := kk T'.heap (locs ++ L) (by rw [e1]; exact hP) hx hl
    ⟨Nat.le_trans hS.1 (by rw [e1]; exact hz), fun q h1 h2 => by rw [e1, hk q (Nat.lt_of_lt_of_le h1 hS.1) h2]; exact hS.2.1 q h1 h2, fun q hq => by
      rcases List.mem_append.mp hq with h | h
      · exact hS.2.2 q h
      · exact hL q h⟩ T' rfl X'
  exact ⟨t2, st t2 a1, b1⟩
theorem sm_rest {rv : Option Value} {r : List Value} : (rv.map (sm_cv (sm_ad base b aK))).toList ++ r.map (sm_cv (sm_ad base b aK)) = (rv.toList ++ r).map (sm_cv (sm_ad base b aK)) := by cases rv <;> simp
/-- behind a call -/
theorem sm_after {y : Nat} {H H1 : Heap} {locs locs1 : List Loc} {ls : Array Slot} {cells slots : Nat} (hS : sm_S R s D ca base b aK sl xs mi μ H locs L ls cells slots) (hm : am_mc y ≤ μ.2.1.1 ∧ am_ms y ≤ μ.2.1.2.1) (hg : μ'.1.length = μ.1.length + am_mc y) (hP : va_P D nmCl (sm_ws (sm_ad base b aK) ca base μ') H1) (hx : ∀ j, j < sl → μ'.2.2.1 1000000 j = xs j) (hl : μ'.1.length ≤ 1000000) (hS1 : va_S (fun q => base ≤ q) s.heap H1 locs1) : sm_S R s D ca base b aK sl xs mi (am_out y μ μ') H1 locs1 L ls (cells + am_mc y) (slots + am_ms y) := by
  obtain ⟨a1, a2, a3, a4, a5, a6, a7, a8, a9⟩ := hS
  refine ⟨hP, hS1, ?_, a4, ?_, ?_, a7, hx, hl⟩
  · show s.heap.size + (cells + am_mc y) = base + μ'.1.length
    omega
  · show cells + am_mc y + (μ.2.1.1 - am_mc y) ≤ R.cells
    omega
  · show slots + am_ms y + (μ.2.1.2.1 - am_ms y) ≤ R.slots
    omega
/-- at a call: what the callee asks for -/
theorem sm_pre {y : Nat} {a : List Value} {H : Heap} {locs : List Loc} {ls : Array Slot} {cells slots : Nat} (hSF : sm_SF base SF) (C : sm_C p R s m args meth c D ca base b aK sl xs SF mi) (hS : sm_S R s D ca base b aK sl xs mi μ H locs L ls cells slots) (hub : H.size ≤ s.heap.size + cells) : ∀ U : State, U.heap = H → s.WarmedH U.vm → sm_Pc D ca base b aK sl xs SF a (am_in0 y μ) (a.map (sm_cv (sm_ad base b aK))).toArray U := by
  intro U hU hW
  have hb := C.2.2.2.2.2.2.2.2.2.1
  have hlb := sm_lb hb hS
  have h3 := hS.2.2.1
  refine ⟨rfl, sm_G.moved (locs := locs) hSF hb hW (by rw [hU]; exact hS.2.1) C.2.2.2.2.2.2.2.2.1, by rw [hU]; exact hS.1, ?_⟩
  rw [hU]
  show H.size = base + μ.1.length
  omega
theorem sm_split {st : List Value} {na : Nat} {a : List Value} (h : (st.take na).reverse = a) : st = a.reverse ++ st.drop na := by
  rw [← h, List.reverse_reverse, List.take_append_drop]

theorem sm_o_callS {y idx na : Nat} {a : List Value} {rv : Option Value} (hSF : sm_SF base SF) (C : sm_C p R s m args meth c D ca base b aK sl xs SF mi) (hM : sm_Met l D ca base b aK sl xs SF y a (am_in0 y μ) rv μ') (hy : sm_yF y) (hroom : (mRm y).frames + 1 ≤ (mRm mi).frames ∧ 8 + (am_nL y + 11) + (mRm y).locals ≤ (mRm mi).locals) (hb2 : am_mc y ≤ μ.2.1.1 ∧ am_ms y ≤ μ.2.1.2.1) (hg : μ'.1.length = μ.1.length + am_mc y) (hcat : am_cat (st.drop na) ≤ 8) (hlen : (st.take na).length = na) (hrev : (st.take na).reverse = a) (k : sm_T p l e R s m args below meth c Q D ca base b aK sl xs mi (pc + 3) L (rv.toList ++ st.drop na) (am_out y μ μ')) (hd : decode (mB mi) pc = .ok (.invokestatic idx, 3)) (hl : Cond.methodLink (nmC (mO mi)) idx (mY y) ∈ KW ∧ Cond.static (mY y) ∈ KW) (hp : (parseMethodDescriptor (mY y).desc).map (fun d => d.parameters.length) = some na) : sm_T p l e R s m args below meth c Q D ca base b aK sl xs mi pc L st μ := by
  intro H locs ls cells slots hS
  refine sm_sz (fun hub => ?_)
  have hts := C.2.2.2.2.2.1
  have hst := sm_split hrev
  have hfc : cells + am_mc y ≤ R.cells ∧ slots + am_ms y ≤ R.slots := ⟨by have := hS.2.2.2.2.1; omega, by have := hS.2.2.2.2.2.1; omega⟩
  have hfix : CallFix p m c (mB mi) (am_nL mi) s args KW (nmC (mO mi)) := ⟨C.1, C.2.1, C.2.2.1, C.2.2.2.2.1, hts⟩
  have hWk : 2 * (F0 m pc ls (st.map (sm_cv (sm_ad base b aK)))).monitorRoom + (((st.drop na).map (sm_cv (sm_ad base b aK))).map fun v => v.category).sum ≤ 8 := lv_room (by rw [sm_cat]; exact hcat)
  have cb := callB_of (own := nmC (mO mi)) (index := idx) (y := mY y) (bytes := mB y) (maxL := am_nL y) (ret := mR y) (rm := mRm y) (R := R) na hts (sm_gi hy) rfl hy.2.2.2.1 hy.2.2.2.2.1 (hts _ hy.2.1) (hts _ hl.1) ⟨hy.2.2.1.1, hy.2.2.1.2, hp⟩ ⟨by rw [C.2.2.2.2.2.2.2.2.2.2.1]; exact hroom.1, by rw [C.2.2.2.2.2.2.2.2.2.2.2]; exact hroom.2⟩
  have hrun := va_runS (locs := locs) (e := e) (below := below) (meth := meth) (g := F0 m pc ls (st.map (sm_cv (sm_ad base b aK)))) (rest := (st.drop na).map (sm_cv (sm_ad base b aK))) (As := a.map (sm_cv (sm_ad base b aK))) hfix hM ⟨cb, hts _ hl.2⟩ ⟨sm_Pc_blind hSF, sm_pre hSF C hS hub⟩ rfl (by rw [List.length_map, ← hrev, List.length_reverse, hlen]) hS.2.2.2.1.1 (by
    show st.map (sm_cv (sm_ad base b aK)) = _
    conv => lhs; rw [hst]
    rw [List.map_append, List.map_reverse]) hWk hd hfc
  refine sm_callK hrun hS.2.1 (fun H1 locs1 hP1 hx1 hl1 hS1 => ?_)
  rw [sm_rest]
  exact k H1 locs1 ls _ _ (sm_after hS hb2 hg hP1 hx1 hl1 hS1)
theorem sm_o_callSN {y idx na : Nat} {a : List Value} {rv : Option Value} (hSF : sm_SF base SF) (C : sm_C p R s m args meth c D ca base b aK sl xs SF mi) (hM : sm_Met l D ca base b aK sl xs SF y a (am_in0 y μ) rv μ') (hy : sm_yF y) (hroom : (mRm y).frames + 1 ≤ (mRm mi).frames ∧ 8 + (am_nL y + 11) + (mRm y).locals ≤ (mRm mi).locals) (hb2 : am_mc y ≤ μ.2.1.1 ∧ am_ms y ≤ μ.2.1.2.1) (hg : μ'.1.length = μ.1.length + am_mc y) (hcat : am_cat (st.drop na) ≤ 8) (hlen : (st.take na).length = na) (hrev : (st.take na).reverse = a) (k : sm_T p l e R s m args below meth c Q D ca base b aK sl xs mi (pc + 3) L (rv.toList ++ st.drop na) (am_out y μ μ')) (hd : decode (mB mi) pc = .ok (.invokestatic idx, 3)) (hl : (∃ w, (mO mi, idx, y, w) ∈ lkN) ∧ Cond.static (mY y) ∈ KW) (hp : (parseMethodDescriptor (mY y).desc).map (fun d => d.parameters.length) = some na) : sm_T p l e R s m args below meth c Q D ca base b aK sl xs mi pc L st μ := by
  intro H locs ls cells slots hS
  refine sm_sz (fun hub => ?_)
  have hts := C.2.2.2.2.2.1
  have hst := sm_split hrev
  have hfc : cells + am_mc y ≤ R.cells ∧ slots + am_ms y ≤ R.slots := ⟨by have := hS.2.2.2.2.1; omega, by have := hS.2.2.2.2.2.1; omega⟩
  have hfix : CallFix p m c (mB mi) (am_nL mi) s args KW (nmC (mO mi)) := ⟨C.1, C.2.1, C.2.2.1, C.2.2.2.2.1, hts⟩
  have hWk : 2 * (F0 m pc ls (st.map (sm_cv (sm_ad base b aK)))).monitorRoom + (((st.drop na).map (sm_cv (sm_ad base b aK))).map fun v => v.category).sum ≤ 8 := lv_room (by rw [sm_cat]; exact hcat)
  obtain ⟨w, hw⟩ := hl.1
  have hnl : va_Nw (.methodLinkNest (nmC (mO mi)) idx (mY y) "ReleaseDesk") s := C.2.2.2.2.2.2.2.2.1.2.1 (mO mi, idx, y, w) hw
  have cb := va_cnB (own := nmC (mO mi)) (host := "ReleaseDesk") (index := idx) (y := mY y) (bytes := mB y) (maxL := am_nL y) (ret := mR y) (rm := mRm y) (R := R) na hts (sm_gi hy) rfl hy.2.2.2.1 hy.2.2.2.2.1 hnl (hts _ hy.2.1) ⟨hy.2.2.1.1, hy.2.2.1.2, hp⟩ ⟨by rw [C.2.2.2.2.2.2.2.2.2.2.1]; exact hroom.1, by rw [C.2.2.2.2.2.2.2.2.2.2.2]; exact hroom.2⟩
  have hrun := va_runSN (locs := locs) (e := e) (below := below) (meth := meth) (g := F0 m pc ls (st.map (sm_cv (sm_ad base b aK)))) (rest := (st.drop na).map (sm_cv (sm_ad base b aK))) (As := a.map (sm_cv (sm_ad base b aK))) hfix hM ⟨cb, hts _ hl.2, trivial⟩ ⟨sm_Pc_blind hSF, sm_pre hSF C hS hub⟩ rfl (by rw [List.length_map, ← hrev, List.length_reverse, hlen]) hS.2.2.2.1.1 (by
    show st.map (sm_cv (sm_ad base b aK)) = _
    conv => lhs; rw [hst]
    rw [List.map_append, List.map_reverse]) hWk hd hfc
  refine sm_callK hrun hS.2.1 (fun H1 locs1 hP1 hx1 hl1 hS1 => ?_)
  rw [sm_rest]
  exact k H1 locs1 ls _ _ (sm_after hS hb2 hg hP1 hx1 hl1 hS1)
theorem sm_o_callV {y idx na : Nat} {q : Nat} {a : List Value} {rv : Option Value} (hSF : sm_SF base SF) (C : sm_C p R s m args meth c D ca base b aK sl xs SF mi) (hM : sm_Met l D ca base b aK sl xs SF y (.ref q :: a) (am_in0 y μ) rv μ') (hy : sm_yF y) (hroom : (mRm y).frames + 1 ≤ (mRm mi).frames ∧ 8 + (am_nL y + 11) + (mRm y).locals ≤ (mRm mi).locals) (hb2 : am_mc y ≤ μ.2.1.1 ∧ am_ms y ≤ μ.2.1.2.1) (hg : μ'.1.length = μ.1.length + am_mc y) (hcat : am_cat (st.drop na) ≤ 8) (hlen : (st.take na).length = na) (hrev : (st.take na).reverse = .ref q :: a) (k : sm_T p l e R s m args below meth c Q D ca base b aK sl xs mi (pc + 3) L (rv.toList ++ st.drop na) (am_out y μ μ')) (hd : decode (mB mi) pc = .ok (.invokevirtual idx, 3)) (hl : Cond.methodLink (nmC (mO mi)) idx (mY y) ∈ KW ∧ Cond.instanceMethod (mY y) ∈ KW ∧ Cond.selects (mY y).cls (mY y) (mY y) ∈ KW) (hp : (parseMethodDescriptor (mY y).desc).map (fun d => d.parameters.length) = some (na - 1)) (hob : μ.1[q]? = some (.inl (mO y))) (hci : mO y < 10) : sm_T p l e R s m args below meth c Q D ca base b aK sl xs mi pc L st μ := by
  intro H locs ls cells slots hS
  refine sm_sz (fun hub => ?_)
  have hts := C.2.2.2.2.2.1
  have hst := sm_split hrev
  have hfc : cells + am_mc y ≤ R.cells ∧ slots + am_ms y ≤ R.slots := ⟨by have := hS.2.2.2.2.1; omega, by have := hS.2.2.2.2.2.1; omega⟩
  have hfix : CallFix p m c (mB mi) (am_nL mi) s args KW (nmC (mO mi)) := ⟨C.1, C.2.1, C.2.2.1, C.2.2.2.2.1, hts⟩
  have hWk : 2 * (F0 m pc ls (st.map (sm_cv (sm_ad base b aK)))).monitorRoom + (((st.drop na).map (sm_cv (sm_ad base b aK))).map fun v => v.category).sum ≤ 8 := lv_room (by rw [sm_cat]; exact hcat)
  have cb := callB_of (own := nmC (mO mi)) (index := idx) (y := mY y) (bytes := mB y) (maxL := am_nL y) (ret := mR y) (rm := mRm y) (R := R) (na - 1) hts (sm_gi hy) rfl hy.2.2.2.1 hy.2.2.2.2.1 (hts _ hy.2.1) (hts _ hl.1) ⟨hy.2.2.1.1, hy.2.2.1.2, hp⟩ ⟨by rw [C.2.2.2.2.2.2.2.2.2.2.1]; exact hroom.1, by rw [C.2.2.2.2.2.2.2.2.2.2.2]; exact hroom.2⟩
  obtain ⟨-, hq⟩ := sm_lt hS hob
  have hrec := va_recv C.2.2.2.2.2.2.2.2.1.1 hS.1 (nmCl_at _ hci) (sm_ob hob)
  have hpre := sm_pre (a := .ref q :: a) (y := y) hSF C hS hub
  have hrun := va_runV (locs := locs) (e := e) (below := below) (meth := meth) (C := (mY y).cls) (b := (sm_ad base b aK) q) (g := F0 m pc ls (st.map (sm_cv (sm_ad base b aK)))) (rest := (st.drop na).map (sm_cv (sm_ad base b aK))) (As := a.map (sm_cv (sm_ad base b aK))) hfix hM ⟨cb, hts _ hl.2.1, hts _ hl.2.2⟩ ⟨sm_Pc_blind hSF, by rw [hq, hy.2.2.2.2.2.2]; exact hrec, hpre⟩ rfl (by have h7 := congrArg List.length hrev; simp only [List.length_reverse, hlen, List.length_cons] at h7; rw [List.length_map]; omega) hS.2.2.2.1.1 (by
    show st.map (sm_cv (sm_ad base b aK)) = _
    conv => lhs; rw [hst]
    simp [sm_cv]) hWk hd hfc
  refine sm_callK hrun hS.2.1 (fun H1 locs1 hP1 hx1 hl1 hS1 => ?_)
  rw [sm_rest]
  exact k H1 locs1 ls _ _ (sm_after hS hb2 hg hP1 hx1 hl1 hS1)
theorem sm_o_callI {y idx na : Nat} {q : Nat} {a : List Value} {rv : Option Value} (hSF : sm_SF base SF) (C : sm_C p R s m args meth c D ca base b aK sl xs SF mi) (hM : sm_Met l D ca base b aK sl xs SF y (.ref q :: a) (am_in0 y μ) rv μ') (hy : sm_yF y) (hroom : (mRm y).frames + 1 ≤ (mRm mi).frames ∧ 8 + (am_nL y + 11) + (mRm y).locals ≤ (mRm mi).locals) (hb2 : am_mc y ≤ μ.2.1.1 ∧ am_ms y ≤ μ.2.1.2.1) (hg : μ'.1.length = μ.1.length + am_mc y) (hcat : am_cat (st.drop na) ≤ 8) (hlen : (st.take na).length = na) (hrev : (st.take na).reverse = .ref q :: a) (k : sm_T p l e R s m args below meth c Q D ca base b aK sl xs mi (pc + 3) L (rv.toList ++ st.drop na) (am_out y μ μ')) (hd : decode (mB mi) pc = .ok (.invokespecial idx, 3)) (hl : Cond.methodLink (nmC (mO mi)) idx (mY y) ∈ KW ∧ Cond.instanceMethod (mY y) ∈ KW) (hn : (mY y).name = "<init>" ∧ mR y = none) (hp : (parseMethodDescriptor (mY y).desc).map (fun d => d.parameters.length) = some (na - 1)) : sm_T p l e R s m args below meth c Q D ca base b aK sl xs mi pc L st μ := by
  intro H locs ls cells slots hS
  refine sm_sz (fun hub => ?_)
  have hts := C.2.2.2.2.2.1
  have hst := sm_split hrev
  have hfc : cells + am_mc y ≤ R.cells ∧ slots + am_ms y ≤ R.slots := ⟨by have := hS.2.2.2.2.1; omega, by have := hS.2.2.2.2.2.1; omega⟩
  have hfix : CallFix p m c (mB mi) (am_nL mi) s args KW (nmC (mO mi)) := ⟨C.1, C.2.1, C.2.2.1, C.2.2.2.2.1, hts⟩
  have hWk : 2 * (F0 m pc ls (st.map (sm_cv (sm_ad base b aK)))).monitorRoom + (((st.drop na).map (sm_cv (sm_ad base b aK))).map fun v => v.category).sum ≤ 8 := lv_room (by rw [sm_cat]; exact hcat)
  have cb := callB_of (own := nmC (mO mi)) (index := idx) (y := mY y) (bytes := mB y) (maxL := am_nL y) (ret := mR y) (rm := mRm y) (R := R) (na - 1) hts (sm_gi hy) rfl hy.2.2.2.1 hy.2.2.2.2.1 (hts _ hy.2.1) (hts _ hl.1) ⟨hy.2.2.1.1, hy.2.2.1.2, hp⟩ ⟨by rw [C.2.2.2.2.2.2.2.2.2.2.1]; exact hroom.1, by rw [C.2.2.2.2.2.2.2.2.2.2.2]; exact hroom.2⟩
  rw [hn.2] at cb
  have hpre := sm_pre (a := .ref q :: a) (y := y) hSF C hS hub
  have hrun := va_runI (locs := locs) (e := e) (below := below) (meth := meth) (b := (sm_ad base b aK) q) (g := F0 m pc ls (st.map (sm_cv (sm_ad base b aK)))) (rest := (st.drop na).map (sm_cv (sm_ad base b aK))) (As := a.map (sm_cv (sm_ad base b aK))) hfix hM ⟨cb, hn.1, hts _ hl.2⟩ ⟨sm_Pc_blind hSF, hpre⟩ rfl (by have h7 := congrArg List.length hrev; simp only [List.length_reverse, hlen, List.length_cons] at h7; rw [List.length_map]; omega) hS.2.2.2.1.1 (by
    show st.map (sm_cv (sm_ad base b aK)) = _
    conv => lhs; rw [hst]
    simp [sm_cv]) hWk hd hfc
  refine sm_callK hrun hS.2.1 (fun H1 locs1 hP1 hx1 hl1 hS1 => ?_)
  rw [sm_rest]
  exact k H1 locs1 ls _ _ (sm_after hS hb2 hg hP1 hx1 hl1 hS1)
theorem sm_o_callIN {y idx na : Nat} {q : Nat} {a : List Value} {rv : Option Value} (hSF : sm_SF base SF) (C : sm_C p R s m args meth c D ca base b aK sl xs SF mi) (hM : sm_Met l D ca base b aK sl xs SF y (.ref q :: a) (am_in0 y μ) rv μ') (hy : sm_yF y) (hroom : (mRm y).frames + 1 ≤ (mRm mi).frames ∧ 8 + (am_nL y + 11) + (mRm y).locals ≤ (mRm mi).locals) (hb2 : am_mc y ≤ μ.2.1.1 ∧ am_ms y ≤ μ.2.1.2.1) (hg : μ'.1.length = μ.1.length + am_mc y) (hcat : am_cat (st.drop na) ≤ 8) (hlen : (st.take na).length = na) (hrev : (st.take na).reverse = .ref q :: a) (k : sm_T p l e R s m args below meth c Q D ca base b aK sl xs mi (pc + 3) L (rv.toList ++ st.drop na) (am_out y μ μ')) (hd : decode (mB mi) pc = .ok (.invokespecial idx, 3)) (hl : (∃ w, (mO mi, idx, y, w) ∈ lkN) ∧ Cond.instanceMethod (mY y) ∈ KW) (hn : (mY y).name = "<init>" ∧ mR y = none) (hp : (parseMethodDescriptor (mY y).desc).map (fun d => d.parameters.length) = some (na - 1)) : sm_T p l e R s m args below meth c Q D ca base b aK sl xs mi pc L st μ := by
  intro H locs ls cells slots hS
  refine sm_sz (fun hub => ?_)
  have hts := C.2.2.2.2.2.1
  have hst := sm_split hrev
  have hfc : cells + am_mc y ≤ R.cells ∧ slots + am_ms y ≤ R.slots := ⟨by have := hS.2.2.2.2.1; omega, by have := hS.2.2.2.2.2.1; omega⟩
  have hfix : CallFix p m c (mB mi) (am_nL mi) s args KW (nmC (mO mi)) := ⟨C.1, C.2.1, C.2.2.1, C.2.2.2.2.1, hts⟩
  have hWk : 2 * (F0 m pc ls (st.map (sm_cv (sm_ad base b aK)))).monitorRoom + (((st.drop na).map (sm_cv (sm_ad base b aK))).map fun v => v.category).sum ≤ 8 := lv_room (by rw [sm_cat]; exact hcat)
  obtain ⟨w, hw⟩ := hl.1
  have hnl : va_Nw (.methodLinkNest (nmC (mO mi)) idx (mY y) "ReleaseDesk") s := C.2.2.2.2.2.2.2.2.1.2.1 (mO mi, idx, y, w) hw
  have cb := va_cnB (own := nmC (mO mi)) (host := "ReleaseDesk") (index := idx) (y := mY y) (bytes := mB y) (maxL := am_nL y) (ret := mR y) (rm := mRm y) (R := R) (na - 1) hts (sm_gi hy) rfl hy.2.2.2.1 hy.2.2.2.2.1 hnl (hts _ hy.2.1) ⟨hy.2.2.1.1, hy.2.2.1.2, hp⟩ ⟨by rw [C.2.2.2.2.2.2.2.2.2.2.1]; exact hroom.1, by rw [C.2.2.2.2.2.2.2.2.2.2.2]; exact hroom.2⟩
  rw [hn.2] at cb
  have hpre := sm_pre (a := .ref q :: a) (y := y) hSF C hS hub
  have hrun := va_runIN (locs := locs) (e := e) (below := below) (meth := meth) (b := (sm_ad base b aK) q) (g := F0 m pc ls (st.map (sm_cv (sm_ad base b aK)))) (rest := (st.drop na).map (sm_cv (sm_ad base b aK))) (As := a.map (sm_cv (sm_ad base b aK))) hfix hM ⟨cb, hn.1, hts _ hl.2⟩ ⟨sm_Pc_blind hSF, hpre⟩ rfl (by have h7 := congrArg List.length hrev; simp only [List.length_reverse, hlen, List.length_cons] at h7; rw [List.length_map]; omega) hS.2.2.2.1.1 (by
    show st.map (sm_cv (sm_ad base b aK)) = _
    conv => lhs; rw [hst]
    simp [sm_cv]) hWk hd hfc
  refine sm_callK hrun hS.2.1 (fun H1 locs1 hP1 hx1 hl1 hS1 => ?_)
  rw [sm_rest]
  exact k H1 locs1 ls _ _ (sm_after hS hb2 hg hP1 hx1 hl1 hS1)
end SM
