/-! THE TEXTS: WHAT THE JDK ANSWERS OF THEM -/
theorem d_P_0 : decode prog_17_method_11_code 0 = .ok (.iload_n 0, 1) := by decide +kernel
theorem d_P_1 : decode prog_17_method_11_code 1 = .ok (.ifCond .lt 8, 3) := by decide +kernel
theorem d_P_4 : decode prog_17_method_11_code 4 = .ok (.iload_n 0, 1) := by decide +kernel
theorem d_P_5 : decode prog_17_method_11_code 5 = .ok (.iload_n 1, 1) := by decide +kernel
theorem d_P_6 : decode prog_17_method_11_code 6 = .ok (.if_icmp .lt 10, 3) := by decide +kernel
theorem d_P_16 : decode prog_17_method_11_code 16 = .ok (.iload_n 0, 1) := by decide +kernel
theorem d_P_17 : decode prog_17_method_11_code 17 = .ok (.ireturn, 1) := by decide +kernel
theorem d_X_0 : decode prog_12_method_155_code 0 = .ok (.iload_n 0, 1) := by decide +kernel
theorem d_X_1 : decode prog_12_method_155_code 1 = .ok (.iload_n 1, 1) := by decide +kernel
theorem d_X_2 : decode prog_12_method_155_code 2 = .ok (.getstatic 1053, 3) := by decide +kernel
theorem d_X_5 : decode prog_12_method_155_code 5 = .ok (.invokestatic 1059, 3) := by decide +kernel
theorem d_X_8 : decode prog_12_method_155_code 8 = .ok (.pop, 1) := by decide +kernel
theorem d_X_9 : decode prog_12_method_155_code 9 = .ok (.return_, 1) := by decide +kernel
theorem d_A_0 : decode prog_13_method_2_code 0 = .ok (.iload_n 1, 1) := by decide +kernel
theorem d_A_1 : decode prog_13_method_2_code 1 = .ok (.aload_n 0, 1) := by decide +kernel
theorem d_A_2 : decode prog_13_method_2_code 2 = .ok (.arraylength, 1) := by decide +kernel
theorem d_A_3 : decode prog_13_method_2_code 3 = .ok (.invokestatic 9, 3) := by decide +kernel
theorem d_A_6 : decode prog_13_method_2_code 6 = .ok (.aload_n 0, 1) := by decide +kernel
theorem d_A_7 : decode prog_13_method_2_code 7 = .ok (.iload_n 1, 1) := by decide +kernel
theorem d_A_8 : decode prog_13_method_2_code 8 = .ok (.baload, 1) := by decide +kernel
theorem d_A_9 : decode prog_13_method_2_code 9 = .ok (.sipush 255, 3) := by decide +kernel
theorem d_A_12 : decode prog_13_method_2_code 12 = .ok (.iand, 1) := by decide +kernel
theorem d_A_13 : decode prog_13_method_2_code 13 = .ok (.i2c, 1) := by decide +kernel
theorem d_A_14 : decode prog_13_method_2_code 14 = .ok (.ireturn, 1) := by decide +kernel
theorem d_C_0 : decode prog_12_method_152_code 0 = .ok (.getstatic 38, 3) := by decide +kernel
theorem d_C_3 : decode prog_12_method_152_code 3 = .ok (.ifCond .eq 10, 3) := by decide +kernel
theorem d_C_6 : decode prog_12_method_152_code 6 = .ok (.aload_n 0, 1) := by decide +kernel
theorem d_C_7 : decode prog_12_method_152_code 7 = .ok (.getfield 15, 3) := by decide +kernel
theorem d_C_10 : decode prog_12_method_152_code 10 = .ok (.goto 4, 3) := by decide +kernel
theorem d_C_14 : decode prog_12_method_152_code 14 = .ok (.ireturn, 1) := by decide +kernel
theorem d_I_0 : decode prog_12_method_154_code 0 = .ok (.getstatic 38, 3) := by decide +kernel
theorem d_I_3 : decode prog_12_method_154_code 3 = .ok (.ifCond .eq 14, 3) := by decide +kernel
theorem d_I_6 : decode prog_12_method_154_code 6 = .ok (.aload_n 0, 1) := by decide +kernel
theorem d_I_7 : decode prog_12_method_154_code 7 = .ok (.getfield 15, 3) := by decide +kernel
theorem d_I_10 : decode prog_12_method_154_code 10 = .ok (.ifCond .ne 7, 3) := by decide +kernel
theorem d_I_13 : decode prog_12_method_154_code 13 = .ok (.iconst 1, 1) := by decide +kernel
theorem d_I_14 : decode prog_12_method_154_code 14 = .ok (.goto 4, 3) := by decide +kernel
theorem d_I_18 : decode prog_12_method_154_code 18 = .ok (.ireturn, 1) := by decide +kernel
theorem d_L_0 : decode prog_12_method_54_code 0 = .ok (.aload_n 0, 1) := by decide +kernel
theorem d_L_1 : decode prog_12_method_54_code 1 = .ok (.getfield 9, 3) := by decide +kernel
theorem d_L_4 : decode prog_12_method_54_code 4 = .ok (.arraylength, 1) := by decide +kernel
theorem d_L_5 : decode prog_12_method_54_code 5 = .ok (.aload_n 0, 1) := by decide +kernel
theorem d_L_6 : decode prog_12_method_54_code 6 = .ok (.invokevirtual 335, 3) := by decide +kernel
theorem d_L_9 : decode prog_12_method_54_code 9 = .ok (.ishr, 1) := by decide +kernel
theorem d_L_10 : decode prog_12_method_54_code 10 = .ok (.ireturn, 1) := by decide +kernel
theorem d_H_0 : decode prog_12_method_56_code 0 = .ok (.aload_n 0, 1) := by decide +kernel
theorem d_H_1 : decode prog_12_method_56_code 1 = .ok (.invokevirtual 492, 3) := by decide +kernel
theorem d_H_4 : decode prog_12_method_56_code 4 = .ok (.ifCond .eq 12, 3) := by decide +kernel
theorem d_H_7 : decode prog_12_method_56_code 7 = .ok (.aload_n 0, 1) := by decide +kernel
theorem d_H_8 : decode prog_12_method_56_code 8 = .ok (.getfield 9, 3) := by decide +kernel
theorem d_H_11 : decode prog_12_method_56_code 11 = .ok (.iload_n 1, 1) := by decide +kernel
theorem d_H_12 : decode prog_12_method_56_code 12 = .ok (.invokestatic 495, 3) := by decide +kernel
theorem d_H_15 : decode prog_12_method_56_code 15 = .ok (.ireturn, 1) := by decide +kernel
def st_yC : MethodName := ⟨"java/lang/String", "coder", "()B"⟩
def st_yI : MethodName := ⟨"java/lang/String", "isLatin1", "()Z"⟩
def st_yA : MethodName := ⟨"java/lang/StringLatin1", "charAt", "([BI)C"⟩
def st_yX : MethodName := ⟨"java/lang/String", "checkIndex", "(II)V"⟩
def st_yP : MethodName := ⟨"jdk/internal/util/Preconditions", "checkIndex", "(IILjava/util/function/BiFunction;)I"⟩
def st_wC : List Cond := Cond.code st_yC prog_12_method_152_code 1 (some .byte) :: KW
def st_wI : List Cond := Cond.code st_yI prog_12_method_154_code 1 (some .boolean) :: KW
def st_wA : List Cond := Cond.code st_yA prog_13_method_2_code 2 (some .char) :: KW
def st_wX : List Cond := Cond.code st_yX prog_12_method_155_code 2 none :: KW
def st_wP : List Cond := Cond.code st_yP prog_17_method_11_code 3 (some .int) :: KW
set_option maxRecDepth 100000 in
theorem st_kC : Cond.code st_yC prog_12_method_152_code 1 (some .byte) ∈ KW := List.mem_filter.mpr ⟨List.mem_of_getElem? (i := 515) (by rfl), rfl⟩
set_option maxRecDepth 100000 in
theorem st_kI : Cond.code st_yI prog_12_method_154_code 1 (some .boolean) ∈ KW := List.mem_filter.mpr ⟨List.mem_of_getElem? (i := 525) (by rfl), rfl⟩
set_option maxRecDepth 100000 in
theorem st_kA : Cond.code st_yA prog_13_method_2_code 2 (some .char) ∈ KW := List.mem_filter.mpr ⟨List.mem_of_getElem? (i := 528) (by rfl), rfl⟩
set_option maxRecDepth 100000 in
theorem st_kX : Cond.code st_yX prog_12_method_155_code 2 none ∈ KW := List.mem_filter.mpr ⟨List.mem_of_getElem? (i := 531) (by rfl), rfl⟩
set_option maxRecDepth 100000 in
theorem st_kP : Cond.code st_yP prog_17_method_11_code 3 (some .int) ∈ KW := List.mem_filter.mpr ⟨List.mem_of_getElem? (i := 536) (by rfl), rfl⟩
def st_words : List (Nat × Cond) := [(52, .initialized "java/lang/String"), (53, .initialized "java/lang/StringLatin1"), (54, .initialized "jdk/internal/util/Preconditions"), (512, .methodLink "java/lang/String" 335 st_yC), (513, .instanceMethod st_yC), (514, .selects "java/lang/String" st_yC st_yC), (516, .fieldLink "java/lang/String" 38 "java/lang/String" "COMPACT_STRINGS" "Z"), (522, .methodLink "java/lang/String" 492 st_yI), (523, .instanceMethod st_yI), (524, .selects "java/lang/String" st_yI st_yI), (526, .methodLink "java/lang/String" 495 st_yA), (527, .static st_yA), (529, .methodLink "java/lang/StringLatin1" 9 st_yX), (530, .static st_yX), (532, .fieldLink "java/lang/String" 1053 "jdk/internal/util/Preconditions" "SIOOBE_FORMATTER" "Ljava/util/function/BiFunction;"), (534, .methodLink "java/lang/String" 1059 st_yP), (535, .static st_yP), (982, .fieldLink "java/lang/String" 9 "java/lang/String" "value" "[B"), (983, .fieldLink "java/lang/String" 15 "java/lang/String" "coder" "B")]
theorem st_words_ok : st_words.all (fun r => ck_w r.1 r.2) = true := by decide +kernel
theorem st_in (i : Nat) {p : Nat} {w : Cond} (h : st_words[i]? = some (p, w)) : w ∈ KW := ck_w_in (List.all_eq_true.mp st_words_ok _ (List.mem_of_getElem? h))
def st_len : List Nat := am_strs.map List.length
def st_byt : List (List Int32) := am_strs.map (fun q => q.map Int32.ofNat)
/-- the texts as they stand from the start -/
def st_SF (base : Nat) (aK adV : Nat → Nat) (U : State) : Prop := vk_S 13 st_len st_byt aK adV (fun q => base ≤ q) U U.heap ∧ va_Z "java/lang/String" "COMPACT_STRINGS" "Z" (.int 1) (fun q => base ≤ q) U U.heap ∧ va_Zq "jdk/internal/util/Preconditions" "SIOOBE_FORMATTER" "Ljava/util/function/BiFunction;" (fun q => base ≤ q) U U.heap ∧ ∀ oc idx i w, (oc, idx, i, w) ∈ lkS → ∃ tx, vk_R (nmC oc) idx tx (aK i) U
theorem st_SF_ok {base : Nat} {aK adV : Nat → Nat} : sm_SF base (st_SF base aK adV) := by
  refine ⟨fun u U hW hb hq h => ?_, fun a U g mk h => ?_⟩
  · obtain ⟨h1, h2, h3, h4⟩ := h
    have hq' : ∀ a : Nat, a < u.heap.size → ¬ base ≤ a → U.heap[a]? = u.heap[a]? := fun a _ z => hq a (Nat.not_le.mp z)
    exact ⟨(h1.kept hq').moved hW.alike, (h2.kept hq').moved hW.alike, (h3.kept hq').moved hW.alike, fun oc idx i w hm => by
      obtain ⟨tx, ht⟩ := h4 oc idx i w hm
      exact ⟨tx, ht.warm hW⟩⟩
  · obtain ⟨h1, h2, h3, h4⟩ := h
    exact ⟨vk_S.moved (u := U) (U := U.calling g mk a) (Vm.Alike.refl U.vm) h1, va_Z.moved (u := U) (U := U.calling g mk a) (Vm.Alike.refl U.vm) h2, va_Zq.moved (u := U) (U := U.calling g mk a) (Vm.Alike.refl U.vm) h3, fun oc idx i w hm => by
      obtain ⟨tx, ht⟩ := h4 oc idx i w hm
      exact ⟨tx, vk_R.same (u := U) rfl ht⟩⟩
theorem st_not {base q : Nat} {aK : Nat → Nat} : False → base ≤ q := False.elim
theorem st_bl {av : List Value} {base : Nat} {aK adV : Nat → Nat} : FrameBlind (va_Pc av (st_SF base aK adV)) := fun v U g mk h => ⟨h.1, st_SF_ok.2 v U g mk h.2⟩
theorem st_lt {x y : Int32} (h : x.toInt < y.toInt) : x < y := Int32.lt_iff_toInt_lt.mpr h
theorem st_nlt {x : Int32} (h : 0 ≤ x.toInt) : ¬ x < 0 := fun z => by
  have := Int32.lt_iff_toInt_lt.mp z
  have h0 : (0 : Int32).toInt = 0 := rfl
  omega
/-- an index that lies within -/
theorem st_cP (l : Launch) {k n : Int32} (h0 : 0 ≤ k.toInt) (h1 : k.toInt < n.toInt) {v : Value} (hv : v = .null ∨ ∃ a, v = .ref a) : Met l st_yP st_wP { frames := 0, cells := 0, slots := 0, locals := 0 } (va_Pc [.int k, .int n, v] (fun _ => True)) (va_Qi (fun (r : Int32) (_ : Unit) => r = k) (fun _ _ => True) (fun _ => False)) 0 0 (fun _ => False) := by
  refine Met.ofW (cc := prog_17_method_11_code) (maxL := 3) (ret := some .int) (by decide) rfl ?_
  intro p e s m args below meth c s₁ B hml hv0
  obtain ⟨rfl, -⟩ := hv0
  have hx := B.exec
  have hb := B.bytes
  have hr := B.returns
  have hlocks := B.notSynchronized
  have hS : va_S (fun _ => False) s.heap s.heap [] := va_S.rf
  have hl : lv_has ((lg_sl ([.int k, .int n, v]) ++ List.replicate (3 - (lg_sl ([.int k, .int n, v])).length) Slot.unset).toArray) 3 [(0, .int k), (1, .int n), (2, v)] := lv_entry ([.int k, .int n, v]) (n := 3) (by rcases hv with rfl | ⟨a, rfl⟩ <;> exact Nat.le_of_ble_eq_true rfl)
  rw [lg_entry_eq]
  generalize (lg_sl ([.int k, .int n, v]) ++ List.replicate (3 - (lg_sl ([.int k, .int n, v])).length) Slot.unset).toArray = ls at hl ⊢
  refine lv_iload_n hx hb d_P_0 rfl (lv_at hl 0 rfl) ?_
  refine lv_if_lt (tgt := 9) hx hb d_P_1 rfl (fun z => absurd z (st_nlt h0)) (fun _ => ?_)
  refine lv_iload_n hx hb d_P_4 rfl (lv_at hl 0 rfl) ?_
  refine lv_iload_n hx hb d_P_5 rfl (lv_at hl 1 rfl) ?_
  refine lv_icmp_lt (tgt := 16) hx hb d_P_6 rfl (fun _ => ?_) (fun z => absurd (st_lt h1) z)
  refine lv_iload_n hx hb d_P_16 rfl (lv_at hl 0 rfl) ?_
  exact W.iret (v := k) hx hb hr (fun t ht hW => ⟨⟨k, (), rfl, rfl, trivial⟩, hS.F ht⟩) hS.2.2 d_P_17
/-- the same, asked by a text -/
theorem st_cX (l : Launch) {base : Nat} {aK adV : Nat → Nat} {k n : Int32} (h0 : 0 ≤ k.toInt) (h1 : k.toInt < n.toInt) : Met l st_yX st_wX { frames := 1, cells := 0, slots := 0, locals := 30 } (va_Pc [.int k, .int n] (st_SF base aK adV)) (va_Qv (fun _ : Unit => True) (fun _ _ => True) (fun _ => False)) 0 0 (fun _ => False) := by
  refine Met.ofW (cc := prog_12_method_155_code) (maxL := 2) (ret := none) (by decide) rfl ?_
  intro p e s m args below meth c s₁ B hml hv0
  obtain ⟨rfl, hF⟩ := hv0
  have hx := B.exec
  have hb := B.bytes
  have hr := B.returns
  have hts0 := atoms_spec (ws := st_wX) B.pre
  have hts : ∀ w ∈ KW, w.before _ s = true := fun w h => hts0 w (List.mem_cons_of_mem _ h)
  have hown : s.vm.findClass "java/lang/String" = some m.cls := findClass_of_methodNamed B.named
  have hlocks := B.notSynchronized
  have hS : va_S (fun _ => False) s.heap s.heap [] := va_S.rf
  have hl : lv_has ((lg_sl ([.int k, .int n]) ++ List.replicate (2 - (lg_sl ([.int k, .int n])).length) Slot.unset).toArray) 2 [(0, .int k), (1, .int n)] := lv_entry ([.int k, .int n]) (n := 2) (Nat.le_of_ble_eq_true rfl)
  rw [lg_entry_eq]
  generalize (lg_sl ([.int k, .int n]) ++ List.replicate (2 - (lg_sl ([.int k, .int n])).length) Slot.unset).toArray = ls at hl ⊢
  refine lv_iload_n hx hb d_X_0 rfl (lv_at hl 0 rfl) ?_
  refine lv_iload_n hx hb d_X_1 rfl (lv_at hl 1 rfl) ?_
  have key : ∀ v : Value, (v = .null ∨ ∃ a, v = .ref a) → W p l e (headSpec st_wX { frames := 1, cells := 0, slots := 0, locals := 30 }).room s m (([.int k, .int n] : List Value).toArray) below meth c s.heap [] 0 0 (MQ below (va_Qv (fun _ : Unit => True) (fun _ _ => True) (fun _ => False)) (([.int k, .int n] : List Value).toArray) s 0 0 (fun _ => False)) (F0 m 5 ls [v, .int n, .int k]) := by
    intro v hv
    have cb := callB_of (own := "java/lang/String") (index := 1059) (y := st_yP) (bytes := prog_17_method_11_code) (maxL := 3) (ret := some .int) (ws := st_wP) (rm := { frames := 0, cells := 0, slots := 0, locals := 0 }) (R := (headSpec st_wX { frames := 1, cells := 0, slots := 0, locals := 30 }).room) (mc := 0) (ms := 0) 3 hts (sm_gi0 st_kP) rfl rfl rfl (hts _ (st_in 2 rfl)) (hts _ (st_in 15 rfl)) ⟨by decide, by decide, by decide +kernel⟩ ⟨Nat.le_of_ble_eq_true rfl, Nat.le_of_ble_eq_true rfl⟩
    refine va_calli (va_runS (As := [.int k, .int n, v]) (rest := []) ⟨hx, hb, hml, hown, hts⟩ (st_cP l h0 h1 hv) ⟨cb, hts _ (st_in 16 rfl)⟩ ⟨fun v U g mk h => ⟨h.1, trivial⟩, fun U hU hW2 => ⟨rfl, trivial⟩⟩ rfl rfl hl.1 rfl (lv_room (Nat.le_of_ble_eq_true rfl)) d_X_5 ⟨Nat.zero_le _, Nat.zero_le _⟩) hS (fun q _ h => h) (fun q h => h) (fun r u t H1 locs1 ht hvm hw hB hz hk hS1 => ?_)
    refine lv_pop hx hb d_X_8 rfl ?_
    exact W.vret hx hb hr (fun t ht hW => ⟨⟨(), rfl, trivial, trivial⟩, hS1.F ht⟩) hS1.2.2 d_X_9
  rcases hF.2.2.1.narrow (B := fun _ => False) (fun q h => h.elim) with hZ | ⟨t, hZ⟩
  · exact va_gets hx hb hZ hS hown (hts _ (st_in 14 rfl)) (fun _ h => h) d_X_2 (key _ (Or.inl rfl))
  · exact va_gets hx hb hZ hS hown (hts _ (st_in 14 rfl)) (fun _ h => h) d_X_2 (key _ (Or.inr ⟨t, rfl⟩))
