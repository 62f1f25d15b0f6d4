/-! THE TEXTS, CONTINUED -/
theorem st_len_eq : ∀ i, i < 13 → st_len.getD i 0 = (am_strs.getD i []).length := by decide +kernel
theorem st_len_i : ∀ i, i < 13 → (Int32.ofNat (st_len.getD i 0)).toInt = (st_len.getD i 0 : Nat) ∧ Int32.ofNat (st_len.getD i 0) >>> ((0 : Int32) &&& 31) = Int32.ofNat (am_strs.getD i []).length := by decide +kernel
def st_ch (i j : Nat) : Int32 := Int32.ofNat ((am_strs.getD i []).getD j 0)
theorem st_byt_ok : ∀ i, i < 13 → ∀ j, j < st_len.getD i 0 → (((st_byt.getD i []).getD j 0 &&& 255).toUInt32 % 65536).toInt32 = st_ch i j ∧ narrow .char (.int (st_ch i j)) = .int (st_ch i j) := by decide +kernel
theorem st_mv2 {base : Nat} {aK adV : Nat → Nat} {s U : State} (hU : ∀ q, q < s.heap.size → U.heap[q]? = s.heap[q]?) (hW : s.WarmedH U.vm) (h : st_SF base aK adV s) : st_SF base aK adV U := by
  obtain ⟨h1, h2, h3, h4⟩ := h
  have hq' : ∀ a : Nat, a < s.heap.size → ¬ base ≤ a → U.heap[a]? = s.heap[a]? := fun a ha _ => hU a ha
  exact ⟨(h1.kept hq').moved hW.alike, (h2.kept hq').moved hW.alike, (h3.kept hq').moved hW.alike, fun oc idx i w hm => by
    obtain ⟨tx, ht⟩ := h4 oc idx i w hm
    exact ⟨tx, ht.warm hW⟩⟩
theorem st_mv {base : Nat} {aK adV : Nat → Nat} {s U : State} (hU : U.heap = s.heap) (hW : s.WarmedH U.vm) (h : st_SF base aK adV s) : st_SF base aK adV U := by
  obtain ⟨h1, h2, h3, h4⟩ := h
  have hq' : ∀ a : Nat, a < s.heap.size → ¬ base ≤ a → U.heap[a]? = s.heap[a]? := fun a _ _ => by rw [hU]
  exact ⟨(h1.kept hq').moved hW.alike, (h2.kept hq').moved hW.alike, (h3.kept hq').moved hW.alike, fun oc idx i w hm => by
    obtain ⟨tx, ht⟩ := h4 oc idx i w hm
    exact ⟨tx, ht.warm hW⟩⟩
theorem st_cC (l : Launch) {base i : Nat} {aK adV : Nat → Nat} (hi : i < 13) : Met l st_yC st_wC { frames := 0, cells := 0, slots := 0, locals := 0 } (va_Pc [.ref (aK i)] (st_SF base aK adV)) (va_Qi (fun (r : Int32) (_ : Unit) => r = 0) (fun _ _ => True) (fun _ => False)) 0 0 (fun _ => False) := by
  refine Met.ofW (cc := prog_12_method_152_code) (maxL := 1) (ret := some .byte) (by decide) rfl ?_
  intro p e s m args below meth c s₁ B hml hv0
  obtain ⟨rfl, hF⟩ := hv0
  have hx := B.exec
  have hb := B.bytes
  have hr := B.returns
  have hts0 := atoms_spec (ws := st_wC) B.pre
  have hts : ∀ w ∈ KW, w.before _ s = true := fun w h => hts0 w (List.mem_cons_of_mem _ h)
  have hown : s.vm.findClass "java/lang/String" = some m.cls := findClass_of_methodNamed B.named
  have hlocks := B.notSynchronized
  have hS : va_S (fun _ => False) s.heap s.heap [] := va_S.rf
  have hT := hF.1.narrow (B := fun _ => False) (fun q h => h.elim)
  obtain ⟨hO, hco, hva, hTT⟩ := hT.1 i hi
  have hZ := hF.2.1.narrow (B := fun _ => False) (fun q h => h.elim)
  have hl : lv_has ((lg_sl ([.ref (aK i)]) ++ List.replicate (1 - (lg_sl ([.ref (aK i)])).length) Slot.unset).toArray) 1 [(0, .ref (aK i))] := lv_entry ([.ref (aK i)]) (n := 1) (Nat.le_of_ble_eq_true rfl)
  rw [lg_entry_eq]
  generalize (lg_sl ([.ref (aK i)]) ++ List.replicate (1 - (lg_sl ([.ref (aK i)])).length) Slot.unset).toArray = ls at hl ⊢
  refine va_gets hx hb hZ hS hown (hts _ (st_in 6 rfl)) (fun _ h => h) d_C_0 ?_
  refine lv_if_eq (tgt := 13) hx hb d_C_3 rfl (fun z => absurd z (by decide)) (fun _ => ?_)
  refine lv_aload_n hx hb d_C_6 rfl (lv_at hl 0 rfl) ?_
  refine vk_getf hx hb hco hS hown (hts _ (st_in 18 rfl)) (fun _ h => h) d_C_7 ?_
  refine lv_goto (tgt := 14) hx hb d_C_10 rfl ?_
  exact W.zret (v := 0) hx hb hr rfl (fun t ht hW => ⟨⟨0, (), rfl, rfl, trivial⟩, hS.F ht⟩) hS.2.2 d_C_14
theorem st_cI (l : Launch) {base i : Nat} {aK adV : Nat → Nat} (hi : i < 13) : Met l st_yI st_wI { frames := 0, cells := 0, slots := 0, locals := 0 } (va_Pc [.ref (aK i)] (st_SF base aK adV)) (va_Qi (fun (r : Int32) (_ : Unit) => r = 1) (fun _ _ => True) (fun _ => False)) 0 0 (fun _ => False) := by
  refine Met.ofW (cc := prog_12_method_154_code) (maxL := 1) (ret := some .boolean) (by decide) rfl ?_
  intro p e s m args below meth c s₁ B hml hv0
  obtain ⟨rfl, hF⟩ := hv0
  have hx := B.exec
  have hb := B.bytes
  have hr := B.returns
  have hts0 := atoms_spec (ws := st_wI) B.pre
  have hts : ∀ w ∈ KW, w.before _ s = true := fun w h => hts0 w (List.mem_cons_of_mem _ h)
  have hown : s.vm.findClass "java/lang/String" = some m.cls := findClass_of_methodNamed B.named
  have hlocks := B.notSynchronized
  have hS : va_S (fun _ => False) s.heap s.heap [] := va_S.rf
  have hT := hF.1.narrow (B := fun _ => False) (fun q h => h.elim)
  obtain ⟨hO, hco, hva, hTT⟩ := hT.1 i hi
  have hZ := hF.2.1.narrow (B := fun _ => False) (fun q h => h.elim)
  have hl : lv_has ((lg_sl ([.ref (aK i)]) ++ List.replicate (1 - (lg_sl ([.ref (aK i)])).length) Slot.unset).toArray) 1 [(0, .ref (aK i))] := lv_entry ([.ref (aK i)]) (n := 1) (Nat.le_of_ble_eq_true rfl)
  rw [lg_entry_eq]
  generalize (lg_sl ([.ref (aK i)]) ++ List.replicate (1 - (lg_sl ([.ref (aK i)])).length) Slot.unset).toArray = ls at hl ⊢
  refine va_gets hx hb hZ hS hown (hts _ (st_in 6 rfl)) (fun _ h => h) d_I_0 ?_
  refine lv_if_eq (tgt := 17) hx hb d_I_3 rfl (fun z => absurd z (by decide)) (fun _ => ?_)
  refine lv_aload_n hx hb d_I_6 rfl (lv_at hl 0 rfl) ?_
  refine vk_getf hx hb hco hS hown (hts _ (st_in 18 rfl)) (fun _ h => h) d_I_7 ?_
  refine lv_if_ne (tgt := 17) hx hb d_I_10 rfl (fun z => absurd rfl z) (fun _ => ?_)
  refine lv_iconst (v := 1) hx hb d_I_13 (by decide) ?_
  refine lv_goto (tgt := 18) hx hb d_I_14 rfl ?_
  exact W.zret (v := 1) hx hb hr rfl (fun t ht hW => ⟨⟨1, (), rfl, rfl, trivial⟩, hS.F ht⟩) hS.2.2 d_I_18
theorem st_cA (l : Launch) {base i : Nat} {aK adV : Nat → Nat} {k : Int32} (hi : i < 13) (h0 : 0 ≤ k.toInt) (h1 : k.toInt < (st_len.getD i 0 : Nat)) : Met l st_yA st_wA { frames := 2, cells := 0, slots := 0, locals := 60 } (va_Pc [.ref (adV i), .int k] (st_SF base aK adV)) (va_Qi (fun (r : Int32) (_ : Unit) => r = st_ch i k.toInt.toNat) (fun _ _ => True) (fun _ => False)) 0 0 (fun _ => False) := by
  refine Met.ofW (cc := prog_13_method_2_code) (maxL := 2) (ret := some .char) (by decide) rfl ?_
  intro p e s m args below meth c s₁ B hml hv0
  obtain ⟨rfl, hF⟩ := hv0
  have hx := B.exec
  have hb := B.bytes
  have hr := B.returns
  have hts0 := atoms_spec (ws := st_wA) B.pre
  have hts : ∀ w ∈ KW, w.before _ s = true := fun w h => hts0 w (List.mem_cons_of_mem _ h)
  have hown : s.vm.findClass "java/lang/StringLatin1" = some m.cls := findClass_of_methodNamed B.named
  have hlocks := B.notSynchronized
  have hS : va_S (fun _ => False) s.heap s.heap [] := va_S.rf
  have hT := hF.1.narrow (B := fun _ => False) (fun q h => h.elim)
  obtain ⟨hO, hco, hva, hTT⟩ := hT.1 i hi
  have hZ := hF.2.1.narrow (B := fun _ => False) (fun q h => h.elim)
  have hl : lv_has ((lg_sl ([.ref (adV i), .int k]) ++ List.replicate (2 - (lg_sl ([.ref (adV i), .int k])).length) Slot.unset).toArray) 2 [(0, .ref (adV i)), (1, .int k)] := lv_entry ([.ref (adV i), .int k]) (n := 2) (Nat.le_of_ble_eq_true rfl)
  rw [lg_entry_eq]
  generalize (lg_sl ([.ref (adV i), .int k]) ++ List.replicate (2 - (lg_sl ([.ref (adV i), .int k])).length) Slot.unset).toArray = ls at hl ⊢
  refine lv_iload_n hx hb d_A_0 rfl (lv_at hl 1 rfl) ?_
  refine lv_aload_n hx hb d_A_1 rfl (lv_at hl 0 rfl) ?_
  refine va_tlen hx hb hTT hS rfl d_A_2 ?_
  have cb := callB_of (own := "java/lang/StringLatin1") (index := 9) (y := st_yX) (bytes := prog_12_method_155_code) (maxL := 2) (ret := none) (ws := st_wX) (rm := { frames := 1, cells := 0, slots := 0, locals := 30 }) (R := (headSpec st_wA { frames := 2, cells := 0, slots := 0, locals := 60 }).room) (mc := 0) (ms := 0) 2 hts (sm_gi0 st_kX) rfl rfl rfl (hts _ (st_in 0 rfl)) (hts _ (st_in 12 rfl)) ⟨by decide, by decide, by decide +kernel⟩ ⟨Nat.le_of_ble_eq_true rfl, Nat.le_of_ble_eq_true rfl⟩
  refine va_callv (va_runS (As := [.int k, .int (Int32.ofNat (st_len.getD i 0))]) (rest := []) ⟨hx, hb, hml, hown, hts⟩ (st_cX l (base := base) (aK := aK) (adV := adV) h0 (by rw [(st_len_i i hi).1]; exact h1)) ⟨cb, hts _ (st_in 13 rfl)⟩ ⟨st_bl, fun U hU hW2 => ⟨rfl, st_mv hU hW2 hF⟩⟩ rfl rfl hl.1 rfl (lv_room (Nat.le_of_ble_eq_true rfl)) d_A_3 ⟨Nat.zero_le _, Nat.zero_le _⟩) hS (fun q _ h => h) (fun q h => h) (fun u t H1 locs1 ht hvm hw hB hz hk hS1 => ?_)
  refine lv_aload_n hx hb d_A_6 rfl (lv_at hl 0 rfl) ?_
  refine lv_iload_n hx hb d_A_7 rfl (lv_at hl 1 rfl) ?_
  refine va_tb hx hb hTT hS1 (sm_in h0 h1) rfl d_A_8 ?_
  refine lv_sipush (v := 255) hx hb d_A_9 (by decide) ?_
  refine lv_iand hx hb d_A_12 ?_
  obtain ⟨hj1, hj2⟩ := st_byt_ok i hi k.toInt.toNat (by omega)
  refine lv_i2c hx hb d_A_13 hj1 ?_
  exact W.zret (v := st_ch i k.toInt.toNat) hx hb hr hj2 (fun t ht hW => ⟨⟨_, (), rfl, rfl, trivial⟩, hS1.F ht⟩) hS1.2.2 d_A_14
theorem st_cL (l : Launch) {base i : Nat} {aK adV : Nat → Nat} (hi : i < 13) : Met l sm_yL sm_wL { frames := 2, cells := 0, slots := 0, locals := 60 } (va_Pc [.ref (aK i)] (st_SF base aK adV)) (va_Qi (fun (r : Int32) (_ : Unit) => r = Int32.ofNat (am_strs.getD i []).length) (fun _ _ => True) (fun _ => False)) 0 0 (fun _ => False) := by
  refine Met.ofW (cc := prog_12_method_54_code) (maxL := 1) (ret := some .int) (by decide) rfl ?_
  intro p e s m args below meth c s₁ B hml hv0
  obtain ⟨rfl, hF⟩ := hv0
  have hx := B.exec
  have hb := B.bytes
  have hr := B.returns
  have hts0 := atoms_spec (ws := sm_wL) B.pre
  have hts : ∀ w ∈ KW, w.before _ s = true := fun w h => hts0 w (List.mem_cons_of_mem _ h)
  have hown : s.vm.findClass "java/lang/String" = some m.cls := findClass_of_methodNamed B.named
  have hlocks := B.notSynchronized
  have hS : va_S (fun _ => False) s.heap s.heap [] := va_S.rf
  have hT := hF.1.narrow (B := fun _ => False) (fun q h => h.elim)
  obtain ⟨hO, hco, hva, hTT⟩ := hT.1 i hi
  have hZ := hF.2.1.narrow (B := fun _ => False) (fun q h => h.elim)
  have hl : lv_has ((lg_sl ([.ref (aK i)]) ++ List.replicate (1 - (lg_sl ([.ref (aK i)])).length) Slot.unset).toArray) 1 [(0, .ref (aK i))] := lv_entry ([.ref (aK i)]) (n := 1) (Nat.le_of_ble_eq_true rfl)
  rw [lg_entry_eq]
  generalize (lg_sl ([.ref (aK i)]) ++ List.replicate (1 - (lg_sl ([.ref (aK i)])).length) Slot.unset).toArray = ls at hl ⊢
  refine lv_aload_n hx hb d_L_0 rfl (lv_at hl 0 rfl) ?_
  refine vk_getf hx hb hva hS hown (hts _ (st_in 17 rfl)) (fun _ h => h) d_L_1 ?_
  refine va_tlen hx hb hTT hS rfl d_L_4 ?_
  refine lv_aload_n hx hb d_L_5 rfl (lv_at hl 0 rfl) ?_
  have cb := callB_of (own := "java/lang/String") (index := 335) (y := st_yC) (bytes := prog_12_method_152_code) (maxL := 1) (ret := some .byte) (ws := st_wC) (rm := { frames := 0, cells := 0, slots := 0, locals := 0 }) (R := (headSpec sm_wL { frames := 2, cells := 0, slots := 0, locals := 60 }).room) (mc := 0) (ms := 0) 0 hts (sm_gi0 st_kC) rfl rfl rfl (hts _ (st_in 0 rfl)) (hts _ (st_in 3 rfl)) ⟨by decide, by decide, by decide +kernel⟩ ⟨Nat.le_of_ble_eq_true rfl, Nat.le_of_ble_eq_true rfl⟩
  obtain ⟨cell, c1, c2, c3⟩ := vk_recv hT hi hS
  refine va_calli (va_runV (C := "java/lang/String") (b := aK i) (As := []) (rest := [.int (Int32.ofNat (st_len.getD i 0))]) ⟨hx, hb, hml, hown, hts⟩ (st_cC l (base := base) (aK := aK) (adV := adV) hi) ⟨cb, hts _ (st_in 4 rfl), hts _ (st_in 5 rfl)⟩ ⟨st_bl, ⟨cell, c1, c2, c3⟩, fun U hU hW2 => ⟨rfl, st_mv hU hW2 hF⟩⟩ rfl rfl hl.1 rfl (lv_room (Nat.le_of_ble_eq_true rfl)) d_L_6 ⟨Nat.zero_le _, Nat.zero_le _⟩) hS (fun q _ h => h) (fun q h => h) (fun r u t H1 locs1 ht hvm hw hB hz hk hS1 => ?_)
  subst hw
  refine lv_ishr hx hb d_L_9 ?_
  rw [(st_len_i i hi).2]
  exact W.iret (v := Int32.ofNat (am_strs.getD i []).length) hx hb hr (fun t ht hW => ⟨⟨_, (), rfl, rfl, trivial⟩, hS1.F ht⟩) hS1.2.2 d_L_10
theorem st_cH (l : Launch) {base i : Nat} {aK adV : Nat → Nat} {k : Int32} (hi : i < 13) (h0 : 0 ≤ k.toInt) (h1 : k.toInt < ((am_strs.getD i []).length : Int)) : Met l sm_yH sm_wH { frames := 4, cells := 0, slots := 0, locals := 140 } (va_Pc [.ref (aK i), .int k] (st_SF base aK adV)) (va_Qi (fun (r : Int32) (_ : Unit) => r = Int32.ofNat ((am_strs.getD i []).getD k.toInt.toNat 0)) (fun _ _ => True) (fun _ => False)) 0 0 (fun _ => False) := by
  refine Met.ofW (cc := prog_12_method_56_code) (maxL := 2) (ret := some .char) (by decide) rfl ?_
  intro p e s m args below meth c s₁ B hml hv0
  obtain ⟨rfl, hF⟩ := hv0
  have hx := B.exec
  have hb := B.bytes
  have hr := B.returns
  have hts0 := atoms_spec (ws := sm_wH) B.pre
  have hts : ∀ w ∈ KW, w.before _ s = true := fun w h => hts0 w (List.mem_cons_of_mem _ h)
  have hown : s.vm.findClass "java/lang/String" = some m.cls := findClass_of_methodNamed B.named
  have hlocks := B.notSynchronized
  have hS : va_S (fun _ => False) s.heap s.heap [] := va_S.rf
  have hT := hF.1.narrow (B := fun _ => False) (fun q h => h.elim)
  obtain ⟨hO, hco, hva, hTT⟩ := hT.1 i hi
  have hZ := hF.2.1.narrow (B := fun _ => False) (fun q h => h.elim)
  have hl : lv_has ((lg_sl ([.ref (aK i), .int k]) ++ List.replicate (2 - (lg_sl ([.ref (aK i), .int k])).length) Slot.unset).toArray) 2 [(0, .ref (aK i)), (1, .int k)] := lv_entry ([.ref (aK i), .int k]) (n := 2) (Nat.le_of_ble_eq_true rfl)
  rw [lg_entry_eq]
  generalize (lg_sl ([.ref (aK i), .int k]) ++ List.replicate (2 - (lg_sl ([.ref (aK i), .int k])).length) Slot.unset).toArray = ls at hl ⊢
  have h1 : k.toInt < (st_len.getD i 0 : Nat) := by rw [st_len_eq i hi]; exact h1
  refine lv_aload_n hx hb d_H_0 rfl (lv_at hl 0 rfl) ?_
  have cb := callB_of (own := "java/lang/String") (index := 492) (y := st_yI) (bytes := prog_12_method_154_code) (maxL := 1) (ret := some .boolean) (ws := st_wI) (rm := { frames := 0, cells := 0, slots := 0, locals := 0 }) (R := (headSpec sm_wH { frames := 4, cells := 0, slots := 0, locals := 140 }).room) (mc := 0) (ms := 0) 0 hts (sm_gi0 st_kI) rfl rfl rfl (hts _ (st_in 0 rfl)) (hts _ (st_in 7 rfl)) ⟨by decide, by decide, by decide +kernel⟩ ⟨Nat.le_of_ble_eq_true rfl, Nat.le_of_ble_eq_true rfl⟩
  obtain ⟨cell, c1, c2, c3⟩ := vk_recv hT hi hS
  refine va_calli (va_runV (C := "java/lang/String") (b := aK i) (As := []) (rest := []) ⟨hx, hb, hml, hown, hts⟩ (st_cI l (base := base) (aK := aK) (adV := adV) hi) ⟨cb, hts _ (st_in 8 rfl), hts _ (st_in 9 rfl)⟩ ⟨st_bl, ⟨cell, c1, c2, c3⟩, fun U hU hW2 => ⟨rfl, st_mv hU hW2 hF⟩⟩ rfl rfl hl.1 rfl (lv_room (Nat.le_of_ble_eq_true rfl)) d_H_1 ⟨Nat.zero_le _, Nat.zero_le _⟩) hS (fun q _ h => h) (fun q h => h) (fun r u t H1 locs1 ht hvm hw hB hz hk hS1 => ?_)
  subst hw
  refine lv_if_eq (tgt := 16) hx hb d_H_4 rfl (fun z => absurd z (by decide)) (fun _ => ?_)
  refine lv_aload_n hx hb d_H_7 rfl (lv_at hl 0 rfl) ?_
  refine vk_getf hx hb hva hS1 hown (hts _ (st_in 17 rfl)) (fun _ h => h) d_H_8 ?_
  refine lv_iload_n hx hb d_H_11 rfl (lv_at hl 1 rfl) ?_
  have cb2 := callB_of (own := "java/lang/String") (index := 495) (y := st_yA) (bytes := prog_13_method_2_code) (maxL := 2) (ret := some .char) (ws := st_wA) (rm := { frames := 2, cells := 0, slots := 0, locals := 60 }) (R := (headSpec sm_wH { frames := 4, cells := 0, slots := 0, locals := 140 }).room) (mc := 0) (ms := 0) 2 hts (sm_gi0 st_kA) rfl rfl rfl (hts _ (st_in 1 rfl)) (hts _ (st_in 10 rfl)) ⟨by decide, by decide, by decide +kernel⟩ ⟨Nat.le_of_ble_eq_true rfl, Nat.le_of_ble_eq_true rfl⟩
  have hq1 : ∀ q, q < s.heap.size → ¬ False → H1[q]? = s.heap[q]? := hS1.2.1
  refine va_calli (va_runS (As := [.ref (adV i), .int k]) (rest := []) ⟨hx, hb, hml, hown, hts⟩ (st_cA l (base := base) (aK := aK) (adV := adV) hi h0 h1) ⟨cb2, hts _ (st_in 11 rfl)⟩ ⟨st_bl, fun U hU hW2 => ⟨rfl, st_mv2 (by rw [hU]; exact fun q hq => hS1.2.1 q hq (fun h => h)) hW2 hF⟩⟩ rfl rfl hl.1 rfl (lv_room (Nat.le_of_ble_eq_true rfl)) d_H_12 ⟨Nat.zero_le _, Nat.zero_le _⟩) hS1 (fun q _ h => h) (fun q h => h) (fun r u t H2 locs2 ht2 hvm2 hw2 hB2 hz2 hk2 hS2 => ?_)
  subst hw2
  obtain ⟨-, hj2⟩ := st_byt_ok i hi k.toInt.toNat (by omega)
  exact W.zret (v := st_ch i k.toInt.toNat) hx hb hr hj2 (fun t ht hW => ⟨⟨_, (), rfl, rfl, trivial⟩, hS2.F ht⟩) hS2.2.2 d_H_15
/-- what is asked of the texts -/
theorem st_str (l : Launch) {base : Nat} {aK adV : Nat → Nat} : sm_str l base aK (st_SF base aK adV) := by
  have e13 : am_strs.length = 13 := rfl
  refine ⟨st_SF_ok, fun U h i hi => ?_, fun U h oc idx i w hm => h.2.2.2 oc idx i w hm, fun i hi => st_cL l (e13 ▸ hi), fun i hi k h0 h1 => st_cH l (e13 ▸ hi) h0 h1⟩
  obtain ⟨cell, c1, c2, c3, c4⟩ := (h.1.1 i (e13 ▸ hi)).1
  exact ⟨Nat.not_le.mp c4, cell, c1, c2, c3⟩
