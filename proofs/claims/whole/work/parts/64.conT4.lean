/-! THE END OF A METHOD THAT ANSWERS AN INT -/
section SM
variable {pc : Nat} {L st : List Value} {μ : amM}
set_option maxHeartbeats 4000000 in
theorem st_retI {ins : Instr} {len : Nat} {info : List Nat} {v : Int32} (hs : am_stp pc ins len info L st μ = some (.inr (.inr (some (.int v))))) : ins = .ireturn ∧ st = [.int v] := by
  cases ins
  case iconst n =>
    exfalso
    simp only [am_stp] at hs
    (repeat' split at hs) <;> cases hs
  case bipush n =>
    exfalso
    simp only [am_stp] at hs
    (repeat' split at hs) <;> cases hs
  case sipush n =>
    exfalso
    simp only [am_stp] at hs
    (repeat' split at hs) <;> cases hs
  case dconst d =>
    exfalso
    simp only [am_stp] at hs
    (repeat' split at hs) <;> cases hs
  case iload_n i => exact (nr_am_ild hs).elim
  case iload i => exact (nr_am_ild hs).elim
  case dload_n i => exact (nr_am_dld hs).elim
  case dload i => exact (nr_am_dld hs).elim
  case aload_n i => exact (nr_am_ald hs).elim
  case aload i => exact (nr_am_ald hs).elim
  case istore_n i => exact (nr_am_ist hs).elim
  case istore i => exact (nr_am_ist hs).elim
  case astore_n i => exact (nr_am_ast hs).elim
  case astore i => exact (nr_am_ast hs).elim
  case dstore_n i => exact (nr_am_dst hs).elim
  case dstore i => exact (nr_am_dst hs).elim
  case iinc i n =>
    exfalso
    simp only [am_stp] at hs
    (repeat' split at hs) <;> cases hs
  case iadd => exact (nr_am_op hs).elim
  case isub => exact (nr_am_op hs).elim
  case imul => exact (nr_am_op hs).elim
  case idiv => exact (nr_am_opz hs).elim
  case irem => exact (nr_am_opz hs).elim
  case ineg => exact (nr_am_op1 hs).elim
  case ishl => exact (nr_am_op hs).elim
  case ishr => exact (nr_am_op hs).elim
  case iand => exact (nr_am_op hs).elim
  case ior => exact (nr_am_op hs).elim
  case ixor => exact (nr_am_op hs).elim
  case i2c => exact (nr_am_op1 hs).elim
  case i2d => exact (nr_am_op1 hs).elim
  case dmul => exact (nr_am_dop hs).elim
  case dsub => exact (nr_am_dop hs).elim
  case dcmp op =>
    exfalso
    simp only [am_stp] at hs
    (repeat' split at hs) <;> cases hs
  case dup =>
    exfalso
    simp only [am_stp] at hs
    (repeat' split at hs) <;> cases hs
  case dup2 =>
    exfalso
    simp only [am_stp] at hs
    (repeat' split at hs) <;> cases hs
  case iaload => exact (nr_am_xld hs).elim
  case caload => exact (nr_am_xld hs).elim
  case baload => exact (nr_am_xld hs).elim
  case iastore => exact (nr_am_xst hs).elim
  case castore => exact (nr_am_xst hs).elim
  case bastore => exact (nr_am_xst hs).elim
  case daload => exact (nr_am_dxld hs).elim
  case dastore => exact (nr_am_dxst hs).elim
  case aaload => exact (nr_am_axld hs).elim
  case aastore => exact (nr_am_axst hs).elim
  case arraylength => exact (nr_am_alen hs).elim
  case ifCond cc off => exact (nr_am_if hs).elim
  case if_icmp cc off => exact (nr_am_if2 hs).elim
  case goto off =>
    exfalso
    simp only [am_stp] at hs
    (repeat' split at hs) <;> cases hs
  case tableswitch d lo hi2 offs =>
    exfalso
    simp only [am_stp] at hs
    (repeat' split at hs) <;> cases hs
  case lookupswitch d ps =>
    exfalso
    simp only [am_stp] at hs
    (repeat' split at hs) <;> cases hs
  case ldc x => exact (nr_am_ldc hs).elim
  case ldc2_w x =>
    exfalso
    simp only [am_stp] at hs
    (repeat' split at hs) <;> cases hs
  case getfield x => exact (nr_am_get hs).elim
  case putfield x => exact (nr_am_put hs).elim
  case new x =>
    exfalso
    simp only [am_stp] at hs
    split at hs
    · exact nr_am_new _ _ hs
    · cases hs
  case newarray a =>
    exfalso
    simp only [am_stp] at hs
    split at hs
    · exact nr_am_newa hs
    · cases hs
  case anewarray x => exact (nr_am_newa hs).elim
  case invokevirtual x => exact (am_call_rt hs).elim
  case invokestatic x => exact (am_call_rt hs).elim
  case invokespecial x => exact (am_call_rt hs).elim
  case ireturn =>
    have hs : am_iret st info = some (.inr (.inr (some (.int v)))) := hs
    unfold am_iret at hs
    (repeat' split at hs) <;> first | (cases hs; exact ⟨rfl, rfl⟩) | cases hs
  case areturn =>
    exfalso
    simp only [am_stp] at hs
    (repeat' split at hs) <;> cases hs
  case dreturn =>
    exfalso
    simp only [am_stp] at hs
    (repeat' split at hs) <;> cases hs
  case return_ =>
    exfalso
    simp only [am_stp] at hs
    (repeat' split at hs) <;> cases hs
  all_goals exact nomatch hs
end SM
/-! THE CLAIM OUT OF ONE WALK OF THE LAW'S BODY. Your part is whole_start (and what it stands on); all else here is the same for every law, but numbers. -/
def R_law : String := "ReleaseDeskLaw"
def lw_P (b : Addr) (xs : List Int32) (args : Array Value) (s : State) : Prop := args = #[.ref b] ∧ s.IntsAt b xs ∧ xs.length ≤ 3072 ∧ (Jvm.Cond.and given_1 narrow_1).before args s = true
def lw_Q (_ : Array Value) (s : State) (o : Outcome) (t : State) : Prop := o = .returned (some (.int 1)) ∧ Framed s o t [] 600000 7302250
def lw_Z (below : List Frame) (a : Array Value) (s : State) : State → Prop := fun t => ∃ o, t.status = .running ∧ Ended t below o ∧ lw_Q a s o t
/-- the law's own end, with 1 on the stack, nothing written that was there before, its room as the claim has it -/
theorem lw_ret {p : Program} {l : Launch} {e : Env} {s : State} {m : MethodId} {below : List Frame} {meth : Method} {c : Code} {b : Nat} (hx : p.tables.exec = Jvm.exec) (hb : c.code = code) (hr : meth.sig.returnType = ret) (hlocks : meth.locks = false) {pc : Nat} {H : Heap} {ls : Array Slot} (hdg : decode code pc = .ok (.ireturn, 1)) : W p l e room_1 s m #[Value.ref b] below meth c H [] 600000 7302250 (lw_Z below #[Value.ref b] s) (F0 m pc ls [.int 1]) := by
  intro T hT X
  obtain ⟨fs, hret, hrun, hended, hW, hframe⟩ := X.leave (v := some (.int 1)) (hlocks := hlocks) (fun h => by rw [hr] at h; cases h)
  have hmeth' : T.vm.method? m = some meth := X.method'
  refine ⟨T.setFrames fs, ?_, .returned (some (.int 1)), hrun, hended, rfl, ⟨_, rfl⟩, hW, hframe⟩
  jvm_step X.here [X.here.top, hx, hb, hdg, hmeth', hr, ret, narrow_b1]
  (try refine ⟨rfl, ?_⟩); (try refine ⟨rfl, ?_⟩)
  first | (intro acts; rw [hret _ acts rfl rfl rfl]) | rw [hret _ _ rfl rfl rfl]
  exact Steps.refl _
/-- what holds at the law's entry: the machine, the code, the tables' words (any of lw_tbl by 'hts w (by decide +kernel)'), the script of L ints xs at the cell b, what the Statement gives of the start (any of its parts by flat_of_before) -/
def lw_At (p : Program) (s : State) (m : MethodId) (meth : Method) (c : Code) (b L : Nat) (xs : Nat → Int32) : Prop :=
  p.tables.exec = Jvm.exec ∧ c.code = code ∧ meth.sig.returnType = ret ∧ c.maxLocals = 8 ∧ s.vm.findClass R_law = some m.cls ∧ (∀ w ∈ lw_tbl, w.before #[Value.ref b] s = true) ∧ va_X b L xs s s.heap ∧ b < s.heap.size ∧ meth.locks = false ∧ (Jvm.Cond.and given_1 narrow_1).before #[Value.ref b] s = true
theorem st_M00 {xs : Nat → Int32} {j : Nat} : M00 xs 1000000 j = xs j := by
  unfold M00
  exact if_pos rfl
theorem st_room : room_1.cells = 600000 ∧ room_1.slots = 7302250 := ⟨rfl, rfl⟩
theorem st_one {ad : Nat → Nat} : ([Value.int (nI 1)]).map (sm_cv ad) = [Value.int 1] := rfl
theorem st_mB : mB 157 = code := by rfl
theorem st_nL : am_nL 157 = 8 := by rfl
theorem st_mR : mR 157 = ret := by rfl
theorem st_mO : nmC (mO 157) = R_law := by decide +kernel
theorem st_mN : (mY 157).name ≠ "<init>" := by decide +kernel
theorem st_rm : room_1.frames = (mRm 157).frames ∧ room_1.locals = (mRm 157).locals := ⟨rfl, rfl⟩
set_option maxHeartbeats 4000000 in
/-- from the entry, for every script of at most 3072 ints, the law comes to its end with true -/
theorem whole_start {p : Program} {e : Env} {s : State} {m : MethodId} {below : List Frame} {meth : Method} {c : Code} (l : Launch) {b L : Nat} {xs : Nat → Int32} (hL : L ≤ 3072) (C0 : lw_At p s m meth c b L xs) : W p l e room_1 s m #[Value.ref b] below meth c s.heap [] 0 0 (lw_Z below #[Value.ref b] s) (entryFrame m ([Value.ref b] : List Value).toArray 8) := by
  obtain ⟨hx, hb, hr, hml, hown, hts, hX, hbl, hlocks, hgv⟩ := id C0
  obtain ⟨aK, adV, hSF⟩ := st_texts hts hgv
  obtain ⟨D, ca, hK⟩ := st_known hts
  obtain ⟨n, r, hrun, hr1⟩ := law_all (xs := xs) hL
  have hkw : ∀ w ∈ KW, w.before #[Value.ref b] s = true := fun w h => hts w (List.mem_filter.mp h).1
  have C : sm_C p room_1 s m #[Value.ref b] meth c D ca s.heap.size b aK L xs (st_SF s.heap.size aK adV) 157 := ⟨hx, hb.trans st_mB.symm, hml.trans st_nL.symm, hr.trans st_mR.symm, by rw [st_mO]; exact hown, hkw, hlocks, fun h => absurd h st_mN, ⟨hK, fun q hq => by
    have h1 := List.all_eq_true.mp lkN_ok q hq
    simp only [Bool.and_eq_true, decide_eq_true_eq] at h1
    exact va_Nw.of rfl (hts _ (List.mem_of_getElem? h1.1)), va_AO.of (A := #[Value.ref b]) (by first | exact va_tabs rfl rfl (hts _ st_over) | exact hts _ st_over), hX, hbl, hSF⟩, Nat.le_refl _, st_rm.1, st_rm.2⟩
  have e0 : ([.ref 1000000] : List Value).map (sm_cv (sm_ad s.heap.size b aK)) = [.ref b] := by simp [sm_cv, sm_ad]
  have hl := sm_entry (base := s.heap.size) (b := b) (aK := aK) (a := [.ref 1000000]) (n := 8) (Nat.le_of_ble_eq_true rfl)
  rw [e0] at hl
  rw [lg_entry_eq]
  generalize (lg_sl ([.ref b]) ++ List.replicate (8 - (lg_sl ([.ref b])).length) Slot.unset).toArray = ls at hl ⊢
  have hS : sm_S room_1 s D ca s.heap.size b aK L xs 157 ([], (600000, 7302250, L), M00 xs, DD, fA []) s.heap [] [.ref 1000000, .long 0, .long 0, .long 0, .long 0, .long 0, .long 0, .long 0] ls 0 0 := ⟨fun k q h => absurd (sm_ws_some h).1 (Nat.not_lt_zero _), va_S.rf, rfl, st_nL.symm ▸ hl, by rw [st_room.1, Nat.zero_add]; exact Nat.le_refl _, by rw [st_room.2, Nat.zero_add]; exact Nat.le_refl _, rfl, fun j _ => st_M00, Nat.zero_le _⟩
  refine sm_walk sm_tab_ok (st_str l (adV := adV)) n p e room_1 s m #[Value.ref b] below meth c (lw_Z below #[Value.ref b] s) 157 0 _ [] _ r hrun C (fun pc' L' st' hs => ?_) s.heap [] ls 0 0 hS
  obtain ⟨ins, len, info, hp, hs⟩ := am_s_prog hs
  rw [hr1] at hs
  obtain ⟨rfl, rfl⟩ := st_retI hs
  have hck := sm_tab_ok.2.2.2.2.2.2.2.2.2.2.2.2.2.2 _ _ _ _ _ hp
  obtain ⟨hd0, hi⟩ := (Bool.and_eq_true _ _).mp (show (decide (decode (mB 157) pc' = .ok (.ireturn, len)) && ck_ins 157 (mO 157) pc' .ireturn len info) = true from hck)
  have hd := of_decide_eq_true hd0
  have hln : len = 1 := by
    replace hi : (len == 1 && _) = true := hi
    simpa using ((Bool.and_eq_true _ _).mp hi).1
  subst hln
  rw [st_mB] at hd
  intro H locs ls cells slots hS
  refine W.widen (k := 600000) (n := 7302250) (by have := hS.2.2.2.2.1; rw [st_room.1] at this; omega) (by have := hS.2.2.2.2.2.1; rw [st_room.2] at this; omega) ?_
  refine va_forget (fun q hq => hS.2.1.2.2 q hq) ?_
  rw [st_one]
  exact lw_ret hx hb hr hlocks hd
set_option maxHeartbeats 4000000 in
theorem lw_walk (l : Launch) (b : Addr) (xs : List Int32) : MetFree l x (headSpec (Jvm.Cond.code x code maxLocals ret :: tables_1) room_1) (lw_P b xs) (fun _ _ _ _ _ => True) lw_Q := by
  refine MetFree.of_bodyS (code := code) (maxLocals := maxLocals) (ret := ret) (by decide) ?_ ?_
  · intro args s m h hn
    obtain ⟨meth, c, h1, h2, h3, h4, h5, h6, -, -⟩ := Cond.code_spec hn (atoms_spec (ws := Jvm.Cond.code x code maxLocals ret :: tables_1) h _ List.mem_cons_self)
    exact ⟨meth, c, h1, h2, h3, h4, h5, h6⟩
  · intro p e s m args below meth c s₁ B hml0 hP _
    obtain ⟨rfl, hx, hbd, hgv⟩ := hP
    obtain ⟨scr, harrAt, hlist, hof, hsmall⟩ := hx
    obtain ⟨hcb, hkn, -, -⟩ := State.arrayAt?_spec harrAt
    have hown : s.vm.findClass R_law = some m.cls := findClass_of_methodNamed B.named
    have hts0 : ∀ c ∈ (Jvm.Cond.code x code maxLocals ret :: tables_1), c.before #[Value.ref b] s = true := atoms_spec (ws := Jvm.Cond.code x code maxLocals ret :: tables_1) B.pre
    have hts : ∀ w ∈ lw_tbl, w.before #[Value.ref b] s = true := k2_hts_sels lw_privs (fun w hw => hts0 w (List.mem_cons_of_mem _ hw)) lw_privs_ok
    have hml : c.maxLocals = 8 := B.maxLocals_eq (hts0 _ List.mem_cons_self)
    have X₀ : Stand p l e room_1 s m #[Value.ref b] below meth c s₁ [] 0 0 := Stand.of_body B
    have hh0 : s₁.heap = s.heap := by rw [B.state]; rfl
    have hsz : scr.slots.size = xs.length := by rw [← Array.length_toList, hlist, List.length_map]
    have hval : ∀ j : Nat, j < xs.length → scr.slots[j]? = some (.int (xs.getD j 0)) := fun j hj => by
      rw [← Array.getElem?_toList, hlist]
      simp [hj]
    have hbl : b < s.heap.size := (Array.getElem?_eq_some_iff.mp hcb).1
    have hX : va_X b xs.length (fun j => xs.getD j 0) s s.heap := ⟨scr, hcb, hof, hkn, hsz, hval⟩
    have K : W p l e room_1 s m #[Value.ref b] below meth c s₁.heap [] 0 0 (lw_Z below #[Value.ref b] s) (entryFrame m ([Value.ref b] : List Value).toArray 8) := by
      rw [hh0]
      exact whole_start l hbd ⟨B.exec, B.bytes, B.returns, hml, hown, hts, hX, hbl, B.notSynchronized, hgv⟩
    obtain ⟨t, a1, o, b1, b2, b3⟩ := K s₁ rfl X₀
    exact ⟨t, o, a1, b1, b2, b3⟩
theorem lw_pre_spec {args : Array Value} {s : State} (h : (Jvm.Cond.and given_1 narrow_1).before args s = true) (hr : rest_1_c.before args s = true) : ∃ (b : Addr) (xs : List Int32), lw_P b xs args s := by
  have hs := flat_of_before _ h
  have hq := flat_of_before _ hr
  have hc : (Cond.count 1).before args s = true := hs _ (by decide +kernel)
  have harr : (Cond.arrayOf (.arg 0) .int).before args s = true := hs _ (by decide +kernel)
  have hle : (Cond.le (.length (.arg 0)) (.int 3072)).before args s = true := hs _ (by decide +kernel)
  have hlen : (Cond.isInt (.length (.arg 0))).before args s = true := hq _ (by decide +kernel)
  have hall : (Cond.all (.arg 0) (.isInt (.elem (.arg 0) (.index 0)))).before args s = true := hq _ (by decide +kernel)
  obtain ⟨b, xs, hb, hx⟩ := State.ints_of_pre rfl harr hlen hall
  have hsm : xs.length < 2 ^ 31 := hx.choose_spec.2.2.2
  have hev : (Term.length (.arg 0)).eval args s none [] s = some (.int xs.length.toInt32) := hx.length_eval hb
  have hv := Cond.le_ints hev (show (Term.int 3072).eval args s none [] s = some (.int 3072) from rfl)
  have hd : xs.length.toInt32 ≤ 3072 := by
    simpa [Cond.before, Cond.holds, hv] using hle
  have hN : xs.length ≤ 3072 := (Int32.ofNat_le_ofNat hsm (by decide)).mp (show Int32.ofNat xs.length ≤ Int32.ofNat 3072 from hd)
  exact ⟨b, xs, Cond.one_arg hc (show args[0]? = some (.ref b) from hb), hx, hN, h⟩
theorem lw_comes (l : Launch) : Comes l x (Jvm.Cond.code x code maxLocals ret :: tables_1) room_1 (fun tb e args s => Calls_1 tb e args s ∧ rest_1 tb e args s ∧ Pre_1 tb e args s)
    (fun _ _ args s o t => lw_Q args s o t) := by
  intro p e ha hc hk s m args below hf hfit hheap happ hpre
  obtain ⟨b, xs, hP⟩ := lw_pre_spec hpre.2.2 hpre.2.1
  obtain ⟨k, o, h1, h2, h3, hQ⟩ := lw_walk l b xs p e ha hc hk s m args below hf ((Spec.applies_iff_loose hf).mp happ).1 hP trivial
  exact ⟨k, o, h1, h2, h3, hQ⟩
theorem lw_frame {s t : State} {o : Outcome} {args : Array Value} (h : Framed s o t [] 600000 7302250) :
    Framed s o t (fieldLocs frame_1_writes args s ++ arrayLocs frame_1_arrays args s ++ staticLocs frame_1_statics s) 600000 7302250 := h
theorem lw_limb (L : Cond) (hL : ∀ (args : Array Value) (s t : State), L.after args s (.returned (some (.int 1))) t = true) :
    ArmFor flags0 classFile x code maxLocals ret World_1 tables_1 room_1 Calls_1 rest_1 Pre_1
      (fun tb e a s o t => postC L tb e a s o t ∧ Framed s o t (fieldLocs frame_1_writes a s ++ arrayLocs frame_1_arrays a s ++ staticLocs frame_1_statics s) 600000 7302250) := by
  intro l _ _ _ p e ha hc hk s m args below hf hfit hheap happ hpre
  obtain ⟨k, o, h1, h2, h3, rfl, hF⟩ := lw_comes l p e ha hc hk s m args below hf hfit hheap happ hpre
  exact ⟨k, _, h1, h2, h3, hL args s _, lw_frame hF⟩
theorem i_vc : Claimed_1_1 ∧ Claimed_1_2 := ⟨lw_limb limb_1_1 (fun args s t => by simp [limb_1_1, Cond.after, Cond.holds, Cond.value]), lw_limb limb_1_2 (fun args s t => Cond.after_iff.mpr (by
  first | (rw [show limb_1_2 = Cond.eq .result (.int 1) from rfl, Cond.eq_ints (x := 1) (y := 1) rfl rfl]; simp; done) | (simp [limb_1_2, Cond.value, Term.eval]; done)))⟩
