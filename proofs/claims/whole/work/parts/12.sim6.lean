/-! THE WHOLE WALK -/
section SM
variable {p : Program} {l : Launch} {e : Env} {R : Room} {s : State} {m : MethodId} {args : Array Value} {below : List Frame} {meth : Method} {c : Code} {Q : State → Prop}
variable {D : va_G} {ca : Nat → Nat} {base b : Nat} {aK : Nat → Nat} {sl : Nat} {xs : Nat → Int32} {SF : State → Prop} {mi pc pc' : Nat} {L st L' st' : List Value} {μ μ' : amM}
theorem nr_am_ild {v : Option Value} {z : (Nat × List Value × List Value) ⊕ Option Value} (h : am_ild pc L st μ v = some (.inr z)) : False := by
  unfold am_ild at h
  (repeat' split at h) <;> cases h
theorem nr_am_dld {v : Option Value} {z : (Nat × List Value × List Value) ⊕ Option Value} (h : am_dld pc L st μ v = some (.inr z)) : False := by
  unfold am_dld at h
  (repeat' split at h) <;> cases h
theorem nr_am_ald {v : Option Value} {z : (Nat × List Value × List Value) ⊕ Option Value} (h : am_ald pc L st μ v = some (.inr z)) : False := by
  unfold am_ald at h
  (repeat' split at h) <;> cases h
theorem nr_am_ist {i : Nat} {z : (Nat × List Value × List Value) ⊕ Option Value} (h : am_ist pc i L st μ = some (.inr z)) : False := by
  unfold am_ist at h
  (repeat' split at h) <;> cases h
theorem nr_am_ast {i : Nat} {z : (Nat × List Value × List Value) ⊕ Option Value} (h : am_ast pc i L st μ = some (.inr z)) : False := by
  unfold am_ast at h
  (repeat' split at h) <;> cases h
theorem nr_am_dst {i : Nat} {z : (Nat × List Value × List Value) ⊕ Option Value} (h : am_dst pc i L st μ = some (.inr z)) : False := by
  unfold am_dst at h
  (repeat' split at h) <;> cases h
theorem nr_am_op {f : Int32 → Int32 → Int32} {z : (Nat × List Value × List Value) ⊕ Option Value} (h : am_op pc L st μ f = some (.inr z)) : False := by
  unfold am_op at h
  (repeat' split at h) <;> cases h
theorem nr_am_opz {f : Int32 → Int32 → Int32} {z : (Nat × List Value × List Value) ⊕ Option Value} (h : am_opz pc L st μ f = some (.inr z)) : False := by
  unfold am_opz at h
  (repeat' split at h) <;> cases h
theorem nr_am_op1 {f : Int32 → Value} {z : (Nat × List Value × List Value) ⊕ Option Value} (h : am_op1 pc L st μ f = some (.inr z)) : False := by
  unfold am_op1 at h
  (repeat' split at h) <;> cases h
theorem nr_am_dop {f : UInt64 → UInt64 → UInt64} {z : (Nat × List Value × List Value) ⊕ Option Value} (h : am_dop pc L st μ f = some (.inr z)) : False := by
  unfold am_dop at h
  (repeat' split at h) <;> cases h
theorem nr_am_if {cc : Jvm.ClassFile.Cond} {info : List Nat} {z : (Nat × List Value × List Value) ⊕ Option Value} (h : am_if pc L st μ cc info = some (.inr z)) : False := by
  unfold am_if at h
  (repeat' split at h) <;> cases h
theorem nr_am_if2 {cc : Jvm.ClassFile.Cond} {info : List Nat} {z : (Nat × List Value × List Value) ⊕ Option Value} (h : am_if2 pc L st μ cc info = some (.inr z)) : False := by
  unfold am_if2 at h
  (repeat' split at h) <;> cases h
theorem nr_am_xld {t : Nat} {z : (Nat × List Value × List Value) ⊕ Option Value} (h : am_xld pc t L st μ = some (.inr z)) : False := by
  unfold am_xld at h
  (repeat' split at h) <;> cases h
theorem nr_am_xst {t : Nat} {f : Int32 → Int32} {z : (Nat × List Value × List Value) ⊕ Option Value} (h : am_xst pc t L st μ f = some (.inr z)) : False := by
  unfold am_xst at h
  (repeat' split at h) <;> cases h
theorem nr_am_dxld  {z : (Nat × List Value × List Value) ⊕ Option Value} (h : am_dxld pc L st μ = some (.inr z)) : False := by
  unfold am_dxld at h
  (repeat' split at h) <;> cases h
theorem nr_am_dxst  {z : (Nat × List Value × List Value) ⊕ Option Value} (h : am_dxst pc L st μ = some (.inr z)) : False := by
  unfold am_dxst at h
  (repeat' split at h) <;> cases h
theorem nr_am_axld  {z : (Nat × List Value × List Value) ⊕ Option Value} (h : am_axld pc L st μ = some (.inr z)) : False := by
  unfold am_axld at h
  (repeat' split at h) <;> cases h
theorem nr_am_axst  {z : (Nat × List Value × List Value) ⊕ Option Value} (h : am_axst pc L st μ = some (.inr z)) : False := by
  unfold am_axst at h
  (repeat' split at h) <;> cases h
theorem nr_am_alen  {z : (Nat × List Value × List Value) ⊕ Option Value} (h : am_alen pc L st μ = some (.inr z)) : False := by
  unfold am_alen at h
  (repeat' split at h) <;> cases h
theorem nr_am_get {info : List Nat} {z : (Nat × List Value × List Value) ⊕ Option Value} (h : am_get pc L st μ info = some (.inr z)) : False := by
  unfold am_get at h
  (repeat' split at h) <;> cases h
theorem nr_am_put {info : List Nat} {z : (Nat × List Value × List Value) ⊕ Option Value} (h : am_put pc L st μ info = some (.inr z)) : False := by
  unfold am_put at h
  (repeat' split at h) <;> cases h
theorem nr_am_new (sh : Nat ⊕ (Nat × Nat)) (N : Nat) {z : (Nat × List Value × List Value) ⊕ Option Value} (h : am_new pc L st μ sh N = some (.inr z)) : False := by
  unfold am_new at h
  (repeat' split at h) <;> cases h
theorem nr_am_newa {t : Nat} {z : (Nat × List Value × List Value) ⊕ Option Value} (h : am_newa pc t L st μ = some (.inr z)) : False := by
  unfold am_newa at h
  (repeat' split at h) <;> first | cases h | exact nr_am_new _ _ h
theorem nr_am_ldc {info : List Nat} {z : (Nat × List Value × List Value) ⊕ Option Value} (h : am_ldc pc L st μ info = some (.inr z)) : False := by
  unfold am_ldc at h
  (repeat' split at h) <;> cases h
theorem nr_am_oinit  {z : (Nat × List Value × List Value) ⊕ Option Value} (h : am_oinit pc L st μ = some (.inr z)) : False := by
  unfold am_oinit at h
  (repeat' split at h) <;> cases h
theorem nr_am_copy  {z : (Nat × List Value × List Value) ⊕ Option Value} (h : am_copy pc L st μ = some (.inr z)) : False := by
  unfold am_copy at h
  (repeat' split at h) <;> cases h
theorem nr_am_slen  {z : (Nat × List Value × List Value) ⊕ Option Value} (h : am_slen pc L st μ = some (.inr z)) : False := by
  unfold am_slen at h
  (repeat' split at h) <;> cases h
theorem nr_am_sch  {z : (Nat × List Value × List Value) ⊕ Option Value} (h : am_sch pc L st μ = some (.inr z)) : False := by
  unfold am_sch at h
  (repeat' split at h) <;> cases h
theorem am_call_rt {info : List Nat} {rv : Option Value} (h : am_call pc L st μ info = some (.inr (.inr rv))) : False := by
  unfold am_call at h
  split at h
  · unfold am_vcall at h
    (repeat' split at h) <;> cases h
  · unfold am_scall at h
    (repeat' split at h) <;> cases h
  · unfold am_icall at h
    (repeat' split at h) <;> cases h
  · unfold am_scall at h
    (repeat' split at h) <;> cases h
  · unfold am_icall at h
    (repeat' split at h) <;> cases h
  · exact nr_am_oinit h
  · exact nr_am_copy h
  · exact nr_am_slen h
  · exact nr_am_sch h
  · cases h
theorem nI_self {x : Int32} (h : 0 ≤ x.toInt) : x = nI x.toInt.toNat := by
  obtain ⟨j, hj, rfl⟩ := nI_of (sm_nn h)
  rw [nI_toInt hj]
  rfl

set_option maxHeartbeats 4000000 in
theorem sm_retn {ins : Instr} {len : Nat} {info : List Nat} {rv : Option Value} (tb : sm_tab) (C : sm_C p R s m args meth c D ca base b aK sl xs SF mi) (hR : R.cells = am_mc mi ∧ R.slots = am_ms mi) (hp : prog mi pc = some (ins, len, info)) (hs : am_stp pc ins len info L st μ = some (.inr (.inr rv))) : sm_T p l e R s m args below meth c (MQ below (sm_Qc D ca base b aK sl xs rv μ) args s (am_mc mi) (am_ms mi) (fun q => base ≤ q)) D ca base b aK sl xs mi pc L st μ := by
  have hck := tb.2.2.2.2.2.2.2.2.2.2.2.2.2.2 _ _ _ _ _ hp
  obtain ⟨hd0, hi⟩ := (Bool.and_eq_true _ _).mp (show (decide (decode (mB mi) pc = .ok (ins, len)) && ck_ins mi (mO mi) pc ins len info) = true from hck)
  have hd := of_decide_eq_true hd0
  clear hd0 hck hp
  intro H locs ls cells slots hS
  refine W.widen (k := am_mc mi) (n := am_ms mi) (by have := hS.2.2.2.2.1; omega) (by have := hS.2.2.2.2.2.1; omega) ?_
  have hq : ∀ t : State, t.heap = H → s.WarmedH t.vm → sm_Qc D ca base b aK sl xs rv μ args s (.returned (rv.map (sm_cv (sm_ad base b aK)))) t := fun t ht _ => ⟨⟨rfl, by rw [ht]; exact hS.1, hS.2.2.2.2.2.2.2.1, hS.2.2.2.2.2.2.2.2⟩, hS.2.1.F ht⟩
  have hf : ∀ q ∈ locs, base ≤ q.base := fun q h => hS.2.1.2.2 q h
  have hlk : meth.locks = false := C.2.2.2.2.2.2.1
  cases ins
  case iconst n =>
    exfalso
    simp only [am_stp] at hs
    (repeat' split at hs) <;> cases hs
  case bipush n =>
    exfalso
    simp only [am_stp] at hs
    (repeat' split at hs) <;> cases hs
  case sipush n =>
    exfalso
    simp only [am_stp] at hs
    (repeat' split at hs) <;> cases hs
  case dconst d =>
    exfalso
    simp only [am_stp] at hs
    (repeat' split at hs) <;> cases hs
  case iload_n i => exact (nr_am_ild hs).elim
  case iload i => exact (nr_am_ild hs).elim
  case dload_n i => exact (nr_am_dld hs).elim
  case dload i => exact (nr_am_dld hs).elim
  case aload_n i => exact (nr_am_ald hs).elim
  case aload i => exact (nr_am_ald hs).elim
  case istore_n i => exact (nr_am_ist hs).elim
  case istore i => exact (nr_am_ist hs).elim
  case astore_n i => exact (nr_am_ast hs).elim
  case astore i => exact (nr_am_ast hs).elim
  case dstore_n i => exact (nr_am_dst hs).elim
  case dstore i => exact (nr_am_dst hs).elim
  case iinc i n =>
    exfalso
    simp only [am_stp] at hs
    (repeat' split at hs) <;> cases hs
  case iadd => exact (nr_am_op hs).elim
  case isub => exact (nr_am_op hs).elim
  case imul => exact (nr_am_op hs).elim
  case idiv => exact (nr_am_opz hs).elim
  case irem => exact (nr_am_opz hs).elim
  case ineg => exact (nr_am_op1 hs).elim
  case ishl => exact (nr_am_op hs).elim
  case ishr => exact (nr_am_op hs).elim
  case iand => exact (nr_am_op hs).elim
  case ior => exact (nr_am_op hs).elim
  case ixor => exact (nr_am_op hs).elim
  case i2c => exact (nr_am_op1 hs).elim
  case i2d => exact (nr_am_op1 hs).elim
  case dmul => exact (nr_am_dop hs).elim
  case dsub => exact (nr_am_dop hs).elim
  case dcmp op =>
    exfalso
    simp only [am_stp] at hs
    (repeat' split at hs) <;> cases hs
  case dup =>
    exfalso
    simp only [am_stp] at hs
    (repeat' split at hs) <;> cases hs
  case dup2 =>
    exfalso
    simp only [am_stp] at hs
    (repeat' split at hs) <;> cases hs
  case iaload => exact (nr_am_xld hs).elim
  case caload => exact (nr_am_xld hs).elim
  case baload => exact (nr_am_xld hs).elim
  case iastore => exact (nr_am_xst hs).elim
  case castore => exact (nr_am_xst hs).elim
  case bastore => exact (nr_am_xst hs).elim
  case daload => exact (nr_am_dxld hs).elim
  case dastore => exact (nr_am_dxst hs).elim
  case aaload => exact (nr_am_axld hs).elim
  case aastore => exact (nr_am_axst hs).elim
  case arraylength => exact (nr_am_alen hs).elim
  case ifCond cc off => exact (nr_am_if hs).elim
  case if_icmp cc off => exact (nr_am_if2 hs).elim
  case goto off =>
    exfalso
    simp only [am_stp] at hs
    (repeat' split at hs) <;> cases hs
  case tableswitch d lo hi2 offs =>
    exfalso
    simp only [am_stp] at hs
    (repeat' split at hs) <;> cases hs
  case lookupswitch d ps =>
    exfalso
    simp only [am_stp] at hs
    (repeat' split at hs) <;> cases hs
  case ldc x => exact (nr_am_ldc hs).elim
  case ldc2_w x =>
    exfalso
    simp only [am_stp] at hs
    (repeat' split at hs) <;> cases hs
  case getfield x => exact (nr_am_get hs).elim
  case putfield x => exact (nr_am_put hs).elim
  case new x =>
    exfalso
    simp only [am_stp] at hs
    split at hs
    · exact nr_am_new _ _ hs
    · cases hs
  case newarray a =>
    exfalso
    simp only [am_stp] at hs
    split at hs
    · exact nr_am_newa hs
    · cases hs
  case anewarray x => exact (nr_am_newa hs).elim
  case invokevirtual x => exact (am_call_rt hs).elim
  case invokestatic x => exact (am_call_rt hs).elim
  case invokespecial x => exact (am_call_rt hs).elim
  case ireturn =>
    replace hi : (len == 1 && _) = true := hi
    obtain ⟨hl0, h3⟩ := (Bool.and_eq_true _ _).mp hi
    have hl : len = 1 := by simpa using hl0
    clear hi hl0
    subst hl
    have hs : am_iret st info = some (.inr (.inr rv)) := hs
    unfold am_iret at hs
    split at hs
    · cases hs
      have hrt : mR mi = some .int := of_decide_eq_true h3
      exact W.iret C.1 C.2.1 (C.2.2.2.1.trans hrt) hq hf hd hlk
    · split at hs
      · rename_i x hx
        cases hs
        have hrt : mR mi = some .boolean := of_decide_eq_true h3
        exact W.zret C.1 C.2.1 (C.2.2.2.1.trans hrt) (by rcases hx with rfl | rfl <;> rfl) hq hf hd hlk
      · cases hs
    · split at hs
      · rename_i x hx
        cases hs
        have hrt : mR mi = some .char := of_decide_eq_true h3
        exact W.zret C.1 C.2.1 (C.2.2.2.1.trans hrt) (by
          rw [nI_self hx.1]
          exact (pk_charN (by omega)).1) hq hf hd hlk
      · cases hs
    · cases hs
  case areturn =>
    replace hi : (len == 1 && _) = true := hi
    obtain ⟨hl0, h3⟩ := (Bool.and_eq_true _ _).mp hi
    have hl : len = 1 := by simpa using hl0
    clear hi hl0
    subst hl
    simp only [am_stp] at hs
    split at hs
    · cases hs
      split at h3
      · rename_i n hrt
        exact W.aret C.1 C.2.1 (C.2.2.2.1.trans hrt) (Or.inl ⟨_, rfl⟩) (Or.inr ⟨_, rfl⟩) hq hf hd hlk
      · cases h3
    · cases hs
  case dreturn =>
    replace hi : (len == 1 && _) = true := hi
    obtain ⟨hl0, h3⟩ := (Bool.and_eq_true _ _).mp hi
    have hl : len = 1 := by simpa using hl0
    clear hi hl0
    subst hl
    simp only [am_stp] at hs
    split at hs
    · cases hs
      have hrt : mR mi = some .double := of_decide_eq_true h3
      exact W.dret C.1 C.2.1 (C.2.2.2.1.trans hrt) hq hf hd hlk
    · cases hs
  case return_ =>
    replace hi : (len == 1 && _) = true := hi
    obtain ⟨hl0, h3⟩ := (Bool.and_eq_true _ _).mp hi
    have hl : len = 1 := by simpa using hl0
    clear hi hl0
    subst hl
    simp only [am_stp] at hs
    split at hs
    · cases hs
      have hrt : mR mi = none := of_decide_eq_true h3
      exact W.vret C.1 C.2.1 (C.2.2.2.1.trans hrt) hq hf hd hlk
    · cases hs
  all_goals exact nomatch hs

set_option maxHeartbeats 4000000 in
theorem sm_call {ins : Instr} {len : Nat} {info : List Nat} {y : Nat} {a r : List Value} {rv : Option Value} (tb : sm_tab) (hSF : sm_SF base SF) (C : sm_C p R s m args meth c D ca base b aK sl xs SF mi) (hp : prog mi pc = some (ins, len, info)) (hs : am_stp pc ins len info L st μ = some (.inr (.inl (y, a, r)))) (hM : y < 157 → sm_Met l D ca base b aK sl xs SF y a (am_in0 y μ) rv μ') (hb2 : am_mc y ≤ μ.2.1.1 ∧ am_ms y ≤ μ.2.1.2.1) (hg : μ'.1.length = μ.1.length + am_mc y) (k : sm_T p l e R s m args below meth c Q D ca base b aK sl xs mi (pc + 3) L (rv.toList ++ r) (am_out y μ μ')) : sm_T p l e R s m args below meth c Q D ca base b aK sl xs mi pc L st μ := by
  have hck := tb.2.2.2.2.2.2.2.2.2.2.2.2.2.2 _ _ _ _ _ hp
  obtain ⟨hd0, hi⟩ := (Bool.and_eq_true _ _).mp (show (decide (decode (mB mi) pc = .ok (ins, len)) && ck_ins mi (mO mi) pc ins len info) = true from hck)
  have hd := of_decide_eq_true hd0
  clear hd0 hck hp
  have hY := tb.2.2.2.2.2.2.2.2.2.2.2.1
  cases ins
  case iconst n =>
    exfalso
    simp only [am_stp] at hs
    (repeat' split at hs) <;> cases hs
  case bipush n =>
    exfalso
    simp only [am_stp] at hs
    (repeat' split at hs) <;> cases hs
  case sipush n =>
    exfalso
    simp only [am_stp] at hs
    (repeat' split at hs) <;> cases hs
  case dconst d =>
    exfalso
    simp only [am_stp] at hs
    (repeat' split at hs) <;> cases hs
  case iload_n i => exact (nr_am_ild hs).elim
  case iload i => exact (nr_am_ild hs).elim
  case dload_n i => exact (nr_am_dld hs).elim
  case dload i => exact (nr_am_dld hs).elim
  case aload_n i => exact (nr_am_ald hs).elim
  case aload i => exact (nr_am_ald hs).elim
  case istore_n i => exact (nr_am_ist hs).elim
  case istore i => exact (nr_am_ist hs).elim
  case astore_n i => exact (nr_am_ast hs).elim
  case astore i => exact (nr_am_ast hs).elim
  case dstore_n i => exact (nr_am_dst hs).elim
  case dstore i => exact (nr_am_dst hs).elim
  case iinc i n =>
    exfalso
    simp only [am_stp] at hs
    (repeat' split at hs) <;> cases hs
  case iadd => exact (nr_am_op hs).elim
  case isub => exact (nr_am_op hs).elim
  case imul => exact (nr_am_op hs).elim
  case idiv => exact (nr_am_opz hs).elim
  case irem => exact (nr_am_opz hs).elim
  case ineg => exact (nr_am_op1 hs).elim
  case ishl => exact (nr_am_op hs).elim
  case ishr => exact (nr_am_op hs).elim
  case iand => exact (nr_am_op hs).elim
  case ior => exact (nr_am_op hs).elim
  case ixor => exact (nr_am_op hs).elim
  case i2c => exact (nr_am_op1 hs).elim
  case i2d => exact (nr_am_op1 hs).elim
  case dmul => exact (nr_am_dop hs).elim
  case dsub => exact (nr_am_dop hs).elim
  case dcmp op =>
    exfalso
    simp only [am_stp] at hs
    (repeat' split at hs) <;> cases hs
  case dup =>
    exfalso
    simp only [am_stp] at hs
    (repeat' split at hs) <;> cases hs
  case dup2 =>
    exfalso
    simp only [am_stp] at hs
    (repeat' split at hs) <;> cases hs
  case iaload => exact (nr_am_xld hs).elim
  case caload => exact (nr_am_xld hs).elim
  case baload => exact (nr_am_xld hs).elim
  case iastore => exact (nr_am_xst hs).elim
  case castore => exact (nr_am_xst hs).elim
  case bastore => exact (nr_am_xst hs).elim
  case daload => exact (nr_am_dxld hs).elim
  case dastore => exact (nr_am_dxst hs).elim
  case aaload => exact (nr_am_axld hs).elim
  case aastore => exact (nr_am_axst hs).elim
  case arraylength => exact (nr_am_alen hs).elim
  case ifCond cc off => exact (nr_am_if hs).elim
  case if_icmp cc off => exact (nr_am_if2 hs).elim
  case goto off =>
    exfalso
    simp only [am_stp] at hs
    (repeat' split at hs) <;> cases hs
  case tableswitch d lo hi2 offs =>
    exfalso
    simp only [am_stp] at hs
    (repeat' split at hs) <;> cases hs
  case lookupswitch d ps =>
    exfalso
    simp only [am_stp] at hs
    (repeat' split at hs) <;> cases hs
  case ldc x => exact (nr_am_ldc hs).elim
  case ldc2_w x =>
    exfalso
    simp only [am_stp] at hs
    (repeat' split at hs) <;> cases hs
  case getfield x => exact (nr_am_get hs).elim
  case putfield x => exact (nr_am_put hs).elim
  case new x =>
    exfalso
    simp only [am_stp] at hs
    split at hs
    · exact nr_am_new _ _ hs
    · cases hs
  case newarray a =>
    exfalso
    simp only [am_stp] at hs
    split at hs
    · exact nr_am_newa hs
    · cases hs
  case anewarray x => exact (nr_am_newa hs).elim
  case ireturn => 
    have hs : am_iret st info = some (.inr (.inl (y, a, r))) := hs
    unfold am_iret at hs
    (repeat' split at hs) <;> cases hs
  case areturn =>
    exfalso
    simp only [am_stp] at hs
    (repeat' split at hs) <;> cases hs
  case dreturn =>
    exfalso
    simp only [am_stp] at hs
    (repeat' split at hs) <;> cases hs
  case return_ =>
    exfalso
    simp only [am_stp] at hs
    (repeat' split at hs) <;> cases hs
  case invokevirtual x =>
    replace hi : (len == 3 && _) = true := hi
    obtain ⟨hl0, h3⟩ := (Bool.and_eq_true _ _).mp hi
    have hl : len = 3 := by simpa using hl0
    clear hi hl0
    subst hl
    have hi : ck_call mi (mO mi) x 0 info = true := h3
    clear h3
    have hs : am_call (pc + 3) L st μ info = some (.inr (.inl (y, a, r))) := hs
    unfold am_call at hs
    split at hs
    · simp only [ck_call, ck_room, ck_par, Bool.and_eq_true, decide_eq_true_eq, beq_iff_eq] at hi
      unfold am_vcall at hs
      split at hs
      · rename_i q a0 hrev
        split at hs
        · rename_i hz
          cases hs
          obtain ⟨-, g1, g2, g3, g4, g5, g6, g7⟩ := hi
          have hy := (tb.2.2.2.2.2.1 _ _ _ g1).2
          obtain ⟨f1, f2, f3, f4⟩ := hY _ hy
          exact sm_o_callV hSF C (hM hy) f1 g7 hb2 hg hz.1 hz.2.1 hrev k hd ⟨(tb.2.2.2.2.2.1 _ _ _ g1).1, f2 g2⟩ g5 (by rw [g3]; exact hz.2.2) (by rw [g3]; exact g4)
        · cases hs
      · cases hs
    · exact absurd hi (by simp [ck_call])
    · exact absurd hi (by simp [ck_call])
    · exact absurd hi (by simp [ck_call])
    · exact absurd hi (by simp [ck_call])
    · exact (nr_am_oinit hs).elim
    · exact (nr_am_copy hs).elim
    · exact (nr_am_slen hs).elim
    · exact (nr_am_sch hs).elim
    · cases hs
  case invokestatic x =>
    replace hi : (len == 3 && _) = true := hi
    obtain ⟨hl0, h3⟩ := (Bool.and_eq_true _ _).mp hi
    have hl : len = 3 := by simpa using hl0
    clear hi hl0
    subst hl
    have hi : ck_call mi (mO mi) x 1 info = true := h3
    clear h3
    have hs : am_call (pc + 3) L st μ info = some (.inr (.inl (y, a, r))) := hs
    unfold am_call at hs
    split at hs
    · exact absurd hi (by simp [ck_call])
    · simp only [ck_call, ck_room, ck_par, Bool.and_eq_true, decide_eq_true_eq, beq_iff_eq] at hi
      unfold am_scall at hs
      split at hs
      · rename_i hz
        cases hs
        obtain ⟨-, g1, g2, g3, g4⟩ := hi
        have hy := (tb.2.2.2.2.2.1 _ _ _ g1).2
        obtain ⟨f1, f2, f3, f4⟩ := hY _ hy
        exact sm_o_callS hSF C (hM hy) f1 g4 hb2 hg hz.1 hz.2 rfl k hd ⟨(tb.2.2.2.2.2.1 _ _ _ g1).1, f3 g2⟩ g3
      · cases hs
    · exact absurd hi (by simp [ck_call])
    · simp only [ck_call, ck_room, ck_par, Bool.and_eq_true, decide_eq_true_eq, beq_iff_eq] at hi
      unfold am_scall at hs
      split at hs
      · rename_i hz
        cases hs
        obtain ⟨-, g1, g2, g3, g4⟩ := hi
        have hy := (tb.2.2.2.2.2.2.1 _ _ _ g1)
        obtain ⟨f1, f2, f3, f4⟩ := hY _ hy
        exact sm_o_callSN hSF C (hM hy) f1 g4 hb2 hg hz.1 hz.2 rfl k hd ⟨ck_lk_of g1, f3 g2⟩ g3
      · cases hs
    · exact absurd hi (by simp [ck_call])
    · exact (nr_am_oinit hs).elim
    · exact (nr_am_copy hs).elim
    · exact (nr_am_slen hs).elim
    · exact (nr_am_sch hs).elim
    · cases hs
  case invokespecial x =>
    replace hi : (len == 3 && _) = true := hi
    obtain ⟨hl0, h3⟩ := (Bool.and_eq_true _ _).mp hi
    have hl : len = 3 := by simpa using hl0
    clear hi hl0
    subst hl
    have hi : ck_call mi (mO mi) x 2 info = true := h3
    clear h3
    have hs : am_call (pc + 3) L st μ info = some (.inr (.inl (y, a, r))) := hs
    unfold am_call at hs
    split at hs
    · exact absurd hi (by simp [ck_call])
    · exact absurd hi (by simp [ck_call])
    · simp only [ck_call, ck_room, ck_par, Bool.and_eq_true, decide_eq_true_eq, beq_iff_eq] at hi
      unfold am_icall at hs
      split at hs
      · rename_i q a0 hrev
        split at hs
        · rename_i hz
          cases hs
          obtain ⟨-, g1, g2, g3, g4, g5⟩ := hi
          have hy := (tb.2.2.2.2.2.1 _ _ _ g1).2
          obtain ⟨f1, f2, f3, f4⟩ := hY _ hy
          exact sm_o_callI hSF C (hM hy) f1 g5 hb2 hg hz.1 hz.2 hrev k hd ⟨(tb.2.2.2.2.2.1 _ _ _ g1).1, (f4 g2).1⟩ (f4 g2).2 g3
        · cases hs
      · cases hs
    · exact absurd hi (by simp [ck_call])
    · simp only [ck_call, ck_room, ck_par, Bool.and_eq_true, decide_eq_true_eq, beq_iff_eq] at hi
      unfold am_icall at hs
      split at hs
      · rename_i q a0 hrev
        split at hs
        · rename_i hz
          cases hs
          obtain ⟨-, g1, g2, g3, g4, g5⟩ := hi
          have hy := (tb.2.2.2.2.2.2.1 _ _ _ g1)
          obtain ⟨f1, f2, f3, f4⟩ := hY _ hy
          exact sm_o_callIN hSF C (hM hy) f1 g5 hb2 hg hz.1 hz.2 hrev k hd ⟨ck_lk_of g1, (f4 g2).1⟩ (f4 g2).2 g3
        · cases hs
      · cases hs
    · exact (nr_am_oinit hs).elim
    · exact (nr_am_copy hs).elim
    · exact (nr_am_slen hs).elim
    · exact (nr_am_sch hs).elim
    · cases hs
  all_goals exact nomatch hs
theorem sm_args_len (a : List Value) : (lg_sl (a.map (sm_cv (sm_ad base b aK)))).length = (am_args a).length := by
  induction a with
  | nil => rfl
  | cons v a ih =>
    have e1 : lg_sl ((v :: a).map (sm_cv (sm_ad base b aK))) = (if (sm_cv (sm_ad base b aK) v).category = 2 then [.val (sm_cv (sm_ad base b aK) v), .second] else [.val (sm_cv (sm_ad base b aK) v)]) ++ lg_sl (a.map (sm_cv (sm_ad base b aK))) := rfl
    have e2 : am_args (v :: a) = am_args [v] ++ am_args a := by simp [am_args]
    rw [e1, e2, List.length_append, List.length_append, ih]
    congr 1
    cases v <;> rfl
theorem sm_args_mem : ∀ (a : List Value) (k j : Nat) (v : Value), (am_args a)[j]? = some v → v ≠ Value.long 0 → (k + j, sm_cv (sm_ad base b aK) v) ∈ lv_args k (a.map (sm_cv (sm_ad base b aK))) := by
  intro a
  induction a with
  | nil => intro k j v h; cases h
  | cons w a ih =>
    intro k j v h hn
    have e2 : am_args (w :: a) = am_args [w] ++ am_args a := by simp [am_args]
    have hL : lv_args k ((w :: a).map (sm_cv (sm_ad base b aK))) = (k, sm_cv (sm_ad base b aK) w) :: lv_args (if (sm_cv (sm_ad base b aK) w).category = 2 then k + 2 else k + 1) (a.map (sm_cv (sm_ad base b aK))) := rfl
    rw [e2] at h
    rw [hL]
    by_cases hc : w.category = 2
    · have e3 : am_args [w] = [w, .long 0] := by cases w <;> first | rfl | cases hc
      rw [sm_cvc, if_pos hc]
      rw [e3] at h
      match j, h with
      | 0, h => cases h; exact List.mem_cons_self
      | 1, h => cases h; exact absurd rfl hn
      | j + 2, h =>
        have h5 := ih (k + 2) j v (by simpa using h) hn
        rw [show k + (j + 2) = k + 2 + j by omega]
        exact List.mem_cons_of_mem _ h5
    · have e3 : am_args [w] = [w] := by cases w <;> first | rfl | exact absurd rfl hc
      rw [sm_cvc, if_neg hc]
      rw [e3] at h
      match j, h with
      | 0, h => cases h; exact List.mem_cons_self
      | j + 1, h =>
        have h5 := ih (k + 1) j v (by simpa using h) hn
        rw [show k + (j + 1) = k + 1 + j by omega]
        exact List.mem_cons_of_mem _ h5
theorem sm_entry {a : List Value} {n : Nat} (h : (am_args a).length ≤ n) : sm_L (sm_ad base b aK) ((lg_sl (a.map (sm_cv (sm_ad base b aK))) ++ List.replicate (n - (lg_sl (a.map (sm_cv (sm_ad base b aK)))).length) Slot.unset).toArray) n (am_args a ++ List.replicate (n - (am_args a).length) (.long 0)) := by
  have h1 := lv_entry (a.map (sm_cv (sm_ad base b aK))) (n := n) (by rw [sm_args_len]; exact h)
  refine ⟨h1.1, by simp; omega, h1.2.1, fun i v hi hn => ?_⟩
  by_cases hl : i < (am_args a).length
  · rw [List.getElem?_append_left hl] at hi
    have := sm_args_mem (base := base) (b := b) (aK := aK) a 0 i v hi hn
    rw [Nat.zero_add] at this
    exact h1.2.2 _ this
  · rw [List.getElem?_append_right (by omega)] at hi
    exact absurd (List.eq_of_mem_replicate (List.mem_of_getElem? hi)) hn
end SM
def sm_Walk (l : Launch) (D : va_G) (ca : Nat → Nat) (base b : Nat) (aK : Nat → Nat) (sl : Nat) (xs : Nat → Int32) (SF : State → Prop) (n : Nat) : Prop := ∀ (p : Program) (e : Env) (R : Room) (s : State) (m : MethodId) (args : Array Value) (below : List Frame) (meth : Method) (c : Code) (Q : State → Prop) (mi pc : Nat) (L st : List Value) (μ : amM) (r : Option Value × amM), am_x n mi pc L st μ = some r → sm_C p R s m args meth c D ca base b aK sl xs SF mi → (∀ (pc' : Nat) (L' st' : List Value), am_s mi pc' L' st' r.2 = some (.inr (.inr r.1)) → sm_T p l e R s m args below meth c Q D ca base b aK sl xs mi pc' L' st' r.2) → sm_T p l e R s m args below meth c Q D ca base b aK sl xs mi pc L st μ
theorem am_s_prog {mi pc : Nat} {L st : List Value} {μ : amM} {x : (Nat × List Value × List Value × amM) ⊕ ((Nat × List Value × List Value) ⊕ Option Value)} (h : am_s mi pc L st μ = some x) : ∃ ins len info, prog mi pc = some (ins, len, info) ∧ am_stp pc ins len info L st μ = some x := by
  unfold am_s at h
  split at h
  · cases h
  · rename_i ins len info hp
    exact ⟨ins, len, info, hp, h⟩
theorem sm_metOf {l : Launch} {D : va_G} {ca : Nat → Nat} {base b : Nat} {aK : Nat → Nat} {sl : Nat} {xs : Nat → Int32} {SF : State → Prop} {n y : Nat} {a : List Value} {μ μ' : amM} {rv : Option Value} (tb : sm_tab) (hw : sm_Walk l D ca base b aK sl xs SF n) (hy : y < 157) (hx : am_x n y 0 (am_loc y a) [] (am_in0 y μ) = some (rv, μ')) (hxs : ∀ j, j < sl → μ.2.2.1 1000000 j = xs j) (hl : μ.1.length ≤ 1000000) (hsl : μ.2.1.2.2 = sl) (ha : (am_args a).length ≤ am_nL y) : sm_Met l D ca base b aK sl xs SF y a (am_in0 y μ) rv μ' := by
  obtain ⟨hyF, -⟩ := tb.2.2.2.2.2.2.2.2.2.2.2.1 y hy
  refine Met.ofW (cc := mB y) (maxL := am_nL y) (ret := mR y) hyF.2.2.2.2.2.1 rfl ?_
  intro p e s m args below meth c s₁ B hml hv
  obtain ⟨rfl, hG, hP, hsz⟩ := hv
  have hts := atoms_spec (ws := sm_wd y) B.pre
  have hown : s.vm.findClass (nmC (mO y)) = some m.cls := by
    rw [← hyF.2.2.2.2.2.2]
    exact findClass_of_methodNamed B.named
  have C : sm_C p (headSpec (sm_wd y) (mRm y)).room s m (a.map (sm_cv (sm_ad base b aK))).toArray meth c D ca base b aK sl xs SF y := ⟨B.exec, B.bytes, hml, B.returns, hown, fun w h => hts w (List.mem_cons_of_mem _ h), B.notSynchronized, fun h => (name_of_methodNamed B.named B.method).1.trans h, hG, by rw [hsz]; exact Nat.le_add_right _ _, rfl, rfl⟩
  rw [lg_entry_eq]
  have hS : sm_S (headSpec (sm_wd y) (mRm y)).room s D ca base b aK sl xs y (am_in0 y μ) s.heap [] (am_loc y a) ((lg_sl (a.map (sm_cv (sm_ad base b aK))) ++ List.replicate (am_nL y - (lg_sl (a.map (sm_cv (sm_ad base b aK)))).length) Slot.unset).toArray) 0 0 := by
    refine ⟨hP, va_S.rf, ?_, sm_entry ha, ?_, ?_, hsl, hxs, hl⟩
    · rw [hsz, Nat.add_zero]
    · show 0 + am_mc y ≤ (mRm y).cells
      rw [hyF.2.2.2.1]; omega
    · show 0 + am_ms y ≤ (mRm y).slots
      rw [hyF.2.2.2.2.1]; omega
  refine hw p e _ s m _ below meth c _ y 0 (am_loc y a) [] (am_in0 y μ) (rv, μ') hx C (fun pc' L' st' hs => ?_) s.heap [] _ 0 0 hS
  obtain ⟨ins, len, info, hp, hs⟩ := am_s_prog hs
  exact sm_retn tb C ⟨hyF.2.2.2.1, hyF.2.2.2.2.1⟩ hp hs
theorem sm_walk {l : Launch} {D : va_G} {ca : Nat → Nat} {base b : Nat} {aK : Nat → Nat} {sl : Nat} {xs : Nat → Int32} {SF : State → Prop} (tb : sm_tab) (hst : sm_str l base aK SF) : ∀ n, sm_Walk l D ca base b aK sl xs SF n := by
  intro n
  induction n with
  | zero => intro p e R s m args below meth c Q mi pc L st μ r h; cases h
  | succ n ih =>
    intro p e R s m args below meth c Q mi pc L st μ r h C hend
    rw [am_x_succ] at h
    cases hs : am_s mi pc L st μ with
    | none => rw [hs] at h; cases h
    | some x =>
      rw [hs] at h
      obtain ⟨ins, len, info, hp, hs2⟩ := am_s_prog hs
      match x, h, hs2 with
      | .inl (pc', L', st', μ'), h, hs2 => exact sm_next tb hst C hp hs2 (ih p e R s m args below meth c Q mi pc' L' st' μ' r h C hend)
      | .inr (.inr rv), h, hs2 =>
        cases h
        exact hend pc L st hs
      | .inr (.inl (y, a, st1)), h, hs2 =>
        dsimp only at h
        by_cases hb : am_mc y ≤ μ.2.1.1 ∧ am_ms y ≤ μ.2.1.2.1 ∧ (am_args a).length ≤ am_nL y
        · rw [if_pos hb] at h
          cases hc : am_x n y 0 (am_loc y a) [] (am_in0 y μ) with
          | none => rw [hc] at h; cases h
          | some z =>
            rw [hc] at h
            obtain ⟨rv, μ1⟩ := z
            dsimp only at h
            by_cases hg : μ1.1.length = μ.1.length + am_mc y
            · rw [if_pos hg] at h
              intro H locs ls cells slots hS
              exact sm_call tb hst.1 C hp hs2 (fun hy => sm_metOf tb ih hy hc hS.2.2.2.2.2.2.2.1 hS.2.2.2.2.2.2.2.2 hS.2.2.2.2.2.2.1 hb.2.2) ⟨hb.1, hb.2.1⟩ hg (ih p e R s m args below meth c Q mi (pc + 3) L (rv.toList ++ st1) (am_out y μ μ1) r h C hend) H locs ls cells slots hS
            · rw [if_neg hg] at h; cases h
        · rw [if_neg hb] at h; cases h
