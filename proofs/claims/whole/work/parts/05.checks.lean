/-! CHECKS of the tables, by decision -/
def mY (mi : Nat) : MethodName := match nmM[mi]? with
  | some e => e.1
  | none => ⟨"", "", ""⟩
def mB (mi : Nat) : ByteArray := match nmM[mi]? with
  | some e => e.2.1
  | none => ⟨#[]⟩
def mR (mi : Nat) : Option FieldType := match nmM[mi]? with
  | some e => e.2.2.2.1
  | none => none
def mRm (mi : Nat) : Room := match nmM[mi]? with
  | some e => e.2.2.2.2.1
  | none => { frames := 0, cells := 0, slots := 0, locals := 0 }
def mO (mi : Nat) : Nat := match nmM[mi]? with
  | some e => e.2.2.2.2.2.1
  | none => 0
def nmC (oc : Nat) : String := nmClsL.getD oc ""
def KW : List Cond := lw_tbl.filter goodWord
def ck_w (p : Nat) (w : Cond) : Bool := decide (lw_tbl[p]? = some w) && goodWord w
theorem ck_w_in {p : Nat} {w : Cond} (h : ck_w p w = true) : w ∈ KW := by
  simp only [ck_w, Bool.and_eq_true, decide_eq_true_eq] at h
  exact List.mem_filter.mpr ⟨List.mem_of_getElem? h.1, h.2⟩
def ck_par (y : MethodName) (n : Nat) : Bool := decide ((parseMethodDescriptor y.desc).map (fun d => d.parameters.length) = some n)
def ck_room (mi c : Nat) : Bool := decide ((mRm c).frames + 1 ≤ (mRm mi).frames) && decide (8 + (am_nL c + 11) + (mRm c).locals ≤ (mRm mi).locals)
def ck_lk (l : List (Nat × Nat × Nat × Nat)) (oc idx c : Nat) : Bool := l.any fun r => r.1 == oc && (r.2.1 == idx && r.2.2.1 == c)
def ck_fl (oc idx ci k : Nat) : Bool := lkF.any fun r => r.1 == oc && (r.2.1 == idx && (r.2.2.1 == ci && r.2.2.2.1 == k))
def ck_kd (ci k kd : Nat) : Bool := if kd = 0 then decide ((nmT ci k).2.2.1 = "I") else (decide (kd = 1) && decide (parseFieldDescriptor (nmT ci k).2.2.1 ≠ none ∧ (nmT ci k).2.2.1 ≠ "I"))
/-- kinds: 0 instance with selects, 1 static, 2 a constructor -/
def lkX : List Nat := [2, 0, 0, 0, 0, 0, 0, 0, 0, 0, 0, 0, 0, 0, 0, 0, 0, 0, 0, 0, 0, 0, 1, 1, 1, 1, 1, 1, 1, 1, 1, 2, 1, 0, 0, 0, 1, 0, 0, 0, 0, 0, 0, 0, 0, 1, 0, 0, 0, 0, 0, 0, 1, 0, 0, 0, 0, 0, 0, 0, 0, 0, 0, 0, 0, 0, 0, 0, 0, 0, 0, 0, 0, 0, 0, 2, 0, 0, 0, 0, 0, 0, 0, 0, 0, 0, 0, 0, 0, 0, 0, 0, 0, 0, 2, 0, 0, 0, 0, 0, 0, 0, 0, 0, 0, 2, 0, 0, 0, 0, 1, 0, 0, 0, 0, 0, 0, 0, 0, 0, 2, 0, 0, 1, 1, 0, 0, 0, 2, 0, 0, 0, 0, 0, 0, 2, 0, 0, 0, 0, 0, 1, 0, 0, 0, 0, 2, 0, 0, 0, 2, 0, 0, 0, 0, 0, 1, 1]
def lkS : List (Nat × Nat × Nat × Nat) := [(3, 53, 0, 499), (3, 55, 1, 500), (3, 57, 2, 501), (3, 47, 3, 505), (3, 49, 4, 506), (3, 51, 5, 507), (5, 57, 6, 654), (5, 63, 7, 666), (5, 65, 8, 667), (5, 67, 9, 673), (5, 69, 10, 684), (5, 71, 11, 686), (5, 74, 12, 688)]
def lkL : List (Nat × Nat × Nat) := [(3, 38, 508), (5, 76, 659)]
def lkH : List (Nat × Nat × Nat) := [(3, 43, 518), (5, 80, 660)]
def ck_call (mi oc idx : Nat) (op : Nat) (info : List Nat) : Bool := match info with
  | [0, c, na, ci] => op == 0 && (ck_lk lkM oc idx c && (lkX[c]? == some 0 && (mO c == ci && (decide (ci < 10) && (ck_par (mY c) (na - 1) && (decide (1 ≤ na) && ck_room mi c))))))
  | [1, c, na] => op == 1 && (ck_lk lkM oc idx c && (lkX[c]? == some 1 && (ck_par (mY c) na && ck_room mi c)))
  | [2, c, na] => op == 2 && (ck_lk lkM oc idx c && (lkX[c]? == some 2 && (ck_par (mY c) (na - 1) && (decide (1 ≤ na) && ck_room mi c))))
  | [4, c, na] => op == 1 && (ck_lk lkN oc idx c && (lkX[c]? == some 1 && (ck_par (mY c) na && ck_room mi c)))
  | [5, c, na] => op == 2 && (ck_lk lkN oc idx c && (lkX[c]? == some 2 && (ck_par (mY c) (na - 1) && (decide (1 ≤ na) && ck_room mi c))))
  | [6] => op == 2 && (lkI.any (fun r => r.1 == oc && r.2.1 == idx) && (decide (1 ≤ (mRm mi).frames) && decide (20 ≤ (mRm mi).locals)))
  | [7] => op == 1 && (lkA.any (fun r => r.1 == oc && r.2.1 == idx) && (decide (1 ≤ (mRm mi).frames) && decide (8 + (nativeFrameWords "java/lang/System" "arraycopy" 5 + 11) ≤ (mRm mi).locals)))
  | [8] => op == 0 && (lkL.any (fun r => r.1 == oc && r.2.1 == idx) && (decide (2 + 1 ≤ (mRm mi).frames) && decide (8 + (1 + 11) + 60 ≤ (mRm mi).locals)))
  | [9] => op == 0 && (lkH.any (fun r => r.1 == oc && r.2.1 == idx) && (decide (4 + 1 ≤ (mRm mi).frames) && decide (8 + (2 + 11) + 140 ≤ (mRm mi).locals)))
  | _ => false
def ck_off (pc : Nat) (off : Int) (t : Nat) : Bool := decide ((pc : Int) + off = (t : Int))
def ck_tg (pc : Nat) : List Int → List Nat → Bool
  | [], [] => true
  | a :: as, t :: ts => ck_off pc a t && ck_tg pc as ts
  | _, _ => false
def ck_at (a : ArrayType) (t : Nat) : Bool := match a, t with
  | .int, 0 => true
  | .char, 1 => true
  | .boolean, 2 => true
  | .double, 3 => true
  | _, _ => false
/-- lengths and what stands in the pool -/
def ck_ins (mi oc pc : Nat) (i : Instr) (len : Nat) (info : List Nat) : Bool := match i with
  | .iconst _ => len == 1
  | .bipush _ => len == 2
  | .sipush _ => len == 3
  | .ldc x => len == 2 && (match info with
    | [0, v] => ck_lk lkK oc x v
    | [1, j] => ck_lk lkS oc x j
    | _ => false)
  | .ldc2_w x => len == 3 && (match info with
    | [v] => ck_lk lkD oc x v
    | _ => false)
  | .dconst _ => len == 1
  | .iload_n _ => len == 1
  | .iload _ => len == 2
  | .dload_n _ => len == 1
  | .dload _ => len == 2
  | .aload_n _ => len == 1
  | .aload _ => len == 2
  | .istore_n _ => len == 1
  | .istore _ => len == 2
  | .astore_n _ => len == 1
  | .astore _ => len == 2
  | .dstore_n _ => len == 1
  | .dstore _ => len == 2
  | .iinc _ _ => len == 3
  | .ifCond _ off => len == 3 && (match info with
    | [t] => ck_off pc off t
    | _ => false)
  | .if_icmp _ off => len == 3 && (match info with
    | [t] => ck_off pc off t
    | _ => false)
  | .goto off => len == 3 && (match info with
    | [t] => ck_off pc off t
    | _ => false)
  | .tableswitch d _ _ offs => (match info with
    | t :: ts => ck_off pc d t && ck_tg pc offs.toList ts
    | _ => false)
  | .lookupswitch _ ps => (ps.toList.zip (ps.toList.drop 1)).all (fun (a, next) => a.1 < next.1)
  | .getfield x => len == 3 && (match info with
    | [ci, k, kd] => ck_fl oc x ci k && ck_kd ci k kd
    | _ => false)
  | .putfield x => len == 3 && (match info with
    | [ci, k, kd] => ck_fl oc x ci k && (ck_kd ci k kd && (if (nmT ci k).2.2.2 = true then decide ((mY mi).name = "<init>") && decide ((nmT ci k).1 = nmC oc) else true))
    | _ => false)
  | .new x => len == 3 && (match info with
    | [ci] => ck_lk lkC oc x ci && decide (ci < 10)
    | _ => false)
  | .newarray a => len == 2 && (match info with
    | [t] => ck_at a t
    | _ => false)
  | .anewarray x => len == 3 && ck_lk lkC oc x 6
  | .invokevirtual x => len == 3 && ck_call mi oc x 0 info
  | .invokestatic x => len == 3 && ck_call mi oc x 1 info
  | .invokespecial x => len == 3 && ck_call mi oc x 2 info
  | .ireturn => len == 1 && (match info with
    | [0] => decide (mR mi = some .int)
    | [1] => decide (mR mi = some .boolean)
    | [2] => decide (mR mi = some .char)
    | _ => false)
  | .areturn => len == 1 && (match mR mi with
    | some (.object _) => true
    | _ => false)
  | .dreturn => len == 1 && decide (mR mi = some .double)
  | .return_ => len == 1 && decide (mR mi = none)
  | _ => len == 1
def ck_i (mi : Nat) (r : nmPI) : Bool := decide (decode (mB mi) r.1 = .ok (r.2.1, r.2.2.1)) && ck_ins mi (mO mi) r.1 r.2.1 r.2.2.1 r.2.2.2
