/-! THE ABSTRACT MACHINE: cells are places, a state is (shapes, (room left, script's length), ints, doubles, references) -/
abbrev amM : Type := List (Nat ⊕ (Nat × Nat)) × (Nat × Nat × Nat) × (Nat → Nat → Int32) × (Nat → Nat → UInt64) × (Nat → Nat → Option Nat)
abbrev amR : Type := Option ((Nat × List Value × List Value × amM) ⊕ ((Nat × List Value × List Value) ⊕ Option Value))
def am_up {α : Type} (M : Nat → Nat → α) (q k : Nat) (x : α) : Nat → Nat → α := fun a b => if a = q ∧ b = k then x else M a b
def am_row {α : Type} (M : Nat → Nat → α) (q : Nat) (f : Nat → α) : Nat → Nat → α := fun a => if a = q then f else M a
abbrev am_nx (pc : Nat) (L st : List Value) (μ : amM) : amR := some (.inl (pc, L, st, μ))
/-- a double whose second half is written over is no more -/
def am_nd (v : Value) : Value := match v with
  | .double _ => .long 0
  | .long _ => .long 0
  | w => w
def am_st : Nat → Value → List Value → List Value
  | _, _, [] => []
  | 0, v, _ :: l => v :: l
  | 1, v, a :: l => am_nd a :: am_st 0 v l
  | i + 2, v, a :: l => a :: am_st (i + 1) v l
def am_st2 : Nat → Value → List Value → List Value
  | _, _, [] => []
  | 0, v, _ :: l => v :: am_st 0 (.long 0) l
  | 1, v, a :: l => am_nd a :: am_st2 0 v l
  | i + 2, v, a :: l => a :: am_st2 (i + 1) v l
def am_args (a : List Value) : List Value := a.flatMap fun v => match v with
  | .double x => [.double x, .long 0]
  | .long x => [.long x, .long 0]
  | w => [w]
def am_nL (mi : Nat) : Nat := match nmM[mi]? with
  | some e => e.2.2.1
  | none => 0
def am_mc (mi : Nat) : Nat := match nmM[mi]? with
  | some e => e.2.2.2.2.2.2.1
  | none => 0
def am_ms (mi : Nat) : Nat := match nmM[mi]? with
  | some e => e.2.2.2.2.2.2.2
  | none => 0
def am_loc (mi : Nat) (a : List Value) : List Value := am_args a ++ List.replicate (am_nL mi - (am_args a).length) (.long 0)
def am_fn (ci : Nat) : Nat := (nmFldL.getD ci []).length
def am_cat (st : List Value) : Nat := (st.map fun v => v.category).sum
/-- what stands at a place; the script is one more array -/
def am_sh (μ : amM) (q : Nat) : Option (Nat ⊕ (Nat × Nat)) := if q = 1000000 then some (.inr (0, μ.2.1.2.2)) else μ.1[q]?
def am_ild (pc : Nat) (L st : List Value) (μ : amM) (v : Option Value) : amR := match v with
  | some (.int x) => am_nx pc L (.int x :: st) μ
  | _ => none
def am_dld (pc : Nat) (L st : List Value) (μ : amM) (v : Option Value) : amR := match v with
  | some (.double x) => am_nx pc L (.double x :: st) μ
  | _ => none
def am_ald (pc : Nat) (L st : List Value) (μ : amM) (v : Option Value) : amR := match v with
  | some (.ref x) => am_nx pc L (.ref x :: st) μ
  | _ => none
def am_ist (pc i : Nat) (L st : List Value) (μ : amM) : amR := match st with
  | .int x :: r => if i < L.length then am_nx pc (am_st i (.int x) L) r μ else none
  | _ => none
def am_ast (pc i : Nat) (L st : List Value) (μ : amM) : amR := match st with
  | .ref x :: r => if i < L.length then am_nx pc (am_st i (.ref x) L) r μ else none
  | _ => none
def am_dst (pc i : Nat) (L st : List Value) (μ : amM) : amR := match st with
  | .double x :: r => if i + 1 < L.length then am_nx pc (am_st2 i (.double x) L) r μ else none
  | _ => none
def am_op (pc : Nat) (L st : List Value) (μ : amM) (f : Int32 → Int32 → Int32) : amR := match st with
  | .int y :: .int x :: r => am_nx pc L (.int (f x y) :: r) μ
  | _ => none
def am_opz (pc : Nat) (L st : List Value) (μ : amM) (f : Int32 → Int32 → Int32) : amR := match st with
  | .int y :: .int x :: r => if y = 0 then none else am_nx pc L (.int (f x y) :: r) μ
  | _ => none
def am_op1 (pc : Nat) (L st : List Value) (μ : amM) (f : Int32 → Value) : amR := match st with
  | .int x :: r => am_nx pc L (f x :: r) μ
  | _ => none
def am_dop (pc : Nat) (L st : List Value) (μ : amM) (f : UInt64 → UInt64 → UInt64) : amR := match st with
  | .double y :: .double x :: r => if f x y &&& 0x7fffffffffffffff ≤ 0x7ff0000000000000 then am_nx pc L (.double (f x y) :: r) μ else none
  | _ => none
def am_c (c : Jvm.ClassFile.Cond) (x y : Int32) : Bool := match c with
  | .eq => decide (x = y)
  | .ne => decide (¬ x = y)
  | .lt => decide (x < y)
  | .ge => decide (y ≤ x)
  | .gt => decide (y < x)
  | .le => decide (x ≤ y)
def am_if (pc : Nat) (L st : List Value) (μ : amM) (c : Jvm.ClassFile.Cond) (info : List Nat) : amR := match st, info with
  | .int x :: r, [t] => if am_c c x 0 = true then am_nx t L r μ else am_nx pc L r μ
  | _, _ => none
def am_if2 (pc : Nat) (L st : List Value) (μ : amM) (c : Jvm.ClassFile.Cond) (info : List Nat) : amR := match st, info with
  | .int y :: .int x :: r, [t] => if am_c c x y = true then am_nx t L r μ else am_nx pc L r μ
  | _, _ => none
def am_in (i : Int32) (n : Nat) : Prop := 0 ≤ i.toInt ∧ i.toInt < (n : Int)
/-- a load out of an array of ints, chars, booleans -/
def am_xld (pc t : Nat) (L st : List Value) (μ : amM) : amR := match st with
  | .int i :: .ref q :: r => (match am_sh μ q with
    | some (.inr (t', n)) => if t' = t ∧ 0 ≤ i.toInt ∧ i.toInt < (n : Int) then am_nx pc L (.int (μ.2.2.1 q i.toInt.toNat) :: r) μ else none
    | _ => none)
  | _ => none
def am_xst (pc t : Nat) (L st : List Value) (μ : amM) (f : Int32 → Int32) : amR := match st with
  | .int x :: .int i :: .ref q :: r => (match μ.1[q]? with
    | some (.inr (t', n)) => if t' = t ∧ 0 ≤ i.toInt ∧ i.toInt < (n : Int) then am_nx pc L r (μ.1, μ.2.1, am_up μ.2.2.1 q i.toInt.toNat (f x), μ.2.2.2) else none
    | _ => none)
  | _ => none
def am_dxld (pc : Nat) (L st : List Value) (μ : amM) : amR := match st with
  | .int i :: .ref q :: r => (match μ.1[q]? with
    | some (.inr (t', n)) => if t' = 3 ∧ 0 ≤ i.toInt ∧ i.toInt < (n : Int) then am_nx pc L (.double (μ.2.2.2.1 q i.toInt.toNat) :: r) μ else none
    | _ => none)
  | _ => none
def am_dxst (pc : Nat) (L st : List Value) (μ : amM) : amR := match st with
  | .double x :: .int i :: .ref q :: r => (match μ.1[q]? with
    | some (.inr (t', n)) => if t' = 3 ∧ 0 ≤ i.toInt ∧ i.toInt < (n : Int) then am_nx pc L r (μ.1, μ.2.1, μ.2.2.1, am_up μ.2.2.2.1 q i.toInt.toNat x, μ.2.2.2.2) else none
    | _ => none)
  | _ => none
def am_axld (pc : Nat) (L st : List Value) (μ : amM) : amR := match st with
  | .int i :: .ref q :: r => (match μ.1[q]? with
    | some (.inr (t', n)) => if t' = 4 ∧ 0 ≤ i.toInt ∧ i.toInt < (n : Int) then am_nx pc L (va_rf (μ.2.2.2.2 q i.toInt.toNat) :: r) μ else none
    | _ => none)
  | _ => none
def am_axst (pc : Nat) (L st : List Value) (μ : amM) : amR := match st with
  | .ref v :: .int i :: .ref q :: r => (match μ.1[q]? with
    | some (.inr (t', n)) => if t' = 4 ∧ 0 ≤ i.toInt ∧ i.toInt < (n : Int) ∧ μ.1[v]? = some (.inl 6) then am_nx pc L r (μ.1, μ.2.1, μ.2.2.1, μ.2.2.2.1, am_up μ.2.2.2.2 q i.toInt.toNat (some v)) else none
    | _ => none)
  | _ => none
def am_alen (pc : Nat) (L st : List Value) (μ : amM) : amR := match st with
  | .ref q :: r => (match am_sh μ q with
    | some (.inr (t, n)) => if t < 5 then am_nx pc L (.int (Int32.ofNat n) :: r) μ else none
    | _ => none)
  | _ => none
def am_get (pc : Nat) (L st : List Value) (μ : amM) (info : List Nat) : amR := match st, info with
  | .ref q :: r, [ci, k, kd] => if μ.1[q]? = some (.inl ci) then am_nx pc L ((if kd = 0 then .int (μ.2.2.1 q k) else va_rf (μ.2.2.2.2 q k)) :: r) μ else none
  | _, _ => none
def am_put (pc : Nat) (L st : List Value) (μ : amM) (info : List Nat) : amR := match st, info with
  | .int x :: .ref q :: r, [ci, k, 0] => if μ.1[q]? = some (.inl ci) then am_nx pc L r (μ.1, μ.2.1, am_up μ.2.2.1 q k x, μ.2.2.2) else none
  | .ref v :: .ref q :: r, [ci, k, 1] => if μ.1[q]? = some (.inl ci) then am_nx pc L r (μ.1, μ.2.1, μ.2.2.1, μ.2.2.2.1, am_up μ.2.2.2.2 q k (some v)) else none
  | _, _ => none
/-- a new cell: its shape, how many slots -/
def am_new (pc : Nat) (L st : List Value) (μ : amM) (sh : Nat ⊕ (Nat × Nat)) (N : Nat) : amR :=
  if 1 ≤ μ.2.1.1 ∧ N ≤ μ.2.1.2.1 ∧ μ.1.length < 1000000 then
    am_nx pc L (.ref μ.1.length :: st) (μ.1 ++ [sh], (μ.2.1.1 - 1, μ.2.1.2.1 - N, μ.2.1.2.2), am_row μ.2.2.1 μ.1.length (fun _ => 0), am_row μ.2.2.2.1 μ.1.length (fun _ => 0), am_row μ.2.2.2.2 μ.1.length (fun _ => none))
  else none
def am_newa (pc t : Nat) (L st : List Value) (μ : amM) : amR := match st with
  | .int x :: r => if 0 ≤ x.toInt ∧ x.toInt < 1000000 then am_new pc L r μ (.inr (t, x.toInt.toNat)) x.toInt.toNat else none
  | _ => none
def am_strs : List (List Nat) := [[40, 41], [40, 105, 110, 116, 41], [40, 105, 110, 116, 44, 108, 111, 110, 103, 41], [58, 105, 110, 116], [58, 108, 111, 110, 103], [58, 100, 111, 117, 98, 108, 101], [123, 34, 99, 104, 97, 110, 103, 101, 115, 34, 58, 91], [123, 34, 119, 34, 58], [44, 123, 34, 119, 34, 58], [44, 34, 110, 34, 58, 34], [34, 44, 34, 99, 34, 58], [93, 44, 34, 97, 100, 118, 105, 99, 101, 34, 58, 34], [34, 125]]
def am_scall (pc : Nat) (L st : List Value) (μ : amM) (c na : Nat) : amR :=
  if am_cat (st.drop na) ≤ 8 ∧ (st.take na).length = na then some (.inr (.inl (c, (st.take na).reverse, st.drop na))) else none
def am_vcall (pc : Nat) (L st : List Value) (μ : amM) (c na ci : Nat) : amR := match (st.take na).reverse with
  | .ref q :: a => if am_cat (st.drop na) ≤ 8 ∧ (st.take na).length = na ∧ μ.1[q]? = some (.inl ci) then some (.inr (.inl (c, .ref q :: a, st.drop na))) else none
  | _ => none
def am_icall (pc : Nat) (L st : List Value) (μ : amM) (c na : Nat) : amR := match (st.take na).reverse with
  | .ref q :: a => if am_cat (st.drop na) ≤ 8 ∧ (st.take na).length = na then some (.inr (.inl (c, .ref q :: a, st.drop na))) else none
  | _ => none
def am_oinit (pc : Nat) (L st : List Value) (μ : amM) : amR := match st with
  | .ref _ :: r => if am_cat r ≤ 8 then am_nx pc L r μ else none
  | _ => none
def am_cpy {α : Type} (M : Nat → Nat → α) (q0 q1 sp dp n : Nat) : Nat → Nat → α := am_row M q1 (va_cpy (M q0) (M q1) sp dp n)
def am_copy (pc : Nat) (L st : List Value) (μ : amM) : amR := match st with
  | .int n :: .int dp :: .ref q1 :: .int sp :: .ref q0 :: r => (match μ.1[q0]?, μ.1[q1]? with
    | some (.inr (t, n0)), some (.inr (t', n1)) =>
      if am_cat r ≤ 8 ∧ t = t' ∧ 0 ≤ sp.toInt ∧ 0 ≤ dp.toInt ∧ 0 ≤ n.toInt ∧ sp.toInt + n.toInt ≤ (n0 : Int) ∧ dp.toInt + n.toInt ≤ (n1 : Int) then
        (if t = 0 then am_nx pc L r (μ.1, μ.2.1, am_cpy μ.2.2.1 q0 q1 sp.toInt.toNat dp.toInt.toNat n.toInt.toNat, μ.2.2.2)
        else if t = 1 ∧ (∀ i, i < n.toInt.toNat → fits .char (.int (μ.2.2.1 q0 (sp.toInt.toNat + i))) = true) then am_nx pc L r (μ.1, μ.2.1, am_cpy μ.2.2.1 q0 q1 sp.toInt.toNat dp.toInt.toNat n.toInt.toNat, μ.2.2.2)
        else if t = 3 then am_nx pc L r (μ.1, μ.2.1, μ.2.2.1, am_cpy μ.2.2.2.1 q0 q1 sp.toInt.toNat dp.toInt.toNat n.toInt.toNat, μ.2.2.2.2)
        else none)
      else none
    | _, _ => none)
  | _ => none
def am_slen (pc : Nat) (L st : List Value) (μ : amM) : amR := match st with
  | .ref q :: r => if 1000001 ≤ q ∧ q - 1000001 < am_strs.length ∧ am_cat r ≤ 8 then am_nx pc L (.int (Int32.ofNat (am_strs.getD (q - 1000001) []).length) :: r) μ else none
  | _ => none
def am_sch (pc : Nat) (L st : List Value) (μ : amM) : amR := match st with
  | .int k :: .ref q :: r => if 1000001 ≤ q ∧ q - 1000001 < am_strs.length ∧ am_cat r ≤ 8 ∧ 0 ≤ k.toInt ∧ k.toInt < ((am_strs.getD (q - 1000001) []).length : Int) then am_nx pc L (.int (Int32.ofNat ((am_strs.getD (q - 1000001) []).getD k.toInt.toNat 0)) :: r) μ else none
  | _ => none
def am_call (pc : Nat) (L st : List Value) (μ : amM) (info : List Nat) : amR := match info with
  | [0, c, na, ci] => am_vcall pc L st μ c na ci
  | [1, c, na] => am_scall pc L st μ c na
  | [2, c, na] => am_icall pc L st μ c na
  | [4, c, na] => am_scall pc L st μ c na
  | [5, c, na] => am_icall pc L st μ c na
  | [6] => am_oinit pc L st μ
  | [7] => am_copy pc L st μ
  | [8] => am_slen pc L st μ
  | [9] => am_sch pc L st μ
  | _ => none
def am_iret (st : List Value) (info : List Nat) : amR := match st, info with
  | [.int x], [0] => some (.inr (.inr (some (.int x))))
  | [.int x], [1] => if x = 0 ∨ x = 1 then some (.inr (.inr (some (.int x)))) else none
  | [.int x], [2] => if 0 ≤ x.toInt ∧ x.toInt < 65536 then some (.inr (.inr (some (.int x)))) else none
  | _, _ => none
def am_ldc (pc : Nat) (L st : List Value) (μ : amM) (info : List Nat) : amR := match info with
  | [0, v] => am_nx pc L (.int (Int32.ofNat v) :: st) μ
  | [1, i] => if i < am_strs.length then am_nx pc L (.ref (1000001 + i) :: st) μ else none
  | _ => none
def am_stp (pc : Nat) (ins : Instr) (len : Nat) (info : List Nat) (L st : List Value) (μ : amM) : amR := match ins with
  | .iconst n => am_nx (pc + len) L (.int (Int32.ofInt n) :: st) μ
  | .bipush n => am_nx (pc + len) L (.int (Int8.ofInt n).toInt32 :: st) μ
  | .sipush n => am_nx (pc + len) L (.int (Int16.ofInt n).toInt32 :: st) μ
  | .ldc _ => am_ldc (pc + len) L st μ info
  | .ldc2_w _ => (match info with
    | [v] => am_nx (pc + len) L (.double (UInt64.ofNat v) :: st) μ
    | _ => none)
  | .dconst d => if d = 0 then am_nx (pc + len) L (.double FP.dconst0 :: st) μ else none
  | .iload_n k => am_ild (pc + len) L st μ L[k.val]?
  | .iload k => am_ild (pc + len) L st μ L[k]?
  | .dload_n k => am_dld (pc + len) L st μ L[k.val]?
  | .dload k => am_dld (pc + len) L st μ L[k]?
  | .aload_n k => am_ald (pc + len) L st μ L[k.val]?
  | .aload k => am_ald (pc + len) L st μ L[k]?
  | .istore_n k => am_ist (pc + len) k.val L st μ
  | .istore k => am_ist (pc + len) k L st μ
  | .astore_n k => am_ast (pc + len) k.val L st μ
  | .astore k => am_ast (pc + len) k L st μ
  | .dstore_n k => am_dst (pc + len) k.val L st μ
  | .dstore k => am_dst (pc + len) k L st μ
  | .iinc i c => (match L[i]? with
    | some (.int x) => am_nx (pc + len) (am_st i (.int (x + Int32.ofInt c)) L) st μ
    | _ => none)
  | .iadd => am_op (pc + len) L st μ (fun x y => x + y)
  | .isub => am_op (pc + len) L st μ (fun x y => x - y)
  | .imul => am_op (pc + len) L st μ (fun x y => x * y)
  | .idiv => am_opz (pc + len) L st μ (fun x y => x / y)
  | .irem => am_opz (pc + len) L st μ (fun x y => x - x / y * y)
  | .ineg => am_op1 (pc + len) L st μ (fun x => .int (-x))
  | .ishl => am_op (pc + len) L st μ (fun x y => x <<< (y &&& 31))
  | .ishr => am_op (pc + len) L st μ (fun x y => x >>> (y &&& 31))
  | .iand => am_op (pc + len) L st μ (fun x y => x &&& y)
  | .ior => am_op (pc + len) L st μ (fun x y => x ||| y)
  | .ixor => am_op (pc + len) L st μ (fun x y => x ^^^ y)
  | .i2c => am_op1 (pc + len) L st μ (fun x => .int (x.toUInt32 % 65536).toInt32)
  | .i2d => am_op1 (pc + len) L st μ (fun x => .double (FP.i2d x))
  | .dmul => am_dop (pc + len) L st μ FP.dmul
  | .dsub => am_dop (pc + len) L st μ FP.dsub
  | .dcmp op => (match st with
    | .double y :: .double x :: r => am_nx (pc + len) L (.int (Op.cmpValue (FP.dcmp x y) op) :: r) μ
    | _ => none)
  | .dup => (match st with
    | v :: r => if v.category = 1 then am_nx (pc + len) L (v :: v :: r) μ else none
    | _ => none)
  | .dup2 => (match st with
    | v :: w :: r => if v.category = 1 ∧ w.category = 1 then am_nx (pc + len) L (v :: w :: v :: w :: r) μ else none
    | _ => none)
  | .ifCond c _ => am_if (pc + len) L st μ c info
  | .if_icmp c _ => am_if2 (pc + len) L st μ c info
  | .goto _ => (match info with
    | [t] => am_nx t L st μ
    | _ => none)
  | .tableswitch _ lo hi _ => (match st, info with
    | .int x :: r, d :: ts => if x.toInt < lo ∨ hi < x.toInt then am_nx d L r μ else (match ts[(x.toInt - lo).toNat]? with
      | some t => am_nx t L r μ
      | none => none)
    | _, _ => none)
  | .lookupswitch d ps => (match st with
    | .int x :: r => if 0 ≤ (pc : Int) + Op.lookupswitch.offset ps.toList d x.toInt then am_nx ((pc : Int) + Op.lookupswitch.offset ps.toList d x.toInt).toNat L r μ else none
    | _ => none)
  | .iaload => am_xld (pc + len) 0 L st μ
  | .caload => am_xld (pc + len) 1 L st μ
  | .baload => am_xld (pc + len) 2 L st μ
  | .iastore => am_xst (pc + len) 0 L st μ (fun x => x)
  | .castore => am_xst (pc + len) 1 L st μ (fun x => vp_nar .char x)
  | .bastore => am_xst (pc + len) 2 L st μ (fun x => vp_nar .boolean x)
  | .daload => am_dxld (pc + len) L st μ
  | .dastore => am_dxst (pc + len) L st μ
  | .aaload => am_axld (pc + len) L st μ
  | .aastore => am_axst (pc + len) L st μ
  | .arraylength => am_alen (pc + len) L st μ
  | .getfield _ => am_get (pc + len) L st μ info
  | .putfield _ => am_put (pc + len) L st μ info
  | .new _ => (match info with
    | [ci] => am_new (pc + len) L st μ (.inl ci) (am_fn ci)
    | _ => none)
  | .newarray _ => (match info with
    | [t] => am_newa (pc + len) t L st μ
    | _ => none)
  | .anewarray _ => am_newa (pc + len) 4 L st μ
  | .invokevirtual _ => am_call (pc + len) L st μ info
  | .invokestatic _ => am_call (pc + len) L st μ info
  | .invokespecial _ => am_call (pc + len) L st μ info
  | .ireturn => am_iret st info
  | .areturn => (match st with
    | [.ref q] => some (.inr (.inr (some (.ref q))))
    | _ => none)
  | .dreturn => (match st with
    | [.double x] => some (.inr (.inr (some (.double x))))
    | _ => none)
  | .return_ => (match st with
    | [] => some (.inr (.inr none))
    | _ => none)
  | _ => none
def am_s (mi pc : Nat) (L st : List Value) (μ : amM) : amR := match prog mi pc with
  | none => none
  | some (ins, len, info) => am_stp pc ins len info L st μ
def am_in0 (c : Nat) (μ : amM) : amM := (μ.1, (am_mc c, am_ms c, μ.2.1.2.2), μ.2.2)
def am_out (c : Nat) (μ μ' : amM) : amM := (μ'.1, (μ.2.1.1 - am_mc c, μ.2.1.2.1 - am_ms c, μ.2.1.2.2), μ'.2.2)
def am_x : Nat → Nat → Nat → List Value → List Value → amM → Option (Option Value × amM)
  | 0, _, _, _, _, _ => none
  | n + 1, mi, pc, L, st, μ => match am_s mi pc L st μ with
    | none => none
    | some (.inl (pc', L', st', μ')) => am_x n mi pc' L' st' μ'
    | some (.inr (.inl (c, a, st'))) => if am_mc c ≤ μ.2.1.1 ∧ am_ms c ≤ μ.2.1.2.1 ∧ (am_args a).length ≤ am_nL c then (match am_x n c 0 (am_loc c a) [] (am_in0 c μ) with
      | some (rv, μ') => if μ'.1.length = μ.1.length + am_mc c then am_x n mi (pc + 3) L (rv.toList ++ st') (am_out c μ μ') else none
      | none => none) else none
    | some (.inr (.inr rv)) => some (rv, μ)
theorem am_x_succ (n mi pc : Nat) (L st : List Value) (μ : amM) : am_x (n + 1) mi pc L st μ = match am_s mi pc L st μ with
    | none => none
    | some (.inl (pc', L', st', μ')) => am_x n mi pc' L' st' μ'
    | some (.inr (.inl (c, a, st'))) => if am_mc c ≤ μ.2.1.1 ∧ am_ms c ≤ μ.2.1.2.1 ∧ (am_args a).length ≤ am_nL c then (match am_x n c 0 (am_loc c a) [] (am_in0 c μ) with
      | some (rv, μ') => if μ'.1.length = μ.1.length + am_mc c then am_x n mi (pc + 3) L (rv.toList ++ st') (am_out c μ μ') else none
      | none => none) else none
    | some (.inr (.inr rv)) => some (rv, μ) := rfl
theorem am_mono : ∀ (n mi pc : Nat) (L st : List Value) (μ : amM) (r : Option Value × amM), am_x n mi pc L st μ = some r → am_x (n + 1) mi pc L st μ = some r := by
  intro n
  induction n with
  | zero => intro mi pc L st μ r h; cases h
  | succ n ih =>
    intro mi pc L st μ r h
    rw [am_x_succ] at h ⊢
    cases hs : am_s mi pc L st μ with
    | none => rw [hs] at h; cases h
    | some x =>
      rw [hs] at h
      match x, h with
      | .inl (pc', L', st', μ'), h => exact ih _ _ _ _ _ _ h
      | .inr (.inr rv), h => exact h
      | .inr (.inl (c, a, st')), h =>
        dsimp only at h ⊢
        by_cases hb : am_mc c ≤ μ.2.1.1 ∧ am_ms c ≤ μ.2.1.2.1 ∧ (am_args a).length ≤ am_nL c
        · rw [if_pos hb] at h ⊢
          cases hc : am_x n c 0 (am_loc c a) [] (am_in0 c μ) with
          | none => rw [hc] at h; cases h
          | some y =>
            rw [hc] at h
            rw [ih _ _ _ _ _ _ hc]
            obtain ⟨rv, μ'⟩ := y
            dsimp only at h ⊢
            by_cases hg : μ'.1.length = μ.1.length + am_mc c
            · rw [if_pos hg] at h ⊢
              exact ih _ _ _ _ _ _ h
            · rw [if_neg hg] at h; cases h
        · rw [if_neg hb] at h; cases h
theorem am_mono' {n k mi pc : Nat} {L st : List Value} {μ : amM} {r : Option Value × amM} (h : am_x n mi pc L st μ = some r) (hk : n ≤ k) : am_x k mi pc L st μ = some r := by
  obtain ⟨d, rfl⟩ := Nat.le.dest hk
  clear hk
  induction d with
  | zero => exact h
  | succ d ih => exact am_mono _ _ _ _ _ _ _ ih
/-- it comes to an end, and there Q holds of what is returned and of the state -/
def RR (mi pc : Nat) (L st : List Value) (μ : amM) (Q : Option Value → amM → Prop) : Prop := ∃ (n : Nat) (r : Option Value × amM), am_x n mi pc L st μ = some r ∧ Q r.1 r.2
theorem RR.go {mi pc pc' : Nat} {L st L' st' : List Value} {μ μ' : amM} {Q : Option Value → amM → Prop} (hs : am_s mi pc L st μ = some (.inl (pc', L', st', μ'))) : RR mi pc L st μ Q ↔ RR mi pc' L' st' μ' Q := by
  constructor
  · rintro ⟨n, r, h, hq⟩
    cases n with
    | zero => cases h
    | succ n => rw [am_x_succ, hs] at h; exact ⟨n, r, h, hq⟩
  · rintro ⟨n, r, h, hq⟩
    exact ⟨n + 1, r, by rw [am_x_succ, hs]; exact h, hq⟩
theorem RR.no {mi pc : Nat} {L st : List Value} {μ : amM} {Q : Option Value → amM → Prop} (hs : am_s mi pc L st μ = none) : RR mi pc L st μ Q ↔ False := by
  constructor
  · rintro ⟨n, r, h, hq⟩
    cases n with
    | zero => cases h
    | succ n => rw [am_x_succ, hs] at h; cases h
  · exact False.elim
theorem RR.ret {mi pc : Nat} {L st : List Value} {μ : amM} {rv : Option Value} {Q : Option Value → amM → Prop} (hs : am_s mi pc L st μ = some (.inr (.inr rv))) : RR mi pc L st μ Q ↔ Q rv μ := by
  constructor
  · rintro ⟨n, r, h, hq⟩
    cases n with
    | zero => cases h
    | succ n => rw [am_x_succ, hs] at h; cases h; exact hq
  · intro h
    exact ⟨1, (rv, μ), by rw [am_x_succ, hs], h⟩
theorem RR.call {mi pc c : Nat} {L st a st' : List Value} {μ : amM} {Q : Option Value → amM → Prop} (hs : am_s mi pc L st μ = some (.inr (.inl (c, a, st')))) (hb : am_mc c ≤ μ.2.1.1 ∧ am_ms c ≤ μ.2.1.2.1 ∧ (am_args a).length ≤ am_nL c) : RR mi pc L st μ Q ↔ RR c 0 (am_loc c a) [] (am_in0 c μ) (fun rv μ' => μ'.1.length = μ.1.length + am_mc c ∧ RR mi (pc + 3) L (rv.toList ++ st') (am_out c μ μ') Q) := by
  constructor
  · rintro ⟨n, r, h, hq⟩
    cases n with
    | zero => cases h
    | succ n =>
      rw [am_x_succ, hs] at h
      dsimp only at h
      rw [if_pos hb] at h
      cases hc : am_x n c 0 (am_loc c a) [] (am_in0 c μ) with
      | none => rw [hc] at h; cases h
      | some y =>
        rw [hc] at h
        obtain ⟨rv, μ'⟩ := y
        dsimp only at h
        by_cases hg : μ'.1.length = μ.1.length + am_mc c
        · rw [if_pos hg] at h
          exact ⟨n, (rv, μ'), hc, hg, n, r, h, hq⟩
        · rw [if_neg hg] at h; cases h
  · rintro ⟨n, ⟨rv, μ'⟩, hc, hg, k, r, h, hq⟩
    refine ⟨max n k + 1, r, ?_, hq⟩
    rw [am_x_succ, hs]
    dsimp only
    rw [if_pos hb, am_mono' hc (Nat.le_max_left n k)]
    dsimp only at hg ⊢
    rw [if_pos hg]
    exact am_mono' h (Nat.le_max_right n k)
