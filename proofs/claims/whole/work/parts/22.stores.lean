/-! rows of stores -/
section RW
variable {mi pc : Nat} {L st : List Value} {μ : amM} {Q : Option Value → amM → Prop}
theorem rw_istn {k : Fin 4} {len : Nat} {info : List Nat} {x : Int32} (hp : prog mi pc = some (.istore_n k, len, info)) (h : k.val < L.length) : RR mi pc L (.int x :: st) μ Q ↔ RR mi (pc + len) (am_st k.val (.int x) L) st μ Q := by
  refine rw_go hp ?_
  show (if k.val < L.length then _ else none) = _
  rw [if_pos h]
theorem rw_ist {k len : Nat} {info : List Nat} {x : Int32} (hp : prog mi pc = some (.istore k, len, info)) (h : k < L.length) : RR mi pc L (.int x :: st) μ Q ↔ RR mi (pc + len) (am_st k (.int x) L) st μ Q := by
  refine rw_go hp ?_
  show (if k < L.length then _ else none) = _
  rw [if_pos h]
theorem rw_astn {k : Fin 4} {len : Nat} {info : List Nat} {x : Nat} (hp : prog mi pc = some (.astore_n k, len, info)) (h : k.val < L.length) : RR mi pc L (.ref x :: st) μ Q ↔ RR mi (pc + len) (am_st k.val (.ref x) L) st μ Q := by
  refine rw_go hp ?_
  show (if k.val < L.length then _ else none) = _
  rw [if_pos h]
theorem rw_ast {k len : Nat} {info : List Nat} {x : Nat} (hp : prog mi pc = some (.astore k, len, info)) (h : k < L.length) : RR mi pc L (.ref x :: st) μ Q ↔ RR mi (pc + len) (am_st k (.ref x) L) st μ Q := by
  refine rw_go hp ?_
  show (if k < L.length then _ else none) = _
  rw [if_pos h]
theorem rw_dstn {k : Fin 4} {len : Nat} {info : List Nat} {x : UInt64} (hp : prog mi pc = some (.dstore_n k, len, info)) (h : k.val + 1 < L.length) : RR mi pc L (.double x :: st) μ Q ↔ RR mi (pc + len) (am_st2 k.val (.double x) L) st μ Q := by
  refine rw_go hp ?_
  show (if k.val + 1 < L.length then _ else none) = _
  rw [if_pos h]
theorem rw_dst {k len : Nat} {info : List Nat} {x : UInt64} (hp : prog mi pc = some (.dstore k, len, info)) (h : k + 1 < L.length) : RR mi pc L (.double x :: st) μ Q ↔ RR mi (pc + len) (am_st2 k (.double x) L) st μ Q := by
  refine rw_go hp ?_
  show (if k + 1 < L.length then _ else none) = _
  rw [if_pos h]
end RW
