/-! ROWS FOR THE ABSTRACT MACHINE -/
/-- the length of an array of a type; 0 where there is none -/
def am_ls (S : List (Nat ⊕ (Nat × Nat))) (q t : Nat) : Nat := match S[q]? with
  | some (.inr (t', n)) => if t' = t then n else 0
  | _ => 0
def am_ll (S : List (Nat ⊕ (Nat × Nat))) (sl q t : Nat) : Nat := match (if q = 1000000 then some (Sum.inr (0, sl)) else S[q]? : Option (Nat ⊕ (Nat × Nat))) with
  | some (.inr (t', n)) => if t' = t then n else 0
  | _ => 0
abbrev am_bs (S : List (Nat ⊕ (Nat × Nat))) (q t : Nat) (i : Int32) : Prop := 0 ≤ i.toInt ∧ i.toInt < (am_ls S q t : Int)
abbrev am_bd (S : List (Nat ⊕ (Nat × Nat))) (sl q t : Nat) (i : Int32) : Prop := 0 ≤ i.toInt ∧ i.toInt < (am_ll S sl q t : Int)
/-- the length of any array -/
def am_an (S : List (Nat ⊕ (Nat × Nat))) (sl q : Nat) : Option Nat := match (if q = 1000000 then some (Sum.inr (0, sl)) else S[q]? : Option (Nat ⊕ (Nat × Nat))) with
  | some (.inr (t', n)) => if t' < 5 then some n else none
  | _ => none
section RW
variable {mi pc : Nat} {L st : List Value} {μ : amM} {Q : Option Value → amM → Prop}
variable {S : List (Nat ⊕ (Nat × Nat))} {b : Nat × Nat × Nat} {M : Nat → Nat → Int32} {D : Nat → Nat → UInt64} {F : Nat → Nat → Option Nat}
theorem rw_s {ins : Instr} {len : Nat} {info : List Nat} (hp : prog mi pc = some (ins, len, info)) : am_s mi pc L st μ = am_stp pc ins len info L st μ := by unfold am_s; rw [hp]
theorem rw_go {ins : Instr} {len pc' : Nat} {info : List Nat} {L' st' : List Value} {μ' : amM} (hp : prog mi pc = some (ins, len, info)) (h : am_stp pc ins len info L st μ = some (.inl (pc', L', st', μ'))) : RR mi pc L st μ Q ↔ RR mi pc' L' st' μ' Q := RR.go ((rw_s hp).trans h)
theorem rw_if {ins : Instr} {len pt pf : Nat} {info : List Nat} {L' st' : List Value} {p : Prop} [Decidable p] (hp : prog mi pc = some (ins, len, info)) (h : am_stp pc ins len info L st μ = if decide p = true then some (.inl (pt, L', st', μ)) else some (.inl (pf, L', st', μ))) : RR mi pc L st μ Q ↔ if p then RR mi pt L' st' μ Q else RR mi pf L' st' μ Q := by
  by_cases hq : p
  · rw [if_pos hq]
    exact rw_go hp (h.trans (if_pos (decide_eq_true hq)))
  · rw [if_neg hq]
    exact rw_go hp (h.trans (if_neg (by simpa using hq)))
theorem rw_c {ins : Instr} {len pc' : Nat} {info : List Nat} {L' st' : List Value} {μ' : amM} {p : Prop} [Decidable p] (hp : prog mi pc = some (ins, len, info)) (h : am_stp pc ins len info L st μ = if p then some (.inl (pc', L', st', μ')) else none) : RR mi pc L st μ Q ↔ p ∧ RR mi pc' L' st' μ' Q := by
  by_cases hq : p
  · rw [rw_go hp (h.trans (if_pos hq))]
    exact ⟨fun k => ⟨hq, k⟩, fun k => k.2⟩
  · rw [RR.no ((rw_s hp).trans (h.trans (if_neg hq)))]
    exact ⟨fun k => k.elim, fun k => hq k.1⟩
theorem rw_n {ins : Instr} {len pc' : Nat} {info : List Nat} {L' st' : List Value} {μ' : amM} {p : Prop} [Decidable p] (hp : prog mi pc = some (ins, len, info)) (h : am_stp pc ins len info L st μ = if p then none else some (.inl (pc', L', st', μ'))) : RR mi pc L st μ Q ↔ ¬ p ∧ RR mi pc' L' st' μ' Q := by
  by_cases hq : p
  · rw [RR.no ((rw_s hp).trans (h.trans (if_pos hq)))]
    exact ⟨fun k => k.elim, fun k => k.1 hq⟩
  · rw [rw_go hp (h.trans (if_neg hq))]
    exact ⟨fun k => ⟨hq, k⟩, fun k => k.2⟩
theorem rw_r {ins : Instr} {len : Nat} {info : List Nat} {rv : Option Value} (hp : prog mi pc = some (ins, len, info)) (h : am_stp pc ins len info L st μ = some (.inr (.inr rv))) : RR mi pc L st μ Q ↔ Q rv μ := RR.ret ((rw_s hp).trans h)
theorem rw_rc {ins : Instr} {len : Nat} {info : List Nat} {rv : Option Value} {p : Prop} [Decidable p] (hp : prog mi pc = some (ins, len, info)) (h : am_stp pc ins len info L st μ = if p then some (.inr (.inr rv)) else none) : RR mi pc L st μ Q ↔ p ∧ Q rv μ := by
  by_cases hq : p
  · rw [rw_r hp (h.trans (if_pos hq))]
    exact ⟨fun k => ⟨hq, k⟩, fun k => k.2⟩
  · rw [RR.no ((rw_s hp).trans (h.trans (if_neg hq)))]
    exact ⟨fun k => k.elim, fun k => hq k.1⟩
theorem rw_call {ins : Instr} {len c sl : Nat} {info : List Nat} {a st' loc : List Value} {p : Prop} [Decidable p] (hp : prog mi pc = some (ins, len, info)) (h : am_stp pc ins len info L st (S, (0, 0, sl), M, D, F) = if p then some (.inr (.inl (c, a, st'))) else none) (hc : am_loc c a = loc ∧ (am_args a).length ≤ am_nL c ∧ am_mc c = 0 ∧ am_ms c = 0) : RR mi pc L st (S, (0, 0, sl), M, D, F) Q ↔ p ∧ RR c 0 loc [] (S, (0, 0, sl), M, D, F) (fun rv μ' => μ'.1.length = S.length ∧ RR mi (pc + 3) L (rv.toList ++ st') (μ'.1, (0, 0, sl), μ'.2.2) Q) := by
  obtain ⟨rfl, h1, h2, h3⟩ := hc
  by_cases hq : p
  · rw [RR.call ((rw_s hp).trans (h.trans (if_pos hq))) ⟨by rw [h2]; exact Nat.zero_le _, by rw [h3]; exact Nat.zero_le _, h1⟩]
    simp only [am_in0, am_out, h2, h3, Nat.add_zero, Nat.sub_self]
    exact ⟨fun k => ⟨hq, k⟩, fun k => k.2⟩
  · rw [RR.no ((rw_s hp).trans (h.trans (if_neg hq)))]
    exact ⟨fun k => k.elim, fun k => hq k.1⟩
theorem am_xld_eq {q t : Nat} {i : Int32} : am_xld pc t L (.int i :: .ref q :: st) (S, b, M, D, F) = if am_bd S b.2.2 q t i then some (.inl (pc, L, .int (M q i.toInt.toNat) :: st, (S, b, M, D, F))) else none := by
  unfold am_xld am_bd am_ll am_sh
  dsimp only
  generalize (if q = 1000000 then some (Sum.inr (0, b.2.2)) else S[q]? : Option (Nat ⊕ (Nat × Nat))) = z
  match z with
  | none => simp <;> omega
  | some (.inl c) => simp <;> omega
  | some (.inr (t', n)) =>
    by_cases ht : t' = t
    · simp [ht]
    · simp [ht] <;> omega
theorem am_xst_eq {q t : Nat} {x i : Int32} {f : Int32 → Int32} : am_xst pc t L (.int x :: .int i :: .ref q :: st) (S, b, M, D, F) f = if am_bs S q t i then some (.inl (pc, L, st, (S, b, am_up M q i.toInt.toNat (f x), D, F))) else none := by
  unfold am_xst am_bs am_ls
  dsimp only
  generalize S[q]? = z
  match z with
  | none => simp <;> omega
  | some (.inl c) => simp <;> omega
  | some (.inr (t', n)) =>
    by_cases ht : t' = t
    · simp [ht]
    · simp [ht] <;> omega
theorem am_dxld_eq {q : Nat} {i : Int32} : am_dxld pc L (.int i :: .ref q :: st) (S, b, M, D, F) = if am_bs S q 3 i then some (.inl (pc, L, .double (D q i.toInt.toNat) :: st, (S, b, M, D, F))) else none := by
  unfold am_dxld am_bs am_ls
  dsimp only
  generalize S[q]? = z
  match z with
  | none => simp <;> omega
  | some (.inl c) => simp <;> omega
  | some (.inr (t', n)) =>
    by_cases ht : t' = 3
    · simp [ht]
    · simp [ht] <;> omega
theorem am_dxst_eq {q : Nat} {x : UInt64} {i : Int32} : am_dxst pc L (.double x :: .int i :: .ref q :: st) (S, b, M, D, F) = if am_bs S q 3 i then some (.inl (pc, L, st, (S, b, M, am_up D q i.toInt.toNat x, F))) else none := by
  unfold am_dxst am_bs am_ls
  dsimp only
  generalize S[q]? = z
  match z with
  | none => simp <;> omega
  | some (.inl c) => simp <;> omega
  | some (.inr (t', n)) =>
    by_cases ht : t' = 3
    · simp [ht]
    · simp [ht] <;> omega
theorem am_axld_eq {q : Nat} {i : Int32} : am_axld pc L (.int i :: .ref q :: st) (S, b, M, D, F) = if am_bs S q 4 i then some (.inl (pc, L, va_rf (F q i.toInt.toNat) :: st, (S, b, M, D, F))) else none := by
  unfold am_axld am_bs am_ls
  dsimp only
  generalize S[q]? = z
  match z with
  | none => simp <;> omega
  | some (.inl c) => simp <;> omega
  | some (.inr (t', n)) =>
    by_cases ht : t' = 4
    · simp [ht]
    · simp [ht] <;> omega
theorem rw_alen {ins : Instr} {len n q : Nat} {info : List Nat} (hp : prog mi pc = some (ins, len, info)) (h : ∀ μ, am_stp pc ins len info L (.ref q :: st) μ = am_alen (pc + 1) L (.ref q :: st) μ) (ha : am_an S b.2.2 q = some n) : RR mi pc L (.ref q :: st) (S, b, M, D, F) Q ↔ RR mi (pc + 1) L (.int (nI n) :: st) (S, b, M, D, F) Q := by
  refine rw_go hp ((h _).trans ?_)
  unfold am_an at ha
  unfold am_alen am_sh
  dsimp only
  generalize (if q = 1000000 then some (Sum.inr (0, b.2.2)) else S[q]? : Option (Nat ⊕ (Nat × Nat))) = z at ha ⊢
  match z, ha with
  | some (.inr (t', n')), ha =>
    dsimp only at ha ⊢
    by_cases ht : t' < 5
    · rw [if_pos ht] at ha ⊢
      cases ha
      rfl
    · rw [if_neg ht] at ha; cases ha
theorem rw_tsw {d lo hi : Int} {offs : Array Int} {len dt : Nat} {ts : List Nat} {x : Int32} (hp : prog mi pc = some (.tableswitch d lo hi offs, len, dt :: ts)) (hl : (ts.length : Int) = hi - lo + 1) : RR mi pc L (.int x :: st) μ Q ↔ if x.toInt < lo ∨ hi < x.toInt then RR mi dt L st μ Q else RR mi (ts.getD (x.toInt - lo).toNat 0) L st μ Q := by
  by_cases hq : x.toInt < lo ∨ hi < x.toInt
  · rw [if_pos hq]
    exact rw_go hp (if_pos hq)
  · rw [if_neg hq]
    refine rw_go hp ((if_neg hq).trans ?_)
    have hk : (x.toInt - lo).toNat < ts.length := by omega
    rw [List.getD_eq_getElem?_getD, List.getElem?_eq_getElem hk]
    rfl
theorem rw_lsw {d : Int} {ps : Array (Int × Int)} {len : Nat} {info : List Nat} {x : Int32} (hp : prog mi pc = some (.lookupswitch d ps, len, info)) : RR mi pc L (.int x :: st) μ Q ↔ 0 ≤ (pc : Int) + Op.lookupswitch.offset ps.toList d x.toInt ∧ RR mi ((pc : Int) + Op.lookupswitch.offset ps.toList d x.toInt).toNat L st μ Q := rw_c hp rfl
theorem rw_mrg {x y : Int32} {p : Prop} [Decidable p] : (if p then RR mi pc L (.int x :: st) μ Q else RR mi pc L (.int y :: st) μ Q) ↔ RR mi pc L (.int (if p then x else y) :: st) μ Q := by
  by_cases h : p <;> simp [h]
end RW
theorem am_cat0 : am_cat [] = 0 := rfl
theorem am_catI (x : Int32) (st : List Value) : am_cat (.int x :: st) = 1 + am_cat st := rfl
theorem am_catR (q : Nat) (st : List Value) : am_cat (.ref q :: st) = 1 + am_cat st := rfl
theorem am_catD (x : UInt64) (st : List Value) : am_cat (.double x :: st) = 2 + am_cat st := rfl
theorem am_ndI (x : Int32) : am_nd (.int x) = .int x := rfl
theorem am_ndR (q : Nat) : am_nd (.ref q) = .ref q := rfl
theorem am_ndL : am_nd (.long 0) = .long 0 := rfl
theorem va_rfS (q : Nat) : va_rf (some q) = .ref q := rfl

