/-! rows -/
section RW
variable {Q : Option Value → amM → Prop} {μ : amM} {S : List (Nat ⊕ (Nat × Nat))} {b : Nat × Nat × Nat} {M : Nat → Nat → Int32} {D : Nat → Nat → UInt64} {F : Nat → Nat → Option Nat}
variable {L l st : List Value} {a0 a1 a2 a3 a4 a5 a6 a7 a8 a9 c0 c1 : Value} {x y x1 x2 x3 x4 x5 x6 : Int32} {q q1 q2 q3 sl : Nat} {d d1 d2 : UInt64}

/-! ReleaseDesk.init -/
theorem r0_0 : RR 0 0 (.ref q :: l) st μ Q ↔ RR 0 1 (.ref q :: l) (.ref q :: st) μ Q := rw_go p0_0 rfl
theorem r0_1 : RR 0 1 L (.ref q :: st) μ Q ↔ am_cat st ≤ 8 ∧ RR 0 4 L st μ Q := rw_c p0_1 rfl
theorem r0_4 : RR 0 4 (.ref q :: l) st μ Q ↔ RR 0 5 (.ref q :: l) (.ref q :: st) μ Q := rw_go p0_4 rfl
theorem r0_8 : RR 0 8 L (.ref q :: st) μ Q ↔ RR 0 9 L (.ref q :: .ref q :: st) μ Q := rw_go p0_8 rfl
theorem r0_8i : RR 0 8 L (.int x :: st) μ Q ↔ RR 0 9 L (.int x :: .int x :: st) μ Q := rw_go p0_8 rfl
theorem r0_12 : RR 0 12 L (.ref q2 :: .ref q :: st) (S, b, M, D, F) Q ↔ S[q]? = some (.inl 8) ∧ RR 0 15 L st (S, b, M, D, am_up F q 0 (some q2)) Q := rw_c p0_12 rfl
theorem r0_15 : RR 0 15 (.ref q :: l) st μ Q ↔ RR 0 16 (.ref q :: l) (.ref q :: st) μ Q := rw_go p0_15 rfl
theorem r0_19 : RR 0 19 L (.ref q :: st) μ Q ↔ RR 0 20 L (.ref q :: .ref q :: st) μ Q := rw_go p0_19 rfl
theorem r0_19i : RR 0 19 L (.int x :: st) μ Q ↔ RR 0 20 L (.int x :: .int x :: st) μ Q := rw_go p0_19 rfl
theorem r0_23 : RR 0 23 L (.ref q2 :: .ref q :: st) (S, b, M, D, F) Q ↔ S[q]? = some (.inl 8) ∧ RR 0 26 L st (S, b, M, D, am_up F q 1 (some q2)) Q := rw_c p0_23 rfl
theorem r0_26 : RR 0 26 (.ref q :: l) st μ Q ↔ RR 0 27 (.ref q :: l) (.ref q :: st) μ Q := rw_go p0_26 rfl
theorem r0_30 : RR 0 30 L (.ref q :: st) μ Q ↔ RR 0 31 L (.ref q :: .ref q :: st) μ Q := rw_go p0_30 rfl
theorem r0_30i : RR 0 30 L (.int x :: st) μ Q ↔ RR 0 31 L (.int x :: .int x :: st) μ Q := rw_go p0_30 rfl
theorem r0_34 : RR 0 34 L (.ref q2 :: .ref q :: st) (S, b, M, D, F) Q ↔ S[q]? = some (.inl 8) ∧ RR 0 37 L st (S, b, M, D, am_up F q 2 (some q2)) Q := rw_c p0_34 rfl
theorem r0_37 : RR 0 37 (.ref q :: l) st μ Q ↔ RR 0 38 (.ref q :: l) (.ref q :: st) μ Q := rw_go p0_37 rfl
theorem r0_41 : RR 0 41 L (.ref q :: st) μ Q ↔ RR 0 42 L (.ref q :: .ref q :: st) μ Q := rw_go p0_41 rfl
theorem r0_41i : RR 0 41 L (.int x :: st) μ Q ↔ RR 0 42 L (.int x :: .int x :: st) μ Q := rw_go p0_41 rfl
theorem r0_45 : RR 0 45 L (.ref q2 :: .ref q :: st) (S, b, M, D, F) Q ↔ S[q]? = some (.inl 8) ∧ RR 0 48 L st (S, b, M, D, am_up F q 3 (some q2)) Q := rw_c p0_45 rfl
theorem r0_48 : RR 0 48 (.ref q :: l) st μ Q ↔ RR 0 49 (.ref q :: l) (.ref q :: st) μ Q := rw_go p0_48 rfl
theorem r0_52 : RR 0 52 L (.ref q :: st) μ Q ↔ RR 0 53 L (.ref q :: .ref q :: st) μ Q := rw_go p0_52 rfl
theorem r0_52i : RR 0 52 L (.int x :: st) μ Q ↔ RR 0 53 L (.int x :: .int x :: st) μ Q := rw_go p0_52 rfl
theorem r0_53 : RR 0 53 L (.ref q :: st) (S, (0, 0, sl), M, D, F) Q ↔ (am_cat st ≤ 8 ∧ 1 = 1) ∧ RR 135 0 [.ref q] [] (S, (0, 0, sl), M, D, F) (fun rv μ' => μ'.1.length = S.length ∧ RR 0 56 L (rv.toList ++ st) (μ'.1, (0, 0, sl), μ'.2.2) Q) := rw_call p0_53 rfl (ac135 q)
theorem r0_56 : RR 0 56 L (.ref q2 :: .ref q :: st) (S, b, M, D, F) Q ↔ S[q]? = some (.inl 8) ∧ RR 0 59 L st (S, b, M, D, am_up F q 4 (some q2)) Q := rw_c p0_56 rfl
theorem r0_59 : RR 0 59 (.ref q :: l) st μ Q ↔ RR 0 60 (.ref q :: l) (.ref q :: st) μ Q := rw_go p0_59 rfl
theorem r0_60 : RR 0 60 L st μ Q ↔ RR 0 62 L (.int (nI 1000000) :: st) μ Q := rw_go p0_60 rfl
theorem r0_62 : RR 0 62 L (.int x :: .ref q :: st) (S, b, M, D, F) Q ↔ S[q]? = some (.inl 8) ∧ RR 0 65 L st (S, b, am_up M q 5 x, D, F) Q := rw_c p0_62 rfl
theorem r0_65 : RR 0 65 L [] μ Q ↔ Q none μ := rw_r p0_65 rfl
/-! ReleaseDesk.type -/
theorem r1_0 : RR 1 0 (a0 :: .int x :: l) st μ Q ↔ RR 1 1 (a0 :: .int x :: l) (.int x :: st) μ Q := rw_go p1_0 rfl
theorem r1_1 : RR 1 1 (a0 :: a1 :: .int x :: l) st μ Q ↔ RR 1 2 (a0 :: a1 :: .int x :: l) (.int x :: st) μ Q := rw_go p1_1 rfl
theorem r1_2 : RR 1 2 L (.int x2 :: .int x1 :: st) (S, (0, 0, sl), M, D, F) Q ↔ (am_cat st ≤ 8 ∧ 2 = 2) ∧ RR 22 0 [.int x1, .int x2] [] (S, (0, 0, sl), M, D, F) (fun rv μ' => μ'.1.length = S.length ∧ RR 1 5 L (rv.toList ++ st) (μ'.1, (0, 0, sl), μ'.2.2) Q) := rw_call p1_2 rfl (ac22 x1 x2)
theorem r1_5 : RR 1 5 L (.int x :: st) μ Q ↔ if x = 0 then RR 1 41 L st μ Q else RR 1 8 L st μ Q := rw_if p1_5 rfl
theorem r1_8 : RR 1 8 (a0 :: a1 :: a2 :: .int x :: l) st μ Q ↔ RR 1 9 (a0 :: a1 :: a2 :: .int x :: l) (.int x :: st) μ Q := rw_go p1_8 rfl
theorem r1_9 : RR 1 9 L st μ Q ↔ RR 1 10 L (.int (nI 0) :: st) μ Q := rw_go p1_9 rfl
theorem r1_10 : RR 1 10 L st μ Q ↔ RR 1 12 L (.int (nI 47) :: st) μ Q := rw_go p1_10 rfl
theorem r1_12 : RR 1 12 L (.int x3 :: .int x2 :: .int x1 :: st) (S, (0, 0, sl), M, D, F) Q ↔ (am_cat st ≤ 8 ∧ 3 = 3) ∧ RR 24 0 [.int x1, .int x2, .int x3] [] (S, (0, 0, sl), M, D, F) (fun rv μ' => μ'.1.length = S.length ∧ RR 1 15 L (rv.toList ++ st) (μ'.1, (0, 0, sl), μ'.2.2) Q) := rw_call p1_12 rfl (ac24 x1 x2 x3)
theorem r1_15 : RR 1 15 L (.int x :: st) μ Q ↔ if x = 0 then RR 1 41 L st μ Q else RR 1 18 L st μ Q := rw_if p1_15 rfl
theorem r1_18 : RR 1 18 (a0 :: a1 :: a2 :: a3 :: .int x :: l) st μ Q ↔ RR 1 20 (a0 :: a1 :: a2 :: a3 :: .int x :: l) (.int x :: st) μ Q := rw_go p1_18 rfl
theorem r1_20 : RR 1 20 L st μ Q ↔ RR 1 21 L (.int ((-1)) :: st) μ Q := rw_go p1_20 rfl
theorem r1_21 : RR 1 21 L st μ Q ↔ RR 1 23 L (.int (nI 7) :: st) μ Q := rw_go p1_21 rfl
theorem r1_23 : RR 1 23 L (.int x3 :: .int x2 :: .int x1 :: st) (S, (0, 0, sl), M, D, F) Q ↔ (am_cat st ≤ 8 ∧ 3 = 3) ∧ RR 24 0 [.int x1, .int x2, .int x3] [] (S, (0, 0, sl), M, D, F) (fun rv μ' => μ'.1.length = S.length ∧ RR 1 26 L (rv.toList ++ st) (μ'.1, (0, 0, sl), μ'.2.2) Q) := rw_call p1_23 rfl (ac24 x1 x2 x3)
theorem r1_26 : RR 1 26 L (.int x :: st) μ Q ↔ if x = 0 then RR 1 41 L st μ Q else RR 1 29 L st μ Q := rw_if p1_26 rfl
theorem r1_29 : RR 1 29 (a0 :: a1 :: a2 :: a3 :: a4 :: .int x :: l) st μ Q ↔ RR 1 31 (a0 :: a1 :: a2 :: a3 :: a4 :: .int x :: l) (.int x :: st) μ Q := rw_go p1_29 rfl
theorem r1_31 : RR 1 31 L st μ Q ↔ RR 1 32 L (.int (nI 0) :: st) μ Q := rw_go p1_31 rfl
theorem r1_32 : RR 1 32 L st μ Q ↔ RR 1 35 L (.int (nI 255) :: st) μ Q := rw_go p1_32 rfl
theorem r1_35 : RR 1 35 L (.int x3 :: .int x2 :: .int x1 :: st) (S, (0, 0, sl), M, D, F) Q ↔ (am_cat st ≤ 8 ∧ 3 = 3) ∧ RR 24 0 [.int x1, .int x2, .int x3] [] (S, (0, 0, sl), M, D, F) (fun rv μ' => μ'.1.length = S.length ∧ RR 1 38 L (rv.toList ++ st) (μ'.1, (0, 0, sl), μ'.2.2) Q) := rw_call p1_35 rfl (ac24 x1 x2 x3)
theorem r1_38 : RR 1 38 L (.int x :: st) μ Q ↔ if ¬ x = 0 then RR 1 43 L st μ Q else RR 1 41 L st μ Q := rw_if p1_38 rfl
theorem r1_41 : RR 1 41 L st μ Q ↔ RR 1 42 L (.int (nI 0) :: st) μ Q := rw_go p1_41 rfl
theorem r1_42 : RR 1 42 L [.int x] μ Q ↔ (x = 0 ∨ x = 1) ∧ Q (some (.int x)) μ := rw_rc p1_42 rfl
theorem r1_43 : RR 1 43 (.ref q :: l) st μ Q ↔ RR 1 44 (.ref q :: l) (.ref q :: st) μ Q := rw_go p1_43 rfl
theorem r1_44 : RR 1 44 L (.ref q :: st) (S, b, M, D, F) Q ↔ S[q]? = some (.inl 8) ∧ RR 1 47 L (va_rf (F q 0) :: st) (S, b, M, D, F) Q := rw_c p1_44 rfl
theorem r1_47 : RR 1 47 (a0 :: .int x :: l) st μ Q ↔ RR 1 48 (a0 :: .int x :: l) (.int x :: st) μ Q := rw_go p1_47 rfl
theorem r1_48 : RR 1 48 L (.int x1 :: .ref q :: st) (S, (0, 0, sl), M, D, F) Q ↔ (am_cat st ≤ 8 ∧ 2 = 2 ∧ S[q]? = some (.inl 1)) ∧ RR 95 0 [.ref q, .int x1] [] (S, (0, 0, sl), M, D, F) (fun rv μ' => μ'.1.length = S.length ∧ RR 1 51 L (rv.toList ++ st) (μ'.1, (0, 0, sl), μ'.2.2) Q) := rw_call p1_48 rfl (ac95 q x1)
theorem r1_51 : RR 1 51 (a0 :: a1 :: .int x :: l) st μ Q ↔ RR 1 52 (a0 :: a1 :: .int x :: l) (.int x :: st) μ Q := rw_go p1_51 rfl
theorem r1_52 : RR 1 52 (a0 :: a1 :: a2 :: .int x :: l) st μ Q ↔ RR 1 53 (a0 :: a1 :: a2 :: .int x :: l) (.int x :: st) μ Q := rw_go p1_52 rfl
theorem r1_53 : RR 1 53 (a0 :: a1 :: a2 :: a3 :: .int x :: l) st μ Q ↔ RR 1 55 (a0 :: a1 :: a2 :: a3 :: .int x :: l) (.int x :: st) μ Q := rw_go p1_53 rfl
theorem r1_55 : RR 1 55 (a0 :: a1 :: a2 :: a3 :: a4 :: .int x :: l) st μ Q ↔ RR 1 57 (a0 :: a1 :: a2 :: a3 :: a4 :: .int x :: l) (.int x :: st) μ Q := rw_go p1_55 rfl
theorem r1_57 : RR 1 57 L (.int x4 :: .int x3 :: .int x2 :: .int x1 :: .ref q :: st) (S, (0, 0, sl), M, D, F) Q ↔ (am_cat st ≤ 8 ∧ 5 = 5 ∧ S[q]? = some (.inl 0)) ∧ RR 76 0 [.ref q, .int x1, .int x2, .int x3, .int x4] [] (S, (0, 0, sl), M, D, F) (fun rv μ' => μ'.1.length = S.length ∧ RR 1 60 L (rv.toList ++ st) (μ'.1, (0, 0, sl), μ'.2.2) Q) := rw_call p1_57 rfl (ac76 q x1 x2 x3 x4)
theorem r1_60 : RR 1 60 L st μ Q ↔ RR 1 61 L (.int (nI 1) :: st) μ Q := rw_go p1_60 rfl
theorem r1_61 : RR 1 61 L [.int x] μ Q ↔ (x = 0 ∨ x = 1) ∧ Q (some (.int x)) μ := rw_rc p1_61 rfl
/-! ReleaseDesk.drop -/
theorem r2_0 : RR 2 0 (.ref q :: l) st μ Q ↔ RR 2 1 (.ref q :: l) (.ref q :: st) μ Q := rw_go p2_0 rfl
theorem r2_1 : RR 2 1 (a0 :: .int x :: l) st μ Q ↔ RR 2 2 (a0 :: .int x :: l) (.int x :: st) μ Q := rw_go p2_1 rfl
theorem r2_2 : RR 2 2 (a0 :: a1 :: .int x :: l) st μ Q ↔ RR 2 3 (a0 :: a1 :: .int x :: l) (.int x :: st) μ Q := rw_go p2_2 rfl
theorem r2_3 : RR 2 3 L (.int x2 :: .int x1 :: .ref q :: st) (S, (0, 0, sl), M, D, F) Q ↔ (am_cat st ≤ 8 ∧ 3 = 3 ∧ S[q]? = some (.inl 8)) ∧ RR 20 0 [.ref q, .int x1, .int x2] [] (S, (0, 0, sl), M, D, F) (fun rv μ' => μ'.1.length = S.length ∧ RR 2 6 L (rv.toList ++ st) (μ'.1, (0, 0, sl), μ'.2.2) Q) := rw_call p2_3 rfl (ac20 q x1 x2)
theorem r2_6 : RR 2 6 L (.int x :: st) μ Q ↔ if ¬ x = 0 then RR 2 11 L st μ Q else RR 2 9 L st μ Q := rw_if p2_6 rfl
theorem r2_9 : RR 2 9 L st μ Q ↔ RR 2 10 L (.int (nI 0) :: st) μ Q := rw_go p2_9 rfl
theorem r2_10 : RR 2 10 L [.int x] μ Q ↔ (x = 0 ∨ x = 1) ∧ Q (some (.int x)) μ := rw_rc p2_10 rfl
theorem r2_11 : RR 2 11 (.ref q :: l) st μ Q ↔ RR 2 12 (.ref q :: l) (.ref q :: st) μ Q := rw_go p2_11 rfl
theorem r2_12 : RR 2 12 L (.ref q :: st) (S, b, M, D, F) Q ↔ S[q]? = some (.inl 8) ∧ RR 2 15 L (va_rf (F q 0) :: st) (S, b, M, D, F) Q := rw_c p2_12 rfl
theorem r2_15 : RR 2 15 (a0 :: .int x :: l) st μ Q ↔ RR 2 16 (a0 :: .int x :: l) (.int x :: st) μ Q := rw_go p2_15 rfl
theorem r2_16 : RR 2 16 L (.int x1 :: .ref q :: st) (S, (0, 0, sl), M, D, F) Q ↔ (am_cat st ≤ 8 ∧ 2 = 2 ∧ S[q]? = some (.inl 1)) ∧ RR 95 0 [.ref q, .int x1] [] (S, (0, 0, sl), M, D, F) (fun rv μ' => μ'.1.length = S.length ∧ RR 2 19 L (rv.toList ++ st) (μ'.1, (0, 0, sl), μ'.2.2) Q) := rw_call p2_16 rfl (ac95 q x1)
theorem r2_19 : RR 2 19 (a0 :: a1 :: .int x :: l) st μ Q ↔ RR 2 20 (a0 :: a1 :: .int x :: l) (.int x :: st) μ Q := rw_go p2_19 rfl
theorem r2_20 : RR 2 20 L (.int x1 :: .ref q :: st) (S, (0, 0, sl), M, D, F) Q ↔ (am_cat st ≤ 8 ∧ 2 = 2 ∧ S[q]? = some (.inl 0)) ∧ RR 77 0 [.ref q, .int x1, .long 0] [] (S, (0, 0, sl), M, D, F) (fun rv μ' => μ'.1.length = S.length ∧ RR 2 23 L (rv.toList ++ st) (μ'.1, (0, 0, sl), μ'.2.2) Q) := rw_call p2_20 rfl (ac77 q x1)
theorem r2_23 : RR 2 23 L st μ Q ↔ RR 2 24 L (.int (nI 1) :: st) μ Q := rw_go p2_23 rfl
theorem r2_24 : RR 2 24 L [.int x] μ Q ↔ (x = 0 ∨ x = 1) ∧ Q (some (.int x)) μ := rw_rc p2_24 rfl
/-! ReleaseDesk.member -/
theorem r3_0 : RR 3 0 (.ref q :: l) st μ Q ↔ RR 3 1 (.ref q :: l) (.ref q :: st) μ Q := rw_go p3_0 rfl
theorem r3_1 : RR 3 1 (a0 :: .int x :: l) st μ Q ↔ RR 3 2 (a0 :: .int x :: l) (.int x :: st) μ Q := rw_go p3_1 rfl
theorem r3_2 : RR 3 2 (a0 :: a1 :: .int x :: l) st μ Q ↔ RR 3 3 (a0 :: a1 :: .int x :: l) (.int x :: st) μ Q := rw_go p3_2 rfl
theorem r3_3 : RR 3 3 L (.int x2 :: .int x1 :: .ref q :: st) (S, (0, 0, sl), M, D, F) Q ↔ (am_cat st ≤ 8 ∧ 3 = 3 ∧ S[q]? = some (.inl 8)) ∧ RR 20 0 [.ref q, .int x1, .int x2] [] (S, (0, 0, sl), M, D, F) (fun rv μ' => μ'.1.length = S.length ∧ RR 3 6 L (rv.toList ++ st) (μ'.1, (0, 0, sl), μ'.2.2) Q) := rw_call p3_3 rfl (ac20 q x1 x2)
theorem r3_6 : RR 3 6 L (.int x :: st) μ Q ↔ if x = 0 then RR 3 31 L st μ Q else RR 3 9 L st μ Q := rw_if p3_6 rfl
theorem r3_9 : RR 3 9 (a0 :: a1 :: a2 :: a3 :: .int x :: l) st μ Q ↔ RR 3 11 (a0 :: a1 :: a2 :: a3 :: .int x :: l) (.int x :: st) μ Q := rw_go p3_9 rfl
theorem r3_11 : RR 3 11 L st μ Q ↔ RR 3 12 L (.int (nI 0) :: st) μ Q := rw_go p3_11 rfl
theorem r3_12 : RR 3 12 L st μ Q ↔ RR 3 14 L (.int (nI 11) :: st) μ Q := rw_go p3_12 rfl
theorem r3_14 : RR 3 14 L (.int x3 :: .int x2 :: .int x1 :: st) (S, (0, 0, sl), M, D, F) Q ↔ (am_cat st ≤ 8 ∧ 3 = 3) ∧ RR 24 0 [.int x1, .int x2, .int x3] [] (S, (0, 0, sl), M, D, F) (fun rv μ' => μ'.1.length = S.length ∧ RR 3 17 L (rv.toList ++ st) (μ'.1, (0, 0, sl), μ'.2.2) Q) := rw_call p3_14 rfl (ac24 x1 x2 x3)
theorem r3_17 : RR 3 17 L (.int x :: st) μ Q ↔ if x = 0 then RR 3 31 L st μ Q else RR 3 20 L st μ Q := rw_if p3_17 rfl
theorem r3_20 : RR 3 20 (a0 :: a1 :: a2 :: a3 :: a4 :: .int x :: l) st μ Q ↔ RR 3 22 (a0 :: a1 :: a2 :: a3 :: a4 :: .int x :: l) (.int x :: st) μ Q := rw_go p3_20 rfl
theorem r3_22 : RR 3 22 L st μ Q ↔ RR 3 23 L (.int (nI 0) :: st) μ Q := rw_go p3_22 rfl
theorem r3_23 : RR 3 23 L st μ Q ↔ RR 3 25 L (.int (nI 31) :: st) μ Q := rw_go p3_23 rfl
theorem r3_25 : RR 3 25 L (.int x3 :: .int x2 :: .int x1 :: st) (S, (0, 0, sl), M, D, F) Q ↔ (am_cat st ≤ 8 ∧ 3 = 3) ∧ RR 24 0 [.int x1, .int x2, .int x3] [] (S, (0, 0, sl), M, D, F) (fun rv μ' => μ'.1.length = S.length ∧ RR 3 28 L (rv.toList ++ st) (μ'.1, (0, 0, sl), μ'.2.2) Q) := rw_call p3_25 rfl (ac24 x1 x2 x3)
theorem r3_28 : RR 3 28 L (.int x :: st) μ Q ↔ if ¬ x = 0 then RR 3 33 L st μ Q else RR 3 31 L st μ Q := rw_if p3_28 rfl
theorem r3_31 : RR 3 31 L st μ Q ↔ RR 3 32 L (.int (nI 0) :: st) μ Q := rw_go p3_31 rfl
theorem r3_32 : RR 3 32 L [.int x] μ Q ↔ (x = 0 ∨ x = 1) ∧ Q (some (.int x)) μ := rw_rc p3_32 rfl
theorem r3_33 : RR 3 33 (.ref q :: l) st μ Q ↔ RR 3 34 (.ref q :: l) (.ref q :: st) μ Q := rw_go p3_33 rfl
theorem r3_34 : RR 3 34 L (.ref q :: st) (S, b, M, D, F) Q ↔ S[q]? = some (.inl 8) ∧ RR 3 37 L (va_rf (F q 0) :: st) (S, b, M, D, F) Q := rw_c p3_34 rfl
theorem r3_37 : RR 3 37 (a0 :: .int x :: l) st μ Q ↔ RR 3 38 (a0 :: .int x :: l) (.int x :: st) μ Q := rw_go p3_37 rfl
theorem r3_38 : RR 3 38 L (.int x1 :: .ref q :: st) (S, (0, 0, sl), M, D, F) Q ↔ (am_cat st ≤ 8 ∧ 2 = 2 ∧ S[q]? = some (.inl 1)) ∧ RR 95 0 [.ref q, .int x1] [] (S, (0, 0, sl), M, D, F) (fun rv μ' => μ'.1.length = S.length ∧ RR 3 41 L (rv.toList ++ st) (μ'.1, (0, 0, sl), μ'.2.2) Q) := rw_call p3_38 rfl (ac95 q x1)
theorem r3_41 : RR 3 41 (a0 :: a1 :: .int x :: l) st μ Q ↔ RR 3 42 (a0 :: a1 :: .int x :: l) (.int x :: st) μ Q := rw_go p3_41 rfl
theorem r3_42 : RR 3 42 (a0 :: a1 :: a2 :: .int x :: l) st μ Q ↔ RR 3 43 (a0 :: a1 :: a2 :: .int x :: l) (.int x :: st) μ Q := rw_go p3_42 rfl
theorem r3_43 : RR 3 43 (a0 :: a1 :: a2 :: a3 :: .int x :: l) st μ Q ↔ RR 3 45 (a0 :: a1 :: a2 :: a3 :: .int x :: l) (.int x :: st) μ Q := rw_go p3_43 rfl
theorem r3_45 : RR 3 45 L (.int x2 :: .int x1 :: st) (S, (0, 0, sl), M, D, F) Q ↔ (am_cat st ≤ 8 ∧ 2 = 2) ∧ RR 26 0 [.int x1, .int x2] [] (S, (0, 0, sl), M, D, F) (fun rv μ' => μ'.1.length = S.length ∧ RR 3 48 L (rv.toList ++ st) (μ'.1, (0, 0, sl), μ'.2.2) Q) := rw_call p3_45 rfl (ac26 x1 x2)
theorem r3_48 : RR 3 48 (a0 :: a1 :: a2 :: a3 :: a4 :: .int x :: l) st μ Q ↔ RR 3 50 (a0 :: a1 :: a2 :: a3 :: a4 :: .int x :: l) (.int x :: st) μ Q := rw_go p3_48 rfl
theorem r3_50 : RR 3 50 L (.int x3 :: .int x2 :: .int x1 :: .ref q :: st) (S, (0, 0, sl), M, D, F) Q ↔ (am_cat st ≤ 8 ∧ 4 = 4 ∧ S[q]? = some (.inl 0)) ∧ RR 78 0 [.ref q, .int x1, .int x2, .int x3] [] (S, (0, 0, sl), M, D, F) (fun rv μ' => μ'.1.length = S.length ∧ RR 3 53 L (rv.toList ++ st) (μ'.1, (0, 0, sl), μ'.2.2) Q) := rw_call p3_50 rfl (ac78 q x1 x2 x3)
theorem r3_53 : RR 3 53 L st μ Q ↔ RR 3 54 L (.int (nI 1) :: st) μ Q := rw_go p3_53 rfl
theorem r3_54 : RR 3 54 L [.int x] μ Q ↔ (x = 0 ∨ x = 1) ∧ Q (some (.int x)) μ := rw_rc p3_54 rfl
/-! ReleaseDesk.constant -/
theorem r4_0 : RR 4 0 (.ref q :: l) st μ Q ↔ RR 4 1 (.ref q :: l) (.ref q :: st) μ Q := rw_go p4_0 rfl
theorem r4_1 : RR 4 1 (a0 :: .int x :: l) st μ Q ↔ RR 4 2 (a0 :: .int x :: l) (.int x :: st) μ Q := rw_go p4_1 rfl
theorem r4_2 : RR 4 2 (a0 :: a1 :: .int x :: l) st μ Q ↔ RR 4 3 (a0 :: a1 :: .int x :: l) (.int x :: st) μ Q := rw_go p4_2 rfl
theorem r4_3 : RR 4 3 L st μ Q ↔ RR 4 4 L (.int (nI 0) :: st) μ Q := rw_go p4_3 rfl
theorem r4_4 : RR 4 4 (a0 :: a1 :: a2 :: .int x :: l) st μ Q ↔ RR 4 5 (a0 :: a1 :: a2 :: .int x :: l) (.int x :: st) μ Q := rw_go p4_4 rfl
theorem r4_5 : RR 4 5 L (.int x4 :: .int x3 :: .int x2 :: .int x1 :: .ref q :: st) (S, (0, 0, sl), M, D, F) Q ↔ (am_cat st ≤ 8 ∧ 5 = 5 ∧ S[q]? = some (.inl 8)) ∧ RR 21 0 [.ref q, .int x1, .int x2, .int x3, .int x4] [] (S, (0, 0, sl), M, D, F) (fun rv μ' => μ'.1.length = S.length ∧ RR 4 8 L (rv.toList ++ st) (μ'.1, (0, 0, sl), μ'.2.2) Q) := rw_call p4_5 rfl (ac21 q x1 x2 x3 x4)
theorem r4_8 : RR 4 8 L (.int x :: st) μ Q ↔ if ¬ x = 0 then RR 4 13 L st μ Q else RR 4 11 L st μ Q := rw_if p4_8 rfl
theorem r4_11 : RR 4 11 L st μ Q ↔ RR 4 12 L (.int (nI 0) :: st) μ Q := rw_go p4_11 rfl
theorem r4_12 : RR 4 12 L [.int x] μ Q ↔ (x = 0 ∨ x = 1) ∧ Q (some (.int x)) μ := rw_rc p4_12 rfl
theorem r4_13 : RR 4 13 (.ref q :: l) st μ Q ↔ RR 4 14 (.ref q :: l) (.ref q :: st) μ Q := rw_go p4_13 rfl
theorem r4_14 : RR 4 14 L (.ref q :: st) (S, b, M, D, F) Q ↔ S[q]? = some (.inl 8) ∧ RR 4 17 L (va_rf (F q 0) :: st) (S, b, M, D, F) Q := rw_c p4_14 rfl
theorem r4_17 : RR 4 17 (a0 :: .int x :: l) st μ Q ↔ RR 4 18 (a0 :: .int x :: l) (.int x :: st) μ Q := rw_go p4_17 rfl
theorem r4_18 : RR 4 18 L (.int x1 :: .ref q :: st) (S, (0, 0, sl), M, D, F) Q ↔ (am_cat st ≤ 8 ∧ 2 = 2 ∧ S[q]? = some (.inl 1)) ∧ RR 95 0 [.ref q, .int x1] [] (S, (0, 0, sl), M, D, F) (fun rv μ' => μ'.1.length = S.length ∧ RR 4 21 L (rv.toList ++ st) (μ'.1, (0, 0, sl), μ'.2.2) Q) := rw_call p4_18 rfl (ac95 q x1)
theorem r4_21 : RR 4 21 (a0 :: a1 :: .int x :: l) st μ Q ↔ RR 4 22 (a0 :: a1 :: .int x :: l) (.int x :: st) μ Q := rw_go p4_21 rfl
theorem r4_22 : RR 4 22 (a0 :: a1 :: a2 :: .int x :: l) st μ Q ↔ RR 4 23 (a0 :: a1 :: a2 :: .int x :: l) (.int x :: st) μ Q := rw_go p4_22 rfl
theorem r4_23 : RR 4 23 (a0 :: a1 :: a2 :: a3 :: .double d :: l) st μ Q ↔ RR 4 25 (a0 :: a1 :: a2 :: a3 :: .double d :: l) (.double d :: st) μ Q := rw_go p4_23 rfl
theorem r4_25 : RR 4 25 L (.double d1 :: .int x2 :: .int x1 :: .ref q :: st) (S, (0, 0, sl), M, D, F) Q ↔ (am_cat st ≤ 8 ∧ 4 = 4 ∧ S[q]? = some (.inl 0)) ∧ RR 79 0 [.ref q, .int x1, .int x2, .double d1, .long 0] [] (S, (0, 0, sl), M, D, F) (fun rv μ' => μ'.1.length = S.length ∧ RR 4 28 L (rv.toList ++ st) (μ'.1, (0, 0, sl), μ'.2.2) Q) := rw_call p4_25 rfl (ac79 q x1 x2 d1)
theorem r4_28 : RR 4 28 L st μ Q ↔ RR 4 29 L (.int (nI 1) :: st) μ Q := rw_go p4_28 rfl
theorem r4_29 : RR 4 29 L [.int x] μ Q ↔ (x = 0 ∨ x = 1) ∧ Q (some (.int x)) μ := rw_rc p4_29 rfl
/-! ReleaseDesk.remove -/
theorem r5_0 : RR 5 0 (.ref q :: l) st μ Q ↔ RR 5 1 (.ref q :: l) (.ref q :: st) μ Q := rw_go p5_0 rfl
theorem r5_1 : RR 5 1 (a0 :: .int x :: l) st μ Q ↔ RR 5 2 (a0 :: .int x :: l) (.int x :: st) μ Q := rw_go p5_1 rfl
theorem r5_2 : RR 5 2 (a0 :: a1 :: .int x :: l) st μ Q ↔ RR 5 3 (a0 :: a1 :: .int x :: l) (.int x :: st) μ Q := rw_go p5_2 rfl
theorem r5_3 : RR 5 3 (a0 :: a1 :: a2 :: .int x :: l) st μ Q ↔ RR 5 4 (a0 :: a1 :: a2 :: .int x :: l) (.int x :: st) μ Q := rw_go p5_3 rfl
theorem r5_4 : RR 5 4 (a0 :: a1 :: a2 :: a3 :: .int x :: l) st μ Q ↔ RR 5 6 (a0 :: a1 :: a2 :: a3 :: .int x :: l) (.int x :: st) μ Q := rw_go p5_4 rfl
theorem r5_6 : RR 5 6 L (.int x4 :: .int x3 :: .int x2 :: .int x1 :: .ref q :: st) (S, (0, 0, sl), M, D, F) Q ↔ (am_cat st ≤ 8 ∧ 5 = 5 ∧ S[q]? = some (.inl 8)) ∧ RR 21 0 [.ref q, .int x1, .int x2, .int x3, .int x4] [] (S, (0, 0, sl), M, D, F) (fun rv μ' => μ'.1.length = S.length ∧ RR 5 9 L (rv.toList ++ st) (μ'.1, (0, 0, sl), μ'.2.2) Q) := rw_call p5_6 rfl (ac21 q x1 x2 x3 x4)
theorem r5_9 : RR 5 9 L (.int x :: st) μ Q ↔ if ¬ x = 0 then RR 5 14 L st μ Q else RR 5 12 L st μ Q := rw_if p5_9 rfl
theorem r5_12 : RR 5 12 L st μ Q ↔ RR 5 13 L (.int (nI 0) :: st) μ Q := rw_go p5_12 rfl
theorem r5_13 : RR 5 13 L [.int x] μ Q ↔ (x = 0 ∨ x = 1) ∧ Q (some (.int x)) μ := rw_rc p5_13 rfl
theorem r5_14 : RR 5 14 (.ref q :: l) st μ Q ↔ RR 5 15 (.ref q :: l) (.ref q :: st) μ Q := rw_go p5_14 rfl
theorem r5_15 : RR 5 15 L (.ref q :: st) (S, b, M, D, F) Q ↔ S[q]? = some (.inl 8) ∧ RR 5 18 L (va_rf (F q 0) :: st) (S, b, M, D, F) Q := rw_c p5_15 rfl
theorem r5_18 : RR 5 18 (a0 :: .int x :: l) st μ Q ↔ RR 5 19 (a0 :: .int x :: l) (.int x :: st) μ Q := rw_go p5_18 rfl
theorem r5_19 : RR 5 19 L (.int x1 :: .ref q :: st) (S, (0, 0, sl), M, D, F) Q ↔ (am_cat st ≤ 8 ∧ 2 = 2 ∧ S[q]? = some (.inl 1)) ∧ RR 95 0 [.ref q, .int x1] [] (S, (0, 0, sl), M, D, F) (fun rv μ' => μ'.1.length = S.length ∧ RR 5 22 L (rv.toList ++ st) (μ'.1, (0, 0, sl), μ'.2.2) Q) := rw_call p5_19 rfl (ac95 q x1)
theorem r5_22 : RR 5 22 (a0 :: a1 :: .int x :: l) st μ Q ↔ RR 5 23 (a0 :: a1 :: .int x :: l) (.int x :: st) μ Q := rw_go p5_22 rfl
theorem r5_23 : RR 5 23 (a0 :: a1 :: a2 :: .int x :: l) st μ Q ↔ RR 5 24 (a0 :: a1 :: a2 :: .int x :: l) (.int x :: st) μ Q := rw_go p5_23 rfl
theorem r5_24 : RR 5 24 (a0 :: a1 :: a2 :: a3 :: .int x :: l) st μ Q ↔ RR 5 26 (a0 :: a1 :: a2 :: a3 :: .int x :: l) (.int x :: st) μ Q := rw_go p5_24 rfl
theorem r5_26 : RR 5 26 L (.int x2 :: .int x1 :: st) (S, (0, 0, sl), M, D, F) Q ↔ (am_cat st ≤ 8 ∧ 2 = 2) ∧ RR 26 0 [.int x1, .int x2] [] (S, (0, 0, sl), M, D, F) (fun rv μ' => μ'.1.length = S.length ∧ RR 5 29 L (rv.toList ++ st) (μ'.1, (0, 0, sl), μ'.2.2) Q) := rw_call p5_26 rfl (ac26 x1 x2)
theorem r5_29 : RR 5 29 L st μ Q ↔ RR 5 30 L (.int ((-1)) :: st) μ Q := rw_go p5_29 rfl
theorem r5_30 : RR 5 30 L (.int x3 :: .int x2 :: .int x1 :: .ref q :: st) (S, (0, 0, sl), M, D, F) Q ↔ (am_cat st ≤ 8 ∧ 4 = 4 ∧ S[q]? = some (.inl 0)) ∧ RR 78 0 [.ref q, .int x1, .int x2, .int x3] [] (S, (0, 0, sl), M, D, F) (fun rv μ' => μ'.1.length = S.length ∧ RR 5 33 L (rv.toList ++ st) (μ'.1, (0, 0, sl), μ'.2.2) Q) := rw_call p5_30 rfl (ac78 q x1 x2 x3)
theorem r5_33 : RR 5 33 L st μ Q ↔ RR 5 34 L (.int (nI 1) :: st) μ Q := rw_go p5_33 rfl
theorem r5_34 : RR 5 34 L [.int x] μ Q ↔ (x = 0 ∨ x = 1) ∧ Q (some (.int x)) μ := rw_rc p5_34 rfl
/-! ReleaseDesk.branch -/
theorem r6_0 : RR 6 0 (.ref q :: l) st μ Q ↔ RR 6 1 (.ref q :: l) (.ref q :: st) μ Q := rw_go p6_0 rfl
theorem r6_1 : RR 6 1 L (.ref q :: st) (S, b, M, D, F) Q ↔ S[q]? = some (.inl 8) ∧ RR 6 4 L (va_rf (F q 0) :: st) (S, b, M, D, F) Q := rw_c p6_1 rfl
theorem r6_4 : RR 6 4 L (.ref q :: st) (S, b, M, D, F) Q ↔ S[q]? = some (.inl 1) ∧ RR 6 7 L (va_rf (F q 1) :: st) (S, b, M, D, F) Q := rw_c p6_4 rfl
theorem r6_7 : RR 6 7 (.ref q :: l) st μ Q ↔ RR 6 8 (.ref q :: l) (.ref q :: st) μ Q := rw_go p6_7 rfl
theorem r6_8 : RR 6 8 L (.ref q :: st) (S, b, M, D, F) Q ↔ S[q]? = some (.inl 8) ∧ RR 6 11 L (va_rf (F q 0) :: st) (S, b, M, D, F) Q := rw_c p6_8 rfl
theorem r6_11 : RR 6 11 L (.ref q :: st) (S, b, M, D, F) Q ↔ S[q]? = some (.inl 1) ∧ RR 6 14 L (va_rf (F q 0) :: st) (S, b, M, D, F) Q := rw_c p6_11 rfl
theorem r6_14 : RR 6 14 L (.ref q1 :: .ref q :: st) (S, (0, 0, sl), M, D, F) Q ↔ (am_cat st ≤ 8 ∧ 2 = 2 ∧ S[q]? = some (.inl 0)) ∧ RR 80 0 [.ref q, .ref q1] [] (S, (0, 0, sl), M, D, F) (fun rv μ' => μ'.1.length = S.length ∧ RR 6 17 L (rv.toList ++ st) (μ'.1, (0, 0, sl), μ'.2.2) Q) := rw_call p6_14 rfl (ac80 q q1)
theorem r6_17 : RR 6 17 (.ref q :: l) st μ Q ↔ RR 6 18 (.ref q :: l) (.ref q :: st) μ Q := rw_go p6_17 rfl
theorem r6_18 : RR 6 18 L (.ref q :: st) (S, b, M, D, F) Q ↔ S[q]? = some (.inl 8) ∧ RR 6 21 L (va_rf (F q 0) :: st) (S, b, M, D, F) Q := rw_c p6_18 rfl
theorem r6_21 : RR 6 21 L (.ref q :: st) (S, b, M, D, F) Q ↔ S[q]? = some (.inl 1) ∧ RR 6 24 L (va_rf (F q 1) :: st) (S, b, M, D, F) Q := rw_c p6_21 rfl
theorem r6_24 : RR 6 24 L (.ref q :: st) (S, (0, 0, sl), M, D, F) Q ↔ (am_cat st ≤ 8 ∧ 1 = 1 ∧ S[q]? = some (.inl 0)) ∧ RR 81 0 [.ref q, .long 0, .long 0] [] (S, (0, 0, sl), M, D, F) (fun rv μ' => μ'.1.length = S.length ∧ RR 6 27 L (rv.toList ++ st) (μ'.1, (0, 0, sl), μ'.2.2) Q) := rw_call p6_24 rfl (ac81 q)
theorem r6_27 : RR 6 27 L [.int x] μ Q ↔ Q (some (.int x)) μ := rw_r p6_27 rfl
/-! ReleaseDesk.letter -/
theorem r7_0 : RR 7 0 (a0 :: .int x :: l) st μ Q ↔ RR 7 1 (a0 :: .int x :: l) (.int x :: st) μ Q := rw_go p7_0 rfl
theorem r7_1 : RR 7 1 L st μ Q ↔ RR 7 3 L (.int (nI 33) :: st) μ Q := rw_go p7_1 rfl
theorem r7_3 : RR 7 3 L st μ Q ↔ RR 7 5 L (.int (nI 126) :: st) μ Q := rw_go p7_3 rfl
theorem r7_5 : RR 7 5 L (.int x3 :: .int x2 :: .int x1 :: st) (S, (0, 0, sl), M, D, F) Q ↔ (am_cat st ≤ 8 ∧ 3 = 3) ∧ RR 24 0 [.int x1, .int x2, .int x3] [] (S, (0, 0, sl), M, D, F) (fun rv μ' => μ'.1.length = S.length ∧ RR 7 8 L (rv.toList ++ st) (μ'.1, (0, 0, sl), μ'.2.2) Q) := rw_call p7_5 rfl (ac24 x1 x2 x3)
theorem r7_8 : RR 7 8 L (.int x :: st) μ Q ↔ if ¬ x = 0 then RR 7 13 L st μ Q else RR 7 11 L st μ Q := rw_if p7_8 rfl
theorem r7_11 : RR 7 11 L st μ Q ↔ RR 7 12 L (.int ((-1)) :: st) μ Q := rw_go p7_11 rfl
theorem r7_12 : RR 7 12 L [.int x] μ Q ↔ Q (some (.int x)) μ := rw_r p7_12 rfl
theorem r7_13 : RR 7 13 (.ref q :: l) st μ Q ↔ RR 7 14 (.ref q :: l) (.ref q :: st) μ Q := rw_go p7_13 rfl
theorem r7_14 : RR 7 14 L (.ref q :: st) (S, b, M, D, F) Q ↔ S[q]? = some (.inl 8) ∧ RR 7 17 L (va_rf (F q 1) :: st) (S, b, M, D, F) Q := rw_c p7_14 rfl
theorem r7_17 : RR 7 17 L (.ref q :: st) (S, (0, 0, sl), M, D, F) Q ↔ (am_cat st ≤ 8 ∧ 1 = 1 ∧ S[q]? = some (.inl 4)) ∧ RR 130 0 [.ref q] [] (S, (0, 0, sl), M, D, F) (fun rv μ' => μ'.1.length = S.length ∧ RR 7 20 L (rv.toList ++ st) (μ'.1, (0, 0, sl), μ'.2.2) Q) := rw_call p7_17 rfl (ac130 q)
theorem r7_20 : RR 7 20 L (.int x :: st) μ Q ↔ if x = 0 then RR 7 26 L st μ Q else RR 7 23 L st μ Q := rw_if p7_20 rfl
theorem r7_23 : RR 7 23 L st μ Q ↔ RR 7 25 L (.int ((-3)) :: st) μ Q := rw_go p7_23 rfl
theorem r7_25 : RR 7 25 L [.int x] μ Q ↔ Q (some (.int x)) μ := rw_r p7_25 rfl
theorem r7_26 : RR 7 26 (.ref q :: l) st μ Q ↔ RR 7 27 (.ref q :: l) (.ref q :: st) μ Q := rw_go p7_26 rfl
theorem r7_27 : RR 7 27 L (.ref q :: st) (S, b, M, D, F) Q ↔ S[q]? = some (.inl 8) ∧ RR 7 30 L (va_rf (F q 1) :: st) (S, b, M, D, F) Q := rw_c p7_27 rfl
theorem r7_30 : RR 7 30 (a0 :: .int x :: l) st μ Q ↔ RR 7 31 (a0 :: .int x :: l) (.int x :: st) μ Q := rw_go p7_30 rfl
theorem r7_31 : RR 7 31 L (.int x :: st) μ Q ↔ RR 7 32 L (.int (x.toUInt32 % 65536).toInt32 :: st) μ Q := rw_go p7_31 rfl
theorem r7_32 : RR 7 32 L (.int x1 :: .ref q :: st) (S, (0, 0, sl), M, D, F) Q ↔ (am_cat st ≤ 8 ∧ 2 = 2 ∧ S[q]? = some (.inl 4)) ∧ RR 131 0 [.ref q, .int x1] [] (S, (0, 0, sl), M, D, F) (fun rv μ' => μ'.1.length = S.length ∧ RR 7 35 L (rv.toList ++ st) (μ'.1, (0, 0, sl), μ'.2.2) Q) := rw_call p7_32 rfl (ac131 q x1)
theorem r7_35 : RR 7 35 (.ref q :: l) st μ Q ↔ RR 7 36 (.ref q :: l) (.ref q :: st) μ Q := rw_go p7_35 rfl
theorem r7_36 : RR 7 36 L (.ref q :: st) (S, b, M, D, F) Q ↔ S[q]? = some (.inl 8) ∧ RR 7 39 L (va_rf (F q 1) :: st) (S, b, M, D, F) Q := rw_c p7_36 rfl
theorem r7_39 : RR 7 39 L (.ref q :: st) (S, (0, 0, sl), M, D, F) Q ↔ (am_cat st ≤ 8 ∧ 1 = 1 ∧ S[q]? = some (.inl 4)) ∧ RR 129 0 [.ref q] [] (S, (0, 0, sl), M, D, F) (fun rv μ' => μ'.1.length = S.length ∧ RR 7 42 L (rv.toList ++ st) (μ'.1, (0, 0, sl), μ'.2.2) Q) := rw_call p7_39 rfl (ac129 q)
theorem r7_42 : RR 7 42 L [.int x] μ Q ↔ Q (some (.int x)) μ := rw_r p7_42 rfl
/-! ReleaseDesk.rule -/
theorem r8_0 : RR 8 0 (a0 :: .int x :: l) st μ Q ↔ RR 8 1 (a0 :: .int x :: l) (.int x :: st) μ Q := rw_go p8_0 rfl
theorem r8_1 : RR 8 1 L st μ Q ↔ RR 8 2 L (.int (nI 1) :: st) μ Q := rw_go p8_1 rfl
theorem r8_2 : RR 8 2 L st μ Q ↔ RR 8 4 L (.int (nI 33) :: st) μ Q := rw_go p8_2 rfl
theorem r8_4 : RR 8 4 L (.int x3 :: .int x2 :: .int x1 :: st) (S, (0, 0, sl), M, D, F) Q ↔ (am_cat st ≤ 8 ∧ 3 = 3) ∧ RR 24 0 [.int x1, .int x2, .int x3] [] (S, (0, 0, sl), M, D, F) (fun rv μ' => μ'.1.length = S.length ∧ RR 8 7 L (rv.toList ++ st) (μ'.1, (0, 0, sl), μ'.2.2) Q) := rw_call p8_4 rfl (ac24 x1 x2 x3)
theorem r8_7 : RR 8 7 L (.int x :: st) μ Q ↔ if x = 0 then RR 8 29 L st μ Q else RR 8 10 L st μ Q := rw_if p8_7 rfl
theorem r8_10 : RR 8 10 (a0 :: a1 :: .int x :: l) st μ Q ↔ RR 8 11 (a0 :: a1 :: .int x :: l) (.int x :: st) μ Q := rw_go p8_10 rfl
theorem r8_11 : RR 8 11 (a0 :: .int x :: l) st μ Q ↔ RR 8 12 (a0 :: .int x :: l) (.int x :: st) μ Q := rw_go p8_11 rfl
theorem r8_12 : RR 8 12 L st μ Q ↔ RR 8 14 L (.int (nI 33) :: st) μ Q := rw_go p8_12 rfl
theorem r8_14 : RR 8 14 L (.int x3 :: .int x2 :: .int x1 :: st) (S, (0, 0, sl), M, D, F) Q ↔ (am_cat st ≤ 8 ∧ 3 = 3) ∧ RR 24 0 [.int x1, .int x2, .int x3] [] (S, (0, 0, sl), M, D, F) (fun rv μ' => μ'.1.length = S.length ∧ RR 8 17 L (rv.toList ++ st) (μ'.1, (0, 0, sl), μ'.2.2) Q) := rw_call p8_14 rfl (ac24 x1 x2 x3)
theorem r8_17 : RR 8 17 L (.int x :: st) μ Q ↔ if x = 0 then RR 8 29 L st μ Q else RR 8 20 L st μ Q := rw_if p8_17 rfl
theorem r8_20 : RR 8 20 (a0 :: a1 :: a2 :: .int x :: l) st μ Q ↔ RR 8 21 (a0 :: a1 :: a2 :: .int x :: l) (.int x :: st) μ Q := rw_go p8_20 rfl
theorem r8_21 : RR 8 21 L st μ Q ↔ RR 8 22 L (.int (nI 0) :: st) μ Q := rw_go p8_21 rfl
theorem r8_22 : RR 8 22 L st μ Q ↔ RR 8 23 L (.int (nI 3) :: st) μ Q := rw_go p8_22 rfl
theorem r8_23 : RR 8 23 L (.int x3 :: .int x2 :: .int x1 :: st) (S, (0, 0, sl), M, D, F) Q ↔ (am_cat st ≤ 8 ∧ 3 = 3) ∧ RR 24 0 [.int x1, .int x2, .int x3] [] (S, (0, 0, sl), M, D, F) (fun rv μ' => μ'.1.length = S.length ∧ RR 8 26 L (rv.toList ++ st) (μ'.1, (0, 0, sl), μ'.2.2) Q) := rw_call p8_23 rfl (ac24 x1 x2 x3)
theorem r8_26 : RR 8 26 L (.int x :: st) μ Q ↔ if ¬ x = 0 then RR 8 31 L st μ Q else RR 8 29 L st μ Q := rw_if p8_26 rfl
theorem r8_29 : RR 8 29 L st μ Q ↔ RR 8 30 L (.int ((-1)) :: st) μ Q := rw_go p8_29 rfl
theorem r8_30 : RR 8 30 L [.int x] μ Q ↔ Q (some (.int x)) μ := rw_r p8_30 rfl
theorem r8_31 : RR 8 31 (.ref q :: l) st μ Q ↔ RR 8 32 (.ref q :: l) (.ref q :: st) μ Q := rw_go p8_31 rfl
theorem r8_32 : RR 8 32 L (.ref q :: st) (S, b, M, D, F) Q ↔ S[q]? = some (.inl 8) ∧ RR 8 35 L (va_rf (F q 2) :: st) (S, b, M, D, F) Q := rw_c p8_32 rfl
theorem r8_35 : RR 8 35 L (.ref q :: st) (S, (0, 0, sl), M, D, F) Q ↔ (am_cat st ≤ 8 ∧ 1 = 1 ∧ S[q]? = some (.inl 7)) ∧ RR 152 0 [.ref q] [] (S, (0, 0, sl), M, D, F) (fun rv μ' => μ'.1.length = S.length ∧ RR 8 38 L (rv.toList ++ st) (μ'.1, (0, 0, sl), μ'.2.2) Q) := rw_call p8_35 rfl (ac152 q)
theorem r8_38 : RR 8 38 L (.int x :: st) μ Q ↔ if x = 0 then RR 8 44 L st μ Q else RR 8 41 L st μ Q := rw_if p8_38 rfl
theorem r8_41 : RR 8 41 L st μ Q ↔ RR 8 43 L (.int ((-3)) :: st) μ Q := rw_go p8_41 rfl
theorem r8_43 : RR 8 43 L [.int x] μ Q ↔ Q (some (.int x)) μ := rw_r p8_43 rfl
theorem r8_44 : RR 8 44 (.ref q :: l) st μ Q ↔ RR 8 45 (.ref q :: l) (.ref q :: st) μ Q := rw_go p8_44 rfl
theorem r8_45 : RR 8 45 L (.ref q :: st) (S, b, M, D, F) Q ↔ S[q]? = some (.inl 8) ∧ RR 8 48 L (va_rf (F q 2) :: st) (S, b, M, D, F) Q := rw_c p8_45 rfl
theorem r8_48 : RR 8 48 (.ref q :: l) st μ Q ↔ RR 8 49 (.ref q :: l) (.ref q :: st) μ Q := rw_go p8_48 rfl
theorem r8_49 : RR 8 49 L (.ref q :: st) (S, b, M, D, F) Q ↔ S[q]? = some (.inl 8) ∧ RR 8 52 L (va_rf (F q 1) :: st) (S, b, M, D, F) Q := rw_c p8_49 rfl
theorem r8_52 : RR 8 52 (a0 :: .int x :: l) st μ Q ↔ RR 8 53 (a0 :: .int x :: l) (.int x :: st) μ Q := rw_go p8_52 rfl
theorem r8_53 : RR 8 53 (a0 :: a1 :: .int x :: l) st μ Q ↔ RR 8 54 (a0 :: a1 :: .int x :: l) (.int x :: st) μ Q := rw_go p8_53 rfl
theorem r8_54 : RR 8 54 (a0 :: a1 :: a2 :: .int x :: l) st μ Q ↔ RR 8 55 (a0 :: a1 :: a2 :: .int x :: l) (.int x :: st) μ Q := rw_go p8_54 rfl
theorem r8_55 : RR 8 55 L (.int x3 :: .int x2 :: .int x1 :: .ref q1 :: .ref q :: st) (S, (0, 0, sl), M, D, F) Q ↔ (am_cat st ≤ 8 ∧ 5 = 5 ∧ S[q]? = some (.inl 7)) ∧ RR 153 0 [.ref q, .ref q1, .int x1, .int x2, .int x3] [] (S, (0, 0, sl), M, D, F) (fun rv μ' => μ'.1.length = S.length ∧ RR 8 58 L (rv.toList ++ st) (μ'.1, (0, 0, sl), μ'.2.2) Q) := rw_call p8_55 rfl (ac153 q q1 x1 x2 x3)
theorem r8_58 : RR 8 58 (.ref q :: l) st μ Q ↔ RR 8 59 (.ref q :: l) (.ref q :: st) μ Q := rw_go p8_58 rfl
theorem r8_59 : RR 8 59 L (.ref q :: st) (S, b, M, D, F) Q ↔ S[q]? = some (.inl 8) ∧ RR 8 62 L (va_rf (F q 1) :: st) (S, b, M, D, F) Q := rw_c p8_59 rfl
theorem r8_62 : RR 8 62 L (.ref q :: st) (S, (0, 0, sl), M, D, F) Q ↔ (am_cat st ≤ 8 ∧ 1 = 1 ∧ S[q]? = some (.inl 4)) ∧ RR 132 0 [.ref q] [] (S, (0, 0, sl), M, D, F) (fun rv μ' => μ'.1.length = S.length ∧ RR 8 65 L (rv.toList ++ st) (μ'.1, (0, 0, sl), μ'.2.2) Q) := rw_call p8_62 rfl (ac132 q)
theorem r8_65 : RR 8 65 (.ref q :: l) st μ Q ↔ RR 8 66 (.ref q :: l) (.ref q :: st) μ Q := rw_go p8_65 rfl
theorem r8_66 : RR 8 66 L (.ref q :: st) (S, b, M, D, F) Q ↔ S[q]? = some (.inl 8) ∧ RR 8 69 L (va_rf (F q 2) :: st) (S, b, M, D, F) Q := rw_c p8_66 rfl
theorem r8_69 : RR 8 69 L (.ref q :: st) (S, (0, 0, sl), M, D, F) Q ↔ (am_cat st ≤ 8 ∧ 1 = 1 ∧ S[q]? = some (.inl 7)) ∧ RR 151 0 [.ref q] [] (S, (0, 0, sl), M, D, F) (fun rv μ' => μ'.1.length = S.length ∧ RR 8 72 L (rv.toList ++ st) (μ'.1, (0, 0, sl), μ'.2.2) Q) := rw_call p8_69 rfl (ac151 q)
theorem r8_72 : RR 8 72 L [.int x] μ Q ↔ Q (some (.int x)) μ := rw_r p8_72 rfl
/-! ReleaseDesk.clear -/
theorem r9_0 : RR 9 0 (.ref q :: l) st μ Q ↔ RR 9 1 (.ref q :: l) (.ref q :: st) μ Q := rw_go p9_0 rfl
theorem r9_1 : RR 9 1 L (.ref q :: st) (S, b, M, D, F) Q ↔ S[q]? = some (.inl 8) ∧ RR 9 4 L (va_rf (F q 2) :: st) (S, b, M, D, F) Q := rw_c p9_1 rfl
theorem r9_4 : RR 9 4 L (.ref q :: st) (S, (0, 0, sl), M, D, F) Q ↔ (am_cat st ≤ 8 ∧ 1 = 1 ∧ S[q]? = some (.inl 7)) ∧ RR 151 0 [.ref q] [] (S, (0, 0, sl), M, D, F) (fun rv μ' => μ'.1.length = S.length ∧ RR 9 7 L (rv.toList ++ st) (μ'.1, (0, 0, sl), μ'.2.2) Q) := rw_call p9_4 rfl (ac151 q)
theorem r9_7 : RR 9 7 (a0 :: c0 :: l) (.int x :: st) μ Q ↔ RR 9 8 (am_nd a0 :: .int x :: l) st μ Q := rw_istn p9_7 (by show 1 < _; simp only [List.length_cons]; omega)
theorem r9_8 : RR 9 8 (.ref q :: l) st μ Q ↔ RR 9 9 (.ref q :: l) (.ref q :: st) μ Q := rw_go p9_8 rfl
theorem r9_9 : RR 9 9 L (.ref q :: st) (S, b, M, D, F) Q ↔ S[q]? = some (.inl 8) ∧ RR 9 12 L (va_rf (F q 2) :: st) (S, b, M, D, F) Q := rw_c p9_9 rfl
theorem r9_12 : RR 9 12 L (.ref q :: st) (S, (0, 0, sl), M, D, F) Q ↔ (am_cat st ≤ 8 ∧ 1 = 1 ∧ S[q]? = some (.inl 7)) ∧ RR 154 0 [.ref q] [] (S, (0, 0, sl), M, D, F) (fun rv μ' => μ'.1.length = S.length ∧ RR 9 15 L (rv.toList ++ st) (μ'.1, (0, 0, sl), μ'.2.2) Q) := rw_call p9_12 rfl (ac154 q)
theorem r9_15 : RR 9 15 (.ref q :: l) st μ Q ↔ RR 9 16 (.ref q :: l) (.ref q :: st) μ Q := rw_go p9_15 rfl
theorem r9_16 : RR 9 16 L (.ref q :: st) (S, b, M, D, F) Q ↔ S[q]? = some (.inl 8) ∧ RR 9 19 L (va_rf (F q 1) :: st) (S, b, M, D, F) Q := rw_c p9_16 rfl
theorem r9_19 : RR 9 19 L (.ref q :: st) (S, (0, 0, sl), M, D, F) Q ↔ (am_cat st ≤ 8 ∧ 1 = 1 ∧ S[q]? = some (.inl 4)) ∧ RR 132 0 [.ref q] [] (S, (0, 0, sl), M, D, F) (fun rv μ' => μ'.1.length = S.length ∧ RR 9 22 L (rv.toList ++ st) (μ'.1, (0, 0, sl), μ'.2.2) Q) := rw_call p9_19 rfl (ac132 q)
theorem r9_22 : RR 9 22 (a0 :: .int x :: l) st μ Q ↔ RR 9 23 (a0 :: .int x :: l) (.int x :: st) μ Q := rw_go p9_22 rfl
theorem r9_23 : RR 9 23 L [.int x] μ Q ↔ Q (some (.int x)) μ := rw_r p9_23 rfl
/-! ReleaseDesk.version -/
theorem r10_0 : RR 10 0 (a0 :: .int x :: l) st μ Q ↔ RR 10 1 (a0 :: .int x :: l) (.int x :: st) μ Q := rw_go p10_0 rfl
theorem r10_1 : RR 10 1 (a0 :: a1 :: .int x :: l) st μ Q ↔ RR 10 2 (a0 :: a1 :: .int x :: l) (.int x :: st) μ Q := rw_go p10_1 rfl
theorem r10_2 : RR 10 2 (a0 :: a1 :: a2 :: .int x :: l) st μ Q ↔ RR 10 3 (a0 :: a1 :: a2 :: .int x :: l) (.int x :: st) μ Q := rw_go p10_2 rfl
theorem r10_3 : RR 10 3 L (.int x3 :: .int x2 :: .int x1 :: st) (S, (0, 0, sl), M, D, F) Q ↔ (am_cat st ≤ 8 ∧ 3 = 3) ∧ RR 23 0 [.int x1, .int x2, .int x3] [] (S, (0, 0, sl), M, D, F) (fun rv μ' => μ'.1.length = S.length ∧ RR 10 6 L (rv.toList ++ st) (μ'.1, (0, 0, sl), μ'.2.2) Q) := rw_call p10_3 rfl (ac23 x1 x2 x3)
theorem r10_6 : RR 10 6 L (.int x :: st) μ Q ↔ if ¬ x = 0 then RR 10 11 L st μ Q else RR 10 9 L st μ Q := rw_if p10_6 rfl
theorem r10_9 : RR 10 9 L st μ Q ↔ RR 10 10 L (.int (nI 0) :: st) μ Q := rw_go p10_9 rfl
theorem r10_10 : RR 10 10 L [.int x] μ Q ↔ (x = 0 ∨ x = 1) ∧ Q (some (.int x)) μ := rw_rc p10_10 rfl
theorem r10_11 : RR 10 11 (.ref q :: l) st μ Q ↔ RR 10 12 (.ref q :: l) (.ref q :: st) μ Q := rw_go p10_11 rfl
theorem r10_12 : RR 10 12 (a0 :: .int x :: l) st μ Q ↔ RR 10 13 (a0 :: .int x :: l) (.int x :: st) μ Q := rw_go p10_12 rfl
theorem r10_13 : RR 10 13 (a0 :: a1 :: .int x :: l) st μ Q ↔ RR 10 14 (a0 :: a1 :: .int x :: l) (.int x :: st) μ Q := rw_go p10_13 rfl
theorem r10_14 : RR 10 14 (a0 :: a1 :: a2 :: .int x :: l) st μ Q ↔ RR 10 15 (a0 :: a1 :: a2 :: .int x :: l) (.int x :: st) μ Q := rw_go p10_14 rfl
theorem r10_15 : RR 10 15 L (.int x3 :: .int x2 :: .int x1 :: st) (S, (0, 0, sl), M, D, F) Q ↔ (am_cat st ≤ 8 ∧ 3 = 3) ∧ RR 25 0 [.int x1, .int x2, .int x3] [] (S, (0, 0, sl), M, D, F) (fun rv μ' => μ'.1.length = S.length ∧ RR 10 18 L (rv.toList ++ st) (μ'.1, (0, 0, sl), μ'.2.2) Q) := rw_call p10_15 rfl (ac25 x1 x2 x3)
theorem r10_18 : RR 10 18 L (.int x :: .ref q :: st) (S, b, M, D, F) Q ↔ S[q]? = some (.inl 8) ∧ RR 10 21 L st (S, b, am_up M q 5 x, D, F) Q := rw_c p10_18 rfl
theorem r10_21 : RR 10 21 L st μ Q ↔ RR 10 22 L (.int (nI 1) :: st) μ Q := rw_go p10_21 rfl
theorem r10_22 : RR 10 22 L [.int x] μ Q ↔ (x = 0 ∨ x = 1) ∧ Q (some (.int x)) μ := rw_rc p10_22 rfl
/-! ReleaseDesk.list -/
theorem r11_0 : RR 11 0 (.ref q :: l) st μ Q ↔ RR 11 1 (.ref q :: l) (.ref q :: st) μ Q := rw_go p11_0 rfl
theorem r11_1 : RR 11 1 L (.ref q :: st) (S, (0, 0, sl), M, D, F) Q ↔ (am_cat st ≤ 8 ∧ 1 = 1 ∧ S[q]? = some (.inl 8)) ∧ RR 18 0 [.ref q] [] (S, (0, 0, sl), M, D, F) (fun rv μ' => μ'.1.length = S.length ∧ RR 11 4 L (rv.toList ++ st) (μ'.1, (0, 0, sl), μ'.2.2) Q) := rw_call p11_1 rfl (ac18 q)
theorem r11_4 : RR 11 4 L (.ref q :: st) (S, (0, 0, sl), M, D, F) Q ↔ (am_cat st ≤ 8 ∧ 1 = 1 ∧ S[q]? = some (.inl 2)) ∧ RR 107 0 [.ref q] [] (S, (0, 0, sl), M, D, F) (fun rv μ' => μ'.1.length = S.length ∧ RR 11 7 L (rv.toList ++ st) (μ'.1, (0, 0, sl), μ'.2.2) Q) := rw_call p11_4 rfl (ac107 q)
theorem r11_7 : RR 11 7 L [.int x] μ Q ↔ Q (some (.int x)) μ := rw_r p11_7 rfl
/-! ReleaseDesk.change -/
theorem r12_0 : RR 12 0 (a0 :: a1 :: .int x :: l) st μ Q ↔ RR 12 1 (a0 :: a1 :: .int x :: l) (.int x :: st) μ Q := rw_go p12_0 rfl
theorem r12_1 : RR 12 1 L st μ Q ↔ RR 12 2 L (.int (nI 0) :: st) μ Q := rw_go p12_1 rfl
theorem r12_2 : RR 12 2 L st μ Q ↔ RR 12 3 L (.int (nI 4) :: st) μ Q := rw_go p12_2 rfl
theorem r12_3 : RR 12 3 L (.int x3 :: .int x2 :: .int x1 :: st) (S, (0, 0, sl), M, D, F) Q ↔ (am_cat st ≤ 8 ∧ 3 = 3) ∧ RR 24 0 [.int x1, .int x2, .int x3] [] (S, (0, 0, sl), M, D, F) (fun rv μ' => μ'.1.length = S.length ∧ RR 12 6 L (rv.toList ++ st) (μ'.1, (0, 0, sl), μ'.2.2) Q) := rw_call p12_3 rfl (ac24 x1 x2 x3)
theorem r12_6 : RR 12 6 L (.int x :: st) μ Q ↔ if ¬ x = 0 then RR 12 11 L st μ Q else RR 12 9 L st μ Q := rw_if p12_6 rfl
theorem r12_9 : RR 12 9 L st μ Q ↔ RR 12 10 L (.int ((-1)) :: st) μ Q := rw_go p12_9 rfl
theorem r12_10 : RR 12 10 L [.int x] μ Q ↔ Q (some (.int x)) μ := rw_r p12_10 rfl
theorem r12_11 : RR 12 11 (.ref q :: l) st μ Q ↔ RR 12 12 (.ref q :: l) (.ref q :: st) μ Q := rw_go p12_11 rfl
theorem r12_12 : RR 12 12 L (.ref q :: st) (S, (0, 0, sl), M, D, F) Q ↔ (am_cat st ≤ 8 ∧ 1 = 1 ∧ S[q]? = some (.inl 8)) ∧ RR 18 0 [.ref q] [] (S, (0, 0, sl), M, D, F) (fun rv μ' => μ'.1.length = S.length ∧ RR 12 15 L (rv.toList ++ st) (μ'.1, (0, 0, sl), μ'.2.2) Q) := rw_call p12_12 rfl (ac18 q)
theorem r12_15 : RR 12 15 (a0 :: a1 :: a2 :: c0 :: l) (.ref q :: st) μ Q ↔ RR 12 16 (a0 :: a1 :: am_nd a2 :: .ref q :: l) st μ Q := rw_astn p12_15 (by show 3 < _; simp only [List.length_cons]; omega)
theorem r12_16 : RR 12 16 (a0 :: a1 :: a2 :: .ref q :: l) st μ Q ↔ RR 12 17 (a0 :: a1 :: a2 :: .ref q :: l) (.ref q :: st) μ Q := rw_go p12_16 rfl
theorem r12_17 : RR 12 17 (a0 :: .int x :: l) st μ Q ↔ RR 12 18 (a0 :: .int x :: l) (.int x :: st) μ Q := rw_go p12_17 rfl
theorem r12_18 : RR 12 18 L (.int x1 :: .ref q :: st) (S, (0, 0, sl), M, D, F) Q ↔ (am_cat st ≤ 8 ∧ 2 = 2 ∧ S[q]? = some (.inl 2)) ∧ RR 108 0 [.ref q, .int x1] [] (S, (0, 0, sl), M, D, F) (fun rv μ' => μ'.1.length = S.length ∧ RR 12 21 L (rv.toList ++ st) (μ'.1, (0, 0, sl), μ'.2.2) Q) := rw_call p12_18 rfl (ac108 q x1)
theorem r12_21 : RR 12 21 L (.int x :: st) μ Q ↔ if ¬ x = 0 then RR 12 27 L st μ Q else RR 12 24 L st μ Q := rw_if p12_21 rfl
theorem r12_24 : RR 12 24 L st μ Q ↔ RR 12 26 L (.int ((-2)) :: st) μ Q := rw_go p12_24 rfl
theorem r12_26 : RR 12 26 L [.int x] μ Q ↔ Q (some (.int x)) μ := rw_r p12_26 rfl
theorem r12_27 : RR 12 27 (a0 :: a1 :: a2 :: .ref q :: l) st μ Q ↔ RR 12 28 (a0 :: a1 :: a2 :: .ref q :: l) (.ref q :: st) μ Q := rw_go p12_27 rfl
theorem r12_28 : RR 12 28 (a0 :: .int x :: l) st μ Q ↔ RR 12 29 (a0 :: .int x :: l) (.int x :: st) μ Q := rw_go p12_28 rfl
theorem r12_29 : RR 12 29 L (.int x1 :: .ref q :: st) (S, (0, 0, sl), M, D, F) Q ↔ (am_cat st ≤ 8 ∧ 2 = 2 ∧ S[q]? = some (.inl 2)) ∧ RR 117 0 [.ref q, .int x1] [] (S, (0, 0, sl), M, D, F) (fun rv μ' => μ'.1.length = S.length ∧ RR 12 32 L (rv.toList ++ st) (μ'.1, (0, 0, sl), μ'.2.2) Q) := rw_call p12_29 rfl (ac117 q x1)
theorem r12_32 : RR 12 32 (a0 :: a1 :: a2 :: a3 :: c0 :: l) (.int x :: st) μ Q ↔ RR 12 34 (a0 :: a1 :: a2 :: am_nd a3 :: .int x :: l) st μ Q := rw_ist p12_32 (by show 4 < _; simp only [List.length_cons]; omega)
theorem r12_34 : RR 12 34 (a0 :: a1 :: .int x :: l) st μ Q ↔ RR 12 35 (a0 :: a1 :: .int x :: l) (.int x :: st) μ Q := rw_go p12_34 rfl
theorem r12_35 : RR 12 35 L (.int x :: st) μ Q ↔ if x.toInt < 0 ∨ 3 < x.toInt then RR 12 106 L st μ Q else RR 12 ([64, 70, 76, 82].getD (x.toInt - 0).toNat 0) L st μ Q := rw_tsw p12_35 rfl
theorem r12_64 : RR 12 64 (a0 :: a1 :: a2 :: .ref q :: l) st μ Q ↔ RR 12 65 (a0 :: a1 :: a2 :: .ref q :: l) (.ref q :: st) μ Q := rw_go p12_64 rfl
theorem r12_65 : RR 12 65 (a0 :: .int x :: l) st μ Q ↔ RR 12 66 (a0 :: .int x :: l) (.int x :: st) μ Q := rw_go p12_65 rfl
theorem r12_66 : RR 12 66 L (.int x1 :: .ref q :: st) (S, (0, 0, sl), M, D, F) Q ↔ (am_cat st ≤ 8 ∧ 2 = 2 ∧ S[q]? = some (.inl 2)) ∧ RR 114 0 [.ref q, .int x1] [] (S, (0, 0, sl), M, D, F) (fun rv μ' => μ'.1.length = S.length ∧ RR 12 69 L (rv.toList ++ st) (μ'.1, (0, 0, sl), μ'.2.2) Q) := rw_call p12_66 rfl (ac114 q x1)
theorem r12_69 : RR 12 69 L [.int x] μ Q ↔ Q (some (.int x)) μ := rw_r p12_69 rfl
theorem r12_70 : RR 12 70 (a0 :: a1 :: a2 :: .ref q :: l) st μ Q ↔ RR 12 71 (a0 :: a1 :: a2 :: .ref q :: l) (.ref q :: st) μ Q := rw_go p12_70 rfl
theorem r12_71 : RR 12 71 (a0 :: .int x :: l) st μ Q ↔ RR 12 72 (a0 :: .int x :: l) (.int x :: st) μ Q := rw_go p12_71 rfl
theorem r12_72 : RR 12 72 L (.int x1 :: .ref q :: st) (S, (0, 0, sl), M, D, F) Q ↔ (am_cat st ≤ 8 ∧ 2 = 2 ∧ S[q]? = some (.inl 2)) ∧ RR 115 0 [.ref q, .int x1] [] (S, (0, 0, sl), M, D, F) (fun rv μ' => μ'.1.length = S.length ∧ RR 12 75 L (rv.toList ++ st) (μ'.1, (0, 0, sl), μ'.2.2) Q) := rw_call p12_72 rfl (ac115 q x1)
theorem r12_75 : RR 12 75 L [.int x] μ Q ↔ Q (some (.int x)) μ := rw_r p12_75 rfl
theorem r12_76 : RR 12 76 (a0 :: a1 :: a2 :: .ref q :: l) st μ Q ↔ RR 12 77 (a0 :: a1 :: a2 :: .ref q :: l) (.ref q :: st) μ Q := rw_go p12_76 rfl
theorem r12_77 : RR 12 77 (a0 :: .int x :: l) st μ Q ↔ RR 12 78 (a0 :: .int x :: l) (.int x :: st) μ Q := rw_go p12_77 rfl
theorem r12_78 : RR 12 78 L (.int x1 :: .ref q :: st) (S, (0, 0, sl), M, D, F) Q ↔ (am_cat st ≤ 8 ∧ 2 = 2 ∧ S[q]? = some (.inl 2)) ∧ RR 116 0 [.ref q, .int x1] [] (S, (0, 0, sl), M, D, F) (fun rv μ' => μ'.1.length = S.length ∧ RR 12 81 L (rv.toList ++ st) (μ'.1, (0, 0, sl), μ'.2.2) Q) := rw_call p12_78 rfl (ac116 q x1)
theorem r12_81 : RR 12 81 L [.int x] μ Q ↔ Q (some (.int x)) μ := rw_r p12_81 rfl
theorem r12_82 : RR 12 82 (a0 :: a1 :: a2 :: a3 :: .int x :: l) st μ Q ↔ RR 12 84 (a0 :: a1 :: a2 :: a3 :: .int x :: l) (.int x :: st) μ Q := rw_go p12_82 rfl
theorem r12_84 : RR 12 84 L st μ Q ↔ RR 12 85 L (.int ((-1)) :: st) μ Q := rw_go p12_84 rfl
theorem r12_85 : RR 12 85 L (.int y :: .int x :: st) μ Q ↔ if ¬ x = y then RR 12 92 L st μ Q else RR 12 88 L st μ Q := rw_if p12_85 rfl
theorem r12_88 : RR 12 88 L st μ Q ↔ RR 12 89 L (.int (nI 0) :: st) μ Q := rw_go p12_88 rfl
theorem r12_89 : RR 12 89 L st μ Q ↔ RR 12 105 L st μ Q := rw_go p12_89 rfl
theorem r12_92 : RR 12 92 (a0 :: a1 :: a2 :: a3 :: .int x :: l) st μ Q ↔ RR 12 94 (a0 :: a1 :: a2 :: a3 :: .int x :: l) (.int x :: st) μ Q := rw_go p12_92 rfl
theorem r12_94 : RR 12 94 L (.int x1 :: st) (S, (0, 0, sl), M, D, F) Q ↔ (am_cat st ≤ 8 ∧ 1 = 1) ∧ RR 27 0 [.int x1] [] (S, (0, 0, sl), M, D, F) (fun rv μ' => μ'.1.length = S.length ∧ RR 12 97 L (rv.toList ++ st) (μ'.1, (0, 0, sl), μ'.2.2) Q) := rw_call p12_94 rfl (ac27 x1)
theorem r12_97 : RR 12 97 L (.int x :: st) μ Q ↔ if x = 0 then RR 12 104 L st μ Q else RR 12 100 L st μ Q := rw_if p12_97 rfl
theorem r12_100 : RR 12 100 L st μ Q ↔ RR 12 101 L (.int (nI 2) :: st) μ Q := rw_go p12_100 rfl
theorem r12_101 : RR 12 101 L st μ Q ↔ RR 12 105 L st μ Q := rw_go p12_101 rfl
theorem r12_104 : RR 12 104 L st μ Q ↔ RR 12 105 L (.int (nI 1) :: st) μ Q := rw_go p12_104 rfl
theorem r12_105 : RR 12 105 L [.int x] μ Q ↔ Q (some (.int x)) μ := rw_r p12_105 rfl
theorem r12_106 : RR 12 106 (a0 :: a1 :: a2 :: a3 :: .int x :: l) st μ Q ↔ RR 12 108 (a0 :: a1 :: a2 :: a3 :: .int x :: l) (.int x :: st) μ Q := rw_go p12_106 rfl
theorem r12_108 : RR 12 108 L st μ Q ↔ RR 12 109 L (.int ((-1)) :: st) μ Q := rw_go p12_108 rfl
theorem r12_109 : RR 12 109 L (.int y :: .int x :: st) μ Q ↔ if ¬ x = y then RR 12 117 L st μ Q else RR 12 112 L st μ Q := rw_if p12_109 rfl
theorem r12_112 : RR 12 112 L st μ Q ↔ RR 12 114 L (.int ((-2)) :: st) μ Q := rw_go p12_112 rfl
theorem r12_114 : RR 12 114 L st μ Q ↔ RR 12 122 L st μ Q := rw_go p12_114 rfl
theorem r12_117 : RR 12 117 (a0 :: a1 :: a2 :: a3 :: .int x :: l) st μ Q ↔ RR 12 119 (a0 :: a1 :: a2 :: a3 :: .int x :: l) (.int x :: st) μ Q := rw_go p12_117 rfl
theorem r12_119 : RR 12 119 L (.int x1 :: st) (S, (0, 0, sl), M, D, F) Q ↔ (am_cat st ≤ 8 ∧ 1 = 1) ∧ RR 28 0 [.int x1] [] (S, (0, 0, sl), M, D, F) (fun rv μ' => μ'.1.length = S.length ∧ RR 12 122 L (rv.toList ++ st) (μ'.1, (0, 0, sl), μ'.2.2) Q) := rw_call p12_119 rfl (ac28 x1)
theorem r12_122 : RR 12 122 L [.int x] μ Q ↔ Q (some (.int x)) μ := rw_r p12_122 rfl
/-! ReleaseDesk.shift -/
theorem r13_0 : RR 13 0 (.ref q :: l) st μ Q ↔ RR 13 1 (.ref q :: l) (.ref q :: st) μ Q := rw_go p13_0 rfl
theorem r13_1 : RR 13 1 L (.ref q :: st) (S, (0, 0, sl), M, D, F) Q ↔ (am_cat st ≤ 8 ∧ 1 = 1 ∧ S[q]? = some (.inl 8)) ∧ RR 18 0 [.ref q] [] (S, (0, 0, sl), M, D, F) (fun rv μ' => μ'.1.length = S.length ∧ RR 13 4 L (rv.toList ++ st) (μ'.1, (0, 0, sl), μ'.2.2) Q) := rw_call p13_1 rfl (ac18 q)
theorem r13_4 : RR 13 4 (a0 :: a1 :: c0 :: l) (.ref q :: st) μ Q ↔ RR 13 5 (a0 :: am_nd a1 :: .ref q :: l) st μ Q := rw_astn p13_4 (by show 2 < _; simp only [List.length_cons]; omega)
theorem r13_5 : RR 13 5 (a0 :: a1 :: .ref q :: l) st μ Q ↔ RR 13 6 (a0 :: a1 :: .ref q :: l) (.ref q :: st) μ Q := rw_go p13_5 rfl
theorem r13_6 : RR 13 6 (a0 :: .int x :: l) st μ Q ↔ RR 13 7 (a0 :: .int x :: l) (.int x :: st) μ Q := rw_go p13_6 rfl
theorem r13_7 : RR 13 7 L (.int x1 :: .ref q :: st) (S, (0, 0, sl), M, D, F) Q ↔ (am_cat st ≤ 8 ∧ 2 = 2 ∧ S[q]? = some (.inl 2)) ∧ RR 108 0 [.ref q, .int x1] [] (S, (0, 0, sl), M, D, F) (fun rv μ' => μ'.1.length = S.length ∧ RR 13 10 L (rv.toList ++ st) (μ'.1, (0, 0, sl), μ'.2.2) Q) := rw_call p13_7 rfl (ac108 q x1)
theorem r13_10 : RR 13 10 L (.int x :: st) μ Q ↔ if x = 0 then RR 13 23 L st μ Q else RR 13 13 L st μ Q := rw_if p13_10 rfl
theorem r13_13 : RR 13 13 (a0 :: a1 :: .ref q :: l) st μ Q ↔ RR 13 14 (a0 :: a1 :: .ref q :: l) (.ref q :: st) μ Q := rw_go p13_13 rfl
theorem r13_14 : RR 13 14 (a0 :: .int x :: l) st μ Q ↔ RR 13 15 (a0 :: .int x :: l) (.int x :: st) μ Q := rw_go p13_14 rfl
theorem r13_15 : RR 13 15 L (.int x1 :: .ref q :: st) (S, (0, 0, sl), M, D, F) Q ↔ (am_cat st ≤ 8 ∧ 2 = 2 ∧ S[q]? = some (.inl 2)) ∧ RR 114 0 [.ref q, .int x1] [] (S, (0, 0, sl), M, D, F) (fun rv μ' => μ'.1.length = S.length ∧ RR 13 18 L (rv.toList ++ st) (μ'.1, (0, 0, sl), μ'.2.2) Q) := rw_call p13_15 rfl (ac114 q x1)
theorem r13_18 : RR 13 18 L st μ Q ↔ RR 13 20 L (.int (nI 31) :: st) μ Q := rw_go p13_18 rfl
theorem r13_20 : RR 13 20 L (.int y :: .int x :: st) μ Q ↔ if x = y then RR 13 25 L st μ Q else RR 13 23 L st μ Q := rw_if p13_20 rfl
theorem r13_23 : RR 13 23 L st μ Q ↔ RR 13 24 L (.double FP.dconst0 :: st) μ Q := rw_go p13_23 rfl
theorem r13_24 : RR 13 24 L [.double d] μ Q ↔ Q (some (.double d)) μ := rw_r p13_24 rfl
theorem r13_25 : RR 13 25 (.ref q :: l) st μ Q ↔ RR 13 26 (.ref q :: l) (.ref q :: st) μ Q := rw_go p13_25 rfl
theorem r13_26 : RR 13 26 L (.ref q :: st) (S, b, M, D, F) Q ↔ S[q]? = some (.inl 8) ∧ RR 13 29 L (va_rf (F q 0) :: st) (S, b, M, D, F) Q := rw_c p13_26 rfl
theorem r13_29 : RR 13 29 (a0 :: a1 :: .ref q :: l) st μ Q ↔ RR 13 30 (a0 :: a1 :: .ref q :: l) (.ref q :: st) μ Q := rw_go p13_29 rfl
theorem r13_30 : RR 13 30 (a0 :: .int x :: l) st μ Q ↔ RR 13 31 (a0 :: .int x :: l) (.int x :: st) μ Q := rw_go p13_30 rfl
theorem r13_31 : RR 13 31 L (.int x1 :: .ref q :: st) (S, (0, 0, sl), M, D, F) Q ↔ (am_cat st ≤ 8 ∧ 2 = 2 ∧ S[q]? = some (.inl 2)) ∧ RR 116 0 [.ref q, .int x1] [] (S, (0, 0, sl), M, D, F) (fun rv μ' => μ'.1.length = S.length ∧ RR 13 34 L (rv.toList ++ st) (μ'.1, (0, 0, sl), μ'.2.2) Q) := rw_call p13_31 rfl (ac116 q x1)
theorem r13_34 : RR 13 34 (a0 :: a1 :: .ref q :: l) st μ Q ↔ RR 13 35 (a0 :: a1 :: .ref q :: l) (.ref q :: st) μ Q := rw_go p13_34 rfl
theorem r13_35 : RR 13 35 (a0 :: .int x :: l) st μ Q ↔ RR 13 36 (a0 :: .int x :: l) (.int x :: st) μ Q := rw_go p13_35 rfl
theorem r13_36 : RR 13 36 L (.int x1 :: .ref q :: st) (S, (0, 0, sl), M, D, F) Q ↔ (am_cat st ≤ 8 ∧ 2 = 2 ∧ S[q]? = some (.inl 2)) ∧ RR 117 0 [.ref q, .int x1] [] (S, (0, 0, sl), M, D, F) (fun rv μ' => μ'.1.length = S.length ∧ RR 13 39 L (rv.toList ++ st) (μ'.1, (0, 0, sl), μ'.2.2) Q) := rw_call p13_36 rfl (ac117 q x1)
theorem r13_39 : RR 13 39 L (.int x2 :: .int x1 :: .ref q :: st) (S, (0, 0, sl), M, D, F) Q ↔ (am_cat st ≤ 8 ∧ 3 = 3 ∧ S[q]? = some (.inl 1)) ∧ RR 103 0 [.ref q, .int x1, .int x2, .long 0, .long 0, .long 0, .long 0] [] (S, (0, 0, sl), M, D, F) (fun rv μ' => μ'.1.length = S.length ∧ RR 13 42 L (rv.toList ++ st) (μ'.1, (0, 0, sl), μ'.2.2) Q) := rw_call p13_39 rfl (ac103 q x1 x2)
theorem r13_42 : RR 13 42 L [.double d] μ Q ↔ Q (some (.double d)) μ := rw_r p13_42 rfl
/-! ReleaseDesk.report -/
theorem r14_0 : RR 14 0 (.ref q :: l) st μ Q ↔ RR 14 1 (.ref q :: l) (.ref q :: st) μ Q := rw_go p14_0 rfl
theorem r14_1 : RR 14 1 L (.ref q :: st) (S, (0, 0, sl), M, D, F) Q ↔ (am_cat st ≤ 8 ∧ 1 = 1 ∧ S[q]? = some (.inl 8)) ∧ RR 18 0 [.ref q] [] (S, (0, 0, sl), M, D, F) (fun rv μ' => μ'.1.length = S.length ∧ RR 14 4 L (rv.toList ++ st) (μ'.1, (0, 0, sl), μ'.2.2) Q) := rw_call p14_1 rfl (ac18 q)
theorem r14_4 : RR 14 4 (a0 :: a1 :: a2 :: c0 :: l) (.ref q :: st) μ Q ↔ RR 14 5 (a0 :: a1 :: am_nd a2 :: .ref q :: l) st μ Q := rw_astn p14_4 (by show 3 < _; simp only [List.length_cons]; omega)
theorem r14_5 : RR 14 5 (.ref q :: l) st μ Q ↔ RR 14 6 (.ref q :: l) (.ref q :: st) μ Q := rw_go p14_5 rfl
theorem r14_6 : RR 14 6 L (.ref q :: st) (S, b, M, D, F) Q ↔ S[q]? = some (.inl 8) ∧ RR 14 9 L (va_rf (F q 4) :: st) (S, b, M, D, F) Q := rw_c p14_6 rfl
theorem r14_9 : RR 14 9 (a0 :: a1 :: .int x :: l) st μ Q ↔ RR 14 10 (a0 :: a1 :: .int x :: l) (.int x :: st) μ Q := rw_go p14_9 rfl
theorem r14_10 : RR 14 10 L (.int x1 :: .ref q :: st) (S, (0, 0, sl), M, D, F) Q ↔ (am_cat st ≤ 8 ∧ 2 = 2 ∧ S[q]? = some (.inl 5)) ∧ RR 136 0 [.ref q, .int x1] [] (S, (0, 0, sl), M, D, F) (fun rv μ' => μ'.1.length = S.length ∧ RR 14 13 L (rv.toList ++ st) (μ'.1, (0, 0, sl), μ'.2.2) Q) := rw_call p14_10 rfl (ac136 q x1)
theorem r14_13 : RR 14 13 (a0 :: .int x :: l) st μ Q ↔ RR 14 14 (a0 :: .int x :: l) (.int x :: st) μ Q := rw_go p14_13 rfl
theorem r14_14 : RR 14 14 L (.int x :: st) μ Q ↔ if x = 0 then RR 14 37 L st μ Q else RR 14 17 L st μ Q := rw_if p14_14 rfl
theorem r14_17 : RR 14 17 (.ref q :: l) st μ Q ↔ RR 14 18 (.ref q :: l) (.ref q :: st) μ Q := rw_go p14_17 rfl
theorem r14_18 : RR 14 18 L (.ref q :: st) (S, b, M, D, F) Q ↔ S[q]? = some (.inl 8) ∧ RR 14 21 L (va_rf (F q 4) :: st) (S, b, M, D, F) Q := rw_c p14_18 rfl
theorem r14_21 : RR 14 21 (a0 :: a1 :: a2 :: .ref q :: l) st μ Q ↔ RR 14 22 (a0 :: a1 :: a2 :: .ref q :: l) (.ref q :: st) μ Q := rw_go p14_21 rfl
theorem r14_22 : RR 14 22 (.ref q :: l) st μ Q ↔ RR 14 23 (.ref q :: l) (.ref q :: st) μ Q := rw_go p14_22 rfl
theorem r14_23 : RR 14 23 L (.ref q :: st) (S, b, M, D, F) Q ↔ S[q]? = some (.inl 8) ∧ RR 14 26 L (va_rf (F q 3) :: st) (S, b, M, D, F) Q := rw_c p14_23 rfl
theorem r14_26 : RR 14 26 (.ref q :: l) st μ Q ↔ RR 14 27 (.ref q :: l) (.ref q :: st) μ Q := rw_go p14_26 rfl
theorem r14_27 : RR 14 27 (a0 :: a1 :: a2 :: .ref q :: l) st μ Q ↔ RR 14 28 (a0 :: a1 :: a2 :: .ref q :: l) (.ref q :: st) μ Q := rw_go p14_27 rfl
theorem r14_28 : RR 14 28 L (.ref q1 :: .ref q :: st) (S, (0, 0, sl), M, D, F) Q ↔ (am_cat st ≤ 8 ∧ 2 = 2 ∧ S[q]? = some (.inl 8)) ∧ RR 19 0 [.ref q, .ref q1, .long 0] [] (S, (0, 0, sl), M, D, F) (fun rv μ' => μ'.1.length = S.length ∧ RR 14 31 L (rv.toList ++ st) (μ'.1, (0, 0, sl), μ'.2.2) Q) := rw_call p14_28 rfl (ac19 q q1)
theorem r14_31 : RR 14 31 L (.int x1 :: .ref q2 :: .ref q1 :: .ref q :: st) (S, (0, 0, sl), M, D, F) Q ↔ (am_cat st ≤ 8 ∧ 4 = 4 ∧ S[q]? = some (.inl 5)) ∧ RR 140 0 [.ref q, .ref q1, .ref q2, .int x1, .long 0] [] (S, (0, 0, sl), M, D, F) (fun rv μ' => μ'.1.length = S.length ∧ RR 14 34 L (rv.toList ++ st) (μ'.1, (0, 0, sl), μ'.2.2) Q) := rw_call p14_31 rfl (ac140 q q1 q2 x1)
theorem r14_34 : RR 14 34 L st μ Q ↔ RR 14 49 L st μ Q := rw_go p14_34 rfl
theorem r14_37 : RR 14 37 (.ref q :: l) st μ Q ↔ RR 14 38 (.ref q :: l) (.ref q :: st) μ Q := rw_go p14_37 rfl
theorem r14_38 : RR 14 38 L (.ref q :: st) (S, b, M, D, F) Q ↔ S[q]? = some (.inl 8) ∧ RR 14 41 L (va_rf (F q 4) :: st) (S, b, M, D, F) Q := rw_c p14_38 rfl
theorem r14_41 : RR 14 41 (a0 :: a1 :: a2 :: .ref q :: l) st μ Q ↔ RR 14 42 (a0 :: a1 :: a2 :: .ref q :: l) (.ref q :: st) μ Q := rw_go p14_41 rfl
theorem r14_42 : RR 14 42 (.ref q :: l) st μ Q ↔ RR 14 43 (.ref q :: l) (.ref q :: st) μ Q := rw_go p14_42 rfl
theorem r14_43 : RR 14 43 L (.ref q :: st) (S, b, M, D, F) Q ↔ S[q]? = some (.inl 8) ∧ RR 14 46 L (va_rf (F q 3) :: st) (S, b, M, D, F) Q := rw_c p14_43 rfl
theorem r14_46 : RR 14 46 L (.ref q2 :: .ref q1 :: .ref q :: st) (S, (0, 0, sl), M, D, F) Q ↔ (am_cat st ≤ 8 ∧ 3 = 3 ∧ S[q]? = some (.inl 5)) ∧ RR 139 0 [.ref q, .ref q1, .ref q2, .long 0] [] (S, (0, 0, sl), M, D, F) (fun rv μ' => μ'.1.length = S.length ∧ RR 14 49 L (rv.toList ++ st) (μ'.1, (0, 0, sl), μ'.2.2) Q) := rw_call p14_46 rfl (ac139 q q1 q2)
theorem r14_49 : RR 14 49 (a0 :: a1 :: .int x :: l) st μ Q ↔ RR 14 50 (a0 :: a1 :: .int x :: l) (.int x :: st) μ Q := rw_go p14_49 rfl
theorem r14_50 : RR 14 50 L st μ Q ↔ RR 14 51 L (.int ((-1)) :: st) μ Q := rw_go p14_50 rfl
theorem r14_51 : RR 14 51 L (.int y :: .int x :: st) μ Q ↔ if ¬ x = y then RR 14 64 L st μ Q else RR 14 54 L st μ Q := rw_if p14_51 rfl
theorem r14_54 : RR 14 54 (.ref q :: l) st μ Q ↔ RR 14 55 (.ref q :: l) (.ref q :: st) μ Q := rw_go p14_54 rfl
theorem r14_55 : RR 14 55 L (.ref q :: st) (S, b, M, D, F) Q ↔ S[q]? = some (.inl 8) ∧ RR 14 58 L (va_rf (F q 4) :: st) (S, b, M, D, F) Q := rw_c p14_55 rfl
theorem r14_58 : RR 14 58 L (.ref q :: st) (S, (0, 0, sl), M, D, F) Q ↔ (am_cat st ≤ 8 ∧ 1 = 1 ∧ S[q]? = some (.inl 5)) ∧ RR 137 0 [.ref q] [] (S, (0, 0, sl), M, D, F) (fun rv μ' => μ'.1.length = S.length ∧ RR 14 61 L (rv.toList ++ st) (μ'.1, (0, 0, sl), μ'.2.2) Q) := rw_call p14_58 rfl (ac137 q)
theorem r14_61 : RR 14 61 L st μ Q ↔ RR 14 71 L st μ Q := rw_go p14_61 rfl
theorem r14_64 : RR 14 64 (.ref q :: l) st μ Q ↔ RR 14 65 (.ref q :: l) (.ref q :: st) μ Q := rw_go p14_64 rfl
theorem r14_65 : RR 14 65 L (.ref q :: st) (S, b, M, D, F) Q ↔ S[q]? = some (.inl 8) ∧ RR 14 68 L (va_rf (F q 4) :: st) (S, b, M, D, F) Q := rw_c p14_65 rfl
theorem r14_68 : RR 14 68 L (.ref q :: st) (S, (0, 0, sl), M, D, F) Q ↔ (am_cat st ≤ 8 ∧ 1 = 1 ∧ S[q]? = some (.inl 5)) ∧ RR 138 0 [.ref q] [] (S, (0, 0, sl), M, D, F) (fun rv μ' => μ'.1.length = S.length ∧ RR 14 71 L (rv.toList ++ st) (μ'.1, (0, 0, sl), μ'.2.2) Q) := rw_call p14_68 rfl (ac138 q)
theorem r14_71 : RR 14 71 L [.int x] μ Q ↔ Q (some (.int x)) μ := rw_r p14_71 rfl
/-! ReleaseDesk.advice -/
theorem r15_0 : RR 15 0 (.ref q :: l) st μ Q ↔ RR 15 1 (.ref q :: l) (.ref q :: st) μ Q := rw_go p15_0 rfl
theorem r15_1 : RR 15 1 (.ref q :: l) st μ Q ↔ RR 15 2 (.ref q :: l) (.ref q :: st) μ Q := rw_go p15_1 rfl
theorem r15_2 : RR 15 2 L (.ref q :: st) (S, (0, 0, sl), M, D, F) Q ↔ (am_cat st ≤ 8 ∧ 1 = 1 ∧ S[q]? = some (.inl 8)) ∧ RR 18 0 [.ref q] [] (S, (0, 0, sl), M, D, F) (fun rv μ' => μ'.1.length = S.length ∧ RR 15 5 L (rv.toList ++ st) (μ'.1, (0, 0, sl), μ'.2.2) Q) := rw_call p15_2 rfl (ac18 q)
theorem r15_5 : RR 15 5 L (.ref q1 :: .ref q :: st) (S, (0, 0, sl), M, D, F) Q ↔ (am_cat st ≤ 8 ∧ 2 = 2 ∧ S[q]? = some (.inl 8)) ∧ RR 19 0 [.ref q, .ref q1, .long 0] [] (S, (0, 0, sl), M, D, F) (fun rv μ' => μ'.1.length = S.length ∧ RR 15 8 L (rv.toList ++ st) (μ'.1, (0, 0, sl), μ'.2.2) Q) := rw_call p15_5 rfl (ac19 q q1)
theorem r15_8 : RR 15 8 L [.int x] μ Q ↔ Q (some (.int x)) μ := rw_r p15_8 rfl
/-! ReleaseDesk.judge -/
theorem r16_0 : RR 16 0 (a0 :: .int x :: l) st μ Q ↔ RR 16 1 (a0 :: .int x :: l) (.int x :: st) μ Q := rw_go p16_0 rfl
theorem r16_1 : RR 16 1 (a0 :: a1 :: .int x :: l) st μ Q ↔ RR 16 2 (a0 :: a1 :: .int x :: l) (.int x :: st) μ Q := rw_go p16_1 rfl
theorem r16_2 : RR 16 2 (a0 :: a1 :: a2 :: .int x :: l) st μ Q ↔ RR 16 3 (a0 :: a1 :: a2 :: .int x :: l) (.int x :: st) μ Q := rw_go p16_2 rfl
theorem r16_3 : RR 16 3 L (.int x3 :: .int x2 :: .int x1 :: st) (S, (0, 0, sl), M, D, F) Q ↔ (am_cat st ≤ 8 ∧ 3 = 3) ∧ RR 23 0 [.int x1, .int x2, .int x3] [] (S, (0, 0, sl), M, D, F) (fun rv μ' => μ'.1.length = S.length ∧ RR 16 6 L (rv.toList ++ st) (μ'.1, (0, 0, sl), μ'.2.2) Q) := rw_call p16_3 rfl (ac23 x1 x2 x3)
theorem r16_6 : RR 16 6 L (.int x :: st) μ Q ↔ if ¬ x = 0 then RR 16 11 L st μ Q else RR 16 9 L st μ Q := rw_if p16_6 rfl
theorem r16_9 : RR 16 9 L st μ Q ↔ RR 16 10 L (.int ((-1)) :: st) μ Q := rw_go p16_9 rfl
theorem r16_10 : RR 16 10 L [.int x] μ Q ↔ Q (some (.int x)) μ := rw_r p16_10 rfl
theorem r16_11 : RR 16 11 (.ref q :: l) st μ Q ↔ RR 16 12 (.ref q :: l) (.ref q :: st) μ Q := rw_go p16_11 rfl
theorem r16_12 : RR 16 12 L (.ref q :: st) (S, (0, 0, sl), M, D, F) Q ↔ (am_cat st ≤ 8 ∧ 1 = 1 ∧ S[q]? = some (.inl 8)) ∧ RR 18 0 [.ref q] [] (S, (0, 0, sl), M, D, F) (fun rv μ' => μ'.1.length = S.length ∧ RR 16 15 L (rv.toList ++ st) (μ'.1, (0, 0, sl), μ'.2.2) Q) := rw_call p16_12 rfl (ac18 q)
theorem r16_15 : RR 16 15 (a0 :: a1 :: a2 :: a3 :: c0 :: l) (.ref q :: st) μ Q ↔ RR 16 17 (a0 :: a1 :: a2 :: am_nd a3 :: .ref q :: l) st μ Q := rw_ast p16_15 (by show 4 < _; simp only [List.length_cons]; omega)
theorem r16_17 : RR 16 17 (a0 :: .int x :: l) st μ Q ↔ RR 16 18 (a0 :: .int x :: l) (.int x :: st) μ Q := rw_go p16_17 rfl
theorem r16_18 : RR 16 18 (a0 :: a1 :: .int x :: l) st μ Q ↔ RR 16 19 (a0 :: a1 :: .int x :: l) (.int x :: st) μ Q := rw_go p16_18 rfl
theorem r16_19 : RR 16 19 (a0 :: a1 :: a2 :: .int x :: l) st μ Q ↔ RR 16 20 (a0 :: a1 :: a2 :: .int x :: l) (.int x :: st) μ Q := rw_go p16_19 rfl
theorem r16_20 : RR 16 20 L (.int x3 :: .int x2 :: .int x1 :: st) (S, (0, 0, sl), M, D, F) Q ↔ (am_cat st ≤ 8 ∧ 3 = 3) ∧ RR 25 0 [.int x1, .int x2, .int x3] [] (S, (0, 0, sl), M, D, F) (fun rv μ' => μ'.1.length = S.length ∧ RR 16 23 L (rv.toList ++ st) (μ'.1, (0, 0, sl), μ'.2.2) Q) := rw_call p16_20 rfl (ac25 x1 x2 x3)
theorem r16_23 : RR 16 23 (a0 :: a1 :: a2 :: a3 :: a4 :: c0 :: l) (.int x :: st) μ Q ↔ RR 16 25 (a0 :: a1 :: a2 :: a3 :: am_nd a4 :: .int x :: l) st μ Q := rw_ist p16_23 (by show 5 < _; simp only [List.length_cons]; omega)
theorem r16_25 : RR 16 25 (a0 :: a1 :: a2 :: a3 :: a4 :: .int x :: l) st μ Q ↔ RR 16 27 (a0 :: a1 :: a2 :: a3 :: a4 :: .int x :: l) (.int x :: st) μ Q := rw_go p16_25 rfl
theorem r16_27 : RR 16 27 (.ref q :: l) st μ Q ↔ RR 16 28 (.ref q :: l) (.ref q :: st) μ Q := rw_go p16_27 rfl
theorem r16_28 : RR 16 28 (a0 :: a1 :: a2 :: a3 :: .ref q :: l) st μ Q ↔ RR 16 30 (a0 :: a1 :: a2 :: a3 :: .ref q :: l) (.ref q :: st) μ Q := rw_go p16_28 rfl
theorem r16_30 : RR 16 30 L (.ref q1 :: .ref q :: st) (S, (0, 0, sl), M, D, F) Q ↔ (am_cat st ≤ 8 ∧ 2 = 2 ∧ S[q]? = some (.inl 8)) ∧ RR 19 0 [.ref q, .ref q1, .long 0] [] (S, (0, 0, sl), M, D, F) (fun rv μ' => μ'.1.length = S.length ∧ RR 16 33 L (rv.toList ++ st) (μ'.1, (0, 0, sl), μ'.2.2) Q) := rw_call p16_30 rfl (ac19 q q1)
theorem r16_33 : RR 16 33 L (.int y :: .int x :: st) μ Q ↔ if x < y then RR 16 40 L st μ Q else RR 16 36 L st μ Q := rw_if p16_33 rfl
theorem r16_36 : RR 16 36 L st μ Q ↔ RR 16 37 L (.int (nI 0) :: st) μ Q := rw_go p16_36 rfl
theorem r16_37 : RR 16 37 L st μ Q ↔ RR 16 54 L st μ Q := rw_go p16_37 rfl
theorem r16_40 : RR 16 40 (a0 :: a1 :: a2 :: a3 :: a4 :: .int x :: l) st μ Q ↔ RR 16 42 (a0 :: a1 :: a2 :: a3 :: a4 :: .int x :: l) (.int x :: st) μ Q := rw_go p16_40 rfl
theorem r16_42 : RR 16 42 (.ref q :: l) st μ Q ↔ RR 16 43 (.ref q :: l) (.ref q :: st) μ Q := rw_go p16_42 rfl
theorem r16_43 : RR 16 43 L (.ref q :: st) (S, b, M, D, F) Q ↔ S[q]? = some (.inl 8) ∧ RR 16 46 L (.int (M q 5) :: st) (S, b, M, D, F) Q := rw_c p16_43 rfl
theorem r16_46 : RR 16 46 L (.int y :: .int x :: st) μ Q ↔ if x ≤ y then RR 16 53 L st μ Q else RR 16 49 L st μ Q := rw_if p16_46 rfl
theorem r16_49 : RR 16 49 L st μ Q ↔ RR 16 50 L (.int (nI 1) :: st) μ Q := rw_go p16_49 rfl
theorem r16_50 : RR 16 50 L st μ Q ↔ RR 16 54 L st μ Q := rw_go p16_50 rfl
theorem r16_53 : RR 16 53 L st μ Q ↔ RR 16 54 L (.int (nI 2) :: st) μ Q := rw_go p16_53 rfl
theorem r16_54 : RR 16 54 (a0 :: a1 :: a2 :: a3 :: a4 :: a5 :: c0 :: l) (.int x :: st) μ Q ↔ RR 16 56 (a0 :: a1 :: a2 :: a3 :: a4 :: am_nd a5 :: .int x :: l) st μ Q := rw_ist p16_54 (by show 6 < _; simp only [List.length_cons]; omega)
theorem r16_56 : RR 16 56 (a0 :: a1 :: a2 :: a3 :: .ref q :: l) st μ Q ↔ RR 16 58 (a0 :: a1 :: a2 :: a3 :: .ref q :: l) (.ref q :: st) μ Q := rw_go p16_56 rfl
theorem r16_58 : RR 16 58 L st μ Q ↔ RR 16 59 L (.int (nI 3) :: st) μ Q := rw_go p16_58 rfl
theorem r16_59 : RR 16 59 L (.int x1 :: .ref q :: st) (S, (0, 0, sl), M, D, F) Q ↔ (am_cat st ≤ 8 ∧ 2 = 2 ∧ S[q]? = some (.inl 2)) ∧ RR 118 0 [.ref q, .int x1, .long 0, .long 0] [] (S, (0, 0, sl), M, D, F) (fun rv μ' => μ'.1.length = S.length ∧ RR 16 62 L (rv.toList ++ st) (μ'.1, (0, 0, sl), μ'.2.2) Q) := rw_call p16_59 rfl (ac118 q x1)
theorem r16_62 : RR 16 62 L (.int x :: st) μ Q ↔ if x ≤ 0 then RR 16 68 L st μ Q else RR 16 65 L st μ Q := rw_if p16_62 rfl
theorem r16_65 : RR 16 65 (a0 :: a1 :: a2 :: a3 :: a4 :: a5 :: .int x :: l) st μ Q ↔ RR 16 68 (a0 :: a1 :: a2 :: a3 :: a4 :: am_nd a5 :: .int (x + nI 4) :: l) st μ Q := rw_go p16_65 rfl
theorem r16_68 : RR 16 68 (a0 :: a1 :: a2 :: a3 :: .ref q :: l) st μ Q ↔ RR 16 70 (a0 :: a1 :: a2 :: a3 :: .ref q :: l) (.ref q :: st) μ Q := rw_go p16_68 rfl
theorem r16_70 : RR 16 70 L st μ Q ↔ RR 16 71 L (.int (nI 2) :: st) μ Q := rw_go p16_70 rfl
theorem r16_71 : RR 16 71 L (.int x1 :: .ref q :: st) (S, (0, 0, sl), M, D, F) Q ↔ (am_cat st ≤ 8 ∧ 2 = 2 ∧ S[q]? = some (.inl 2)) ∧ RR 118 0 [.ref q, .int x1, .long 0, .long 0] [] (S, (0, 0, sl), M, D, F) (fun rv μ' => μ'.1.length = S.length ∧ RR 16 74 L (rv.toList ++ st) (μ'.1, (0, 0, sl), μ'.2.2) Q) := rw_call p16_71 rfl (ac118 q x1)
theorem r16_74 : RR 16 74 L (.int x :: st) μ Q ↔ if x ≤ 0 then RR 16 80 L st μ Q else RR 16 77 L st μ Q := rw_if p16_74 rfl
theorem r16_77 : RR 16 77 (a0 :: a1 :: a2 :: a3 :: a4 :: a5 :: .int x :: l) st μ Q ↔ RR 16 80 (a0 :: a1 :: a2 :: a3 :: a4 :: am_nd a5 :: .int (x + nI 8) :: l) st μ Q := rw_go p16_77 rfl
theorem r16_80 : RR 16 80 (a0 :: a1 :: a2 :: a3 :: a4 :: a5 :: .int x :: l) st μ Q ↔ RR 16 82 (a0 :: a1 :: a2 :: a3 :: a4 :: a5 :: .int x :: l) (.int x :: st) μ Q := rw_go p16_80 rfl
theorem r16_82 : RR 16 82 L [.int x] μ Q ↔ Q (some (.int x)) μ := rw_r p16_82 rfl
/-! ReleaseDesk.fits -/
theorem r17_0 : RR 17 0 (a0 :: .int x :: l) st μ Q ↔ RR 17 1 (a0 :: .int x :: l) (.int x :: st) μ Q := rw_go p17_0 rfl
theorem r17_1 : RR 17 1 (a0 :: a1 :: .int x :: l) st μ Q ↔ RR 17 2 (a0 :: a1 :: .int x :: l) (.int x :: st) μ Q := rw_go p17_1 rfl
theorem r17_2 : RR 17 2 L (.int x2 :: .int x1 :: st) (S, (0, 0, sl), M, D, F) Q ↔ (am_cat st ≤ 8 ∧ 2 = 2) ∧ RR 22 0 [.int x1, .int x2] [] (S, (0, 0, sl), M, D, F) (fun rv μ' => μ'.1.length = S.length ∧ RR 17 5 L (rv.toList ++ st) (μ'.1, (0, 0, sl), μ'.2.2) Q) := rw_call p17_2 rfl (ac22 x1 x2)
theorem r17_5 : RR 17 5 L (.int x :: st) μ Q ↔ if x = 0 then RR 17 19 L st μ Q else RR 17 8 L st μ Q := rw_if p17_5 rfl
theorem r17_8 : RR 17 8 (a0 :: a1 :: a2 :: a3 :: .int x :: l) st μ Q ↔ RR 17 10 (a0 :: a1 :: a2 :: a3 :: .int x :: l) (.int x :: st) μ Q := rw_go p17_8 rfl
theorem r17_10 : RR 17 10 L st μ Q ↔ RR 17 11 L (.int ((-1)) :: st) μ Q := rw_go p17_10 rfl
theorem r17_11 : RR 17 11 L st μ Q ↔ RR 17 13 L (.int (nI 11) :: st) μ Q := rw_go p17_11 rfl
theorem r17_13 : RR 17 13 L (.int x3 :: .int x2 :: .int x1 :: st) (S, (0, 0, sl), M, D, F) Q ↔ (am_cat st ≤ 8 ∧ 3 = 3) ∧ RR 24 0 [.int x1, .int x2, .int x3] [] (S, (0, 0, sl), M, D, F) (fun rv μ' => μ'.1.length = S.length ∧ RR 17 16 L (rv.toList ++ st) (μ'.1, (0, 0, sl), μ'.2.2) Q) := rw_call p17_13 rfl (ac24 x1 x2 x3)
theorem r17_16 : RR 17 16 L (.int x :: st) μ Q ↔ if ¬ x = 0 then RR 17 21 L st μ Q else RR 17 19 L st μ Q := rw_if p17_16 rfl
theorem r17_19 : RR 17 19 L st μ Q ↔ RR 17 20 L (.int ((-1)) :: st) μ Q := rw_go p17_19 rfl
theorem r17_20 : RR 17 20 L [.int x] μ Q ↔ Q (some (.int x)) μ := rw_r p17_20 rfl
theorem r17_21 : RR 17 21 (.ref q :: l) st μ Q ↔ RR 17 22 (.ref q :: l) (.ref q :: st) μ Q := rw_go p17_21 rfl
theorem r17_22 : RR 17 22 L (.ref q :: st) (S, b, M, D, F) Q ↔ S[q]? = some (.inl 8) ∧ RR 17 25 L (va_rf (F q 0) :: st) (S, b, M, D, F) Q := rw_c p17_22 rfl
theorem r17_25 : RR 17 25 (a0 :: .int x :: l) st μ Q ↔ RR 17 26 (a0 :: .int x :: l) (.int x :: st) μ Q := rw_go p17_25 rfl
theorem r17_26 : RR 17 26 L (.int x1 :: .ref q :: st) (S, (0, 0, sl), M, D, F) Q ↔ (am_cat st ≤ 8 ∧ 2 = 2 ∧ S[q]? = some (.inl 1)) ∧ RR 95 0 [.ref q, .int x1] [] (S, (0, 0, sl), M, D, F) (fun rv μ' => μ'.1.length = S.length ∧ RR 17 29 L (rv.toList ++ st) (μ'.1, (0, 0, sl), μ'.2.2) Q) := rw_call p17_26 rfl (ac95 q x1)
theorem r17_29 : RR 17 29 (a0 :: a1 :: a2 :: a3 :: a4 :: c0 :: l) (.ref q :: st) μ Q ↔ RR 17 31 (a0 :: a1 :: a2 :: a3 :: am_nd a4 :: .ref q :: l) st μ Q := rw_ast p17_29 (by show 5 < _; simp only [List.length_cons]; omega)
theorem r17_31 : RR 17 31 (a0 :: a1 :: a2 :: a3 :: a4 :: .ref q :: l) st μ Q ↔ RR 17 33 (a0 :: a1 :: a2 :: a3 :: a4 :: .ref q :: l) (.ref q :: st) μ Q := rw_go p17_31 rfl
theorem r17_33 : RR 17 33 (a0 :: a1 :: .int x :: l) st μ Q ↔ RR 17 34 (a0 :: a1 :: .int x :: l) (.int x :: st) μ Q := rw_go p17_33 rfl
theorem r17_34 : RR 17 34 L (.int x1 :: .ref q :: st) (S, (0, 0, sl), M, D, F) Q ↔ (am_cat st ≤ 8 ∧ 2 = 2 ∧ S[q]? = some (.inl 0)) ∧ RR 82 0 [.ref q, .int x1] [] (S, (0, 0, sl), M, D, F) (fun rv μ' => μ'.1.length = S.length ∧ RR 17 37 L (rv.toList ++ st) (μ'.1, (0, 0, sl), μ'.2.2) Q) := rw_call p17_34 rfl (ac82 q x1)
theorem r17_37 : RR 17 37 L (.int x :: st) μ Q ↔ if ¬ x = 0 then RR 17 43 L st μ Q else RR 17 40 L st μ Q := rw_if p17_37 rfl
theorem r17_40 : RR 17 40 L st μ Q ↔ RR 17 42 L (.int ((-2)) :: st) μ Q := rw_go p17_40 rfl
theorem r17_42 : RR 17 42 L [.int x] μ Q ↔ Q (some (.int x)) μ := rw_r p17_42 rfl
theorem r17_43 : RR 17 43 (.ref q :: l) st μ Q ↔ RR 17 44 (.ref q :: l) (.ref q :: st) μ Q := rw_go p17_43 rfl
theorem r17_44 : RR 17 44 L (.ref q :: st) (S, b, M, D, F) Q ↔ S[q]? = some (.inl 8) ∧ RR 17 47 L (va_rf (F q 3) :: st) (S, b, M, D, F) Q := rw_c p17_44 rfl
theorem r17_47 : RR 17 47 (a0 :: a1 :: a2 :: a3 :: a4 :: .ref q :: l) st μ Q ↔ RR 17 49 (a0 :: a1 :: a2 :: a3 :: a4 :: .ref q :: l) (.ref q :: st) μ Q := rw_go p17_47 rfl
theorem r17_49 : RR 17 49 (a0 :: a1 :: .int x :: l) st μ Q ↔ RR 17 50 (a0 :: a1 :: .int x :: l) (.int x :: st) μ Q := rw_go p17_49 rfl
theorem r17_50 : RR 17 50 L (.int x1 :: .ref q :: st) (S, (0, 0, sl), M, D, F) Q ↔ (am_cat st ≤ 8 ∧ 2 = 2 ∧ S[q]? = some (.inl 0)) ∧ RR 84 0 [.ref q, .int x1] [] (S, (0, 0, sl), M, D, F) (fun rv μ' => μ'.1.length = S.length ∧ RR 17 53 L (rv.toList ++ st) (μ'.1, (0, 0, sl), μ'.2.2) Q) := rw_call p17_50 rfl (ac84 q x1)
theorem r17_53 : RR 17 53 (a0 :: a1 :: .int x :: l) st μ Q ↔ RR 17 54 (a0 :: a1 :: .int x :: l) (.int x :: st) μ Q := rw_go p17_53 rfl
theorem r17_54 : RR 17 54 (a0 :: a1 :: a2 :: a3 :: .int x :: l) st μ Q ↔ RR 17 56 (a0 :: a1 :: a2 :: a3 :: .int x :: l) (.int x :: st) μ Q := rw_go p17_54 rfl
theorem r17_56 : RR 17 56 L st μ Q ↔ RR 17 57 L (.int ((-1)) :: st) μ Q := rw_go p17_56 rfl
theorem r17_57 : RR 17 57 L (.int y :: .int x :: st) μ Q ↔ if ¬ x = y then RR 17 64 L st μ Q else RR 17 60 L st μ Q := rw_if p17_57 rfl
theorem r17_60 : RR 17 60 L st μ Q ↔ RR 17 61 L (.int ((-1)) :: st) μ Q := rw_go p17_60 rfl
theorem r17_61 : RR 17 61 L st μ Q ↔ RR 17 70 L st μ Q := rw_go p17_61 rfl
theorem r17_64 : RR 17 64 (a0 :: a1 :: a2 :: .int x :: l) st μ Q ↔ RR 17 65 (a0 :: a1 :: a2 :: .int x :: l) (.int x :: st) μ Q := rw_go p17_64 rfl
theorem r17_65 : RR 17 65 (a0 :: a1 :: a2 :: a3 :: .int x :: l) st μ Q ↔ RR 17 67 (a0 :: a1 :: a2 :: a3 :: .int x :: l) (.int x :: st) μ Q := rw_go p17_65 rfl
theorem r17_67 : RR 17 67 L (.int x2 :: .int x1 :: st) (S, (0, 0, sl), M, D, F) Q ↔ (am_cat st ≤ 8 ∧ 2 = 2) ∧ RR 26 0 [.int x1, .int x2] [] (S, (0, 0, sl), M, D, F) (fun rv μ' => μ'.1.length = S.length ∧ RR 17 70 L (rv.toList ++ st) (μ'.1, (0, 0, sl), μ'.2.2) Q) := rw_call p17_67 rfl (ac26 x1 x2)
theorem r17_70 : RR 17 70 L (.int x3 :: .int x2 :: .int x1 :: .ref q :: st) (S, (0, 0, sl), M, D, F) Q ↔ (am_cat st ≤ 8 ∧ 4 = 4 ∧ S[q]? = some (.inl 3)) ∧ RR 121 0 [.ref q, .int x1, .int x2, .int x3, .long 0, .long 0] [] (S, (0, 0, sl), M, D, F) (fun rv μ' => μ'.1.length = S.length ∧ RR 17 73 L (rv.toList ++ st) (μ'.1, (0, 0, sl), μ'.2.2) Q) := rw_call p17_70 rfl (ac121 q x1 x2 x3)
theorem r17_73 : RR 17 73 (.ref q :: l) st μ Q ↔ RR 17 74 (.ref q :: l) (.ref q :: st) μ Q := rw_go p17_73 rfl
theorem r17_74 : RR 17 74 L (.ref q :: st) (S, b, M, D, F) Q ↔ S[q]? = some (.inl 8) ∧ RR 17 77 L (va_rf (F q 1) :: st) (S, b, M, D, F) Q := rw_c p17_74 rfl
theorem r17_77 : RR 17 77 (.ref q :: l) st μ Q ↔ RR 17 78 (.ref q :: l) (.ref q :: st) μ Q := rw_go p17_77 rfl
theorem r17_78 : RR 17 78 L (.ref q :: st) (S, b, M, D, F) Q ↔ S[q]? = some (.inl 8) ∧ RR 17 81 L (va_rf (F q 3) :: st) (S, b, M, D, F) Q := rw_c p17_78 rfl
theorem r17_81 : RR 17 81 L (.ref q1 :: .ref q :: st) (S, (0, 0, sl), M, D, F) Q ↔ (am_cat st ≤ 8 ∧ 2 = 2 ∧ S[q]? = some (.inl 4)) ∧ RR 134 0 [.ref q, .ref q1, .long 0, .long 0] [] (S, (0, 0, sl), M, D, F) (fun rv μ' => μ'.1.length = S.length ∧ RR 17 84 L (rv.toList ++ st) (μ'.1, (0, 0, sl), μ'.2.2) Q) := rw_call p17_81 rfl (ac134 q q1)
theorem r17_84 : RR 17 84 L (.int x :: st) μ Q ↔ if x = 0 then RR 17 91 L st μ Q else RR 17 87 L st μ Q := rw_if p17_84 rfl
theorem r17_87 : RR 17 87 L st μ Q ↔ RR 17 88 L (.int (nI 1) :: st) μ Q := rw_go p17_87 rfl
theorem r17_88 : RR 17 88 L st μ Q ↔ RR 17 92 L st μ Q := rw_go p17_88 rfl
theorem r17_91 : RR 17 91 L st μ Q ↔ RR 17 92 L (.int (nI 0) :: st) μ Q := rw_go p17_91 rfl
theorem r17_92 : RR 17 92 L [.int x] μ Q ↔ Q (some (.int x)) μ := rw_r p17_92 rfl
/-! ReleaseDesk.changesNow -/
theorem r18_0 : RR 18 0 (.ref q :: l) st μ Q ↔ RR 18 1 (.ref q :: l) (.ref q :: st) μ Q := rw_go p18_0 rfl
theorem r18_1 : RR 18 1 L (.ref q :: st) (S, b, M, D, F) Q ↔ S[q]? = some (.inl 8) ∧ RR 18 4 L (va_rf (F q 0) :: st) (S, b, M, D, F) Q := rw_c p18_1 rfl
theorem r18_4 : RR 18 4 L (.ref q :: st) (S, (0, 0, sl), M, D, F) Q ↔ (am_cat st ≤ 8 ∧ 1 = 1 ∧ S[q]? = some (.inl 1)) ∧ RR 96 0 [.ref q, .long 0, .long 0] [] (S, (0, 0, sl), M, D, F) (fun rv μ' => μ'.1.length = S.length ∧ RR 18 7 L (rv.toList ++ st) (μ'.1, (0, 0, sl), μ'.2.2) Q) := rw_call p18_4 rfl (ac96 q)
theorem r18_7 : RR 18 7 (.ref q :: l) st μ Q ↔ RR 18 8 (.ref q :: l) (.ref q :: st) μ Q := rw_go p18_7 rfl
theorem r18_8 : RR 18 8 L (.ref q :: st) (S, b, M, D, F) Q ↔ S[q]? = some (.inl 8) ∧ RR 18 11 L (va_rf (F q 0) :: st) (S, b, M, D, F) Q := rw_c p18_8 rfl
theorem r18_11 : RR 18 11 L (.ref q :: st) (S, b, M, D, F) Q ↔ S[q]? = some (.inl 1) ∧ RR 18 14 L (va_rf (F q 2) :: st) (S, b, M, D, F) Q := rw_c p18_11 rfl
theorem r18_14 : RR 18 14 (.ref q :: l) st μ Q ↔ RR 18 15 (.ref q :: l) (.ref q :: st) μ Q := rw_go p18_14 rfl
theorem r18_15 : RR 18 15 L (.ref q :: st) (S, b, M, D, F) Q ↔ S[q]? = some (.inl 8) ∧ RR 18 18 L (va_rf (F q 2) :: st) (S, b, M, D, F) Q := rw_c p18_15 rfl
theorem r18_18 : RR 18 18 (.ref q :: l) st μ Q ↔ RR 18 19 (.ref q :: l) (.ref q :: st) μ Q := rw_go p18_18 rfl
theorem r18_19 : RR 18 19 L (.ref q :: st) (S, b, M, D, F) Q ↔ S[q]? = some (.inl 8) ∧ RR 18 22 L (va_rf (F q 3) :: st) (S, b, M, D, F) Q := rw_c p18_19 rfl
theorem r18_22 : RR 18 22 L (.ref q2 :: .ref q1 :: .ref q :: st) (S, (0, 0, sl), M, D, F) Q ↔ (am_cat st ≤ 8 ∧ 3 = 3 ∧ S[q]? = some (.inl 2)) ∧ RR 111 0 [.ref q, .ref q1, .ref q2, .long 0, .long 0, .long 0, .long 0] [] (S, (0, 0, sl), M, D, F) (fun rv μ' => μ'.1.length = S.length ∧ RR 18 25 L (rv.toList ++ st) (μ'.1, (0, 0, sl), μ'.2.2) Q) := rw_call p18_22 rfl (ac111 q q1 q2)
theorem r18_25 : RR 18 25 (.ref q :: l) st μ Q ↔ RR 18 26 (.ref q :: l) (.ref q :: st) μ Q := rw_go p18_25 rfl
theorem r18_26 : RR 18 26 L (.ref q :: st) (S, b, M, D, F) Q ↔ S[q]? = some (.inl 8) ∧ RR 18 29 L (va_rf (F q 0) :: st) (S, b, M, D, F) Q := rw_c p18_26 rfl
theorem r18_29 : RR 18 29 L (.ref q :: st) (S, b, M, D, F) Q ↔ S[q]? = some (.inl 1) ∧ RR 18 32 L (va_rf (F q 2) :: st) (S, b, M, D, F) Q := rw_c p18_29 rfl
theorem r18_32 : RR 18 32 L [.ref q] μ Q ↔ Q (some (.ref q)) μ := rw_r p18_32 rfl
/-! ReleaseDesk.advised -/
theorem r19_0 : RR 19 0 (a0 :: .ref q :: l) st μ Q ↔ RR 19 1 (a0 :: .ref q :: l) (.ref q :: st) μ Q := rw_go p19_0 rfl
theorem r19_1 : RR 19 1 L st μ Q ↔ RR 19 2 L (.int (nI 3) :: st) μ Q := rw_go p19_1 rfl
theorem r19_2 : RR 19 2 L (.int x1 :: .ref q :: st) (S, (0, 0, sl), M, D, F) Q ↔ (am_cat st ≤ 8 ∧ 2 = 2 ∧ S[q]? = some (.inl 2)) ∧ RR 118 0 [.ref q, .int x1, .long 0, .long 0] [] (S, (0, 0, sl), M, D, F) (fun rv μ' => μ'.1.length = S.length ∧ RR 19 5 L (rv.toList ++ st) (μ'.1, (0, 0, sl), μ'.2.2) Q) := rw_call p19_2 rfl (ac118 q x1)
theorem r19_5 : RR 19 5 L (.int x :: st) μ Q ↔ if x ≤ 0 then RR 19 12 L st μ Q else RR 19 8 L st μ Q := rw_if p19_5 rfl
theorem r19_8 : RR 19 8 L st μ Q ↔ RR 19 9 L (.int (nI 1) :: st) μ Q := rw_go p19_8 rfl
theorem r19_9 : RR 19 9 L st μ Q ↔ RR 19 13 L st μ Q := rw_go p19_9 rfl
theorem r19_12 : RR 19 12 L st μ Q ↔ RR 19 13 L (.int (nI 0) :: st) μ Q := rw_go p19_12 rfl
theorem r19_13 : RR 19 13 (a0 :: a1 :: c0 :: l) (.int x :: st) μ Q ↔ RR 19 14 (a0 :: am_nd a1 :: .int x :: l) st μ Q := rw_istn p19_13 (by show 2 < _; simp only [List.length_cons]; omega)
theorem r19_14 : RR 19 14 (a0 :: a1 :: .int x :: l) st μ Q ↔ RR 19 15 (a0 :: a1 :: .int x :: l) (.int x :: st) μ Q := rw_go p19_14 rfl
theorem r19_15 : RR 19 15 L (.int x :: st) μ Q ↔ if x = 0 then RR 19 40 L st μ Q else RR 19 18 L st μ Q := rw_if p19_15 rfl
theorem r19_18 : RR 19 18 (.ref q :: l) st μ Q ↔ RR 19 19 (.ref q :: l) (.ref q :: st) μ Q := rw_go p19_18 rfl
theorem r19_19 : RR 19 19 L (.ref q :: st) (S, b, M, D, F) Q ↔ S[q]? = some (.inl 8) ∧ RR 19 22 L (.int (M q 5) :: st) (S, b, M, D, F) Q := rw_c p19_19 rfl
theorem r19_22 : RR 19 22 L st μ Q ↔ RR 19 24 L (.int (nI 1000000) :: st) μ Q := rw_go p19_22 rfl
theorem r19_24 : RR 19 24 L (.int y :: .int x :: st) μ Q ↔ if x < y then RR 19 40 L st μ Q else RR 19 27 L st μ Q := rw_if p19_24 rfl
theorem r19_27 : RR 19 27 (.ref q :: l) st μ Q ↔ RR 19 28 (.ref q :: l) (.ref q :: st) μ Q := rw_go p19_27 rfl
theorem r19_28 : RR 19 28 L (.ref q :: st) (S, b, M, D, F) Q ↔ S[q]? = some (.inl 8) ∧ RR 19 31 L (.int (M q 5) :: st) (S, b, M, D, F) Q := rw_c p19_28 rfl
theorem r19_31 : RR 19 31 L st μ Q ↔ RR 19 33 L (.int (nI 1000000) :: st) μ Q := rw_go p19_31 rfl
theorem r19_33 : RR 19 33 L (.int y :: .int x :: st) μ Q ↔ ¬ y = 0 ∧ RR 19 34 L (.int (x / y) :: st) μ Q := rw_n p19_33 rfl
theorem r19_34 : RR 19 34 L st μ Q ↔ RR 19 35 L (.int (nI 1) :: st) μ Q := rw_go p19_34 rfl
theorem r19_35 : RR 19 35 L (.int y :: .int x :: st) μ Q ↔ RR 19 36 L (.int (x + y) :: st) μ Q := rw_go p19_35 rfl
theorem r19_36 : RR 19 36 L st μ Q ↔ RR 19 38 L (.int (nI 1000000) :: st) μ Q := rw_go p19_36 rfl
theorem r19_38 : RR 19 38 L (.int y :: .int x :: st) μ Q ↔ RR 19 39 L (.int (x * y) :: st) μ Q := rw_go p19_38 rfl
theorem r19_39 : RR 19 39 L [.int x] μ Q ↔ Q (some (.int x)) μ := rw_r p19_39 rfl
theorem r19_40 : RR 19 40 (a0 :: a1 :: .int x :: l) st μ Q ↔ RR 19 41 (a0 :: a1 :: .int x :: l) (.int x :: st) μ Q := rw_go p19_40 rfl
theorem r19_41 : RR 19 41 L (.int x :: st) μ Q ↔ if ¬ x = 0 then RR 19 51 L st μ Q else RR 19 44 L st μ Q := rw_if p19_41 rfl
theorem r19_44 : RR 19 44 (a0 :: .ref q :: l) st μ Q ↔ RR 19 45 (a0 :: .ref q :: l) (.ref q :: st) μ Q := rw_go p19_44 rfl
theorem r19_45 : RR 19 45 L (.ref q :: st) (S, (0, 0, sl), M, D, F) Q ↔ (am_cat st ≤ 8 ∧ 1 = 1 ∧ S[q]? = some (.inl 2)) ∧ RR 119 0 [.ref q, .long 0] [] (S, (0, 0, sl), M, D, F) (fun rv μ' => μ'.1.length = S.length ∧ RR 19 48 L (rv.toList ++ st) (μ'.1, (0, 0, sl), μ'.2.2) Q) := rw_call p19_45 rfl (ac119 q)
theorem r19_48 : RR 19 48 L (.int x :: st) μ Q ↔ if x = 0 then RR 19 66 L st μ Q else RR 19 51 L st μ Q := rw_if p19_48 rfl
theorem r19_51 : RR 19 51 (.ref q :: l) st μ Q ↔ RR 19 52 (.ref q :: l) (.ref q :: st) μ Q := rw_go p19_51 rfl
theorem r19_52 : RR 19 52 L (.ref q :: st) (S, b, M, D, F) Q ↔ S[q]? = some (.inl 8) ∧ RR 19 55 L (.int (M q 5) :: st) (S, b, M, D, F) Q := rw_c p19_52 rfl
theorem r19_55 : RR 19 55 L st μ Q ↔ RR 19 58 L (.int (nI 1000) :: st) μ Q := rw_go p19_55 rfl
theorem r19_58 : RR 19 58 L (.int y :: .int x :: st) μ Q ↔ ¬ y = 0 ∧ RR 19 59 L (.int (x / y) :: st) μ Q := rw_n p19_58 rfl
theorem r19_59 : RR 19 59 L st μ Q ↔ RR 19 60 L (.int (nI 1) :: st) μ Q := rw_go p19_59 rfl
theorem r19_60 : RR 19 60 L (.int y :: .int x :: st) μ Q ↔ RR 19 61 L (.int (x + y) :: st) μ Q := rw_go p19_60 rfl
theorem r19_61 : RR 19 61 L st μ Q ↔ RR 19 64 L (.int (nI 1000) :: st) μ Q := rw_go p19_61 rfl
theorem r19_64 : RR 19 64 L (.int y :: .int x :: st) μ Q ↔ RR 19 65 L (.int (x * y) :: st) μ Q := rw_go p19_64 rfl
theorem r19_65 : RR 19 65 L [.int x] μ Q ↔ Q (some (.int x)) μ := rw_r p19_65 rfl
theorem r19_66 : RR 19 66 (.ref q :: l) st μ Q ↔ RR 19 67 (.ref q :: l) (.ref q :: st) μ Q := rw_go p19_66 rfl
theorem r19_67 : RR 19 67 L (.ref q :: st) (S, b, M, D, F) Q ↔ S[q]? = some (.inl 8) ∧ RR 19 70 L (.int (M q 5) :: st) (S, b, M, D, F) Q := rw_c p19_67 rfl
theorem r19_70 : RR 19 70 L st μ Q ↔ RR 19 71 L (.int (nI 1) :: st) μ Q := rw_go p19_70 rfl
theorem r19_71 : RR 19 71 L (.int y :: .int x :: st) μ Q ↔ RR 19 72 L (.int (x + y) :: st) μ Q := rw_go p19_71 rfl
theorem r19_72 : RR 19 72 L [.int x] μ Q ↔ Q (some (.int x)) μ := rw_r p19_72 rfl
/-! ReleaseDesk.isTypeThere -/
theorem r20_0 : RR 20 0 (a0 :: .int x :: l) st μ Q ↔ RR 20 1 (a0 :: .int x :: l) (.int x :: st) μ Q := rw_go p20_0 rfl
theorem r20_1 : RR 20 1 (a0 :: a1 :: .int x :: l) st μ Q ↔ RR 20 2 (a0 :: a1 :: .int x :: l) (.int x :: st) μ Q := rw_go p20_1 rfl
theorem r20_2 : RR 20 2 L (.int x2 :: .int x1 :: st) (S, (0, 0, sl), M, D, F) Q ↔ (am_cat st ≤ 8 ∧ 2 = 2) ∧ RR 22 0 [.int x1, .int x2] [] (S, (0, 0, sl), M, D, F) (fun rv μ' => μ'.1.length = S.length ∧ RR 20 5 L (rv.toList ++ st) (μ'.1, (0, 0, sl), μ'.2.2) Q) := rw_call p20_2 rfl (ac22 x1 x2)
theorem r20_5 : RR 20 5 L (.int x :: st) μ Q ↔ if x = 0 then RR 20 27 L st μ Q else RR 20 8 L st μ Q := rw_if p20_5 rfl
theorem r20_8 : RR 20 8 (.ref q :: l) st μ Q ↔ RR 20 9 (.ref q :: l) (.ref q :: st) μ Q := rw_go p20_8 rfl
theorem r20_9 : RR 20 9 L (.ref q :: st) (S, b, M, D, F) Q ↔ S[q]? = some (.inl 8) ∧ RR 20 12 L (va_rf (F q 0) :: st) (S, b, M, D, F) Q := rw_c p20_9 rfl
theorem r20_12 : RR 20 12 (a0 :: .int x :: l) st μ Q ↔ RR 20 13 (a0 :: .int x :: l) (.int x :: st) μ Q := rw_go p20_12 rfl
theorem r20_13 : RR 20 13 L (.int x1 :: .ref q :: st) (S, (0, 0, sl), M, D, F) Q ↔ (am_cat st ≤ 8 ∧ 2 = 2 ∧ S[q]? = some (.inl 1)) ∧ RR 95 0 [.ref q, .int x1] [] (S, (0, 0, sl), M, D, F) (fun rv μ' => μ'.1.length = S.length ∧ RR 20 16 L (rv.toList ++ st) (μ'.1, (0, 0, sl), μ'.2.2) Q) := rw_call p20_13 rfl (ac95 q x1)
theorem r20_16 : RR 20 16 (a0 :: a1 :: .int x :: l) st μ Q ↔ RR 20 17 (a0 :: a1 :: .int x :: l) (.int x :: st) μ Q := rw_go p20_16 rfl
theorem r20_17 : RR 20 17 L (.int x1 :: .ref q :: st) (S, (0, 0, sl), M, D, F) Q ↔ (am_cat st ≤ 8 ∧ 2 = 2 ∧ S[q]? = some (.inl 0)) ∧ RR 82 0 [.ref q, .int x1] [] (S, (0, 0, sl), M, D, F) (fun rv μ' => μ'.1.length = S.length ∧ RR 20 20 L (rv.toList ++ st) (μ'.1, (0, 0, sl), μ'.2.2) Q) := rw_call p20_17 rfl (ac82 q x1)
theorem r20_20 : RR 20 20 L (.int x :: st) μ Q ↔ if x = 0 then RR 20 27 L st μ Q else RR 20 23 L st μ Q := rw_if p20_20 rfl
theorem r20_23 : RR 20 23 L st μ Q ↔ RR 20 24 L (.int (nI 1) :: st) μ Q := rw_go p20_23 rfl
theorem r20_24 : RR 20 24 L st μ Q ↔ RR 20 28 L st μ Q := rw_go p20_24 rfl
theorem r20_27 : RR 20 27 L st μ Q ↔ RR 20 28 L (.int (nI 0) :: st) μ Q := rw_go p20_27 rfl
theorem r20_28 : RR 20 28 L [.int x] μ Q ↔ (x = 0 ∨ x = 1) ∧ Q (some (.int x)) μ := rw_rc p20_28 rfl
/-! ReleaseDesk.isMemberThere -/
theorem r21_0 : RR 21 0 (.ref q :: l) st μ Q ↔ RR 21 1 (.ref q :: l) (.ref q :: st) μ Q := rw_go p21_0 rfl
theorem r21_1 : RR 21 1 (a0 :: .int x :: l) st μ Q ↔ RR 21 2 (a0 :: .int x :: l) (.int x :: st) μ Q := rw_go p21_1 rfl
theorem r21_2 : RR 21 2 (a0 :: a1 :: .int x :: l) st μ Q ↔ RR 21 3 (a0 :: a1 :: .int x :: l) (.int x :: st) μ Q := rw_go p21_2 rfl
theorem r21_3 : RR 21 3 L (.int x2 :: .int x1 :: .ref q :: st) (S, (0, 0, sl), M, D, F) Q ↔ (am_cat st ≤ 8 ∧ 3 = 3 ∧ S[q]? = some (.inl 8)) ∧ RR 20 0 [.ref q, .int x1, .int x2] [] (S, (0, 0, sl), M, D, F) (fun rv μ' => μ'.1.length = S.length ∧ RR 21 6 L (rv.toList ++ st) (μ'.1, (0, 0, sl), μ'.2.2) Q) := rw_call p21_3 rfl (ac20 q x1 x2)
theorem r21_6 : RR 21 6 L (.int x :: st) μ Q ↔ if x = 0 then RR 21 45 L st μ Q else RR 21 9 L st μ Q := rw_if p21_6 rfl
theorem r21_9 : RR 21 9 (a0 :: a1 :: a2 :: a3 :: .int x :: l) st μ Q ↔ RR 21 11 (a0 :: a1 :: a2 :: a3 :: .int x :: l) (.int x :: st) μ Q := rw_go p21_9 rfl
theorem r21_11 : RR 21 11 L st μ Q ↔ RR 21 12 L (.int (nI 0) :: st) μ Q := rw_go p21_11 rfl
theorem r21_12 : RR 21 12 L st μ Q ↔ RR 21 14 L (.int (nI 11) :: st) μ Q := rw_go p21_12 rfl
theorem r21_14 : RR 21 14 L (.int x3 :: .int x2 :: .int x1 :: st) (S, (0, 0, sl), M, D, F) Q ↔ (am_cat st ≤ 8 ∧ 3 = 3) ∧ RR 24 0 [.int x1, .int x2, .int x3] [] (S, (0, 0, sl), M, D, F) (fun rv μ' => μ'.1.length = S.length ∧ RR 21 17 L (rv.toList ++ st) (μ'.1, (0, 0, sl), μ'.2.2) Q) := rw_call p21_14 rfl (ac24 x1 x2 x3)
theorem r21_17 : RR 21 17 L (.int x :: st) μ Q ↔ if x = 0 then RR 21 45 L st μ Q else RR 21 20 L st μ Q := rw_if p21_17 rfl
theorem r21_20 : RR 21 20 (.ref q :: l) st μ Q ↔ RR 21 21 (.ref q :: l) (.ref q :: st) μ Q := rw_go p21_20 rfl
theorem r21_21 : RR 21 21 L (.ref q :: st) (S, b, M, D, F) Q ↔ S[q]? = some (.inl 8) ∧ RR 21 24 L (va_rf (F q 0) :: st) (S, b, M, D, F) Q := rw_c p21_21 rfl
theorem r21_24 : RR 21 24 (a0 :: .int x :: l) st μ Q ↔ RR 21 25 (a0 :: .int x :: l) (.int x :: st) μ Q := rw_go p21_24 rfl
theorem r21_25 : RR 21 25 L (.int x1 :: .ref q :: st) (S, (0, 0, sl), M, D, F) Q ↔ (am_cat st ≤ 8 ∧ 2 = 2 ∧ S[q]? = some (.inl 1)) ∧ RR 95 0 [.ref q, .int x1] [] (S, (0, 0, sl), M, D, F) (fun rv μ' => μ'.1.length = S.length ∧ RR 21 28 L (rv.toList ++ st) (μ'.1, (0, 0, sl), μ'.2.2) Q) := rw_call p21_25 rfl (ac95 q x1)
theorem r21_28 : RR 21 28 (a0 :: a1 :: .int x :: l) st μ Q ↔ RR 21 29 (a0 :: a1 :: .int x :: l) (.int x :: st) μ Q := rw_go p21_28 rfl
theorem r21_29 : RR 21 29 (a0 :: a1 :: a2 :: .int x :: l) st μ Q ↔ RR 21 30 (a0 :: a1 :: a2 :: .int x :: l) (.int x :: st) μ Q := rw_go p21_29 rfl
theorem r21_30 : RR 21 30 (a0 :: a1 :: a2 :: a3 :: .int x :: l) st μ Q ↔ RR 21 32 (a0 :: a1 :: a2 :: a3 :: .int x :: l) (.int x :: st) μ Q := rw_go p21_30 rfl
theorem r21_32 : RR 21 32 L (.int x2 :: .int x1 :: st) (S, (0, 0, sl), M, D, F) Q ↔ (am_cat st ≤ 8 ∧ 2 = 2) ∧ RR 26 0 [.int x1, .int x2] [] (S, (0, 0, sl), M, D, F) (fun rv μ' => μ'.1.length = S.length ∧ RR 21 35 L (rv.toList ++ st) (μ'.1, (0, 0, sl), μ'.2.2) Q) := rw_call p21_32 rfl (ac26 x1 x2)
theorem r21_35 : RR 21 35 L (.int x2 :: .int x1 :: .ref q :: st) (S, (0, 0, sl), M, D, F) Q ↔ (am_cat st ≤ 8 ∧ 3 = 3 ∧ S[q]? = some (.inl 0)) ∧ RR 88 0 [.ref q, .int x1, .int x2] [] (S, (0, 0, sl), M, D, F) (fun rv μ' => μ'.1.length = S.length ∧ RR 21 38 L (rv.toList ++ st) (μ'.1, (0, 0, sl), μ'.2.2) Q) := rw_call p21_35 rfl (ac88 q x1 x2)
theorem r21_38 : RR 21 38 L (.int x :: st) μ Q ↔ if x = 0 then RR 21 45 L st μ Q else RR 21 41 L st μ Q := rw_if p21_38 rfl
theorem r21_41 : RR 21 41 L st μ Q ↔ RR 21 42 L (.int (nI 1) :: st) μ Q := rw_go p21_41 rfl
theorem r21_42 : RR 21 42 L st μ Q ↔ RR 21 46 L st μ Q := rw_go p21_42 rfl
theorem r21_45 : RR 21 45 L st μ Q ↔ RR 21 46 L (.int (nI 0) :: st) μ Q := rw_go p21_45 rfl
theorem r21_46 : RR 21 46 L [.int x] μ Q ↔ (x = 0 ∨ x = 1) ∧ Q (some (.int x)) μ := rw_rc p21_46 rfl
/-! ReleaseDesk.isPlace -/
theorem r22_0 : RR 22 0 (.int x :: l) st μ Q ↔ RR 22 1 (.int x :: l) (.int x :: st) μ Q := rw_go p22_0 rfl
theorem r22_1 : RR 22 1 L st μ Q ↔ RR 22 2 L (.int (nI 0) :: st) μ Q := rw_go p22_1 rfl
theorem r22_2 : RR 22 2 L st μ Q ↔ RR 22 3 L (.int (nI 1) :: st) μ Q := rw_go p22_2 rfl
theorem r22_3 : RR 22 3 L (.int x3 :: .int x2 :: .int x1 :: st) (S, (0, 0, sl), M, D, F) Q ↔ (am_cat st ≤ 8 ∧ 3 = 3) ∧ RR 24 0 [.int x1, .int x2, .int x3] [] (S, (0, 0, sl), M, D, F) (fun rv μ' => μ'.1.length = S.length ∧ RR 22 6 L (rv.toList ++ st) (μ'.1, (0, 0, sl), μ'.2.2) Q) := rw_call p22_3 rfl (ac24 x1 x2 x3)
theorem r22_6 : RR 22 6 L (.int x :: st) μ Q ↔ if x = 0 then RR 22 23 L st μ Q else RR 22 9 L st μ Q := rw_if p22_6 rfl
theorem r22_9 : RR 22 9 (a0 :: .int x :: l) st μ Q ↔ RR 22 10 (a0 :: .int x :: l) (.int x :: st) μ Q := rw_go p22_9 rfl
theorem r22_10 : RR 22 10 L st μ Q ↔ RR 22 11 L (.int (nI 0) :: st) μ Q := rw_go p22_10 rfl
theorem r22_11 : RR 22 11 L st μ Q ↔ RR 22 13 L (.int (nI 7) :: st) μ Q := rw_go p22_11 rfl
theorem r22_13 : RR 22 13 L (.int x3 :: .int x2 :: .int x1 :: st) (S, (0, 0, sl), M, D, F) Q ↔ (am_cat st ≤ 8 ∧ 3 = 3) ∧ RR 24 0 [.int x1, .int x2, .int x3] [] (S, (0, 0, sl), M, D, F) (fun rv μ' => μ'.1.length = S.length ∧ RR 22 16 L (rv.toList ++ st) (μ'.1, (0, 0, sl), μ'.2.2) Q) := rw_call p22_13 rfl (ac24 x1 x2 x3)
theorem r22_16 : RR 22 16 L (.int x :: st) μ Q ↔ if x = 0 then RR 22 23 L st μ Q else RR 22 19 L st μ Q := rw_if p22_16 rfl
theorem r22_19 : RR 22 19 L st μ Q ↔ RR 22 20 L (.int (nI 1) :: st) μ Q := rw_go p22_19 rfl
theorem r22_20 : RR 22 20 L st μ Q ↔ RR 22 24 L st μ Q := rw_go p22_20 rfl
theorem r22_23 : RR 22 23 L st μ Q ↔ RR 22 24 L (.int (nI 0) :: st) μ Q := rw_go p22_23 rfl
theorem r22_24 : RR 22 24 L [.int x] μ Q ↔ (x = 0 ∨ x = 1) ∧ Q (some (.int x)) μ := rw_rc p22_24 rfl
/-! ReleaseDesk.isVersion -/
theorem r23_0 : RR 23 0 (.int x :: l) st μ Q ↔ RR 23 1 (.int x :: l) (.int x :: st) μ Q := rw_go p23_0 rfl
theorem r23_1 : RR 23 1 L st μ Q ↔ RR 23 2 L (.int (nI 0) :: st) μ Q := rw_go p23_1 rfl
theorem r23_2 : RR 23 2 L st μ Q ↔ RR 23 5 L (.int (nI 999) :: st) μ Q := rw_go p23_2 rfl
theorem r23_5 : RR 23 5 L (.int x3 :: .int x2 :: .int x1 :: st) (S, (0, 0, sl), M, D, F) Q ↔ (am_cat st ≤ 8 ∧ 3 = 3) ∧ RR 24 0 [.int x1, .int x2, .int x3] [] (S, (0, 0, sl), M, D, F) (fun rv μ' => μ'.1.length = S.length ∧ RR 23 8 L (rv.toList ++ st) (μ'.1, (0, 0, sl), μ'.2.2) Q) := rw_call p23_5 rfl (ac24 x1 x2 x3)
theorem r23_8 : RR 23 8 L (.int x :: st) μ Q ↔ if x = 0 then RR 23 37 L st μ Q else RR 23 11 L st μ Q := rw_if p23_8 rfl
theorem r23_11 : RR 23 11 (a0 :: .int x :: l) st μ Q ↔ RR 23 12 (a0 :: .int x :: l) (.int x :: st) μ Q := rw_go p23_11 rfl
theorem r23_12 : RR 23 12 L st μ Q ↔ RR 23 13 L (.int (nI 0) :: st) μ Q := rw_go p23_12 rfl
theorem r23_13 : RR 23 13 L st μ Q ↔ RR 23 16 L (.int (nI 999) :: st) μ Q := rw_go p23_13 rfl
theorem r23_16 : RR 23 16 L (.int x3 :: .int x2 :: .int x1 :: st) (S, (0, 0, sl), M, D, F) Q ↔ (am_cat st ≤ 8 ∧ 3 = 3) ∧ RR 24 0 [.int x1, .int x2, .int x3] [] (S, (0, 0, sl), M, D, F) (fun rv μ' => μ'.1.length = S.length ∧ RR 23 19 L (rv.toList ++ st) (μ'.1, (0, 0, sl), μ'.2.2) Q) := rw_call p23_16 rfl (ac24 x1 x2 x3)
theorem r23_19 : RR 23 19 L (.int x :: st) μ Q ↔ if x = 0 then RR 23 37 L st μ Q else RR 23 22 L st μ Q := rw_if p23_19 rfl
theorem r23_22 : RR 23 22 (a0 :: a1 :: .int x :: l) st μ Q ↔ RR 23 23 (a0 :: a1 :: .int x :: l) (.int x :: st) μ Q := rw_go p23_22 rfl
theorem r23_23 : RR 23 23 L st μ Q ↔ RR 23 24 L (.int (nI 0) :: st) μ Q := rw_go p23_23 rfl
theorem r23_24 : RR 23 24 L st μ Q ↔ RR 23 27 L (.int (nI 999) :: st) μ Q := rw_go p23_24 rfl
theorem r23_27 : RR 23 27 L (.int x3 :: .int x2 :: .int x1 :: st) (S, (0, 0, sl), M, D, F) Q ↔ (am_cat st ≤ 8 ∧ 3 = 3) ∧ RR 24 0 [.int x1, .int x2, .int x3] [] (S, (0, 0, sl), M, D, F) (fun rv μ' => μ'.1.length = S.length ∧ RR 23 30 L (rv.toList ++ st) (μ'.1, (0, 0, sl), μ'.2.2) Q) := rw_call p23_27 rfl (ac24 x1 x2 x3)
theorem r23_30 : RR 23 30 L (.int x :: st) μ Q ↔ if x = 0 then RR 23 37 L st μ Q else RR 23 33 L st μ Q := rw_if p23_30 rfl
theorem r23_33 : RR 23 33 L st μ Q ↔ RR 23 34 L (.int (nI 1) :: st) μ Q := rw_go p23_33 rfl
theorem r23_34 : RR 23 34 L st μ Q ↔ RR 23 38 L st μ Q := rw_go p23_34 rfl
theorem r23_37 : RR 23 37 L st μ Q ↔ RR 23 38 L (.int (nI 0) :: st) μ Q := rw_go p23_37 rfl
theorem r23_38 : RR 23 38 L [.int x] μ Q ↔ (x = 0 ∨ x = 1) ∧ Q (some (.int x)) μ := rw_rc p23_38 rfl
/-! ReleaseDesk.isWithin -/
theorem r24_0 : RR 24 0 (.int x :: l) st μ Q ↔ RR 24 1 (.int x :: l) (.int x :: st) μ Q := rw_go p24_0 rfl
theorem r24_1 : RR 24 1 (a0 :: .int x :: l) st μ Q ↔ RR 24 2 (a0 :: .int x :: l) (.int x :: st) μ Q := rw_go p24_1 rfl
theorem r24_2 : RR 24 2 L (.int y :: .int x :: st) μ Q ↔ if x < y then RR 24 14 L st μ Q else RR 24 5 L st μ Q := rw_if p24_2 rfl
theorem r24_5 : RR 24 5 (.int x :: l) st μ Q ↔ RR 24 6 (.int x :: l) (.int x :: st) μ Q := rw_go p24_5 rfl
theorem r24_6 : RR 24 6 (a0 :: a1 :: .int x :: l) st μ Q ↔ RR 24 7 (a0 :: a1 :: .int x :: l) (.int x :: st) μ Q := rw_go p24_6 rfl
theorem r24_7 : RR 24 7 L (.int y :: .int x :: st) μ Q ↔ if y < x then RR 24 14 L st μ Q else RR 24 10 L st μ Q := rw_if p24_7 rfl
theorem r24_10 : RR 24 10 L st μ Q ↔ RR 24 11 L (.int (nI 1) :: st) μ Q := rw_go p24_10 rfl
theorem r24_11 : RR 24 11 L st μ Q ↔ RR 24 15 L st μ Q := rw_go p24_11 rfl
theorem r24_14 : RR 24 14 L st μ Q ↔ RR 24 15 L (.int (nI 0) :: st) μ Q := rw_go p24_14 rfl
theorem r24_15 : RR 24 15 L [.int x] μ Q ↔ (x = 0 ∨ x = 1) ∧ Q (some (.int x)) μ := rw_rc p24_15 rfl
/-! ReleaseDesk.joined -/
theorem r25_0 : RR 25 0 (.int x :: l) st μ Q ↔ RR 25 1 (.int x :: l) (.int x :: st) μ Q := rw_go p25_0 rfl
theorem r25_1 : RR 25 1 L st μ Q ↔ RR 25 3 L (.int (nI 1000000) :: st) μ Q := rw_go p25_1 rfl
theorem r25_3 : RR 25 3 L (.int y :: .int x :: st) μ Q ↔ RR 25 4 L (.int (x * y) :: st) μ Q := rw_go p25_3 rfl
theorem r25_4 : RR 25 4 (a0 :: .int x :: l) st μ Q ↔ RR 25 5 (a0 :: .int x :: l) (.int x :: st) μ Q := rw_go p25_4 rfl
theorem r25_5 : RR 25 5 L st μ Q ↔ RR 25 8 L (.int (nI 1000) :: st) μ Q := rw_go p25_5 rfl
theorem r25_8 : RR 25 8 L (.int y :: .int x :: st) μ Q ↔ RR 25 9 L (.int (x * y) :: st) μ Q := rw_go p25_8 rfl
theorem r25_9 : RR 25 9 L (.int y :: .int x :: st) μ Q ↔ RR 25 10 L (.int (x + y) :: st) μ Q := rw_go p25_9 rfl
theorem r25_10 : RR 25 10 (a0 :: a1 :: .int x :: l) st μ Q ↔ RR 25 11 (a0 :: a1 :: .int x :: l) (.int x :: st) μ Q := rw_go p25_10 rfl
theorem r25_11 : RR 25 11 L (.int y :: .int x :: st) μ Q ↔ RR 25 12 L (.int (x + y) :: st) μ Q := rw_go p25_11 rfl
theorem r25_12 : RR 25 12 L [.int x] μ Q ↔ Q (some (.int x)) μ := rw_r p25_12 rfl
/-! ReleaseDesk.slotOf -/
theorem r26_0 : RR 26 0 (.int x :: l) st μ Q ↔ RR 26 1 (.int x :: l) (.int x :: st) μ Q := rw_go p26_0 rfl
theorem r26_1 : RR 26 1 L (.int x :: st) μ Q ↔ if x = 0 then RR 26 11 L st μ Q else RR 26 4 L st μ Q := rw_if p26_1 rfl
theorem r26_4 : RR 26 4 L st μ Q ↔ RR 26 6 L (.int (nI 12) :: st) μ Q := rw_go p26_4 rfl
theorem r26_6 : RR 26 6 (a0 :: .int x :: l) st μ Q ↔ RR 26 7 (a0 :: .int x :: l) (.int x :: st) μ Q := rw_go p26_6 rfl
theorem r26_7 : RR 26 7 L (.int y :: .int x :: st) μ Q ↔ RR 26 8 L (.int (x + y) :: st) μ Q := rw_go p26_7 rfl
theorem r26_8 : RR 26 8 L st μ Q ↔ RR 26 12 L st μ Q := rw_go p26_8 rfl
theorem r26_11 : RR 26 11 (a0 :: .int x :: l) st μ Q ↔ RR 26 12 (a0 :: .int x :: l) (.int x :: st) μ Q := rw_go p26_11 rfl
theorem r26_12 : RR 26 12 L [.int x] μ Q ↔ Q (some (.int x)) μ := rw_r p26_12 rfl
/-! ReleaseDesk.isMethod -/
theorem r27_0 : RR 27 0 (.int x :: l) st μ Q ↔ RR 27 1 (.int x :: l) (.int x :: st) μ Q := rw_go p27_0 rfl
theorem r27_1 : RR 27 1 L st μ Q ↔ RR 27 3 L (.int (nI 12) :: st) μ Q := rw_go p27_1 rfl
theorem r27_3 : RR 27 3 L (.int y :: .int x :: st) μ Q ↔ if x < y then RR 27 10 L st μ Q else RR 27 6 L st μ Q := rw_if p27_3 rfl
theorem r27_6 : RR 27 6 L st μ Q ↔ RR 27 7 L (.int (nI 1) :: st) μ Q := rw_go p27_6 rfl
theorem r27_7 : RR 27 7 L st μ Q ↔ RR 27 11 L st μ Q := rw_go p27_7 rfl
theorem r27_10 : RR 27 10 L st μ Q ↔ RR 27 11 L (.int (nI 0) :: st) μ Q := rw_go p27_10 rfl
theorem r27_11 : RR 27 11 L [.int x] μ Q ↔ (x = 0 ∨ x = 1) ∧ Q (some (.int x)) μ := rw_rc p27_11 rfl
/-! ReleaseDesk.signOf -/
theorem r28_0 : RR 28 0 (.int x :: l) st μ Q ↔ RR 28 1 (.int x :: l) (.int x :: st) μ Q := rw_go p28_0 rfl
theorem r28_1 : RR 28 1 L st μ Q ↔ RR 28 3 L (.int (nI 12) :: st) μ Q := rw_go p28_1 rfl
theorem r28_3 : RR 28 3 L (.int y :: .int x :: st) μ Q ↔ ¬ y = 0 ∧ RR 28 4 L (.int (x - x / y * y) :: st) μ Q := rw_n p28_3 rfl
theorem r28_4 : RR 28 4 L [.int x] μ Q ↔ Q (some (.int x)) μ := rw_r p28_4 rfl
/-! ReleaseDesk.ownWeight -/
theorem r29_0 : RR 29 0 (.int x :: l) st μ Q ↔ RR 29 1 (.int x :: l) (.int x :: st) μ Q := rw_go p29_0 rfl
theorem r29_1 : RR 29 1 L (.int x :: st) μ Q ↔ if x.toInt < 1 ∨ 33 < x.toInt then RR 29 154 L st μ Q else RR 29 ([148, 148, 152, 148, 148, 148, 154, 148, 154, 148, 152, 154, 154, 154, 154, 154, 154, 154, 154, 148, 154, 148, 152, 150, 152, 148, 148, 154, 148, 154, 150, 150, 152].getD (x.toInt - 1).toNat 0) L st μ Q := rw_tsw p29_1 rfl
theorem r29_148 : RR 29 148 L st μ Q ↔ RR 29 149 L (.int (nI 3) :: st) μ Q := rw_go p29_148 rfl
theorem r29_149 : RR 29 149 L [.int x] μ Q ↔ Q (some (.int x)) μ := rw_r p29_149 rfl
theorem r29_150 : RR 29 150 L st μ Q ↔ RR 29 151 L (.int (nI 2) :: st) μ Q := rw_go p29_150 rfl
theorem r29_151 : RR 29 151 L [.int x] μ Q ↔ Q (some (.int x)) μ := rw_r p29_151 rfl
theorem r29_152 : RR 29 152 L st μ Q ↔ RR 29 153 L (.int (nI 1) :: st) μ Q := rw_go p29_152 rfl
theorem r29_153 : RR 29 153 L [.int x] μ Q ↔ Q (some (.int x)) μ := rw_r p29_153 rfl
theorem r29_154 : RR 29 154 L st μ Q ↔ RR 29 155 L (.int (nI 0) :: st) μ Q := rw_go p29_154 rfl
theorem r29_155 : RR 29 155 L [.int x] μ Q ↔ Q (some (.int x)) μ := rw_r p29_155 rfl
/-! ReleaseDesk.isAddition -/
theorem r30_0 : RR 30 0 (.int x :: l) st μ Q ↔ RR 30 1 (.int x :: l) (.int x :: st) μ Q := rw_go p30_0 rfl
theorem r30_1 : RR 30 1 L (.int x :: st) μ Q ↔ 0 ≤ ((1 : Nat) : Int) + Op.lookupswitch.offset [(3, 59), (11, 59), (23, 59), (24, 59), (25, 59), (33, 59)] 61 x.toInt ∧ RR 30 (((1 : Nat) : Int) + Op.lookupswitch.offset [(3, 59), (11, 59), (23, 59), (24, 59), (25, 59), (33, 59)] 61 x.toInt).toNat L st μ Q := rw_lsw p30_1
theorem r30_60 : RR 30 60 L st μ Q ↔ RR 30 61 L (.int (nI 1) :: st) μ Q := rw_go p30_60 rfl
theorem r30_61 : RR 30 61 L [.int x] μ Q ↔ (x = 0 ∨ x = 1) ∧ Q (some (.int x)) μ := rw_rc p30_61 rfl
theorem r30_62 : RR 30 62 L st μ Q ↔ RR 30 63 L (.int (nI 0) :: st) μ Q := rw_go p30_62 rfl
theorem r30_63 : RR 30 63 L [.int x] μ Q ↔ (x = 0 ∨ x = 1) ∧ Q (some (.int x)) μ := rw_rc p30_63 rfl
/-! ReleaseDesk$Build.init -/
theorem r75_0 : RR 75 0 (.ref q :: l) st μ Q ↔ RR 75 1 (.ref q :: l) (.ref q :: st) μ Q := rw_go p75_0 rfl
theorem r75_1 : RR 75 1 L (.ref q :: st) μ Q ↔ am_cat st ≤ 8 ∧ RR 75 4 L st μ Q := rw_c p75_1 rfl
theorem r75_4 : RR 75 4 (.ref q :: l) st μ Q ↔ RR 75 5 (.ref q :: l) (.ref q :: st) μ Q := rw_go p75_4 rfl
theorem r75_5 : RR 75 5 L st μ Q ↔ RR 75 7 L (.int (nI 8) :: st) μ Q := rw_go p75_5 rfl
theorem r75_9 : RR 75 9 L (.ref q2 :: .ref q :: st) (S, b, M, D, F) Q ↔ S[q]? = some (.inl 0) ∧ RR 75 12 L st (S, b, M, D, am_up F q 1 (some q2)) Q := rw_c p75_9 rfl
theorem r75_12 : RR 75 12 (.ref q :: l) st μ Q ↔ RR 75 13 (.ref q :: l) (.ref q :: st) μ Q := rw_go p75_12 rfl
theorem r75_13 : RR 75 13 L st μ Q ↔ RR 75 15 L (.int (nI 8) :: st) μ Q := rw_go p75_13 rfl
theorem r75_17 : RR 75 17 L (.ref q2 :: .ref q :: st) (S, b, M, D, F) Q ↔ S[q]? = some (.inl 0) ∧ RR 75 20 L st (S, b, M, D, am_up F q 2 (some q2)) Q := rw_c p75_17 rfl
theorem r75_20 : RR 75 20 (.ref q :: l) st μ Q ↔ RR 75 21 (.ref q :: l) (.ref q :: st) μ Q := rw_go p75_20 rfl
theorem r75_21 : RR 75 21 L st μ Q ↔ RR 75 23 L (.int (nI 8) :: st) μ Q := rw_go p75_21 rfl
theorem r75_25 : RR 75 25 L (.ref q2 :: .ref q :: st) (S, b, M, D, F) Q ↔ S[q]? = some (.inl 0) ∧ RR 75 28 L st (S, b, M, D, am_up F q 3 (some q2)) Q := rw_c p75_25 rfl
theorem r75_28 : RR 75 28 (.ref q :: l) st μ Q ↔ RR 75 29 (.ref q :: l) (.ref q :: st) μ Q := rw_go p75_28 rfl
theorem r75_29 : RR 75 29 L st μ Q ↔ RR 75 32 L (.int (nI 192) :: st) μ Q := rw_go p75_29 rfl
theorem r75_34 : RR 75 34 L (.ref q2 :: .ref q :: st) (S, b, M, D, F) Q ↔ S[q]? = some (.inl 0) ∧ RR 75 37 L st (S, b, M, D, am_up F q 4 (some q2)) Q := rw_c p75_34 rfl
theorem r75_37 : RR 75 37 (.ref q :: l) st μ Q ↔ RR 75 38 (.ref q :: l) (.ref q :: st) μ Q := rw_go p75_37 rfl
theorem r75_38 : RR 75 38 L st μ Q ↔ RR 75 40 L (.int (nI 8) :: st) μ Q := rw_go p75_38 rfl
theorem r75_42 : RR 75 42 L (.ref q2 :: .ref q :: st) (S, b, M, D, F) Q ↔ S[q]? = some (.inl 0) ∧ RR 75 45 L st (S, b, M, D, am_up F q 5 (some q2)) Q := rw_c p75_42 rfl
theorem r75_45 : RR 75 45 (.ref q :: l) st μ Q ↔ RR 75 46 (.ref q :: l) (.ref q :: st) μ Q := rw_go p75_45 rfl
theorem r75_46 : RR 75 46 L st μ Q ↔ RR 75 48 L (.int (nI 96) :: st) μ Q := rw_go p75_46 rfl
theorem r75_50 : RR 75 50 L (.ref q2 :: .ref q :: st) (S, b, M, D, F) Q ↔ S[q]? = some (.inl 0) ∧ RR 75 53 L st (S, b, M, D, am_up F q 6 (some q2)) Q := rw_c p75_50 rfl
theorem r75_53 : RR 75 53 (.ref q :: l) st μ Q ↔ RR 75 54 (.ref q :: l) (.ref q :: st) μ Q := rw_go p75_53 rfl
theorem r75_54 : RR 75 54 L (.ref q :: st) (S, b, M, D, F) Q ↔ S[q]? = some (.inl 0) ∧ RR 75 57 L (va_rf (F q 4) :: st) (S, b, M, D, F) Q := rw_c p75_54 rfl
theorem r75_57 : RR 75 57 L st μ Q ↔ RR 75 58 L (.int ((-1)) :: st) μ Q := rw_go p75_57 rfl
theorem r75_58 : RR 75 58 L (.int x1 :: .ref q1 :: st) (S, (0, 0, sl), M, D, F) Q ↔ (am_cat st ≤ 8 ∧ 2 = 2) ∧ RR 156 0 [.ref q1, .int x1, .long 0, .long 0] [] (S, (0, 0, sl), M, D, F) (fun rv μ' => μ'.1.length = S.length ∧ RR 75 61 L (rv.toList ++ st) (μ'.1, (0, 0, sl), μ'.2.2) Q) := rw_call p75_58 rfl (ac156 q1 x1)
theorem r75_61 : RR 75 61 L [] μ Q ↔ Q none μ := rw_r p75_61 rfl
/-! ReleaseDesk$Build.setType -/
theorem r76_0 : RR 76 0 (.ref q :: l) st μ Q ↔ RR 76 1 (.ref q :: l) (.ref q :: st) μ Q := rw_go p76_0 rfl
theorem r76_1 : RR 76 1 L (.ref q :: st) μ Q ↔ RR 76 2 L (.ref q :: .ref q :: st) μ Q := rw_go p76_1 rfl
theorem r76_1i : RR 76 1 L (.int x :: st) μ Q ↔ RR 76 2 L (.int x :: .int x :: st) μ Q := rw_go p76_1 rfl
theorem r76_2 : RR 76 2 L (.ref q :: st) (S, b, M, D, F) Q ↔ S[q]? = some (.inl 0) ∧ RR 76 5 L (.int (M q 0) :: st) (S, b, M, D, F) Q := rw_c p76_2 rfl
theorem r76_5 : RR 76 5 L st μ Q ↔ RR 76 6 L (.int (nI 1) :: st) μ Q := rw_go p76_5 rfl
theorem r76_6 : RR 76 6 (a0 :: .int x :: l) st μ Q ↔ RR 76 7 (a0 :: .int x :: l) (.int x :: st) μ Q := rw_go p76_6 rfl
theorem r76_7 : RR 76 7 L (.int y :: .int x :: st) μ Q ↔ RR 76 8 L (.int (x <<< (y &&& 31)) :: st) μ Q := rw_go p76_7 rfl
theorem r76_8 : RR 76 8 L (.int y :: .int x :: st) μ Q ↔ RR 76 9 L (.int (x ||| y) :: st) μ Q := rw_go p76_8 rfl
theorem r76_9 : RR 76 9 L (.int x :: .ref q :: st) (S, b, M, D, F) Q ↔ S[q]? = some (.inl 0) ∧ RR 76 12 L st (S, b, am_up M q 0 x, D, F) Q := rw_c p76_9 rfl
theorem r76_12 : RR 76 12 (.ref q :: l) st μ Q ↔ RR 76 13 (.ref q :: l) (.ref q :: st) μ Q := rw_go p76_12 rfl
theorem r76_13 : RR 76 13 L (.ref q :: st) (S, b, M, D, F) Q ↔ S[q]? = some (.inl 0) ∧ RR 76 16 L (va_rf (F q 1) :: st) (S, b, M, D, F) Q := rw_c p76_13 rfl
theorem r76_16 : RR 76 16 (a0 :: .int x :: l) st μ Q ↔ RR 76 17 (a0 :: .int x :: l) (.int x :: st) μ Q := rw_go p76_16 rfl
theorem r76_17 : RR 76 17 (a0 :: a1 :: .int x :: l) st μ Q ↔ RR 76 18 (a0 :: a1 :: .int x :: l) (.int x :: st) μ Q := rw_go p76_17 rfl
theorem r76_18 : RR 76 18 L st μ Q ↔ RR 76 20 L (.int (nI 16) :: st) μ Q := rw_go p76_18 rfl
theorem r76_20 : RR 76 20 L (.int y :: .int x :: st) μ Q ↔ ¬ y = 0 ∧ RR 76 21 L (.int (x / y) :: st) μ Q := rw_n p76_20 rfl
theorem r76_21 : RR 76 21 L (.int x :: .int y :: .ref q :: st) (S, b, M, D, F) Q ↔ am_bs S q 0 y ∧ RR 76 22 L st (S, b, am_up M q y.toInt.toNat x, D, F) Q := rw_c p76_21 (am_xst_eq (f := fun x => x))
theorem r76_22 : RR 76 22 (.ref q :: l) st μ Q ↔ RR 76 23 (.ref q :: l) (.ref q :: st) μ Q := rw_go p76_22 rfl
theorem r76_23 : RR 76 23 L (.ref q :: st) (S, b, M, D, F) Q ↔ S[q]? = some (.inl 0) ∧ RR 76 26 L (va_rf (F q 2) :: st) (S, b, M, D, F) Q := rw_c p76_23 rfl
theorem r76_26 : RR 76 26 (a0 :: .int x :: l) st μ Q ↔ RR 76 27 (a0 :: .int x :: l) (.int x :: st) μ Q := rw_go p76_26 rfl
theorem r76_27 : RR 76 27 (a0 :: a1 :: .int x :: l) st μ Q ↔ RR 76 28 (a0 :: a1 :: .int x :: l) (.int x :: st) μ Q := rw_go p76_27 rfl
theorem r76_28 : RR 76 28 L st μ Q ↔ RR 76 30 L (.int (nI 16) :: st) μ Q := rw_go p76_28 rfl
theorem r76_30 : RR 76 30 L (.int y :: .int x :: st) μ Q ↔ ¬ y = 0 ∧ RR 76 31 L (.int (x - x / y * y) :: st) μ Q := rw_n p76_30 rfl
theorem r76_31 : RR 76 31 L (.int x :: .int y :: .ref q :: st) (S, b, M, D, F) Q ↔ am_bs S q 0 y ∧ RR 76 32 L st (S, b, am_up M q y.toInt.toNat x, D, F) Q := rw_c p76_31 (am_xst_eq (f := fun x => x))
theorem r76_32 : RR 76 32 (.ref q :: l) st μ Q ↔ RR 76 33 (.ref q :: l) (.ref q :: st) μ Q := rw_go p76_32 rfl
theorem r76_33 : RR 76 33 L (.ref q :: st) (S, b, M, D, F) Q ↔ S[q]? = some (.inl 0) ∧ RR 76 36 L (va_rf (F q 3) :: st) (S, b, M, D, F) Q := rw_c p76_33 rfl
theorem r76_36 : RR 76 36 (a0 :: .int x :: l) st μ Q ↔ RR 76 37 (a0 :: .int x :: l) (.int x :: st) μ Q := rw_go p76_36 rfl
theorem r76_37 : RR 76 37 (a0 :: a1 :: a2 :: .int x :: l) st μ Q ↔ RR 76 38 (a0 :: a1 :: a2 :: .int x :: l) (.int x :: st) μ Q := rw_go p76_37 rfl
theorem r76_38 : RR 76 38 L (.int x :: st) μ Q ↔ if 0 ≤ x then RR 76 46 L st μ Q else RR 76 41 L st μ Q := rw_if p76_38 rfl
theorem r76_41 : RR 76 41 (a0 :: a1 :: a2 :: a3 :: .int x :: l) st μ Q ↔ RR 76 43 (a0 :: a1 :: a2 :: a3 :: .int x :: l) (.int x :: st) μ Q := rw_go p76_41 rfl
theorem r76_43 : RR 76 43 L st μ Q ↔ RR 76 52 L st μ Q := rw_go p76_43 rfl
theorem r76_46 : RR 76 46 (a0 :: a1 :: a2 :: a3 :: .int x :: l) st μ Q ↔ RR 76 48 (a0 :: a1 :: a2 :: a3 :: .int x :: l) (.int x :: st) μ Q := rw_go p76_46 rfl
theorem r76_48 : RR 76 48 L st μ Q ↔ RR 76 49 L (.int (nI 1) :: st) μ Q := rw_go p76_48 rfl
theorem r76_49 : RR 76 49 (a0 :: a1 :: a2 :: .int x :: l) st μ Q ↔ RR 76 50 (a0 :: a1 :: a2 :: .int x :: l) (.int x :: st) μ Q := rw_go p76_49 rfl
theorem r76_50 : RR 76 50 L (.int y :: .int x :: st) μ Q ↔ RR 76 51 L (.int (x <<< (y &&& 31)) :: st) μ Q := rw_go p76_50 rfl
theorem r76_51 : RR 76 51 L (.int y :: .int x :: st) μ Q ↔ RR 76 52 L (.int (x ||| y) :: st) μ Q := rw_go p76_51 rfl
theorem r76_52 : RR 76 52 L (.int x :: .int y :: .ref q :: st) (S, b, M, D, F) Q ↔ am_bs S q 0 y ∧ RR 76 53 L st (S, b, am_up M q y.toInt.toNat x, D, F) Q := rw_c p76_52 (am_xst_eq (f := fun x => x))
theorem r76_53 : RR 76 53 L [] μ Q ↔ Q none μ := rw_r p76_53 rfl
/-! ReleaseDesk$Build.dropType -/
theorem r77_0 : RR 77 0 (.ref q :: l) st μ Q ↔ RR 77 1 (.ref q :: l) (.ref q :: st) μ Q := rw_go p77_0 rfl
theorem r77_1 : RR 77 1 L (.ref q :: st) μ Q ↔ RR 77 2 L (.ref q :: .ref q :: st) μ Q := rw_go p77_1 rfl
theorem r77_1i : RR 77 1 L (.int x :: st) μ Q ↔ RR 77 2 L (.int x :: .int x :: st) μ Q := rw_go p77_1 rfl
theorem r77_2 : RR 77 2 L (.ref q :: st) (S, b, M, D, F) Q ↔ S[q]? = some (.inl 0) ∧ RR 77 5 L (.int (M q 0) :: st) (S, b, M, D, F) Q := rw_c p77_2 rfl
theorem r77_5 : RR 77 5 L st μ Q ↔ RR 77 6 L (.int (nI 1) :: st) μ Q := rw_go p77_5 rfl
theorem r77_6 : RR 77 6 (a0 :: .int x :: l) st μ Q ↔ RR 77 7 (a0 :: .int x :: l) (.int x :: st) μ Q := rw_go p77_6 rfl
theorem r77_7 : RR 77 7 L (.int y :: .int x :: st) μ Q ↔ RR 77 8 L (.int (x <<< (y &&& 31)) :: st) μ Q := rw_go p77_7 rfl
theorem r77_8 : RR 77 8 L st μ Q ↔ RR 77 9 L (.int ((-1)) :: st) μ Q := rw_go p77_8 rfl
theorem r77_9 : RR 77 9 L (.int y :: .int x :: st) μ Q ↔ RR 77 10 L (.int (x ^^^ y) :: st) μ Q := rw_go p77_9 rfl
theorem r77_10 : RR 77 10 L (.int y :: .int x :: st) μ Q ↔ RR 77 11 L (.int (x &&& y) :: st) μ Q := rw_go p77_10 rfl
theorem r77_11 : RR 77 11 L (.int x :: .ref q :: st) (S, b, M, D, F) Q ↔ S[q]? = some (.inl 0) ∧ RR 77 14 L st (S, b, am_up M q 0 x, D, F) Q := rw_c p77_11 rfl
theorem r77_14 : RR 77 14 L st μ Q ↔ RR 77 15 L (.int (nI 0) :: st) μ Q := rw_go p77_14 rfl
theorem r77_15 : RR 77 15 (a0 :: a1 :: c0 :: l) (.int x :: st) μ Q ↔ RR 77 16 (a0 :: am_nd a1 :: .int x :: l) st μ Q := rw_istn p77_15 (by show 2 < _; simp only [List.length_cons]; omega)
theorem r77_16 : RR 77 16 (a0 :: a1 :: .int x :: l) st μ Q ↔ RR 77 17 (a0 :: a1 :: .int x :: l) (.int x :: st) μ Q := rw_go p77_16 rfl
theorem r77_17 : RR 77 17 L st μ Q ↔ RR 77 19 L (.int (nI 24) :: st) μ Q := rw_go p77_17 rfl
theorem r77_19 : RR 77 19 L (.int y :: .int x :: st) μ Q ↔ if y ≤ x then RR 77 35 L st μ Q else RR 77 22 L st μ Q := rw_if p77_19 rfl
theorem r77_22 : RR 77 22 (.ref q :: l) st μ Q ↔ RR 77 23 (.ref q :: l) (.ref q :: st) μ Q := rw_go p77_22 rfl
theorem r77_23 : RR 77 23 (a0 :: .int x :: l) st μ Q ↔ RR 77 24 (a0 :: .int x :: l) (.int x :: st) μ Q := rw_go p77_23 rfl
theorem r77_24 : RR 77 24 (a0 :: a1 :: .int x :: l) st μ Q ↔ RR 77 25 (a0 :: a1 :: .int x :: l) (.int x :: st) μ Q := rw_go p77_24 rfl
theorem r77_25 : RR 77 25 L st μ Q ↔ RR 77 26 L (.int ((-1)) :: st) μ Q := rw_go p77_25 rfl
theorem r77_26 : RR 77 26 L (.int x3 :: .int x2 :: .int x1 :: .ref q :: st) (S, (0, 0, sl), M, D, F) Q ↔ (am_cat st ≤ 8 ∧ 4 = 4 ∧ S[q]? = some (.inl 0)) ∧ RR 78 0 [.ref q, .int x1, .int x2, .int x3] [] (S, (0, 0, sl), M, D, F) (fun rv μ' => μ'.1.length = S.length ∧ RR 77 29 L (rv.toList ++ st) (μ'.1, (0, 0, sl), μ'.2.2) Q) := rw_call p77_26 rfl (ac78 q x1 x2 x3)
theorem r77_29 : RR 77 29 (a0 :: a1 :: .int x :: l) st μ Q ↔ RR 77 32 (a0 :: am_nd a1 :: .int (x + nI 1) :: l) st μ Q := rw_go p77_29 rfl
theorem r77_32 : RR 77 32 L st μ Q ↔ RR 77 16 L st μ Q := rw_go p77_32 rfl
theorem r77_35 : RR 77 35 L [] μ Q ↔ Q none μ := rw_r p77_35 rfl
/-! ReleaseDesk$Build.setMember -/
theorem r78_0 : RR 78 0 (.ref q :: l) st μ Q ↔ RR 78 1 (.ref q :: l) (.ref q :: st) μ Q := rw_go p78_0 rfl
theorem r78_1 : RR 78 1 L (.ref q :: st) (S, b, M, D, F) Q ↔ S[q]? = some (.inl 0) ∧ RR 78 4 L (va_rf (F q 4) :: st) (S, b, M, D, F) Q := rw_c p78_1 rfl
theorem r78_4 : RR 78 4 (a0 :: .int x :: l) st μ Q ↔ RR 78 5 (a0 :: .int x :: l) (.int x :: st) μ Q := rw_go p78_4 rfl
theorem r78_5 : RR 78 5 L st μ Q ↔ RR 78 7 L (.int (nI 24) :: st) μ Q := rw_go p78_5 rfl
theorem r78_7 : RR 78 7 L (.int y :: .int x :: st) μ Q ↔ RR 78 8 L (.int (x * y) :: st) μ Q := rw_go p78_7 rfl
theorem r78_8 : RR 78 8 (a0 :: a1 :: .int x :: l) st μ Q ↔ RR 78 9 (a0 :: a1 :: .int x :: l) (.int x :: st) μ Q := rw_go p78_8 rfl
theorem r78_9 : RR 78 9 L (.int y :: .int x :: st) μ Q ↔ RR 78 10 L (.int (x + y) :: st) μ Q := rw_go p78_9 rfl
theorem r78_10 : RR 78 10 (a0 :: a1 :: a2 :: .int x :: l) st μ Q ↔ RR 78 11 (a0 :: a1 :: a2 :: .int x :: l) (.int x :: st) μ Q := rw_go p78_10 rfl
theorem r78_11 : RR 78 11 L (.int x :: .int y :: .ref q :: st) (S, b, M, D, F) Q ↔ am_bs S q 0 y ∧ RR 78 12 L st (S, b, am_up M q y.toInt.toNat x, D, F) Q := rw_c p78_11 (am_xst_eq (f := fun x => x))
theorem r78_12 : RR 78 12 (.ref q :: l) st μ Q ↔ RR 78 13 (.ref q :: l) (.ref q :: st) μ Q := rw_go p78_12 rfl
theorem r78_13 : RR 78 13 L (.ref q :: st) (S, b, M, D, F) Q ↔ S[q]? = some (.inl 0) ∧ RR 78 16 L (va_rf (F q 5) :: st) (S, b, M, D, F) Q := rw_c p78_13 rfl
theorem r78_16 : RR 78 16 (a0 :: .int x :: l) st μ Q ↔ RR 78 17 (a0 :: .int x :: l) (.int x :: st) μ Q := rw_go p78_16 rfl
theorem r78_17 : RR 78 17 L (.int x :: .ref q :: st) μ Q ↔ RR 78 18 L (.int x :: .ref q :: .int x :: .ref q :: st) μ Q := rw_go p78_17 rfl
theorem r78_18 : RR 78 18 L (.int x :: .ref q :: st) (S, b, M, D, F) Q ↔ am_bd S b.2.2 q 0 x ∧ RR 78 19 L (.int (M q x.toInt.toNat) :: st) (S, b, M, D, F) Q := rw_c p78_18 am_xld_eq
theorem r78_19 : RR 78 19 L st μ Q ↔ RR 78 20 L (.int (nI 1) :: st) μ Q := rw_go p78_19 rfl
theorem r78_20 : RR 78 20 (a0 :: a1 :: .int x :: l) st μ Q ↔ RR 78 21 (a0 :: a1 :: .int x :: l) (.int x :: st) μ Q := rw_go p78_20 rfl
theorem r78_21 : RR 78 21 L (.int y :: .int x :: st) μ Q ↔ RR 78 22 L (.int (x <<< (y &&& 31)) :: st) μ Q := rw_go p78_21 rfl
theorem r78_22 : RR 78 22 L st μ Q ↔ RR 78 23 L (.int ((-1)) :: st) μ Q := rw_go p78_22 rfl
theorem r78_23 : RR 78 23 L (.int y :: .int x :: st) μ Q ↔ RR 78 24 L (.int (x ^^^ y) :: st) μ Q := rw_go p78_23 rfl
theorem r78_24 : RR 78 24 L (.int y :: .int x :: st) μ Q ↔ RR 78 25 L (.int (x &&& y) :: st) μ Q := rw_go p78_24 rfl
theorem r78_25 : RR 78 25 L (.int x :: .int y :: .ref q :: st) (S, b, M, D, F) Q ↔ am_bs S q 0 y ∧ RR 78 26 L st (S, b, am_up M q y.toInt.toNat x, D, F) Q := rw_c p78_25 (am_xst_eq (f := fun x => x))
theorem r78_26 : RR 78 26 L [] μ Q ↔ Q none μ := rw_r p78_26 rfl
/-! ReleaseDesk$Build.setConstant -/
theorem r79_0 : RR 79 0 (.ref q :: l) st μ Q ↔ RR 79 1 (.ref q :: l) (.ref q :: st) μ Q := rw_go p79_0 rfl
theorem r79_1 : RR 79 1 L (.ref q :: st) (S, b, M, D, F) Q ↔ S[q]? = some (.inl 0) ∧ RR 79 4 L (va_rf (F q 6) :: st) (S, b, M, D, F) Q := rw_c p79_1 rfl
theorem r79_4 : RR 79 4 (a0 :: .int x :: l) st μ Q ↔ RR 79 5 (a0 :: .int x :: l) (.int x :: st) μ Q := rw_go p79_4 rfl
theorem r79_5 : RR 79 5 L st μ Q ↔ RR 79 7 L (.int (nI 12) :: st) μ Q := rw_go p79_5 rfl
theorem r79_7 : RR 79 7 L (.int y :: .int x :: st) μ Q ↔ RR 79 8 L (.int (x * y) :: st) μ Q := rw_go p79_7 rfl
theorem r79_8 : RR 79 8 (a0 :: a1 :: .int x :: l) st μ Q ↔ RR 79 9 (a0 :: a1 :: .int x :: l) (.int x :: st) μ Q := rw_go p79_8 rfl
theorem r79_9 : RR 79 9 L (.int y :: .int x :: st) μ Q ↔ RR 79 10 L (.int (x + y) :: st) μ Q := rw_go p79_9 rfl
theorem r79_10 : RR 79 10 (a0 :: a1 :: a2 :: .double d :: l) st μ Q ↔ RR 79 11 (a0 :: a1 :: a2 :: .double d :: l) (.double d :: st) μ Q := rw_go p79_10 rfl
theorem r79_11 : RR 79 11 L (.double d :: .int y :: .ref q :: st) (S, b, M, D, F) Q ↔ am_bs S q 3 y ∧ RR 79 12 L st (S, b, M, am_up D q y.toInt.toNat d, F) Q := rw_c p79_11 am_dxst_eq
theorem r79_12 : RR 79 12 (.ref q :: l) st μ Q ↔ RR 79 13 (.ref q :: l) (.ref q :: st) μ Q := rw_go p79_12 rfl
theorem r79_13 : RR 79 13 L (.ref q :: st) (S, b, M, D, F) Q ↔ S[q]? = some (.inl 0) ∧ RR 79 16 L (va_rf (F q 5) :: st) (S, b, M, D, F) Q := rw_c p79_13 rfl
theorem r79_16 : RR 79 16 (a0 :: .int x :: l) st μ Q ↔ RR 79 17 (a0 :: .int x :: l) (.int x :: st) μ Q := rw_go p79_16 rfl
theorem r79_17 : RR 79 17 L (.int x :: .ref q :: st) μ Q ↔ RR 79 18 L (.int x :: .ref q :: .int x :: .ref q :: st) μ Q := rw_go p79_17 rfl
theorem r79_18 : RR 79 18 L (.int x :: .ref q :: st) (S, b, M, D, F) Q ↔ am_bd S b.2.2 q 0 x ∧ RR 79 19 L (.int (M q x.toInt.toNat) :: st) (S, b, M, D, F) Q := rw_c p79_18 am_xld_eq
theorem r79_19 : RR 79 19 L st μ Q ↔ RR 79 20 L (.int (nI 1) :: st) μ Q := rw_go p79_19 rfl
theorem r79_20 : RR 79 20 (a0 :: a1 :: .int x :: l) st μ Q ↔ RR 79 21 (a0 :: a1 :: .int x :: l) (.int x :: st) μ Q := rw_go p79_20 rfl
theorem r79_21 : RR 79 21 L (.int y :: .int x :: st) μ Q ↔ RR 79 22 L (.int (x <<< (y &&& 31)) :: st) μ Q := rw_go p79_21 rfl
theorem r79_22 : RR 79 22 L (.int y :: .int x :: st) μ Q ↔ RR 79 23 L (.int (x ||| y) :: st) μ Q := rw_go p79_22 rfl
theorem r79_23 : RR 79 23 L (.int x :: .int y :: .ref q :: st) (S, b, M, D, F) Q ↔ am_bs S q 0 y ∧ RR 79 24 L st (S, b, am_up M q y.toInt.toNat x, D, F) Q := rw_c p79_23 (am_xst_eq (f := fun x => x))
theorem r79_24 : RR 79 24 L [] μ Q ↔ Q none μ := rw_r p79_24 rfl
/-! ReleaseDesk$Build.become -/
theorem r80_0 : RR 80 0 (.ref q :: l) st μ Q ↔ RR 80 1 (.ref q :: l) (.ref q :: st) μ Q := rw_go p80_0 rfl
theorem r80_1 : RR 80 1 (a0 :: .ref q :: l) st μ Q ↔ RR 80 2 (a0 :: .ref q :: l) (.ref q :: st) μ Q := rw_go p80_1 rfl
theorem r80_2 : RR 80 2 L (.ref q :: st) (S, b, M, D, F) Q ↔ S[q]? = some (.inl 0) ∧ RR 80 5 L (.int (M q 0) :: st) (S, b, M, D, F) Q := rw_c p80_2 rfl
theorem r80_5 : RR 80 5 L (.int x :: .ref q :: st) (S, b, M, D, F) Q ↔ S[q]? = some (.inl 0) ∧ RR 80 8 L st (S, b, am_up M q 0 x, D, F) Q := rw_c p80_5 rfl
theorem r80_8 : RR 80 8 (a0 :: .ref q :: l) st μ Q ↔ RR 80 9 (a0 :: .ref q :: l) (.ref q :: st) μ Q := rw_go p80_8 rfl
theorem r80_9 : RR 80 9 L (.ref q :: st) (S, b, M, D, F) Q ↔ S[q]? = some (.inl 0) ∧ RR 80 12 L (va_rf (F q 1) :: st) (S, b, M, D, F) Q := rw_c p80_9 rfl
theorem r80_12 : RR 80 12 L st μ Q ↔ RR 80 13 L (.int (nI 0) :: st) μ Q := rw_go p80_12 rfl
theorem r80_13 : RR 80 13 (.ref q :: l) st μ Q ↔ RR 80 14 (.ref q :: l) (.ref q :: st) μ Q := rw_go p80_13 rfl
theorem r80_14 : RR 80 14 L (.ref q :: st) (S, b, M, D, F) Q ↔ S[q]? = some (.inl 0) ∧ RR 80 17 L (va_rf (F q 1) :: st) (S, b, M, D, F) Q := rw_c p80_14 rfl
theorem r80_17 : RR 80 17 L st μ Q ↔ RR 80 18 L (.int (nI 0) :: st) μ Q := rw_go p80_17 rfl
theorem r80_18 : RR 80 18 L st μ Q ↔ RR 80 20 L (.int (nI 8) :: st) μ Q := rw_go p80_18 rfl
theorem r80_23 : RR 80 23 (a0 :: .ref q :: l) st μ Q ↔ RR 80 24 (a0 :: .ref q :: l) (.ref q :: st) μ Q := rw_go p80_23 rfl
theorem r80_24 : RR 80 24 L (.ref q :: st) (S, b, M, D, F) Q ↔ S[q]? = some (.inl 0) ∧ RR 80 27 L (va_rf (F q 2) :: st) (S, b, M, D, F) Q := rw_c p80_24 rfl
theorem r80_27 : RR 80 27 L st μ Q ↔ RR 80 28 L (.int (nI 0) :: st) μ Q := rw_go p80_27 rfl
theorem r80_28 : RR 80 28 (.ref q :: l) st μ Q ↔ RR 80 29 (.ref q :: l) (.ref q :: st) μ Q := rw_go p80_28 rfl
theorem r80_29 : RR 80 29 L (.ref q :: st) (S, b, M, D, F) Q ↔ S[q]? = some (.inl 0) ∧ RR 80 32 L (va_rf (F q 2) :: st) (S, b, M, D, F) Q := rw_c p80_29 rfl
theorem r80_32 : RR 80 32 L st μ Q ↔ RR 80 33 L (.int (nI 0) :: st) μ Q := rw_go p80_32 rfl
theorem r80_33 : RR 80 33 L st μ Q ↔ RR 80 35 L (.int (nI 8) :: st) μ Q := rw_go p80_33 rfl
theorem r80_38 : RR 80 38 (a0 :: .ref q :: l) st μ Q ↔ RR 80 39 (a0 :: .ref q :: l) (.ref q :: st) μ Q := rw_go p80_38 rfl
theorem r80_39 : RR 80 39 L (.ref q :: st) (S, b, M, D, F) Q ↔ S[q]? = some (.inl 0) ∧ RR 80 42 L (va_rf (F q 3) :: st) (S, b, M, D, F) Q := rw_c p80_39 rfl
theorem r80_42 : RR 80 42 L st μ Q ↔ RR 80 43 L (.int (nI 0) :: st) μ Q := rw_go p80_42 rfl
theorem r80_43 : RR 80 43 (.ref q :: l) st μ Q ↔ RR 80 44 (.ref q :: l) (.ref q :: st) μ Q := rw_go p80_43 rfl
theorem r80_44 : RR 80 44 L (.ref q :: st) (S, b, M, D, F) Q ↔ S[q]? = some (.inl 0) ∧ RR 80 47 L (va_rf (F q 3) :: st) (S, b, M, D, F) Q := rw_c p80_44 rfl
theorem r80_47 : RR 80 47 L st μ Q ↔ RR 80 48 L (.int (nI 0) :: st) μ Q := rw_go p80_47 rfl
theorem r80_48 : RR 80 48 L st μ Q ↔ RR 80 50 L (.int (nI 8) :: st) μ Q := rw_go p80_48 rfl
theorem r80_53 : RR 80 53 (a0 :: .ref q :: l) st μ Q ↔ RR 80 54 (a0 :: .ref q :: l) (.ref q :: st) μ Q := rw_go p80_53 rfl
theorem r80_54 : RR 80 54 L (.ref q :: st) (S, b, M, D, F) Q ↔ S[q]? = some (.inl 0) ∧ RR 80 57 L (va_rf (F q 4) :: st) (S, b, M, D, F) Q := rw_c p80_54 rfl
theorem r80_57 : RR 80 57 L st μ Q ↔ RR 80 58 L (.int (nI 0) :: st) μ Q := rw_go p80_57 rfl
theorem r80_58 : RR 80 58 (.ref q :: l) st μ Q ↔ RR 80 59 (.ref q :: l) (.ref q :: st) μ Q := rw_go p80_58 rfl
theorem r80_59 : RR 80 59 L (.ref q :: st) (S, b, M, D, F) Q ↔ S[q]? = some (.inl 0) ∧ RR 80 62 L (va_rf (F q 4) :: st) (S, b, M, D, F) Q := rw_c p80_59 rfl
theorem r80_62 : RR 80 62 L st μ Q ↔ RR 80 63 L (.int (nI 0) :: st) μ Q := rw_go p80_62 rfl
theorem r80_63 : RR 80 63 L st μ Q ↔ RR 80 66 L (.int (nI 192) :: st) μ Q := rw_go p80_63 rfl
theorem r80_69 : RR 80 69 (a0 :: .ref q :: l) st μ Q ↔ RR 80 70 (a0 :: .ref q :: l) (.ref q :: st) μ Q := rw_go p80_69 rfl
theorem r80_70 : RR 80 70 L (.ref q :: st) (S, b, M, D, F) Q ↔ S[q]? = some (.inl 0) ∧ RR 80 73 L (va_rf (F q 5) :: st) (S, b, M, D, F) Q := rw_c p80_70 rfl
theorem r80_73 : RR 80 73 L st μ Q ↔ RR 80 74 L (.int (nI 0) :: st) μ Q := rw_go p80_73 rfl
theorem r80_74 : RR 80 74 (.ref q :: l) st μ Q ↔ RR 80 75 (.ref q :: l) (.ref q :: st) μ Q := rw_go p80_74 rfl
theorem r80_75 : RR 80 75 L (.ref q :: st) (S, b, M, D, F) Q ↔ S[q]? = some (.inl 0) ∧ RR 80 78 L (va_rf (F q 5) :: st) (S, b, M, D, F) Q := rw_c p80_75 rfl
theorem r80_78 : RR 80 78 L st μ Q ↔ RR 80 79 L (.int (nI 0) :: st) μ Q := rw_go p80_78 rfl
theorem r80_79 : RR 80 79 L st μ Q ↔ RR 80 81 L (.int (nI 8) :: st) μ Q := rw_go p80_79 rfl
theorem r80_84 : RR 80 84 (a0 :: .ref q :: l) st μ Q ↔ RR 80 85 (a0 :: .ref q :: l) (.ref q :: st) μ Q := rw_go p80_84 rfl
theorem r80_85 : RR 80 85 L (.ref q :: st) (S, b, M, D, F) Q ↔ S[q]? = some (.inl 0) ∧ RR 80 88 L (va_rf (F q 6) :: st) (S, b, M, D, F) Q := rw_c p80_85 rfl
theorem r80_88 : RR 80 88 L st μ Q ↔ RR 80 89 L (.int (nI 0) :: st) μ Q := rw_go p80_88 rfl
theorem r80_89 : RR 80 89 (.ref q :: l) st μ Q ↔ RR 80 90 (.ref q :: l) (.ref q :: st) μ Q := rw_go p80_89 rfl
theorem r80_90 : RR 80 90 L (.ref q :: st) (S, b, M, D, F) Q ↔ S[q]? = some (.inl 0) ∧ RR 80 93 L (va_rf (F q 6) :: st) (S, b, M, D, F) Q := rw_c p80_90 rfl
theorem r80_93 : RR 80 93 L st μ Q ↔ RR 80 94 L (.int (nI 0) :: st) μ Q := rw_go p80_93 rfl
theorem r80_94 : RR 80 94 L st μ Q ↔ RR 80 96 L (.int (nI 96) :: st) μ Q := rw_go p80_94 rfl
theorem r80_99 : RR 80 99 L [] μ Q ↔ Q none μ := rw_r p80_99 rfl
/-! ReleaseDesk$Build.countMembers -/
theorem r81_0 : RR 81 0 L st μ Q ↔ RR 81 1 L (.int (nI 0) :: st) μ Q := rw_go p81_0 rfl
theorem r81_1 : RR 81 1 (a0 :: c0 :: l) (.int x :: st) μ Q ↔ RR 81 2 (am_nd a0 :: .int x :: l) st μ Q := rw_istn p81_1 (by show 1 < _; simp only [List.length_cons]; omega)
theorem r81_2 : RR 81 2 L st μ Q ↔ RR 81 3 L (.int (nI 0) :: st) μ Q := rw_go p81_2 rfl
theorem r81_3 : RR 81 3 (a0 :: a1 :: c0 :: l) (.int x :: st) μ Q ↔ RR 81 4 (a0 :: am_nd a1 :: .int x :: l) st μ Q := rw_istn p81_3 (by show 2 < _; simp only [List.length_cons]; omega)
theorem r81_4 : RR 81 4 (a0 :: a1 :: .int x :: l) st μ Q ↔ RR 81 5 (a0 :: a1 :: .int x :: l) (.int x :: st) μ Q := rw_go p81_4 rfl
theorem r81_5 : RR 81 5 L st μ Q ↔ RR 81 8 L (.int (nI 192) :: st) μ Q := rw_go p81_5 rfl
theorem r81_8 : RR 81 8 L (.int y :: .int x :: st) μ Q ↔ if y ≤ x then RR 81 30 L st μ Q else RR 81 11 L st μ Q := rw_if p81_8 rfl
theorem r81_11 : RR 81 11 (.ref q :: l) st μ Q ↔ RR 81 12 (.ref q :: l) (.ref q :: st) μ Q := rw_go p81_11 rfl
theorem r81_12 : RR 81 12 L (.ref q :: st) (S, b, M, D, F) Q ↔ S[q]? = some (.inl 0) ∧ RR 81 15 L (va_rf (F q 4) :: st) (S, b, M, D, F) Q := rw_c p81_12 rfl
theorem r81_15 : RR 81 15 (a0 :: a1 :: .int x :: l) st μ Q ↔ RR 81 16 (a0 :: a1 :: .int x :: l) (.int x :: st) μ Q := rw_go p81_15 rfl
theorem r81_16 : RR 81 16 L (.int x :: .ref q :: st) (S, b, M, D, F) Q ↔ am_bd S b.2.2 q 0 x ∧ RR 81 17 L (.int (M q x.toInt.toNat) :: st) (S, b, M, D, F) Q := rw_c p81_16 am_xld_eq
theorem r81_17 : RR 81 17 L st μ Q ↔ RR 81 18 L (.int ((-1)) :: st) μ Q := rw_go p81_17 rfl
theorem r81_18 : RR 81 18 L (.int y :: .int x :: st) μ Q ↔ if x = y then RR 81 24 L st μ Q else RR 81 21 L st μ Q := rw_if p81_18 rfl
theorem r81_21 : RR 81 21 (a0 :: .int x :: l) st μ Q ↔ RR 81 24 (am_nd a0 :: .int (x + nI 1) :: l) st μ Q := rw_go p81_21 rfl
theorem r81_24 : RR 81 24 (a0 :: a1 :: .int x :: l) st μ Q ↔ RR 81 27 (a0 :: am_nd a1 :: .int (x + nI 1) :: l) st μ Q := rw_go p81_24 rfl
theorem r81_27 : RR 81 27 L st μ Q ↔ RR 81 4 L st μ Q := rw_go p81_27 rfl
theorem r81_30 : RR 81 30 (a0 :: .int x :: l) st μ Q ↔ RR 81 31 (a0 :: .int x :: l) (.int x :: st) μ Q := rw_go p81_30 rfl
theorem r81_31 : RR 81 31 L [.int x] μ Q ↔ Q (some (.int x)) μ := rw_r p81_31 rfl
/-! ReleaseDesk$Build.isThere -/
theorem r82_0 : RR 82 0 (.ref q :: l) st μ Q ↔ RR 82 1 (.ref q :: l) (.ref q :: st) μ Q := rw_go p82_0 rfl
theorem r82_1 : RR 82 1 L (.ref q :: st) (S, b, M, D, F) Q ↔ S[q]? = some (.inl 0) ∧ RR 82 4 L (.int (M q 0) :: st) (S, b, M, D, F) Q := rw_c p82_1 rfl
theorem r82_4 : RR 82 4 (a0 :: .int x :: l) st μ Q ↔ RR 82 5 (a0 :: .int x :: l) (.int x :: st) μ Q := rw_go p82_4 rfl
theorem r82_5 : RR 82 5 L (.int y :: .int x :: st) μ Q ↔ RR 82 6 L (.int (x >>> (y &&& 31)) :: st) μ Q := rw_go p82_5 rfl
theorem r82_6 : RR 82 6 L st μ Q ↔ RR 82 7 L (.int (nI 1) :: st) μ Q := rw_go p82_6 rfl
theorem r82_7 : RR 82 7 L (.int y :: .int x :: st) μ Q ↔ RR 82 8 L (.int (x &&& y) :: st) μ Q := rw_go p82_7 rfl
theorem r82_8 : RR 82 8 L st μ Q ↔ RR 82 9 L (.int (nI 1) :: st) μ Q := rw_go p82_8 rfl
theorem r82_9 : RR 82 9 L (.int y :: .int x :: st) μ Q ↔ if ¬ x = y then RR 82 16 L st μ Q else RR 82 12 L st μ Q := rw_if p82_9 rfl
theorem r82_12 : RR 82 12 L st μ Q ↔ RR 82 13 L (.int (nI 1) :: st) μ Q := rw_go p82_12 rfl
theorem r82_13 : RR 82 13 L st μ Q ↔ RR 82 17 L st μ Q := rw_go p82_13 rfl
theorem r82_16 : RR 82 16 L st μ Q ↔ RR 82 17 L (.int (nI 0) :: st) μ Q := rw_go p82_16 rfl
theorem r82_17 : RR 82 17 L [.int x] μ Q ↔ (x = 0 ∨ x = 1) ∧ Q (some (.int x)) μ := rw_rc p82_17 rfl
/-! ReleaseDesk$Build.isSeen -/
theorem r83_0 : RR 83 0 (.ref q :: l) st μ Q ↔ RR 83 1 (.ref q :: l) (.ref q :: st) μ Q := rw_go p83_0 rfl
theorem r83_1 : RR 83 1 L (.ref q :: st) (S, b, M, D, F) Q ↔ S[q]? = some (.inl 0) ∧ RR 83 4 L (.int (M q 0) :: st) (S, b, M, D, F) Q := rw_c p83_1 rfl
theorem r83_4 : RR 83 4 (a0 :: .int x :: l) st μ Q ↔ RR 83 5 (a0 :: .int x :: l) (.int x :: st) μ Q := rw_go p83_4 rfl
theorem r83_5 : RR 83 5 L (.int y :: .int x :: st) μ Q ↔ RR 83 6 L (.int (x >>> (y &&& 31)) :: st) μ Q := rw_go p83_5 rfl
theorem r83_6 : RR 83 6 L st μ Q ↔ RR 83 7 L (.int (nI 1) :: st) μ Q := rw_go p83_6 rfl
theorem r83_7 : RR 83 7 L (.int y :: .int x :: st) μ Q ↔ RR 83 8 L (.int (x &&& y) :: st) μ Q := rw_go p83_7 rfl
theorem r83_8 : RR 83 8 L st μ Q ↔ RR 83 9 L (.int (nI 1) :: st) μ Q := rw_go p83_8 rfl
theorem r83_9 : RR 83 9 L (.int y :: .int x :: st) μ Q ↔ if ¬ x = y then RR 83 27 L st μ Q else RR 83 12 L st μ Q := rw_if p83_9 rfl
theorem r83_12 : RR 83 12 (.ref q :: l) st μ Q ↔ RR 83 13 (.ref q :: l) (.ref q :: st) μ Q := rw_go p83_12 rfl
theorem r83_13 : RR 83 13 L (.ref q :: st) (S, b, M, D, F) Q ↔ S[q]? = some (.inl 0) ∧ RR 83 16 L (va_rf (F q 2) :: st) (S, b, M, D, F) Q := rw_c p83_13 rfl
theorem r83_16 : RR 83 16 (a0 :: .int x :: l) st μ Q ↔ RR 83 17 (a0 :: .int x :: l) (.int x :: st) μ Q := rw_go p83_16 rfl
theorem r83_17 : RR 83 17 L (.int x :: .ref q :: st) (S, b, M, D, F) Q ↔ am_bd S b.2.2 q 0 x ∧ RR 83 18 L (.int (M q x.toInt.toNat) :: st) (S, b, M, D, F) Q := rw_c p83_17 am_xld_eq
theorem r83_18 : RR 83 18 L st μ Q ↔ RR 83 19 L (.int (nI 1) :: st) μ Q := rw_go p83_18 rfl
theorem r83_19 : RR 83 19 L (.int y :: .int x :: st) μ Q ↔ RR 83 20 L (.int (x &&& y) :: st) μ Q := rw_go p83_19 rfl
theorem r83_20 : RR 83 20 L (.int x :: st) μ Q ↔ if x = 0 then RR 83 27 L st μ Q else RR 83 23 L st μ Q := rw_if p83_20 rfl
theorem r83_23 : RR 83 23 L st μ Q ↔ RR 83 24 L (.int (nI 1) :: st) μ Q := rw_go p83_23 rfl
theorem r83_24 : RR 83 24 L st μ Q ↔ RR 83 28 L st μ Q := rw_go p83_24 rfl
theorem r83_27 : RR 83 27 L st μ Q ↔ RR 83 28 L (.int (nI 0) :: st) μ Q := rw_go p83_27 rfl
theorem r83_28 : RR 83 28 L [.int x] μ Q ↔ (x = 0 ∨ x = 1) ∧ Q (some (.int x)) μ := rw_rc p83_28 rfl
/-! ReleaseDesk$Build.packageOf -/
theorem r84_0 : RR 84 0 (.ref q :: l) st μ Q ↔ RR 84 1 (.ref q :: l) (.ref q :: st) μ Q := rw_go p84_0 rfl
theorem r84_1 : RR 84 1 L (.ref q :: st) (S, b, M, D, F) Q ↔ S[q]? = some (.inl 0) ∧ RR 84 4 L (va_rf (F q 1) :: st) (S, b, M, D, F) Q := rw_c p84_1 rfl
theorem r84_4 : RR 84 4 (a0 :: .int x :: l) st μ Q ↔ RR 84 5 (a0 :: .int x :: l) (.int x :: st) μ Q := rw_go p84_4 rfl
theorem r84_5 : RR 84 5 L (.int x :: .ref q :: st) (S, b, M, D, F) Q ↔ am_bd S b.2.2 q 0 x ∧ RR 84 6 L (.int (M q x.toInt.toNat) :: st) (S, b, M, D, F) Q := rw_c p84_5 am_xld_eq
theorem r84_6 : RR 84 6 L [.int x] μ Q ↔ Q (some (.int x)) μ := rw_r p84_6 rfl
/-! ReleaseDesk$Build.flagsOf -/
theorem r85_0 : RR 85 0 (.ref q :: l) st μ Q ↔ RR 85 1 (.ref q :: l) (.ref q :: st) μ Q := rw_go p85_0 rfl
theorem r85_1 : RR 85 1 L (.ref q :: st) (S, b, M, D, F) Q ↔ S[q]? = some (.inl 0) ∧ RR 85 4 L (va_rf (F q 2) :: st) (S, b, M, D, F) Q := rw_c p85_1 rfl
theorem r85_4 : RR 85 4 (a0 :: .int x :: l) st μ Q ↔ RR 85 5 (a0 :: .int x :: l) (.int x :: st) μ Q := rw_go p85_4 rfl
theorem r85_5 : RR 85 5 L (.int x :: .ref q :: st) (S, b, M, D, F) Q ↔ am_bd S b.2.2 q 0 x ∧ RR 85 6 L (.int (M q x.toInt.toNat) :: st) (S, b, M, D, F) Q := rw_c p85_5 am_xld_eq
theorem r85_6 : RR 85 6 L [.int x] μ Q ↔ Q (some (.int x)) μ := rw_r p85_6 rfl
/-! ReleaseDesk$Build.above -/
theorem r86_0 : RR 86 0 L st μ Q ↔ RR 86 1 L (.int (nI 1) :: st) μ Q := rw_go p86_0 rfl
theorem r86_1 : RR 86 1 (a0 :: .int x :: l) st μ Q ↔ RR 86 2 (a0 :: .int x :: l) (.int x :: st) μ Q := rw_go p86_1 rfl
theorem r86_2 : RR 86 2 L (.int y :: .int x :: st) μ Q ↔ RR 86 3 L (.int (x <<< (y &&& 31)) :: st) μ Q := rw_go p86_2 rfl
theorem r86_3 : RR 86 3 (a0 :: a1 :: c0 :: l) (.int x :: st) μ Q ↔ RR 86 4 (a0 :: am_nd a1 :: .int x :: l) st μ Q := rw_istn p86_3 (by show 2 < _; simp only [List.length_cons]; omega)
theorem r86_4 : RR 86 4 L st μ Q ↔ RR 86 5 L (.int (nI 0) :: st) μ Q := rw_go p86_4 rfl
theorem r86_5 : RR 86 5 (a0 :: a1 :: a2 :: c0 :: l) (.int x :: st) μ Q ↔ RR 86 6 (a0 :: a1 :: am_nd a2 :: .int x :: l) st μ Q := rw_istn p86_5 (by show 3 < _; simp only [List.length_cons]; omega)
theorem r86_6 : RR 86 6 (a0 :: a1 :: a2 :: .int x :: l) st μ Q ↔ RR 86 7 (a0 :: a1 :: a2 :: .int x :: l) (.int x :: st) μ Q := rw_go p86_6 rfl
theorem r86_7 : RR 86 7 L st μ Q ↔ RR 86 9 L (.int (nI 8) :: st) μ Q := rw_go p86_7 rfl
theorem r86_9 : RR 86 9 L (.int y :: .int x :: st) μ Q ↔ if y ≤ x then RR 86 59 L st μ Q else RR 86 12 L st μ Q := rw_if p86_9 rfl
theorem r86_12 : RR 86 12 L st μ Q ↔ RR 86 13 L (.int (nI 0) :: st) μ Q := rw_go p86_12 rfl
theorem r86_13 : RR 86 13 (a0 :: a1 :: a2 :: a3 :: c0 :: l) (.int x :: st) μ Q ↔ RR 86 15 (a0 :: a1 :: a2 :: am_nd a3 :: .int x :: l) st μ Q := rw_ist p86_13 (by show 4 < _; simp only [List.length_cons]; omega)
theorem r86_15 : RR 86 15 (a0 :: a1 :: a2 :: a3 :: .int x :: l) st μ Q ↔ RR 86 17 (a0 :: a1 :: a2 :: a3 :: .int x :: l) (.int x :: st) μ Q := rw_go p86_15 rfl
theorem r86_17 : RR 86 17 L st μ Q ↔ RR 86 19 L (.int (nI 8) :: st) μ Q := rw_go p86_17 rfl
theorem r86_19 : RR 86 19 L (.int y :: .int x :: st) μ Q ↔ if y ≤ x then RR 86 53 L st μ Q else RR 86 22 L st μ Q := rw_if p86_19 rfl
theorem r86_22 : RR 86 22 (a0 :: a1 :: .int x :: l) st μ Q ↔ RR 86 23 (a0 :: a1 :: .int x :: l) (.int x :: st) μ Q := rw_go p86_22 rfl
theorem r86_23 : RR 86 23 (a0 :: a1 :: a2 :: a3 :: .int x :: l) st μ Q ↔ RR 86 25 (a0 :: a1 :: a2 :: a3 :: .int x :: l) (.int x :: st) μ Q := rw_go p86_23 rfl
theorem r86_25 : RR 86 25 L (.int y :: .int x :: st) μ Q ↔ RR 86 26 L (.int (x >>> (y &&& 31)) :: st) μ Q := rw_go p86_25 rfl
theorem r86_26 : RR 86 26 L st μ Q ↔ RR 86 27 L (.int (nI 1) :: st) μ Q := rw_go p86_26 rfl
theorem r86_27 : RR 86 27 L (.int y :: .int x :: st) μ Q ↔ RR 86 28 L (.int (x &&& y) :: st) μ Q := rw_go p86_27 rfl
theorem r86_28 : RR 86 28 L st μ Q ↔ RR 86 29 L (.int (nI 1) :: st) μ Q := rw_go p86_28 rfl
theorem r86_29 : RR 86 29 L (.int y :: .int x :: st) μ Q ↔ if ¬ x = y then RR 86 47 L st μ Q else RR 86 32 L st μ Q := rw_if p86_29 rfl
theorem r86_32 : RR 86 32 (a0 :: a1 :: .int x :: l) st μ Q ↔ RR 86 33 (a0 :: a1 :: .int x :: l) (.int x :: st) μ Q := rw_go p86_32 rfl
theorem r86_33 : RR 86 33 (.ref q :: l) st μ Q ↔ RR 86 34 (.ref q :: l) (.ref q :: st) μ Q := rw_go p86_33 rfl
theorem r86_34 : RR 86 34 L (.ref q :: st) (S, b, M, D, F) Q ↔ S[q]? = some (.inl 0) ∧ RR 86 37 L (va_rf (F q 3) :: st) (S, b, M, D, F) Q := rw_c p86_34 rfl
theorem r86_37 : RR 86 37 (a0 :: a1 :: a2 :: a3 :: .int x :: l) st μ Q ↔ RR 86 39 (a0 :: a1 :: a2 :: a3 :: .int x :: l) (.int x :: st) μ Q := rw_go p86_37 rfl
theorem r86_39 : RR 86 39 L (.int x :: .ref q :: st) (S, b, M, D, F) Q ↔ am_bd S b.2.2 q 0 x ∧ RR 86 40 L (.int (M q x.toInt.toNat) :: st) (S, b, M, D, F) Q := rw_c p86_39 am_xld_eq
theorem r86_40 : RR 86 40 (.ref q :: l) st μ Q ↔ RR 86 41 (.ref q :: l) (.ref q :: st) μ Q := rw_go p86_40 rfl
theorem r86_41 : RR 86 41 L (.ref q :: st) (S, b, M, D, F) Q ↔ S[q]? = some (.inl 0) ∧ RR 86 44 L (.int (M q 0) :: st) (S, b, M, D, F) Q := rw_c p86_41 rfl
theorem r86_44 : RR 86 44 L (.int y :: .int x :: st) μ Q ↔ RR 86 45 L (.int (x &&& y) :: st) μ Q := rw_go p86_44 rfl
theorem r86_45 : RR 86 45 L (.int y :: .int x :: st) μ Q ↔ RR 86 46 L (.int (x ||| y) :: st) μ Q := rw_go p86_45 rfl
theorem r86_46 : RR 86 46 (a0 :: a1 :: c0 :: l) (.int x :: st) μ Q ↔ RR 86 47 (a0 :: am_nd a1 :: .int x :: l) st μ Q := rw_istn p86_46 (by show 2 < _; simp only [List.length_cons]; omega)
theorem r86_47 : RR 86 47 (a0 :: a1 :: a2 :: a3 :: .int x :: l) st μ Q ↔ RR 86 50 (a0 :: a1 :: a2 :: am_nd a3 :: .int (x + nI 1) :: l) st μ Q := rw_go p86_47 rfl
theorem r86_50 : RR 86 50 L st μ Q ↔ RR 86 15 L st μ Q := rw_go p86_50 rfl
theorem r86_53 : RR 86 53 (a0 :: a1 :: a2 :: .int x :: l) st μ Q ↔ RR 86 56 (a0 :: a1 :: am_nd a2 :: .int (x + nI 1) :: l) st μ Q := rw_go p86_53 rfl
theorem r86_56 : RR 86 56 L st μ Q ↔ RR 86 6 L st μ Q := rw_go p86_56 rfl
theorem r86_59 : RR 86 59 (a0 :: a1 :: .int x :: l) st μ Q ↔ RR 86 60 (a0 :: a1 :: .int x :: l) (.int x :: st) μ Q := rw_go p86_59 rfl
theorem r86_60 : RR 86 60 L st μ Q ↔ RR 86 61 L (.int (nI 1) :: st) μ Q := rw_go p86_60 rfl
theorem r86_61 : RR 86 61 (a0 :: .int x :: l) st μ Q ↔ RR 86 62 (a0 :: .int x :: l) (.int x :: st) μ Q := rw_go p86_61 rfl
theorem r86_62 : RR 86 62 L (.int y :: .int x :: st) μ Q ↔ RR 86 63 L (.int (x <<< (y &&& 31)) :: st) μ Q := rw_go p86_62 rfl
theorem r86_63 : RR 86 63 L st μ Q ↔ RR 86 64 L (.int ((-1)) :: st) μ Q := rw_go p86_63 rfl
theorem r86_64 : RR 86 64 L (.int y :: .int x :: st) μ Q ↔ RR 86 65 L (.int (x ^^^ y) :: st) μ Q := rw_go p86_64 rfl
theorem r86_65 : RR 86 65 L (.int y :: .int x :: st) μ Q ↔ RR 86 66 L (.int (x &&& y) :: st) μ Q := rw_go p86_65 rfl
theorem r86_66 : RR 86 66 L [.int x] μ Q ↔ Q (some (.int x)) μ := rw_r p86_66 rfl
/-! ReleaseDesk$Build.seenAbove -/
theorem r87_0 : RR 87 0 (.ref q :: l) st μ Q ↔ RR 87 1 (.ref q :: l) (.ref q :: st) μ Q := rw_go p87_0 rfl
theorem r87_1 : RR 87 1 (a0 :: .int x :: l) st μ Q ↔ RR 87 2 (a0 :: .int x :: l) (.int x :: st) μ Q := rw_go p87_1 rfl
theorem r87_2 : RR 87 2 L (.int x1 :: .ref q :: st) (S, (0, 0, sl), M, D, F) Q ↔ (am_cat st ≤ 8 ∧ 2 = 2 ∧ S[q]? = some (.inl 0)) ∧ RR 86 0 [.ref q, .int x1, .long 0, .long 0, .long 0] [] (S, (0, 0, sl), M, D, F) (fun rv μ' => μ'.1.length = S.length ∧ RR 87 5 L (rv.toList ++ st) (μ'.1, (0, 0, sl), μ'.2.2) Q) := rw_call p87_2 rfl (ac86 q x1)
theorem r87_5 : RR 87 5 (a0 :: a1 :: c0 :: l) (.int x :: st) μ Q ↔ RR 87 6 (a0 :: am_nd a1 :: .int x :: l) st μ Q := rw_istn p87_5 (by show 2 < _; simp only [List.length_cons]; omega)
theorem r87_6 : RR 87 6 L st μ Q ↔ RR 87 7 L (.int (nI 0) :: st) μ Q := rw_go p87_6 rfl
theorem r87_7 : RR 87 7 (a0 :: a1 :: a2 :: c0 :: l) (.int x :: st) μ Q ↔ RR 87 8 (a0 :: a1 :: am_nd a2 :: .int x :: l) st μ Q := rw_istn p87_7 (by show 3 < _; simp only [List.length_cons]; omega)
theorem r87_8 : RR 87 8 (a0 :: a1 :: a2 :: .int x :: l) st μ Q ↔ RR 87 9 (a0 :: a1 :: a2 :: .int x :: l) (.int x :: st) μ Q := rw_go p87_8 rfl
theorem r87_9 : RR 87 9 L st μ Q ↔ RR 87 11 L (.int (nI 8) :: st) μ Q := rw_go p87_9 rfl
theorem r87_11 : RR 87 11 L (.int y :: .int x :: st) μ Q ↔ if y ≤ x then RR 87 36 L st μ Q else RR 87 14 L st μ Q := rw_if p87_11 rfl
theorem r87_14 : RR 87 14 (.ref q :: l) st μ Q ↔ RR 87 15 (.ref q :: l) (.ref q :: st) μ Q := rw_go p87_14 rfl
theorem r87_15 : RR 87 15 (a0 :: a1 :: a2 :: .int x :: l) st μ Q ↔ RR 87 16 (a0 :: a1 :: a2 :: .int x :: l) (.int x :: st) μ Q := rw_go p87_15 rfl
theorem r87_16 : RR 87 16 L (.int x1 :: .ref q :: st) (S, (0, 0, sl), M, D, F) Q ↔ (am_cat st ≤ 8 ∧ 2 = 2 ∧ S[q]? = some (.inl 0)) ∧ RR 83 0 [.ref q, .int x1] [] (S, (0, 0, sl), M, D, F) (fun rv μ' => μ'.1.length = S.length ∧ RR 87 19 L (rv.toList ++ st) (μ'.1, (0, 0, sl), μ'.2.2) Q) := rw_call p87_16 rfl (ac83 q x1)
theorem r87_19 : RR 87 19 L (.int x :: st) μ Q ↔ if ¬ x = 0 then RR 87 30 L st μ Q else RR 87 22 L st μ Q := rw_if p87_19 rfl
theorem r87_22 : RR 87 22 (a0 :: a1 :: .int x :: l) st μ Q ↔ RR 87 23 (a0 :: a1 :: .int x :: l) (.int x :: st) μ Q := rw_go p87_22 rfl
theorem r87_23 : RR 87 23 L st μ Q ↔ RR 87 24 L (.int (nI 1) :: st) μ Q := rw_go p87_23 rfl
theorem r87_24 : RR 87 24 (a0 :: a1 :: a2 :: .int x :: l) st μ Q ↔ RR 87 25 (a0 :: a1 :: a2 :: .int x :: l) (.int x :: st) μ Q := rw_go p87_24 rfl
theorem r87_25 : RR 87 25 L (.int y :: .int x :: st) μ Q ↔ RR 87 26 L (.int (x <<< (y &&& 31)) :: st) μ Q := rw_go p87_25 rfl
theorem r87_26 : RR 87 26 L st μ Q ↔ RR 87 27 L (.int ((-1)) :: st) μ Q := rw_go p87_26 rfl
theorem r87_27 : RR 87 27 L (.int y :: .int x :: st) μ Q ↔ RR 87 28 L (.int (x ^^^ y) :: st) μ Q := rw_go p87_27 rfl
theorem r87_28 : RR 87 28 L (.int y :: .int x :: st) μ Q ↔ RR 87 29 L (.int (x &&& y) :: st) μ Q := rw_go p87_28 rfl
theorem r87_29 : RR 87 29 (a0 :: a1 :: c0 :: l) (.int x :: st) μ Q ↔ RR 87 30 (a0 :: am_nd a1 :: .int x :: l) st μ Q := rw_istn p87_29 (by show 2 < _; simp only [List.length_cons]; omega)
theorem r87_30 : RR 87 30 (a0 :: a1 :: a2 :: .int x :: l) st μ Q ↔ RR 87 33 (a0 :: a1 :: am_nd a2 :: .int (x + nI 1) :: l) st μ Q := rw_go p87_30 rfl
theorem r87_33 : RR 87 33 L st μ Q ↔ RR 87 8 L st μ Q := rw_go p87_33 rfl
theorem r87_36 : RR 87 36 (a0 :: a1 :: .int x :: l) st μ Q ↔ RR 87 37 (a0 :: a1 :: .int x :: l) (.int x :: st) μ Q := rw_go p87_36 rfl
theorem r87_37 : RR 87 37 L [.int x] μ Q ↔ Q (some (.int x)) μ := rw_r p87_37 rfl
/-! ReleaseDesk$Build.hasMember -/
theorem r88_0 : RR 88 0 (.ref q :: l) st μ Q ↔ RR 88 1 (.ref q :: l) (.ref q :: st) μ Q := rw_go p88_0 rfl
theorem r88_1 : RR 88 1 L (.ref q :: st) (S, b, M, D, F) Q ↔ S[q]? = some (.inl 0) ∧ RR 88 4 L (va_rf (F q 4) :: st) (S, b, M, D, F) Q := rw_c p88_1 rfl
theorem r88_4 : RR 88 4 (a0 :: .int x :: l) st μ Q ↔ RR 88 5 (a0 :: .int x :: l) (.int x :: st) μ Q := rw_go p88_4 rfl
theorem r88_5 : RR 88 5 L st μ Q ↔ RR 88 7 L (.int (nI 24) :: st) μ Q := rw_go p88_5 rfl
theorem r88_7 : RR 88 7 L (.int y :: .int x :: st) μ Q ↔ RR 88 8 L (.int (x * y) :: st) μ Q := rw_go p88_7 rfl
theorem r88_8 : RR 88 8 (a0 :: a1 :: .int x :: l) st μ Q ↔ RR 88 9 (a0 :: a1 :: .int x :: l) (.int x :: st) μ Q := rw_go p88_8 rfl
theorem r88_9 : RR 88 9 L (.int y :: .int x :: st) μ Q ↔ RR 88 10 L (.int (x + y) :: st) μ Q := rw_go p88_9 rfl
theorem r88_10 : RR 88 10 L (.int x :: .ref q :: st) (S, b, M, D, F) Q ↔ am_bd S b.2.2 q 0 x ∧ RR 88 11 L (.int (M q x.toInt.toNat) :: st) (S, b, M, D, F) Q := rw_c p88_10 am_xld_eq
theorem r88_11 : RR 88 11 L st μ Q ↔ RR 88 12 L (.int ((-1)) :: st) μ Q := rw_go p88_11 rfl
theorem r88_12 : RR 88 12 L (.int y :: .int x :: st) μ Q ↔ if x = y then RR 88 19 L st μ Q else RR 88 15 L st μ Q := rw_if p88_12 rfl
theorem r88_15 : RR 88 15 L st μ Q ↔ RR 88 16 L (.int (nI 1) :: st) μ Q := rw_go p88_15 rfl
theorem r88_16 : RR 88 16 L st μ Q ↔ RR 88 20 L st μ Q := rw_go p88_16 rfl
theorem r88_19 : RR 88 19 L st μ Q ↔ RR 88 20 L (.int (nI 0) :: st) μ Q := rw_go p88_19 rfl
theorem r88_20 : RR 88 20 L [.int x] μ Q ↔ (x = 0 ∨ x = 1) ∧ Q (some (.int x)) μ := rw_rc p88_20 rfl
/-! ReleaseDesk$Build.isMemberSeen -/
theorem r89_0 : RR 89 0 (.ref q :: l) st μ Q ↔ RR 89 1 (.ref q :: l) (.ref q :: st) μ Q := rw_go p89_0 rfl
theorem r89_1 : RR 89 1 (a0 :: .int x :: l) st μ Q ↔ RR 89 2 (a0 :: .int x :: l) (.int x :: st) μ Q := rw_go p89_1 rfl
theorem r89_2 : RR 89 2 L (.int x1 :: .ref q :: st) (S, (0, 0, sl), M, D, F) Q ↔ (am_cat st ≤ 8 ∧ 2 = 2 ∧ S[q]? = some (.inl 0)) ∧ RR 83 0 [.ref q, .int x1] [] (S, (0, 0, sl), M, D, F) (fun rv μ' => μ'.1.length = S.length ∧ RR 89 5 L (rv.toList ++ st) (μ'.1, (0, 0, sl), μ'.2.2) Q) := rw_call p89_2 rfl (ac83 q x1)
theorem r89_5 : RR 89 5 L (.int x :: st) μ Q ↔ if x = 0 then RR 89 17 L st μ Q else RR 89 8 L st μ Q := rw_if p89_5 rfl
theorem r89_8 : RR 89 8 (.ref q :: l) st μ Q ↔ RR 89 9 (.ref q :: l) (.ref q :: st) μ Q := rw_go p89_8 rfl
theorem r89_9 : RR 89 9 (a0 :: .int x :: l) st μ Q ↔ RR 89 10 (a0 :: .int x :: l) (.int x :: st) μ Q := rw_go p89_9 rfl
theorem r89_10 : RR 89 10 (a0 :: a1 :: .int x :: l) st μ Q ↔ RR 89 11 (a0 :: a1 :: .int x :: l) (.int x :: st) μ Q := rw_go p89_10 rfl
theorem r89_11 : RR 89 11 L (.int x2 :: .int x1 :: .ref q :: st) (S, (0, 0, sl), M, D, F) Q ↔ (am_cat st ≤ 8 ∧ 3 = 3 ∧ S[q]? = some (.inl 0)) ∧ RR 88 0 [.ref q, .int x1, .int x2] [] (S, (0, 0, sl), M, D, F) (fun rv μ' => μ'.1.length = S.length ∧ RR 89 14 L (rv.toList ++ st) (μ'.1, (0, 0, sl), μ'.2.2) Q) := rw_call p89_11 rfl (ac88 q x1 x2)
theorem r89_14 : RR 89 14 L (.int x :: st) μ Q ↔ if ¬ x = 0 then RR 89 19 L st μ Q else RR 89 17 L st μ Q := rw_if p89_14 rfl
theorem r89_17 : RR 89 17 L st μ Q ↔ RR 89 18 L (.int (nI 0) :: st) μ Q := rw_go p89_17 rfl
theorem r89_18 : RR 89 18 L [.int x] μ Q ↔ (x = 0 ∨ x = 1) ∧ Q (some (.int x)) μ := rw_rc p89_18 rfl
theorem r89_19 : RR 89 19 (.ref q :: l) st μ Q ↔ RR 89 20 (.ref q :: l) (.ref q :: st) μ Q := rw_go p89_19 rfl
theorem r89_20 : RR 89 20 (a0 :: .int x :: l) st μ Q ↔ RR 89 21 (a0 :: .int x :: l) (.int x :: st) μ Q := rw_go p89_20 rfl
theorem r89_21 : RR 89 21 (a0 :: a1 :: .int x :: l) st μ Q ↔ RR 89 22 (a0 :: a1 :: .int x :: l) (.int x :: st) μ Q := rw_go p89_21 rfl
theorem r89_22 : RR 89 22 L (.int x2 :: .int x1 :: .ref q :: st) (S, (0, 0, sl), M, D, F) Q ↔ (am_cat st ≤ 8 ∧ 3 = 3 ∧ S[q]? = some (.inl 0)) ∧ RR 90 0 [.ref q, .int x1, .int x2] [] (S, (0, 0, sl), M, D, F) (fun rv μ' => μ'.1.length = S.length ∧ RR 89 25 L (rv.toList ++ st) (μ'.1, (0, 0, sl), μ'.2.2) Q) := rw_call p89_22 rfl (ac90 q x1 x2)
theorem r89_25 : RR 89 25 (a0 :: a1 :: a2 :: c0 :: l) (.int x :: st) μ Q ↔ RR 89 26 (a0 :: a1 :: am_nd a2 :: .int x :: l) st μ Q := rw_istn p89_25 (by show 3 < _; simp only [List.length_cons]; omega)
theorem r89_26 : RR 89 26 (a0 :: a1 :: a2 :: .int x :: l) st μ Q ↔ RR 89 27 (a0 :: a1 :: a2 :: .int x :: l) (.int x :: st) μ Q := rw_go p89_26 rfl
theorem r89_27 : RR 89 27 L st μ Q ↔ RR 89 28 L (.int (nI 3) :: st) μ Q := rw_go p89_27 rfl
theorem r89_28 : RR 89 28 L (.int y :: .int x :: st) μ Q ↔ if x = y then RR 89 48 L st μ Q else RR 89 31 L st μ Q := rw_if p89_28 rfl
theorem r89_31 : RR 89 31 (a0 :: a1 :: a2 :: .int x :: l) st μ Q ↔ RR 89 32 (a0 :: a1 :: a2 :: .int x :: l) (.int x :: st) μ Q := rw_go p89_31 rfl
theorem r89_32 : RR 89 32 L st μ Q ↔ RR 89 33 L (.int (nI 2) :: st) μ Q := rw_go p89_32 rfl
theorem r89_33 : RR 89 33 L (.int y :: .int x :: st) μ Q ↔ if ¬ x = y then RR 89 52 L st μ Q else RR 89 36 L st μ Q := rw_if p89_33 rfl
theorem r89_36 : RR 89 36 (.ref q :: l) st μ Q ↔ RR 89 37 (.ref q :: l) (.ref q :: st) μ Q := rw_go p89_36 rfl
theorem r89_37 : RR 89 37 L (.ref q :: st) (S, b, M, D, F) Q ↔ S[q]? = some (.inl 0) ∧ RR 89 40 L (va_rf (F q 2) :: st) (S, b, M, D, F) Q := rw_c p89_37 rfl
theorem r89_40 : RR 89 40 (a0 :: .int x :: l) st μ Q ↔ RR 89 41 (a0 :: .int x :: l) (.int x :: st) μ Q := rw_go p89_40 rfl
theorem r89_41 : RR 89 41 L (.int x :: .ref q :: st) (S, b, M, D, F) Q ↔ am_bd S b.2.2 q 0 x ∧ RR 89 42 L (.int (M q x.toInt.toNat) :: st) (S, b, M, D, F) Q := rw_c p89_41 am_xld_eq
theorem r89_42 : RR 89 42 L st μ Q ↔ RR 89 44 L (.int (nI 8) :: st) μ Q := rw_go p89_42 rfl
theorem r89_44 : RR 89 44 L (.int y :: .int x :: st) μ Q ↔ RR 89 45 L (.int (x &&& y) :: st) μ Q := rw_go p89_44 rfl
theorem r89_45 : RR 89 45 L (.int x :: st) μ Q ↔ if ¬ x = 0 then RR 89 52 L st μ Q else RR 89 48 L st μ Q := rw_if p89_45 rfl
theorem r89_48 : RR 89 48 L st μ Q ↔ RR 89 49 L (.int (nI 1) :: st) μ Q := rw_go p89_48 rfl
theorem r89_49 : RR 89 49 L st μ Q ↔ RR 89 53 L st μ Q := rw_go p89_49 rfl
theorem r89_52 : RR 89 52 L st μ Q ↔ RR 89 53 L (.int (nI 0) :: st) μ Q := rw_go p89_52 rfl
theorem r89_53 : RR 89 53 L [.int x] μ Q ↔ (x = 0 ∨ x = 1) ∧ Q (some (.int x)) μ := rw_rc p89_53 rfl
/-! ReleaseDesk$Build.accessOf -/
theorem r90_0 : RR 90 0 (.ref q :: l) st μ Q ↔ RR 90 1 (.ref q :: l) (.ref q :: st) μ Q := rw_go p90_0 rfl
theorem r90_1 : RR 90 1 L (.ref q :: st) (S, b, M, D, F) Q ↔ S[q]? = some (.inl 0) ∧ RR 90 4 L (va_rf (F q 4) :: st) (S, b, M, D, F) Q := rw_c p90_1 rfl
theorem r90_4 : RR 90 4 (a0 :: .int x :: l) st μ Q ↔ RR 90 5 (a0 :: .int x :: l) (.int x :: st) μ Q := rw_go p90_4 rfl
theorem r90_5 : RR 90 5 L st μ Q ↔ RR 90 7 L (.int (nI 24) :: st) μ Q := rw_go p90_5 rfl
theorem r90_7 : RR 90 7 L (.int y :: .int x :: st) μ Q ↔ RR 90 8 L (.int (x * y) :: st) μ Q := rw_go p90_7 rfl
theorem r90_8 : RR 90 8 (a0 :: a1 :: .int x :: l) st μ Q ↔ RR 90 9 (a0 :: a1 :: .int x :: l) (.int x :: st) μ Q := rw_go p90_8 rfl
theorem r90_9 : RR 90 9 L (.int y :: .int x :: st) μ Q ↔ RR 90 10 L (.int (x + y) :: st) μ Q := rw_go p90_9 rfl
theorem r90_10 : RR 90 10 L (.int x :: .ref q :: st) (S, b, M, D, F) Q ↔ am_bd S b.2.2 q 0 x ∧ RR 90 11 L (.int (M q x.toInt.toNat) :: st) (S, b, M, D, F) Q := rw_c p90_10 am_xld_eq
theorem r90_11 : RR 90 11 L st μ Q ↔ RR 90 13 L (.int (nI 8) :: st) μ Q := rw_go p90_11 rfl
theorem r90_13 : RR 90 13 L (.int y :: .int x :: st) μ Q ↔ ¬ y = 0 ∧ RR 90 14 L (.int (x / y) :: st) μ Q := rw_n p90_13 rfl
theorem r90_14 : RR 90 14 L [.int x] μ Q ↔ Q (some (.int x)) μ := rw_r p90_14 rfl
/-! ReleaseDesk$Build.memberFlags -/
theorem r91_0 : RR 91 0 (.ref q :: l) st μ Q ↔ RR 91 1 (.ref q :: l) (.ref q :: st) μ Q := rw_go p91_0 rfl
theorem r91_1 : RR 91 1 L (.ref q :: st) (S, b, M, D, F) Q ↔ S[q]? = some (.inl 0) ∧ RR 91 4 L (va_rf (F q 4) :: st) (S, b, M, D, F) Q := rw_c p91_1 rfl
theorem r91_4 : RR 91 4 (a0 :: .int x :: l) st μ Q ↔ RR 91 5 (a0 :: .int x :: l) (.int x :: st) μ Q := rw_go p91_4 rfl
theorem r91_5 : RR 91 5 L st μ Q ↔ RR 91 7 L (.int (nI 24) :: st) μ Q := rw_go p91_5 rfl
theorem r91_7 : RR 91 7 L (.int y :: .int x :: st) μ Q ↔ RR 91 8 L (.int (x * y) :: st) μ Q := rw_go p91_7 rfl
theorem r91_8 : RR 91 8 (a0 :: a1 :: .int x :: l) st μ Q ↔ RR 91 9 (a0 :: a1 :: .int x :: l) (.int x :: st) μ Q := rw_go p91_8 rfl
theorem r91_9 : RR 91 9 L (.int y :: .int x :: st) μ Q ↔ RR 91 10 L (.int (x + y) :: st) μ Q := rw_go p91_9 rfl
theorem r91_10 : RR 91 10 L (.int x :: .ref q :: st) (S, b, M, D, F) Q ↔ am_bd S b.2.2 q 0 x ∧ RR 91 11 L (.int (M q x.toInt.toNat) :: st) (S, b, M, D, F) Q := rw_c p91_10 am_xld_eq
theorem r91_11 : RR 91 11 L st μ Q ↔ RR 91 13 L (.int (nI 8) :: st) μ Q := rw_go p91_11 rfl
theorem r91_13 : RR 91 13 L (.int y :: .int x :: st) μ Q ↔ ¬ y = 0 ∧ RR 91 14 L (.int (x - x / y * y) :: st) μ Q := rw_n p91_13 rfl
theorem r91_14 : RR 91 14 L [.int x] μ Q ↔ Q (some (.int x)) μ := rw_r p91_14 rfl
/-! ReleaseDesk$Build.hasConstant -/
theorem r92_0 : RR 92 0 (.ref q :: l) st μ Q ↔ RR 92 1 (.ref q :: l) (.ref q :: st) μ Q := rw_go p92_0 rfl
theorem r92_1 : RR 92 1 L (.ref q :: st) (S, b, M, D, F) Q ↔ S[q]? = some (.inl 0) ∧ RR 92 4 L (va_rf (F q 5) :: st) (S, b, M, D, F) Q := rw_c p92_1 rfl
theorem r92_4 : RR 92 4 (a0 :: .int x :: l) st μ Q ↔ RR 92 5 (a0 :: .int x :: l) (.int x :: st) μ Q := rw_go p92_4 rfl
theorem r92_5 : RR 92 5 L (.int x :: .ref q :: st) (S, b, M, D, F) Q ↔ am_bd S b.2.2 q 0 x ∧ RR 92 6 L (.int (M q x.toInt.toNat) :: st) (S, b, M, D, F) Q := rw_c p92_5 am_xld_eq
theorem r92_6 : RR 92 6 (a0 :: a1 :: .int x :: l) st μ Q ↔ RR 92 7 (a0 :: a1 :: .int x :: l) (.int x :: st) μ Q := rw_go p92_6 rfl
theorem r92_7 : RR 92 7 L (.int y :: .int x :: st) μ Q ↔ RR 92 8 L (.int (x >>> (y &&& 31)) :: st) μ Q := rw_go p92_7 rfl
theorem r92_8 : RR 92 8 L st μ Q ↔ RR 92 9 L (.int (nI 1) :: st) μ Q := rw_go p92_8 rfl
theorem r92_9 : RR 92 9 L (.int y :: .int x :: st) μ Q ↔ RR 92 10 L (.int (x &&& y) :: st) μ Q := rw_go p92_9 rfl
theorem r92_10 : RR 92 10 L st μ Q ↔ RR 92 11 L (.int (nI 1) :: st) μ Q := rw_go p92_10 rfl
theorem r92_11 : RR 92 11 L (.int y :: .int x :: st) μ Q ↔ if ¬ x = y then RR 92 18 L st μ Q else RR 92 14 L st μ Q := rw_if p92_11 rfl
theorem r92_14 : RR 92 14 L st μ Q ↔ RR 92 15 L (.int (nI 1) :: st) μ Q := rw_go p92_14 rfl
theorem r92_15 : RR 92 15 L st μ Q ↔ RR 92 19 L st μ Q := rw_go p92_15 rfl
theorem r92_18 : RR 92 18 L st μ Q ↔ RR 92 19 L (.int (nI 0) :: st) μ Q := rw_go p92_18 rfl
theorem r92_19 : RR 92 19 L [.int x] μ Q ↔ (x = 0 ∨ x = 1) ∧ Q (some (.int x)) μ := rw_rc p92_19 rfl
/-! ReleaseDesk$Build.constantOf -/
theorem r93_0 : RR 93 0 (.ref q :: l) st μ Q ↔ RR 93 1 (.ref q :: l) (.ref q :: st) μ Q := rw_go p93_0 rfl
theorem r93_1 : RR 93 1 L (.ref q :: st) (S, b, M, D, F) Q ↔ S[q]? = some (.inl 0) ∧ RR 93 4 L (va_rf (F q 6) :: st) (S, b, M, D, F) Q := rw_c p93_1 rfl
theorem r93_4 : RR 93 4 (a0 :: .int x :: l) st μ Q ↔ RR 93 5 (a0 :: .int x :: l) (.int x :: st) μ Q := rw_go p93_4 rfl
theorem r93_5 : RR 93 5 L st μ Q ↔ RR 93 7 L (.int (nI 12) :: st) μ Q := rw_go p93_5 rfl
theorem r93_7 : RR 93 7 L (.int y :: .int x :: st) μ Q ↔ RR 93 8 L (.int (x * y) :: st) μ Q := rw_go p93_7 rfl
theorem r93_8 : RR 93 8 (a0 :: a1 :: .int x :: l) st μ Q ↔ RR 93 9 (a0 :: a1 :: .int x :: l) (.int x :: st) μ Q := rw_go p93_8 rfl
theorem r93_9 : RR 93 9 L (.int y :: .int x :: st) μ Q ↔ RR 93 10 L (.int (x + y) :: st) μ Q := rw_go p93_9 rfl
theorem r93_10 : RR 93 10 L (.int x :: .ref q :: st) (S, b, M, D, F) Q ↔ am_bs S q 3 x ∧ RR 93 11 L (.double (D q x.toInt.toNat) :: st) (S, b, M, D, F) Q := rw_c p93_10 am_dxld_eq
theorem r93_11 : RR 93 11 L [.double d] μ Q ↔ Q (some (.double d)) μ := rw_r p93_11 rfl
/-! ReleaseDesk$Comparison.init -/
theorem r94_0 : RR 94 0 (.ref q :: l) st μ Q ↔ RR 94 1 (.ref q :: l) (.ref q :: st) μ Q := rw_go p94_0 rfl
theorem r94_1 : RR 94 1 L (.ref q :: st) μ Q ↔ am_cat st ≤ 8 ∧ RR 94 4 L st μ Q := rw_c p94_1 rfl
theorem r94_4 : RR 94 4 (.ref q :: l) st μ Q ↔ RR 94 5 (.ref q :: l) (.ref q :: st) μ Q := rw_go p94_4 rfl
theorem r94_8 : RR 94 8 L (.ref q :: st) μ Q ↔ RR 94 9 L (.ref q :: .ref q :: st) μ Q := rw_go p94_8 rfl
theorem r94_8i : RR 94 8 L (.int x :: st) μ Q ↔ RR 94 9 L (.int x :: .int x :: st) μ Q := rw_go p94_8 rfl
theorem r94_12 : RR 94 12 L (.ref q2 :: .ref q :: st) (S, b, M, D, F) Q ↔ S[q]? = some (.inl 1) ∧ RR 94 15 L st (S, b, M, D, am_up F q 0 (some q2)) Q := rw_c p94_12 rfl
theorem r94_15 : RR 94 15 (.ref q :: l) st μ Q ↔ RR 94 16 (.ref q :: l) (.ref q :: st) μ Q := rw_go p94_15 rfl
theorem r94_19 : RR 94 19 L (.ref q :: st) μ Q ↔ RR 94 20 L (.ref q :: .ref q :: st) μ Q := rw_go p94_19 rfl
theorem r94_19i : RR 94 19 L (.int x :: st) μ Q ↔ RR 94 20 L (.int x :: .int x :: st) μ Q := rw_go p94_19 rfl
theorem r94_23 : RR 94 23 L (.ref q2 :: .ref q :: st) (S, b, M, D, F) Q ↔ S[q]? = some (.inl 1) ∧ RR 94 26 L st (S, b, M, D, am_up F q 1 (some q2)) Q := rw_c p94_23 rfl
theorem r94_26 : RR 94 26 (.ref q :: l) st μ Q ↔ RR 94 27 (.ref q :: l) (.ref q :: st) μ Q := rw_go p94_26 rfl
theorem r94_30 : RR 94 30 L (.ref q :: st) μ Q ↔ RR 94 31 L (.ref q :: .ref q :: st) μ Q := rw_go p94_30 rfl
theorem r94_30i : RR 94 30 L (.int x :: st) μ Q ↔ RR 94 31 L (.int x :: .int x :: st) μ Q := rw_go p94_30 rfl
theorem r94_34 : RR 94 34 L (.ref q2 :: .ref q :: st) (S, b, M, D, F) Q ↔ S[q]? = some (.inl 1) ∧ RR 94 37 L st (S, b, M, D, am_up F q 2 (some q2)) Q := rw_c p94_34 rfl
theorem r94_37 : RR 94 37 L [] μ Q ↔ Q none μ := rw_r p94_37 rfl
/-! ReleaseDesk$Comparison.build -/
theorem r95_0 : RR 95 0 (a0 :: .int x :: l) st μ Q ↔ RR 95 1 (a0 :: .int x :: l) (.int x :: st) μ Q := rw_go p95_0 rfl
theorem r95_1 : RR 95 1 L (.int x :: st) μ Q ↔ if ¬ x = 0 then RR 95 11 L st μ Q else RR 95 4 L st μ Q := rw_if p95_1 rfl
theorem r95_4 : RR 95 4 (.ref q :: l) st μ Q ↔ RR 95 5 (.ref q :: l) (.ref q :: st) μ Q := rw_go p95_4 rfl
theorem r95_5 : RR 95 5 L (.ref q :: st) (S, b, M, D, F) Q ↔ S[q]? = some (.inl 1) ∧ RR 95 8 L (va_rf (F q 0) :: st) (S, b, M, D, F) Q := rw_c p95_5 rfl
theorem r95_8 : RR 95 8 L st μ Q ↔ RR 95 15 L st μ Q := rw_go p95_8 rfl
theorem r95_11 : RR 95 11 (.ref q :: l) st μ Q ↔ RR 95 12 (.ref q :: l) (.ref q :: st) μ Q := rw_go p95_11 rfl
theorem r95_12 : RR 95 12 L (.ref q :: st) (S, b, M, D, F) Q ↔ S[q]? = some (.inl 1) ∧ RR 95 15 L (va_rf (F q 1) :: st) (S, b, M, D, F) Q := rw_c p95_12 rfl
theorem r95_15 : RR 95 15 L [.ref q] μ Q ↔ Q (some (.ref q)) μ := rw_r p95_15 rfl
/-! ReleaseDesk$Comparison.find -/
theorem r96_0 : RR 96 0 (.ref q :: l) st μ Q ↔ RR 96 1 (.ref q :: l) (.ref q :: st) μ Q := rw_go p96_0 rfl
theorem r96_1 : RR 96 1 L (.ref q :: st) (S, b, M, D, F) Q ↔ S[q]? = some (.inl 1) ∧ RR 96 4 L (va_rf (F q 2) :: st) (S, b, M, D, F) Q := rw_c p96_1 rfl
theorem r96_4 : RR 96 4 L (.ref q :: st) (S, (0, 0, sl), M, D, F) Q ↔ (am_cat st ≤ 8 ∧ 1 = 1 ∧ S[q]? = some (.inl 2)) ∧ RR 106 0 [.ref q] [] (S, (0, 0, sl), M, D, F) (fun rv μ' => μ'.1.length = S.length ∧ RR 96 7 L (rv.toList ++ st) (μ'.1, (0, 0, sl), μ'.2.2) Q) := rw_call p96_4 rfl (ac106 q)
theorem r96_7 : RR 96 7 L st μ Q ↔ RR 96 8 L (.int (nI 0) :: st) μ Q := rw_go p96_7 rfl
theorem r96_8 : RR 96 8 (a0 :: c0 :: l) (.int x :: st) μ Q ↔ RR 96 9 (am_nd a0 :: .int x :: l) st μ Q := rw_istn p96_8 (by show 1 < _; simp only [List.length_cons]; omega)
theorem r96_9 : RR 96 9 (a0 :: .int x :: l) st μ Q ↔ RR 96 10 (a0 :: .int x :: l) (.int x :: st) μ Q := rw_go p96_9 rfl
theorem r96_10 : RR 96 10 L st μ Q ↔ RR 96 12 L (.int (nI 8) :: st) μ Q := rw_go p96_10 rfl
theorem r96_12 : RR 96 12 L (.int y :: .int x :: st) μ Q ↔ if y ≤ x then RR 96 76 L st μ Q else RR 96 15 L st μ Q := rw_if p96_12 rfl
theorem r96_15 : RR 96 15 (.ref q :: l) st μ Q ↔ RR 96 16 (.ref q :: l) (.ref q :: st) μ Q := rw_go p96_15 rfl
theorem r96_16 : RR 96 16 L (.ref q :: st) (S, b, M, D, F) Q ↔ S[q]? = some (.inl 1) ∧ RR 96 19 L (va_rf (F q 0) :: st) (S, b, M, D, F) Q := rw_c p96_16 rfl
theorem r96_19 : RR 96 19 (a0 :: .int x :: l) st μ Q ↔ RR 96 20 (a0 :: .int x :: l) (.int x :: st) μ Q := rw_go p96_19 rfl
theorem r96_20 : RR 96 20 L (.int x1 :: .ref q :: st) (S, (0, 0, sl), M, D, F) Q ↔ (am_cat st ≤ 8 ∧ 2 = 2 ∧ S[q]? = some (.inl 0)) ∧ RR 83 0 [.ref q, .int x1] [] (S, (0, 0, sl), M, D, F) (fun rv μ' => μ'.1.length = S.length ∧ RR 96 23 L (rv.toList ++ st) (μ'.1, (0, 0, sl), μ'.2.2) Q) := rw_call p96_20 rfl (ac83 q x1)
theorem r96_23 : RR 96 23 L (.int x :: st) μ Q ↔ if x = 0 then RR 96 65 L st μ Q else RR 96 26 L st μ Q := rw_if p96_23 rfl
theorem r96_26 : RR 96 26 (.ref q :: l) st μ Q ↔ RR 96 27 (.ref q :: l) (.ref q :: st) μ Q := rw_go p96_26 rfl
theorem r96_27 : RR 96 27 L (.ref q :: st) (S, b, M, D, F) Q ↔ S[q]? = some (.inl 1) ∧ RR 96 30 L (va_rf (F q 1) :: st) (S, b, M, D, F) Q := rw_c p96_27 rfl
theorem r96_30 : RR 96 30 (a0 :: .int x :: l) st μ Q ↔ RR 96 31 (a0 :: .int x :: l) (.int x :: st) μ Q := rw_go p96_30 rfl
theorem r96_31 : RR 96 31 L (.int x1 :: .ref q :: st) (S, (0, 0, sl), M, D, F) Q ↔ (am_cat st ≤ 8 ∧ 2 = 2 ∧ S[q]? = some (.inl 0)) ∧ RR 83 0 [.ref q, .int x1] [] (S, (0, 0, sl), M, D, F) (fun rv μ' => μ'.1.length = S.length ∧ RR 96 34 L (rv.toList ++ st) (μ'.1, (0, 0, sl), μ'.2.2) Q) := rw_call p96_31 rfl (ac83 q x1)
theorem r96_34 : RR 96 34 L (.int x :: st) μ Q ↔ if x = 0 then RR 96 65 L st μ Q else RR 96 37 L st μ Q := rw_if p96_34 rfl
theorem r96_37 : RR 96 37 (.ref q :: l) st μ Q ↔ RR 96 38 (.ref q :: l) (.ref q :: st) μ Q := rw_go p96_37 rfl
theorem r96_38 : RR 96 38 (a0 :: .int x :: l) st μ Q ↔ RR 96 39 (a0 :: .int x :: l) (.int x :: st) μ Q := rw_go p96_38 rfl
theorem r96_39 : RR 96 39 L (.int x1 :: .ref q :: st) (S, (0, 0, sl), M, D, F) Q ↔ (am_cat st ≤ 8 ∧ 2 = 2 ∧ S[q]? = some (.inl 1)) ∧ RR 98 0 [.ref q, .int x1, .long 0, .long 0] [] (S, (0, 0, sl), M, D, F) (fun rv μ' => μ'.1.length = S.length ∧ RR 96 42 L (rv.toList ++ st) (μ'.1, (0, 0, sl), μ'.2.2) Q) := rw_call p96_39 rfl (ac98 q x1)
theorem r96_42 : RR 96 42 L st μ Q ↔ RR 96 43 L (.int (nI 0) :: st) μ Q := rw_go p96_42 rfl
theorem r96_43 : RR 96 43 (a0 :: a1 :: c0 :: l) (.int x :: st) μ Q ↔ RR 96 44 (a0 :: am_nd a1 :: .int x :: l) st μ Q := rw_istn p96_43 (by show 2 < _; simp only [List.length_cons]; omega)
theorem r96_44 : RR 96 44 (a0 :: a1 :: .int x :: l) st μ Q ↔ RR 96 45 (a0 :: a1 :: .int x :: l) (.int x :: st) μ Q := rw_go p96_44 rfl
theorem r96_45 : RR 96 45 L st μ Q ↔ RR 96 47 L (.int (nI 24) :: st) μ Q := rw_go p96_45 rfl
theorem r96_47 : RR 96 47 L (.int y :: .int x :: st) μ Q ↔ if y ≤ x then RR 96 62 L st μ Q else RR 96 50 L st μ Q := rw_if p96_47 rfl
theorem r96_50 : RR 96 50 (.ref q :: l) st μ Q ↔ RR 96 51 (.ref q :: l) (.ref q :: st) μ Q := rw_go p96_50 rfl
theorem r96_51 : RR 96 51 (a0 :: .int x :: l) st μ Q ↔ RR 96 52 (a0 :: .int x :: l) (.int x :: st) μ Q := rw_go p96_51 rfl
theorem r96_52 : RR 96 52 (a0 :: a1 :: .int x :: l) st μ Q ↔ RR 96 53 (a0 :: a1 :: .int x :: l) (.int x :: st) μ Q := rw_go p96_52 rfl
theorem r96_53 : RR 96 53 L (.int x2 :: .int x1 :: .ref q :: st) (S, (0, 0, sl), M, D, F) Q ↔ (am_cat st ≤ 8 ∧ 3 = 3 ∧ S[q]? = some (.inl 1)) ∧ RR 99 0 [.ref q, .int x1, .int x2, .long 0, .long 0, .long 0, .long 0] [] (S, (0, 0, sl), M, D, F) (fun rv μ' => μ'.1.length = S.length ∧ RR 96 56 L (rv.toList ++ st) (μ'.1, (0, 0, sl), μ'.2.2) Q) := rw_call p96_53 rfl (ac99 q x1 x2)
theorem r96_56 : RR 96 56 (a0 :: a1 :: .int x :: l) st μ Q ↔ RR 96 59 (a0 :: am_nd a1 :: .int (x + nI 1) :: l) st μ Q := rw_go p96_56 rfl
theorem r96_59 : RR 96 59 L st μ Q ↔ RR 96 44 L st μ Q := rw_go p96_59 rfl
theorem r96_62 : RR 96 62 L st μ Q ↔ RR 96 70 L st μ Q := rw_go p96_62 rfl
theorem r96_65 : RR 96 65 (.ref q :: l) st μ Q ↔ RR 96 66 (.ref q :: l) (.ref q :: st) μ Q := rw_go p96_65 rfl
theorem r96_66 : RR 96 66 (a0 :: .int x :: l) st μ Q ↔ RR 96 67 (a0 :: .int x :: l) (.int x :: st) μ Q := rw_go p96_66 rfl
theorem r96_67 : RR 96 67 L (.int x1 :: .ref q :: st) (S, (0, 0, sl), M, D, F) Q ↔ (am_cat st ≤ 8 ∧ 2 = 2 ∧ S[q]? = some (.inl 1)) ∧ RR 97 0 [.ref q, .int x1, .long 0] [] (S, (0, 0, sl), M, D, F) (fun rv μ' => μ'.1.length = S.length ∧ RR 96 70 L (rv.toList ++ st) (μ'.1, (0, 0, sl), μ'.2.2) Q) := rw_call p96_67 rfl (ac97 q x1)
theorem r96_70 : RR 96 70 (a0 :: .int x :: l) st μ Q ↔ RR 96 73 (am_nd a0 :: .int (x + nI 1) :: l) st μ Q := rw_go p96_70 rfl
theorem r96_73 : RR 96 73 L st μ Q ↔ RR 96 9 L st μ Q := rw_go p96_73 rfl
theorem r96_76 : RR 96 76 L [] μ Q ↔ Q none μ := rw_r p96_76 rfl
/-! ReleaseDesk$Comparison.compareSight -/
theorem r97_0 : RR 97 0 (.ref q :: l) st μ Q ↔ RR 97 1 (.ref q :: l) (.ref q :: st) μ Q := rw_go p97_0 rfl
theorem r97_1 : RR 97 1 L (.ref q :: st) (S, b, M, D, F) Q ↔ S[q]? = some (.inl 1) ∧ RR 97 4 L (va_rf (F q 0) :: st) (S, b, M, D, F) Q := rw_c p97_1 rfl
theorem r97_4 : RR 97 4 (a0 :: .int x :: l) st μ Q ↔ RR 97 5 (a0 :: .int x :: l) (.int x :: st) μ Q := rw_go p97_4 rfl
theorem r97_5 : RR 97 5 L (.int x1 :: .ref q :: st) (S, (0, 0, sl), M, D, F) Q ↔ (am_cat st ≤ 8 ∧ 2 = 2 ∧ S[q]? = some (.inl 0)) ∧ RR 83 0 [.ref q, .int x1] [] (S, (0, 0, sl), M, D, F) (fun rv μ' => μ'.1.length = S.length ∧ RR 97 8 L (rv.toList ++ st) (μ'.1, (0, 0, sl), μ'.2.2) Q) := rw_call p97_5 rfl (ac83 q x1)
theorem r97_8 : RR 97 8 L (.int x :: st) μ Q ↔ if x = 0 then RR 97 49 L st μ Q else RR 97 11 L st μ Q := rw_if p97_8 rfl
theorem r97_11 : RR 97 11 (.ref q :: l) st μ Q ↔ RR 97 12 (.ref q :: l) (.ref q :: st) μ Q := rw_go p97_11 rfl
theorem r97_12 : RR 97 12 L (.ref q :: st) (S, b, M, D, F) Q ↔ S[q]? = some (.inl 1) ∧ RR 97 15 L (va_rf (F q 1) :: st) (S, b, M, D, F) Q := rw_c p97_12 rfl
theorem r97_15 : RR 97 15 (a0 :: .int x :: l) st μ Q ↔ RR 97 16 (a0 :: .int x :: l) (.int x :: st) μ Q := rw_go p97_15 rfl
theorem r97_16 : RR 97 16 L (.int x1 :: .ref q :: st) (S, (0, 0, sl), M, D, F) Q ↔ (am_cat st ≤ 8 ∧ 2 = 2 ∧ S[q]? = some (.inl 0)) ∧ RR 82 0 [.ref q, .int x1] [] (S, (0, 0, sl), M, D, F) (fun rv μ' => μ'.1.length = S.length ∧ RR 97 19 L (rv.toList ++ st) (μ'.1, (0, 0, sl), μ'.2.2) Q) := rw_call p97_16 rfl (ac82 q x1)
theorem r97_19 : RR 97 19 L (.int x :: st) μ Q ↔ if x = 0 then RR 97 26 L st μ Q else RR 97 22 L st μ Q := rw_if p97_19 rfl
theorem r97_22 : RR 97 22 L st μ Q ↔ RR 97 23 L (.int (nI 2) :: st) μ Q := rw_go p97_22 rfl
theorem r97_23 : RR 97 23 L st μ Q ↔ RR 97 27 L st μ Q := rw_go p97_23 rfl
theorem r97_26 : RR 97 26 L st μ Q ↔ RR 97 27 L (.int (nI 1) :: st) μ Q := rw_go p97_26 rfl
theorem r97_27 : RR 97 27 (a0 :: a1 :: c0 :: l) (.int x :: st) μ Q ↔ RR 97 28 (a0 :: am_nd a1 :: .int x :: l) st μ Q := rw_istn p97_27 (by show 2 < _; simp only [List.length_cons]; omega)
theorem r97_28 : RR 97 28 (.ref q :: l) st μ Q ↔ RR 97 29 (.ref q :: l) (.ref q :: st) μ Q := rw_go p97_28 rfl
theorem r97_29 : RR 97 29 L (.ref q :: st) (S, b, M, D, F) Q ↔ S[q]? = some (.inl 1) ∧ RR 97 32 L (va_rf (F q 2) :: st) (S, b, M, D, F) Q := rw_c p97_29 rfl
theorem r97_32 : RR 97 32 (a0 :: a1 :: .int x :: l) st μ Q ↔ RR 97 33 (a0 :: a1 :: .int x :: l) (.int x :: st) μ Q := rw_go p97_32 rfl
theorem r97_33 : RR 97 33 (.ref q :: l) st μ Q ↔ RR 97 34 (.ref q :: l) (.ref q :: st) μ Q := rw_go p97_33 rfl
theorem r97_34 : RR 97 34 L (.ref q :: st) (S, b, M, D, F) Q ↔ S[q]? = some (.inl 1) ∧ RR 97 37 L (va_rf (F q 0) :: st) (S, b, M, D, F) Q := rw_c p97_34 rfl
theorem r97_37 : RR 97 37 (a0 :: .int x :: l) st μ Q ↔ RR 97 38 (a0 :: .int x :: l) (.int x :: st) μ Q := rw_go p97_37 rfl
theorem r97_38 : RR 97 38 L (.int x1 :: .ref q :: st) (S, (0, 0, sl), M, D, F) Q ↔ (am_cat st ≤ 8 ∧ 2 = 2 ∧ S[q]? = some (.inl 0)) ∧ RR 84 0 [.ref q, .int x1] [] (S, (0, 0, sl), M, D, F) (fun rv μ' => μ'.1.length = S.length ∧ RR 97 41 L (rv.toList ++ st) (μ'.1, (0, 0, sl), μ'.2.2) Q) := rw_call p97_38 rfl (ac84 q x1)
theorem r97_41 : RR 97 41 (a0 :: .int x :: l) st μ Q ↔ RR 97 42 (a0 :: .int x :: l) (.int x :: st) μ Q := rw_go p97_41 rfl
theorem r97_42 : RR 97 42 L st μ Q ↔ RR 97 43 L (.int ((-1)) :: st) μ Q := rw_go p97_42 rfl
theorem r97_43 : RR 97 43 L (.int x4 :: .int x3 :: .int x2 :: .int x1 :: .ref q :: st) (S, (0, 0, sl), M, D, F) Q ↔ (am_cat st ≤ 8 ∧ 5 = 5 ∧ S[q]? = some (.inl 2)) ∧ RR 109 0 [.ref q, .int x1, .int x2, .int x3, .int x4] [] (S, (0, 0, sl), M, D, F) (fun rv μ' => μ'.1.length = S.length ∧ RR 97 46 L (rv.toList ++ st) (μ'.1, (0, 0, sl), μ'.2.2) Q) := rw_call p97_43 rfl (ac109 q x1 x2 x3 x4)
theorem r97_46 : RR 97 46 L st μ Q ↔ RR 97 78 L st μ Q := rw_go p97_46 rfl
theorem r97_49 : RR 97 49 (.ref q :: l) st μ Q ↔ RR 97 50 (.ref q :: l) (.ref q :: st) μ Q := rw_go p97_49 rfl
theorem r97_50 : RR 97 50 L (.ref q :: st) (S, b, M, D, F) Q ↔ S[q]? = some (.inl 1) ∧ RR 97 53 L (va_rf (F q 1) :: st) (S, b, M, D, F) Q := rw_c p97_50 rfl
theorem r97_53 : RR 97 53 (a0 :: .int x :: l) st μ Q ↔ RR 97 54 (a0 :: .int x :: l) (.int x :: st) μ Q := rw_go p97_53 rfl
theorem r97_54 : RR 97 54 L (.int x1 :: .ref q :: st) (S, (0, 0, sl), M, D, F) Q ↔ (am_cat st ≤ 8 ∧ 2 = 2 ∧ S[q]? = some (.inl 0)) ∧ RR 83 0 [.ref q, .int x1] [] (S, (0, 0, sl), M, D, F) (fun rv μ' => μ'.1.length = S.length ∧ RR 97 57 L (rv.toList ++ st) (μ'.1, (0, 0, sl), μ'.2.2) Q) := rw_call p97_54 rfl (ac83 q x1)
theorem r97_57 : RR 97 57 L (.int x :: st) μ Q ↔ if x = 0 then RR 97 78 L st μ Q else RR 97 60 L st μ Q := rw_if p97_57 rfl
theorem r97_60 : RR 97 60 (.ref q :: l) st μ Q ↔ RR 97 61 (.ref q :: l) (.ref q :: st) μ Q := rw_go p97_60 rfl
theorem r97_61 : RR 97 61 L (.ref q :: st) (S, b, M, D, F) Q ↔ S[q]? = some (.inl 1) ∧ RR 97 64 L (va_rf (F q 2) :: st) (S, b, M, D, F) Q := rw_c p97_61 rfl
theorem r97_64 : RR 97 64 L st μ Q ↔ RR 97 65 L (.int (nI 3) :: st) μ Q := rw_go p97_64 rfl
theorem r97_65 : RR 97 65 (.ref q :: l) st μ Q ↔ RR 97 66 (.ref q :: l) (.ref q :: st) μ Q := rw_go p97_65 rfl
theorem r97_66 : RR 97 66 L (.ref q :: st) (S, b, M, D, F) Q ↔ S[q]? = some (.inl 1) ∧ RR 97 69 L (va_rf (F q 1) :: st) (S, b, M, D, F) Q := rw_c p97_66 rfl
theorem r97_69 : RR 97 69 (a0 :: .int x :: l) st μ Q ↔ RR 97 70 (a0 :: .int x :: l) (.int x :: st) μ Q := rw_go p97_69 rfl
theorem r97_70 : RR 97 70 L (.int x1 :: .ref q :: st) (S, (0, 0, sl), M, D, F) Q ↔ (am_cat st ≤ 8 ∧ 2 = 2 ∧ S[q]? = some (.inl 0)) ∧ RR 84 0 [.ref q, .int x1] [] (S, (0, 0, sl), M, D, F) (fun rv μ' => μ'.1.length = S.length ∧ RR 97 73 L (rv.toList ++ st) (μ'.1, (0, 0, sl), μ'.2.2) Q) := rw_call p97_70 rfl (ac84 q x1)
theorem r97_73 : RR 97 73 (a0 :: .int x :: l) st μ Q ↔ RR 97 74 (a0 :: .int x :: l) (.int x :: st) μ Q := rw_go p97_73 rfl
theorem r97_74 : RR 97 74 L st μ Q ↔ RR 97 75 L (.int ((-1)) :: st) μ Q := rw_go p97_74 rfl
theorem r97_75 : RR 97 75 L (.int x4 :: .int x3 :: .int x2 :: .int x1 :: .ref q :: st) (S, (0, 0, sl), M, D, F) Q ↔ (am_cat st ≤ 8 ∧ 5 = 5 ∧ S[q]? = some (.inl 2)) ∧ RR 109 0 [.ref q, .int x1, .int x2, .int x3, .int x4] [] (S, (0, 0, sl), M, D, F) (fun rv μ' => μ'.1.length = S.length ∧ RR 97 78 L (rv.toList ++ st) (μ'.1, (0, 0, sl), μ'.2.2) Q) := rw_call p97_75 rfl (ac109 q x1 x2 x3 x4)
theorem r97_78 : RR 97 78 L [] μ Q ↔ Q none μ := rw_r p97_78 rfl
/-! ReleaseDesk$Comparison.compareType -/
theorem r98_0 : RR 98 0 (.ref q :: l) st μ Q ↔ RR 98 1 (.ref q :: l) (.ref q :: st) μ Q := rw_go p98_0 rfl
theorem r98_1 : RR 98 1 L (.ref q :: st) (S, b, M, D, F) Q ↔ S[q]? = some (.inl 1) ∧ RR 98 4 L (va_rf (F q 0) :: st) (S, b, M, D, F) Q := rw_c p98_1 rfl
theorem r98_4 : RR 98 4 (a0 :: .int x :: l) st μ Q ↔ RR 98 5 (a0 :: .int x :: l) (.int x :: st) μ Q := rw_go p98_4 rfl
theorem r98_5 : RR 98 5 L (.int x1 :: .ref q :: st) (S, (0, 0, sl), M, D, F) Q ↔ (am_cat st ≤ 8 ∧ 2 = 2 ∧ S[q]? = some (.inl 0)) ∧ RR 85 0 [.ref q, .int x1] [] (S, (0, 0, sl), M, D, F) (fun rv μ' => μ'.1.length = S.length ∧ RR 98 8 L (rv.toList ++ st) (μ'.1, (0, 0, sl), μ'.2.2) Q) := rw_call p98_5 rfl (ac85 q x1)
theorem r98_8 : RR 98 8 (.ref q :: l) st μ Q ↔ RR 98 9 (.ref q :: l) (.ref q :: st) μ Q := rw_go p98_8 rfl
theorem r98_9 : RR 98 9 L (.ref q :: st) (S, b, M, D, F) Q ↔ S[q]? = some (.inl 1) ∧ RR 98 12 L (va_rf (F q 1) :: st) (S, b, M, D, F) Q := rw_c p98_9 rfl
theorem r98_12 : RR 98 12 (a0 :: .int x :: l) st μ Q ↔ RR 98 13 (a0 :: .int x :: l) (.int x :: st) μ Q := rw_go p98_12 rfl
theorem r98_13 : RR 98 13 L (.int x1 :: .ref q :: st) (S, (0, 0, sl), M, D, F) Q ↔ (am_cat st ≤ 8 ∧ 2 = 2 ∧ S[q]? = some (.inl 0)) ∧ RR 85 0 [.ref q, .int x1] [] (S, (0, 0, sl), M, D, F) (fun rv μ' => μ'.1.length = S.length ∧ RR 98 16 L (rv.toList ++ st) (μ'.1, (0, 0, sl), μ'.2.2) Q) := rw_call p98_13 rfl (ac85 q x1)
theorem r98_16 : RR 98 16 L st μ Q ↔ RR 98 17 L (.int ((-1)) :: st) μ Q := rw_go p98_16 rfl
theorem r98_17 : RR 98 17 L (.int y :: .int x :: st) μ Q ↔ RR 98 18 L (.int (x ^^^ y) :: st) μ Q := rw_go p98_17 rfl
theorem r98_18 : RR 98 18 L (.int y :: .int x :: st) μ Q ↔ RR 98 19 L (.int (x &&& y) :: st) μ Q := rw_go p98_18 rfl
theorem r98_19 : RR 98 19 (a0 :: a1 :: c0 :: l) (.int x :: st) μ Q ↔ RR 98 20 (a0 :: am_nd a1 :: .int x :: l) st μ Q := rw_istn p98_19 (by show 2 < _; simp only [List.length_cons]; omega)
theorem r98_20 : RR 98 20 (.ref q :: l) st μ Q ↔ RR 98 21 (.ref q :: l) (.ref q :: st) μ Q := rw_go p98_20 rfl
theorem r98_21 : RR 98 21 L (.ref q :: st) (S, b, M, D, F) Q ↔ S[q]? = some (.inl 1) ∧ RR 98 24 L (va_rf (F q 1) :: st) (S, b, M, D, F) Q := rw_c p98_21 rfl
theorem r98_24 : RR 98 24 (a0 :: .int x :: l) st μ Q ↔ RR 98 25 (a0 :: .int x :: l) (.int x :: st) μ Q := rw_go p98_24 rfl
theorem r98_25 : RR 98 25 L (.int x1 :: .ref q :: st) (S, (0, 0, sl), M, D, F) Q ↔ (am_cat st ≤ 8 ∧ 2 = 2 ∧ S[q]? = some (.inl 0)) ∧ RR 85 0 [.ref q, .int x1] [] (S, (0, 0, sl), M, D, F) (fun rv μ' => μ'.1.length = S.length ∧ RR 98 28 L (rv.toList ++ st) (μ'.1, (0, 0, sl), μ'.2.2) Q) := rw_call p98_25 rfl (ac85 q x1)
theorem r98_28 : RR 98 28 (.ref q :: l) st μ Q ↔ RR 98 29 (.ref q :: l) (.ref q :: st) μ Q := rw_go p98_28 rfl
theorem r98_29 : RR 98 29 L (.ref q :: st) (S, b, M, D, F) Q ↔ S[q]? = some (.inl 1) ∧ RR 98 32 L (va_rf (F q 0) :: st) (S, b, M, D, F) Q := rw_c p98_29 rfl
theorem r98_32 : RR 98 32 (a0 :: .int x :: l) st μ Q ↔ RR 98 33 (a0 :: .int x :: l) (.int x :: st) μ Q := rw_go p98_32 rfl
theorem r98_33 : RR 98 33 L (.int x1 :: .ref q :: st) (S, (0, 0, sl), M, D, F) Q ↔ (am_cat st ≤ 8 ∧ 2 = 2 ∧ S[q]? = some (.inl 0)) ∧ RR 85 0 [.ref q, .int x1] [] (S, (0, 0, sl), M, D, F) (fun rv μ' => μ'.1.length = S.length ∧ RR 98 36 L (rv.toList ++ st) (μ'.1, (0, 0, sl), μ'.2.2) Q) := rw_call p98_33 rfl (ac85 q x1)
theorem r98_36 : RR 98 36 L st μ Q ↔ RR 98 37 L (.int ((-1)) :: st) μ Q := rw_go p98_36 rfl
theorem r98_37 : RR 98 37 L (.int y :: .int x :: st) μ Q ↔ RR 98 38 L (.int (x ^^^ y) :: st) μ Q := rw_go p98_37 rfl
theorem r98_38 : RR 98 38 L (.int y :: .int x :: st) μ Q ↔ RR 98 39 L (.int (x &&& y) :: st) μ Q := rw_go p98_38 rfl
theorem r98_39 : RR 98 39 (a0 :: a1 :: a2 :: c0 :: l) (.int x :: st) μ Q ↔ RR 98 40 (a0 :: a1 :: am_nd a2 :: .int x :: l) st μ Q := rw_istn p98_39 (by show 3 < _; simp only [List.length_cons]; omega)
theorem r98_40 : RR 98 40 (.ref q :: l) st μ Q ↔ RR 98 41 (.ref q :: l) (.ref q :: st) μ Q := rw_go p98_40 rfl
theorem r98_41 : RR 98 41 (.ref q :: l) st μ Q ↔ RR 98 42 (.ref q :: l) (.ref q :: st) μ Q := rw_go p98_41 rfl
theorem r98_42 : RR 98 42 L (.ref q :: st) (S, b, M, D, F) Q ↔ S[q]? = some (.inl 1) ∧ RR 98 45 L (va_rf (F q 0) :: st) (S, b, M, D, F) Q := rw_c p98_42 rfl
theorem r98_45 : RR 98 45 (a0 :: .int x :: l) st μ Q ↔ RR 98 46 (a0 :: .int x :: l) (.int x :: st) μ Q := rw_go p98_45 rfl
theorem r98_46 : RR 98 46 L (.int x1 :: .ref q :: st) (S, (0, 0, sl), M, D, F) Q ↔ (am_cat st ≤ 8 ∧ 2 = 2 ∧ S[q]? = some (.inl 0)) ∧ RR 84 0 [.ref q, .int x1] [] (S, (0, 0, sl), M, D, F) (fun rv μ' => μ'.1.length = S.length ∧ RR 98 49 L (rv.toList ++ st) (μ'.1, (0, 0, sl), μ'.2.2) Q) := rw_call p98_46 rfl (ac84 q x1)
theorem r98_49 : RR 98 49 (.ref q :: l) st μ Q ↔ RR 98 50 (.ref q :: l) (.ref q :: st) μ Q := rw_go p98_49 rfl
theorem r98_50 : RR 98 50 L (.ref q :: st) (S, b, M, D, F) Q ↔ S[q]? = some (.inl 1) ∧ RR 98 53 L (va_rf (F q 1) :: st) (S, b, M, D, F) Q := rw_c p98_50 rfl
theorem r98_53 : RR 98 53 (a0 :: .int x :: l) st μ Q ↔ RR 98 54 (a0 :: .int x :: l) (.int x :: st) μ Q := rw_go p98_53 rfl
theorem r98_54 : RR 98 54 L (.int x1 :: .ref q :: st) (S, (0, 0, sl), M, D, F) Q ↔ (am_cat st ≤ 8 ∧ 2 = 2 ∧ S[q]? = some (.inl 0)) ∧ RR 84 0 [.ref q, .int x1] [] (S, (0, 0, sl), M, D, F) (fun rv μ' => μ'.1.length = S.length ∧ RR 98 57 L (rv.toList ++ st) (μ'.1, (0, 0, sl), μ'.2.2) Q) := rw_call p98_54 rfl (ac84 q x1)
theorem r98_57 : RR 98 57 L (.int y :: .int x :: st) μ Q ↔ if x = y then RR 98 64 L st μ Q else RR 98 60 L st μ Q := rw_if p98_57 rfl
theorem r98_60 : RR 98 60 L st μ Q ↔ RR 98 61 L (.int (nI 1) :: st) μ Q := rw_go p98_60 rfl
theorem r98_61 : RR 98 61 L st μ Q ↔ RR 98 65 L st μ Q := rw_go p98_61 rfl
theorem r98_64 : RR 98 64 L st μ Q ↔ RR 98 65 L (.int (nI 0) :: st) μ Q := rw_go p98_64 rfl
theorem r98_65 : RR 98 65 L st μ Q ↔ RR 98 66 L (.int (nI 4) :: st) μ Q := rw_go p98_65 rfl
theorem r98_66 : RR 98 66 (a0 :: .int x :: l) st μ Q ↔ RR 98 67 (a0 :: .int x :: l) (.int x :: st) μ Q := rw_go p98_66 rfl
theorem r98_67 : RR 98 67 L st μ Q ↔ RR 98 68 L (.int ((-1)) :: st) μ Q := rw_go p98_67 rfl
theorem r98_68 : RR 98 68 L (.int x4 :: .int x3 :: .int x2 :: .int x1 :: .ref q :: st) (S, (0, 0, sl), M, D, F) Q ↔ (am_cat st ≤ 8 ∧ 5 = 5 ∧ S[q]? = some (.inl 1)) ∧ RR 104 0 [.ref q, .int x1, .int x2, .int x3, .int x4] [] (S, (0, 0, sl), M, D, F) (fun rv μ' => μ'.1.length = S.length ∧ RR 98 71 L (rv.toList ++ st) (μ'.1, (0, 0, sl), μ'.2.2) Q) := rw_call p98_68 rfl (ac104 q x1 x2 x3 x4)
theorem r98_71 : RR 98 71 (.ref q :: l) st μ Q ↔ RR 98 72 (.ref q :: l) (.ref q :: st) μ Q := rw_go p98_71 rfl
theorem r98_72 : RR 98 72 (a0 :: a1 :: .int x :: l) st μ Q ↔ RR 98 73 (a0 :: a1 :: .int x :: l) (.int x :: st) μ Q := rw_go p98_72 rfl
theorem r98_73 : RR 98 73 (a0 :: a1 :: a2 :: .int x :: l) st μ Q ↔ RR 98 74 (a0 :: a1 :: a2 :: .int x :: l) (.int x :: st) μ Q := rw_go p98_73 rfl
theorem r98_74 : RR 98 74 L (.int y :: .int x :: st) μ Q ↔ RR 98 75 L (.int (x ||| y) :: st) μ Q := rw_go p98_74 rfl
theorem r98_75 : RR 98 75 L st μ Q ↔ RR 98 76 L (.int (nI 2) :: st) μ Q := rw_go p98_75 rfl
theorem r98_76 : RR 98 76 L (.int y :: .int x :: st) μ Q ↔ RR 98 77 L (.int (x &&& y) :: st) μ Q := rw_go p98_76 rfl
theorem r98_77 : RR 98 77 L (.int x :: st) μ Q ↔ if x = 0 then RR 98 84 L st μ Q else RR 98 80 L st μ Q := rw_if p98_77 rfl
theorem r98_80 : RR 98 80 L st μ Q ↔ RR 98 81 L (.int (nI 1) :: st) μ Q := rw_go p98_80 rfl
theorem r98_81 : RR 98 81 L st μ Q ↔ RR 98 85 L st μ Q := rw_go p98_81 rfl
theorem r98_84 : RR 98 84 L st μ Q ↔ RR 98 85 L (.int (nI 0) :: st) μ Q := rw_go p98_84 rfl
theorem r98_85 : RR 98 85 L st μ Q ↔ RR 98 86 L (.int (nI 5) :: st) μ Q := rw_go p98_85 rfl
theorem r98_86 : RR 98 86 (a0 :: .int x :: l) st μ Q ↔ RR 98 87 (a0 :: .int x :: l) (.int x :: st) μ Q := rw_go p98_86 rfl
theorem r98_87 : RR 98 87 L st μ Q ↔ RR 98 88 L (.int ((-1)) :: st) μ Q := rw_go p98_87 rfl
theorem r98_88 : RR 98 88 L (.int x4 :: .int x3 :: .int x2 :: .int x1 :: .ref q :: st) (S, (0, 0, sl), M, D, F) Q ↔ (am_cat st ≤ 8 ∧ 5 = 5 ∧ S[q]? = some (.inl 1)) ∧ RR 104 0 [.ref q, .int x1, .int x2, .int x3, .int x4] [] (S, (0, 0, sl), M, D, F) (fun rv μ' => μ'.1.length = S.length ∧ RR 98 91 L (rv.toList ++ st) (μ'.1, (0, 0, sl), μ'.2.2) Q) := rw_call p98_88 rfl (ac104 q x1 x2 x3 x4)
theorem r98_91 : RR 98 91 (.ref q :: l) st μ Q ↔ RR 98 92 (.ref q :: l) (.ref q :: st) μ Q := rw_go p98_91 rfl
theorem r98_92 : RR 98 92 (a0 :: a1 :: a2 :: .int x :: l) st μ Q ↔ RR 98 93 (a0 :: a1 :: a2 :: .int x :: l) (.int x :: st) μ Q := rw_go p98_92 rfl
theorem r98_93 : RR 98 93 L st μ Q ↔ RR 98 94 L (.int (nI 4) :: st) μ Q := rw_go p98_93 rfl
theorem r98_94 : RR 98 94 L (.int y :: .int x :: st) μ Q ↔ RR 98 95 L (.int (x &&& y) :: st) μ Q := rw_go p98_94 rfl
theorem r98_95 : RR 98 95 L (.int x :: st) μ Q ↔ if x = 0 then RR 98 102 L st μ Q else RR 98 98 L st μ Q := rw_if p98_95 rfl
theorem r98_98 : RR 98 98 L st μ Q ↔ RR 98 99 L (.int (nI 1) :: st) μ Q := rw_go p98_98 rfl
theorem r98_99 : RR 98 99 L st μ Q ↔ RR 98 103 L st μ Q := rw_go p98_99 rfl
theorem r98_102 : RR 98 102 L st μ Q ↔ RR 98 103 L (.int (nI 0) :: st) μ Q := rw_go p98_102 rfl
theorem r98_103 : RR 98 103 L st μ Q ↔ RR 98 105 L (.int (nI 6) :: st) μ Q := rw_go p98_103 rfl
theorem r98_105 : RR 98 105 (a0 :: .int x :: l) st μ Q ↔ RR 98 106 (a0 :: .int x :: l) (.int x :: st) μ Q := rw_go p98_105 rfl
theorem r98_106 : RR 98 106 L st μ Q ↔ RR 98 107 L (.int ((-1)) :: st) μ Q := rw_go p98_106 rfl
theorem r98_107 : RR 98 107 L (.int x4 :: .int x3 :: .int x2 :: .int x1 :: .ref q :: st) (S, (0, 0, sl), M, D, F) Q ↔ (am_cat st ≤ 8 ∧ 5 = 5 ∧ S[q]? = some (.inl 1)) ∧ RR 104 0 [.ref q, .int x1, .int x2, .int x3, .int x4] [] (S, (0, 0, sl), M, D, F) (fun rv μ' => μ'.1.length = S.length ∧ RR 98 110 L (rv.toList ++ st) (μ'.1, (0, 0, sl), μ'.2.2) Q) := rw_call p98_107 rfl (ac104 q x1 x2 x3 x4)
theorem r98_110 : RR 98 110 (.ref q :: l) st μ Q ↔ RR 98 111 (.ref q :: l) (.ref q :: st) μ Q := rw_go p98_110 rfl
theorem r98_111 : RR 98 111 (a0 :: a1 :: .int x :: l) st μ Q ↔ RR 98 112 (a0 :: a1 :: .int x :: l) (.int x :: st) μ Q := rw_go p98_111 rfl
theorem r98_112 : RR 98 112 L st μ Q ↔ RR 98 113 L (.int (nI 4) :: st) μ Q := rw_go p98_112 rfl
theorem r98_113 : RR 98 113 L (.int y :: .int x :: st) μ Q ↔ RR 98 114 L (.int (x &&& y) :: st) μ Q := rw_go p98_113 rfl
theorem r98_114 : RR 98 114 L (.int x :: st) μ Q ↔ if x = 0 then RR 98 121 L st μ Q else RR 98 117 L st μ Q := rw_if p98_114 rfl
theorem r98_117 : RR 98 117 L st μ Q ↔ RR 98 118 L (.int (nI 1) :: st) μ Q := rw_go p98_117 rfl
theorem r98_118 : RR 98 118 L st μ Q ↔ RR 98 122 L st μ Q := rw_go p98_118 rfl
theorem r98_121 : RR 98 121 L st μ Q ↔ RR 98 122 L (.int (nI 0) :: st) μ Q := rw_go p98_121 rfl
theorem r98_122 : RR 98 122 L st μ Q ↔ RR 98 124 L (.int (nI 7) :: st) μ Q := rw_go p98_122 rfl
theorem r98_124 : RR 98 124 (a0 :: .int x :: l) st μ Q ↔ RR 98 125 (a0 :: .int x :: l) (.int x :: st) μ Q := rw_go p98_124 rfl
theorem r98_125 : RR 98 125 L st μ Q ↔ RR 98 126 L (.int ((-1)) :: st) μ Q := rw_go p98_125 rfl
theorem r98_126 : RR 98 126 L (.int x4 :: .int x3 :: .int x2 :: .int x1 :: .ref q :: st) (S, (0, 0, sl), M, D, F) Q ↔ (am_cat st ≤ 8 ∧ 5 = 5 ∧ S[q]? = some (.inl 1)) ∧ RR 104 0 [.ref q, .int x1, .int x2, .int x3, .int x4] [] (S, (0, 0, sl), M, D, F) (fun rv μ' => μ'.1.length = S.length ∧ RR 98 129 L (rv.toList ++ st) (μ'.1, (0, 0, sl), μ'.2.2) Q) := rw_call p98_126 rfl (ac104 q x1 x2 x3 x4)
theorem r98_129 : RR 98 129 (.ref q :: l) st μ Q ↔ RR 98 130 (.ref q :: l) (.ref q :: st) μ Q := rw_go p98_129 rfl
theorem r98_130 : RR 98 130 (a0 :: a1 :: a2 :: .int x :: l) st μ Q ↔ RR 98 131 (a0 :: a1 :: a2 :: .int x :: l) (.int x :: st) μ Q := rw_go p98_130 rfl
theorem r98_131 : RR 98 131 L st μ Q ↔ RR 98 133 L (.int (nI 8) :: st) μ Q := rw_go p98_131 rfl
theorem r98_133 : RR 98 133 L (.int y :: .int x :: st) μ Q ↔ RR 98 134 L (.int (x &&& y) :: st) μ Q := rw_go p98_133 rfl
theorem r98_134 : RR 98 134 L (.int x :: st) μ Q ↔ if x = 0 then RR 98 141 L st μ Q else RR 98 137 L st μ Q := rw_if p98_134 rfl
theorem r98_137 : RR 98 137 L st μ Q ↔ RR 98 138 L (.int (nI 1) :: st) μ Q := rw_go p98_137 rfl
theorem r98_138 : RR 98 138 L st μ Q ↔ RR 98 142 L st μ Q := rw_go p98_138 rfl
theorem r98_141 : RR 98 141 L st μ Q ↔ RR 98 142 L (.int (nI 0) :: st) μ Q := rw_go p98_141 rfl
theorem r98_142 : RR 98 142 L st μ Q ↔ RR 98 144 L (.int (nI 8) :: st) μ Q := rw_go p98_142 rfl
theorem r98_144 : RR 98 144 (a0 :: .int x :: l) st μ Q ↔ RR 98 145 (a0 :: .int x :: l) (.int x :: st) μ Q := rw_go p98_144 rfl
theorem r98_145 : RR 98 145 L st μ Q ↔ RR 98 146 L (.int ((-1)) :: st) μ Q := rw_go p98_145 rfl
theorem r98_146 : RR 98 146 L (.int x4 :: .int x3 :: .int x2 :: .int x1 :: .ref q :: st) (S, (0, 0, sl), M, D, F) Q ↔ (am_cat st ≤ 8 ∧ 5 = 5 ∧ S[q]? = some (.inl 1)) ∧ RR 104 0 [.ref q, .int x1, .int x2, .int x3, .int x4] [] (S, (0, 0, sl), M, D, F) (fun rv μ' => μ'.1.length = S.length ∧ RR 98 149 L (rv.toList ++ st) (μ'.1, (0, 0, sl), μ'.2.2) Q) := rw_call p98_146 rfl (ac104 q x1 x2 x3 x4)
theorem r98_149 : RR 98 149 (.ref q :: l) st μ Q ↔ RR 98 150 (.ref q :: l) (.ref q :: st) μ Q := rw_go p98_149 rfl
theorem r98_150 : RR 98 150 (a0 :: a1 :: .int x :: l) st μ Q ↔ RR 98 151 (a0 :: a1 :: .int x :: l) (.int x :: st) μ Q := rw_go p98_150 rfl
theorem r98_151 : RR 98 151 L st μ Q ↔ RR 98 153 L (.int (nI 8) :: st) μ Q := rw_go p98_151 rfl
theorem r98_153 : RR 98 153 L (.int y :: .int x :: st) μ Q ↔ RR 98 154 L (.int (x &&& y) :: st) μ Q := rw_go p98_153 rfl
theorem r98_154 : RR 98 154 L (.int x :: st) μ Q ↔ if x = 0 then RR 98 161 L st μ Q else RR 98 157 L st μ Q := rw_if p98_154 rfl
theorem r98_157 : RR 98 157 L st μ Q ↔ RR 98 158 L (.int (nI 1) :: st) μ Q := rw_go p98_157 rfl
theorem r98_158 : RR 98 158 L st μ Q ↔ RR 98 162 L st μ Q := rw_go p98_158 rfl
theorem r98_161 : RR 98 161 L st μ Q ↔ RR 98 162 L (.int (nI 0) :: st) μ Q := rw_go p98_161 rfl
theorem r98_162 : RR 98 162 L st μ Q ↔ RR 98 164 L (.int (nI 9) :: st) μ Q := rw_go p98_162 rfl
theorem r98_164 : RR 98 164 (a0 :: .int x :: l) st μ Q ↔ RR 98 165 (a0 :: .int x :: l) (.int x :: st) μ Q := rw_go p98_164 rfl
theorem r98_165 : RR 98 165 L st μ Q ↔ RR 98 166 L (.int ((-1)) :: st) μ Q := rw_go p98_165 rfl
theorem r98_166 : RR 98 166 L (.int x4 :: .int x3 :: .int x2 :: .int x1 :: .ref q :: st) (S, (0, 0, sl), M, D, F) Q ↔ (am_cat st ≤ 8 ∧ 5 = 5 ∧ S[q]? = some (.inl 1)) ∧ RR 104 0 [.ref q, .int x1, .int x2, .int x3, .int x4] [] (S, (0, 0, sl), M, D, F) (fun rv μ' => μ'.1.length = S.length ∧ RR 98 169 L (rv.toList ++ st) (μ'.1, (0, 0, sl), μ'.2.2) Q) := rw_call p98_166 rfl (ac104 q x1 x2 x3 x4)
theorem r98_169 : RR 98 169 (.ref q :: l) st μ Q ↔ RR 98 170 (.ref q :: l) (.ref q :: st) μ Q := rw_go p98_169 rfl
theorem r98_170 : RR 98 170 (.ref q :: l) st μ Q ↔ RR 98 171 (.ref q :: l) (.ref q :: st) μ Q := rw_go p98_170 rfl
theorem r98_171 : RR 98 171 L (.ref q :: st) (S, b, M, D, F) Q ↔ S[q]? = some (.inl 1) ∧ RR 98 174 L (va_rf (F q 0) :: st) (S, b, M, D, F) Q := rw_c p98_171 rfl
theorem r98_174 : RR 98 174 (a0 :: .int x :: l) st μ Q ↔ RR 98 175 (a0 :: .int x :: l) (.int x :: st) μ Q := rw_go p98_174 rfl
theorem r98_175 : RR 98 175 L (.int x1 :: .ref q :: st) (S, (0, 0, sl), M, D, F) Q ↔ (am_cat st ≤ 8 ∧ 2 = 2 ∧ S[q]? = some (.inl 0)) ∧ RR 87 0 [.ref q, .int x1, .long 0, .long 0] [] (S, (0, 0, sl), M, D, F) (fun rv μ' => μ'.1.length = S.length ∧ RR 98 178 L (rv.toList ++ st) (μ'.1, (0, 0, sl), μ'.2.2) Q) := rw_call p98_175 rfl (ac87 q x1)
theorem r98_178 : RR 98 178 (.ref q :: l) st μ Q ↔ RR 98 179 (.ref q :: l) (.ref q :: st) μ Q := rw_go p98_178 rfl
theorem r98_179 : RR 98 179 L (.ref q :: st) (S, b, M, D, F) Q ↔ S[q]? = some (.inl 1) ∧ RR 98 182 L (va_rf (F q 1) :: st) (S, b, M, D, F) Q := rw_c p98_179 rfl
theorem r98_182 : RR 98 182 (a0 :: .int x :: l) st μ Q ↔ RR 98 183 (a0 :: .int x :: l) (.int x :: st) μ Q := rw_go p98_182 rfl
theorem r98_183 : RR 98 183 L (.int x1 :: .ref q :: st) (S, (0, 0, sl), M, D, F) Q ↔ (am_cat st ≤ 8 ∧ 2 = 2 ∧ S[q]? = some (.inl 0)) ∧ RR 86 0 [.ref q, .int x1, .long 0, .long 0, .long 0] [] (S, (0, 0, sl), M, D, F) (fun rv μ' => μ'.1.length = S.length ∧ RR 98 186 L (rv.toList ++ st) (μ'.1, (0, 0, sl), μ'.2.2) Q) := rw_call p98_183 rfl (ac86 q x1)
theorem r98_186 : RR 98 186 L st μ Q ↔ RR 98 187 L (.int ((-1)) :: st) μ Q := rw_go p98_186 rfl
theorem r98_187 : RR 98 187 L (.int y :: .int x :: st) μ Q ↔ RR 98 188 L (.int (x ^^^ y) :: st) μ Q := rw_go p98_187 rfl
theorem r98_188 : RR 98 188 L (.int y :: .int x :: st) μ Q ↔ RR 98 189 L (.int (x &&& y) :: st) μ Q := rw_go p98_188 rfl
theorem r98_189 : RR 98 189 L (.int x :: st) μ Q ↔ if x = 0 then RR 98 196 L st μ Q else RR 98 192 L st μ Q := rw_if p98_189 rfl
theorem r98_192 : RR 98 192 L st μ Q ↔ RR 98 193 L (.int (nI 1) :: st) μ Q := rw_go p98_192 rfl
theorem r98_193 : RR 98 193 L st μ Q ↔ RR 98 197 L st μ Q := rw_go p98_193 rfl
theorem r98_196 : RR 98 196 L st μ Q ↔ RR 98 197 L (.int (nI 0) :: st) μ Q := rw_go p98_196 rfl
theorem r98_197 : RR 98 197 L st μ Q ↔ RR 98 199 L (.int (nI 10) :: st) μ Q := rw_go p98_197 rfl
theorem r98_199 : RR 98 199 (a0 :: .int x :: l) st μ Q ↔ RR 98 200 (a0 :: .int x :: l) (.int x :: st) μ Q := rw_go p98_199 rfl
theorem r98_200 : RR 98 200 L st μ Q ↔ RR 98 201 L (.int ((-1)) :: st) μ Q := rw_go p98_200 rfl
theorem r98_201 : RR 98 201 L (.int x4 :: .int x3 :: .int x2 :: .int x1 :: .ref q :: st) (S, (0, 0, sl), M, D, F) Q ↔ (am_cat st ≤ 8 ∧ 5 = 5 ∧ S[q]? = some (.inl 1)) ∧ RR 104 0 [.ref q, .int x1, .int x2, .int x3, .int x4] [] (S, (0, 0, sl), M, D, F) (fun rv μ' => μ'.1.length = S.length ∧ RR 98 204 L (rv.toList ++ st) (μ'.1, (0, 0, sl), μ'.2.2) Q) := rw_call p98_201 rfl (ac104 q x1 x2 x3 x4)
theorem r98_204 : RR 98 204 (.ref q :: l) st μ Q ↔ RR 98 205 (.ref q :: l) (.ref q :: st) μ Q := rw_go p98_204 rfl
theorem r98_205 : RR 98 205 (.ref q :: l) st μ Q ↔ RR 98 206 (.ref q :: l) (.ref q :: st) μ Q := rw_go p98_205 rfl
theorem r98_206 : RR 98 206 L (.ref q :: st) (S, b, M, D, F) Q ↔ S[q]? = some (.inl 1) ∧ RR 98 209 L (va_rf (F q 1) :: st) (S, b, M, D, F) Q := rw_c p98_206 rfl
theorem r98_209 : RR 98 209 (a0 :: .int x :: l) st μ Q ↔ RR 98 210 (a0 :: .int x :: l) (.int x :: st) μ Q := rw_go p98_209 rfl
theorem r98_210 : RR 98 210 L (.int x1 :: .ref q :: st) (S, (0, 0, sl), M, D, F) Q ↔ (am_cat st ≤ 8 ∧ 2 = 2 ∧ S[q]? = some (.inl 0)) ∧ RR 87 0 [.ref q, .int x1, .long 0, .long 0] [] (S, (0, 0, sl), M, D, F) (fun rv μ' => μ'.1.length = S.length ∧ RR 98 213 L (rv.toList ++ st) (μ'.1, (0, 0, sl), μ'.2.2) Q) := rw_call p98_210 rfl (ac87 q x1)
theorem r98_213 : RR 98 213 (.ref q :: l) st μ Q ↔ RR 98 214 (.ref q :: l) (.ref q :: st) μ Q := rw_go p98_213 rfl
theorem r98_214 : RR 98 214 L (.ref q :: st) (S, b, M, D, F) Q ↔ S[q]? = some (.inl 1) ∧ RR 98 217 L (va_rf (F q 0) :: st) (S, b, M, D, F) Q := rw_c p98_214 rfl
theorem r98_217 : RR 98 217 (a0 :: .int x :: l) st μ Q ↔ RR 98 218 (a0 :: .int x :: l) (.int x :: st) μ Q := rw_go p98_217 rfl
theorem r98_218 : RR 98 218 L (.int x1 :: .ref q :: st) (S, (0, 0, sl), M, D, F) Q ↔ (am_cat st ≤ 8 ∧ 2 = 2 ∧ S[q]? = some (.inl 0)) ∧ RR 86 0 [.ref q, .int x1, .long 0, .long 0, .long 0] [] (S, (0, 0, sl), M, D, F) (fun rv μ' => μ'.1.length = S.length ∧ RR 98 221 L (rv.toList ++ st) (μ'.1, (0, 0, sl), μ'.2.2) Q) := rw_call p98_218 rfl (ac86 q x1)
theorem r98_221 : RR 98 221 L st μ Q ↔ RR 98 222 L (.int ((-1)) :: st) μ Q := rw_go p98_221 rfl
theorem r98_222 : RR 98 222 L (.int y :: .int x :: st) μ Q ↔ RR 98 223 L (.int (x ^^^ y) :: st) μ Q := rw_go p98_222 rfl
theorem r98_223 : RR 98 223 L (.int y :: .int x :: st) μ Q ↔ RR 98 224 L (.int (x &&& y) :: st) μ Q := rw_go p98_223 rfl
theorem r98_224 : RR 98 224 L (.int x :: st) μ Q ↔ if x = 0 then RR 98 231 L st μ Q else RR 98 227 L st μ Q := rw_if p98_224 rfl
theorem r98_227 : RR 98 227 L st μ Q ↔ RR 98 228 L (.int (nI 1) :: st) μ Q := rw_go p98_227 rfl
theorem r98_228 : RR 98 228 L st μ Q ↔ RR 98 232 L st μ Q := rw_go p98_228 rfl
theorem r98_231 : RR 98 231 L st μ Q ↔ RR 98 232 L (.int (nI 0) :: st) μ Q := rw_go p98_231 rfl
theorem r98_232 : RR 98 232 L st μ Q ↔ RR 98 234 L (.int (nI 11) :: st) μ Q := rw_go p98_232 rfl
theorem r98_234 : RR 98 234 (a0 :: .int x :: l) st μ Q ↔ RR 98 235 (a0 :: .int x :: l) (.int x :: st) μ Q := rw_go p98_234 rfl
theorem r98_235 : RR 98 235 L st μ Q ↔ RR 98 236 L (.int ((-1)) :: st) μ Q := rw_go p98_235 rfl
theorem r98_236 : RR 98 236 L (.int x4 :: .int x3 :: .int x2 :: .int x1 :: .ref q :: st) (S, (0, 0, sl), M, D, F) Q ↔ (am_cat st ≤ 8 ∧ 5 = 5 ∧ S[q]? = some (.inl 1)) ∧ RR 104 0 [.ref q, .int x1, .int x2, .int x3, .int x4] [] (S, (0, 0, sl), M, D, F) (fun rv μ' => μ'.1.length = S.length ∧ RR 98 239 L (rv.toList ++ st) (μ'.1, (0, 0, sl), μ'.2.2) Q) := rw_call p98_236 rfl (ac104 q x1 x2 x3 x4)
theorem r98_239 : RR 98 239 L [] μ Q ↔ Q none μ := rw_r p98_239 rfl
/-! ReleaseDesk$Comparison.compareMember -/
theorem r99_0 : RR 99 0 (.ref q :: l) st μ Q ↔ RR 99 1 (.ref q :: l) (.ref q :: st) μ Q := rw_go p99_0 rfl
theorem r99_1 : RR 99 1 L (.ref q :: st) (S, b, M, D, F) Q ↔ S[q]? = some (.inl 1) ∧ RR 99 4 L (va_rf (F q 0) :: st) (S, b, M, D, F) Q := rw_c p99_1 rfl
theorem r99_4 : RR 99 4 (a0 :: .int x :: l) st μ Q ↔ RR 99 5 (a0 :: .int x :: l) (.int x :: st) μ Q := rw_go p99_4 rfl
theorem r99_5 : RR 99 5 (a0 :: a1 :: .int x :: l) st μ Q ↔ RR 99 6 (a0 :: a1 :: .int x :: l) (.int x :: st) μ Q := rw_go p99_5 rfl
theorem r99_6 : RR 99 6 L (.int x2 :: .int x1 :: .ref q :: st) (S, (0, 0, sl), M, D, F) Q ↔ (am_cat st ≤ 8 ∧ 3 = 3 ∧ S[q]? = some (.inl 0)) ∧ RR 89 0 [.ref q, .int x1, .int x2, .long 0] [] (S, (0, 0, sl), M, D, F) (fun rv μ' => μ'.1.length = S.length ∧ RR 99 9 L (rv.toList ++ st) (μ'.1, (0, 0, sl), μ'.2.2) Q) := rw_call p99_6 rfl (ac89 q x1 x2)
theorem r99_9 : RR 99 9 (a0 :: a1 :: a2 :: c0 :: l) (.int x :: st) μ Q ↔ RR 99 10 (a0 :: a1 :: am_nd a2 :: .int x :: l) st μ Q := rw_istn p99_9 (by show 3 < _; simp only [List.length_cons]; omega)
theorem r99_10 : RR 99 10 (.ref q :: l) st μ Q ↔ RR 99 11 (.ref q :: l) (.ref q :: st) μ Q := rw_go p99_10 rfl
theorem r99_11 : RR 99 11 L (.ref q :: st) (S, b, M, D, F) Q ↔ S[q]? = some (.inl 1) ∧ RR 99 14 L (va_rf (F q 1) :: st) (S, b, M, D, F) Q := rw_c p99_11 rfl
theorem r99_14 : RR 99 14 (a0 :: .int x :: l) st μ Q ↔ RR 99 15 (a0 :: .int x :: l) (.int x :: st) μ Q := rw_go p99_14 rfl
theorem r99_15 : RR 99 15 (a0 :: a1 :: .int x :: l) st μ Q ↔ RR 99 16 (a0 :: a1 :: .int x :: l) (.int x :: st) μ Q := rw_go p99_15 rfl
theorem r99_16 : RR 99 16 L (.int x2 :: .int x1 :: .ref q :: st) (S, (0, 0, sl), M, D, F) Q ↔ (am_cat st ≤ 8 ∧ 3 = 3 ∧ S[q]? = some (.inl 0)) ∧ RR 89 0 [.ref q, .int x1, .int x2, .long 0] [] (S, (0, 0, sl), M, D, F) (fun rv μ' => μ'.1.length = S.length ∧ RR 99 19 L (rv.toList ++ st) (μ'.1, (0, 0, sl), μ'.2.2) Q) := rw_call p99_16 rfl (ac89 q x1 x2)
theorem r99_19 : RR 99 19 (a0 :: a1 :: a2 :: a3 :: c0 :: l) (.int x :: st) μ Q ↔ RR 99 21 (a0 :: a1 :: a2 :: am_nd a3 :: .int x :: l) st μ Q := rw_ist p99_19 (by show 4 < _; simp only [List.length_cons]; omega)
theorem r99_21 : RR 99 21 (a0 :: a1 :: a2 :: .int x :: l) st μ Q ↔ RR 99 22 (a0 :: a1 :: a2 :: .int x :: l) (.int x :: st) μ Q := rw_go p99_21 rfl
theorem r99_22 : RR 99 22 L (.int x :: st) μ Q ↔ if x = 0 then RR 99 39 L st μ Q else RR 99 25 L st μ Q := rw_if p99_22 rfl
theorem r99_25 : RR 99 25 (a0 :: a1 :: a2 :: a3 :: .int x :: l) st μ Q ↔ RR 99 27 (a0 :: a1 :: a2 :: a3 :: .int x :: l) (.int x :: st) μ Q := rw_go p99_25 rfl
theorem r99_27 : RR 99 27 L (.int x :: st) μ Q ↔ if x = 0 then RR 99 39 L st μ Q else RR 99 30 L st μ Q := rw_if p99_27 rfl
theorem r99_30 : RR 99 30 (.ref q :: l) st μ Q ↔ RR 99 31 (.ref q :: l) (.ref q :: st) μ Q := rw_go p99_30 rfl
theorem r99_31 : RR 99 31 (a0 :: .int x :: l) st μ Q ↔ RR 99 32 (a0 :: .int x :: l) (.int x :: st) μ Q := rw_go p99_31 rfl
theorem r99_32 : RR 99 32 (a0 :: a1 :: .int x :: l) st μ Q ↔ RR 99 33 (a0 :: a1 :: .int x :: l) (.int x :: st) μ Q := rw_go p99_32 rfl
theorem r99_33 : RR 99 33 L (.int x2 :: .int x1 :: .ref q :: st) (S, (0, 0, sl), M, D, F) Q ↔ (am_cat st ≤ 8 ∧ 3 = 3 ∧ S[q]? = some (.inl 1)) ∧ RR 101 0 [.ref q, .int x1, .int x2, .long 0, .long 0, .long 0, .long 0, .long 0] [] (S, (0, 0, sl), M, D, F) (fun rv μ' => μ'.1.length = S.length ∧ RR 99 36 L (rv.toList ++ st) (μ'.1, (0, 0, sl), μ'.2.2) Q) := rw_call p99_33 rfl (ac101 q x1 x2)
theorem r99_36 : RR 99 36 L st μ Q ↔ RR 99 173 L st μ Q := rw_go p99_36 rfl
theorem r99_39 : RR 99 39 (a0 :: a1 :: a2 :: .int x :: l) st μ Q ↔ RR 99 40 (a0 :: a1 :: a2 :: .int x :: l) (.int x :: st) μ Q := rw_go p99_39 rfl
theorem r99_40 : RR 99 40 L (.int x :: st) μ Q ↔ if x = 0 then RR 99 121 L st μ Q else RR 99 43 L st μ Q := rw_if p99_40 rfl
theorem r99_43 : RR 99 43 (.ref q :: l) st μ Q ↔ RR 99 44 (.ref q :: l) (.ref q :: st) μ Q := rw_go p99_43 rfl
theorem r99_44 : RR 99 44 L (.ref q :: st) (S, b, M, D, F) Q ↔ S[q]? = some (.inl 1) ∧ RR 99 47 L (va_rf (F q 1) :: st) (S, b, M, D, F) Q := rw_c p99_44 rfl
theorem r99_47 : RR 99 47 (a0 :: .int x :: l) st μ Q ↔ RR 99 48 (a0 :: .int x :: l) (.int x :: st) μ Q := rw_go p99_47 rfl
theorem r99_48 : RR 99 48 (a0 :: a1 :: .int x :: l) st μ Q ↔ RR 99 49 (a0 :: a1 :: .int x :: l) (.int x :: st) μ Q := rw_go p99_48 rfl
theorem r99_49 : RR 99 49 L (.int x2 :: .int x1 :: .ref q :: st) (S, (0, 0, sl), M, D, F) Q ↔ (am_cat st ≤ 8 ∧ 3 = 3 ∧ S[q]? = some (.inl 0)) ∧ RR 88 0 [.ref q, .int x1, .int x2] [] (S, (0, 0, sl), M, D, F) (fun rv μ' => μ'.1.length = S.length ∧ RR 99 52 L (rv.toList ++ st) (μ'.1, (0, 0, sl), μ'.2.2) Q) := rw_call p99_49 rfl (ac88 q x1 x2)
theorem r99_52 : RR 99 52 (a0 :: a1 :: a2 :: a3 :: a4 :: c0 :: l) (.int x :: st) μ Q ↔ RR 99 54 (a0 :: a1 :: a2 :: a3 :: am_nd a4 :: .int x :: l) st μ Q := rw_ist p99_52 (by show 5 < _; simp only [List.length_cons]; omega)
theorem r99_54 : RR 99 54 (a0 :: a1 :: a2 :: a3 :: a4 :: .int x :: l) st μ Q ↔ RR 99 56 (a0 :: a1 :: a2 :: a3 :: a4 :: .int x :: l) (.int x :: st) μ Q := rw_go p99_54 rfl
theorem r99_56 : RR 99 56 L (.int x :: st) μ Q ↔ if ¬ x = 0 then RR 99 72 L st μ Q else RR 99 59 L st μ Q := rw_if p99_56 rfl
theorem r99_59 : RR 99 59 (.ref q :: l) st μ Q ↔ RR 99 60 (.ref q :: l) (.ref q :: st) μ Q := rw_go p99_59 rfl
theorem r99_60 : RR 99 60 (a0 :: .int x :: l) st μ Q ↔ RR 99 61 (a0 :: .int x :: l) (.int x :: st) μ Q := rw_go p99_60 rfl
theorem r99_61 : RR 99 61 (a0 :: a1 :: .int x :: l) st μ Q ↔ RR 99 62 (a0 :: a1 :: .int x :: l) (.int x :: st) μ Q := rw_go p99_61 rfl
theorem r99_62 : RR 99 62 L (.int x2 :: .int x1 :: .ref q :: st) (S, (0, 0, sl), M, D, F) Q ↔ (am_cat st ≤ 8 ∧ 3 = 3 ∧ S[q]? = some (.inl 1)) ∧ RR 100 0 [.ref q, .int x1, .int x2, .long 0, .long 0] [] (S, (0, 0, sl), M, D, F) (fun rv μ' => μ'.1.length = S.length ∧ RR 99 65 L (rv.toList ++ st) (μ'.1, (0, 0, sl), μ'.2.2) Q) := rw_call p99_62 rfl (ac100 q x1 x2)
theorem r99_65 : RR 99 65 L (.int x :: st) μ Q ↔ if x = 0 then RR 99 72 L st μ Q else RR 99 68 L st μ Q := rw_if p99_65 rfl
theorem r99_68 : RR 99 68 L st μ Q ↔ RR 99 69 L (.int (nI 1) :: st) μ Q := rw_go p99_68 rfl
theorem r99_69 : RR 99 69 L st μ Q ↔ RR 99 73 L st μ Q := rw_go p99_69 rfl
theorem r99_72 : RR 99 72 L st μ Q ↔ RR 99 73 L (.int (nI 0) :: st) μ Q := rw_go p99_72 rfl
theorem r99_73 : RR 99 73 (a0 :: a1 :: a2 :: a3 :: a4 :: a5 :: c0 :: l) (.int x :: st) μ Q ↔ RR 99 75 (a0 :: a1 :: a2 :: a3 :: a4 :: am_nd a5 :: .int x :: l) st μ Q := rw_ist p99_73 (by show 6 < _; simp only [List.length_cons]; omega)
theorem r99_75 : RR 99 75 (.ref q :: l) st μ Q ↔ RR 99 76 (.ref q :: l) (.ref q :: st) μ Q := rw_go p99_75 rfl
theorem r99_76 : RR 99 76 (a0 :: a1 :: a2 :: a3 :: a4 :: .int x :: l) st μ Q ↔ RR 99 78 (a0 :: a1 :: a2 :: a3 :: a4 :: .int x :: l) (.int x :: st) μ Q := rw_go p99_76 rfl
theorem r99_78 : RR 99 78 L (.int x :: st) μ Q ↔ if ¬ x = 0 then RR 99 90 L st μ Q else RR 99 81 L st μ Q := rw_if p99_78 rfl
theorem r99_81 : RR 99 81 (a0 :: a1 :: a2 :: a3 :: a4 :: a5 :: .int x :: l) st μ Q ↔ RR 99 83 (a0 :: a1 :: a2 :: a3 :: a4 :: a5 :: .int x :: l) (.int x :: st) μ Q := rw_go p99_81 rfl
theorem r99_83 : RR 99 83 L (.int x :: st) μ Q ↔ if ¬ x = 0 then RR 99 90 L st μ Q else RR 99 86 L st μ Q := rw_if p99_83 rfl
theorem r99_86 : RR 99 86 L st μ Q ↔ RR 99 87 L (.int (nI 1) :: st) μ Q := rw_go p99_86 rfl
theorem r99_87 : RR 99 87 L st μ Q ↔ RR 99 91 L st μ Q := rw_go p99_87 rfl
theorem r99_90 : RR 99 90 L st μ Q ↔ RR 99 91 L (.int (nI 0) :: st) μ Q := rw_go p99_90 rfl
theorem r99_91 : RR 99 91 L st μ Q ↔ RR 99 93 L (.int (nI 20) :: st) μ Q := rw_go p99_91 rfl
theorem r99_93 : RR 99 93 (a0 :: .int x :: l) st μ Q ↔ RR 99 94 (a0 :: .int x :: l) (.int x :: st) μ Q := rw_go p99_93 rfl
theorem r99_94 : RR 99 94 (a0 :: a1 :: .int x :: l) st μ Q ↔ RR 99 95 (a0 :: a1 :: .int x :: l) (.int x :: st) μ Q := rw_go p99_94 rfl
theorem r99_95 : RR 99 95 L (.int x4 :: .int x3 :: .int x2 :: .int x1 :: .ref q :: st) (S, (0, 0, sl), M, D, F) Q ↔ (am_cat st ≤ 8 ∧ 5 = 5 ∧ S[q]? = some (.inl 1)) ∧ RR 104 0 [.ref q, .int x1, .int x2, .int x3, .int x4] [] (S, (0, 0, sl), M, D, F) (fun rv μ' => μ'.1.length = S.length ∧ RR 99 98 L (rv.toList ++ st) (μ'.1, (0, 0, sl), μ'.2.2) Q) := rw_call p99_95 rfl (ac104 q x1 x2 x3 x4)
theorem r99_98 : RR 99 98 (.ref q :: l) st μ Q ↔ RR 99 99 (.ref q :: l) (.ref q :: st) μ Q := rw_go p99_98 rfl
theorem r99_99 : RR 99 99 (a0 :: a1 :: a2 :: a3 :: a4 :: a5 :: .int x :: l) st μ Q ↔ RR 99 101 (a0 :: a1 :: a2 :: a3 :: a4 :: a5 :: .int x :: l) (.int x :: st) μ Q := rw_go p99_99 rfl
theorem r99_101 : RR 99 101 L st μ Q ↔ RR 99 103 L (.int (nI 21) :: st) μ Q := rw_go p99_101 rfl
theorem r99_103 : RR 99 103 (a0 :: .int x :: l) st μ Q ↔ RR 99 104 (a0 :: .int x :: l) (.int x :: st) μ Q := rw_go p99_103 rfl
theorem r99_104 : RR 99 104 (a0 :: a1 :: .int x :: l) st μ Q ↔ RR 99 105 (a0 :: a1 :: .int x :: l) (.int x :: st) μ Q := rw_go p99_104 rfl
theorem r99_105 : RR 99 105 L (.int x4 :: .int x3 :: .int x2 :: .int x1 :: .ref q :: st) (S, (0, 0, sl), M, D, F) Q ↔ (am_cat st ≤ 8 ∧ 5 = 5 ∧ S[q]? = some (.inl 1)) ∧ RR 104 0 [.ref q, .int x1, .int x2, .int x3, .int x4] [] (S, (0, 0, sl), M, D, F) (fun rv μ' => μ'.1.length = S.length ∧ RR 99 108 L (rv.toList ++ st) (μ'.1, (0, 0, sl), μ'.2.2) Q) := rw_call p99_105 rfl (ac104 q x1 x2 x3 x4)
theorem r99_108 : RR 99 108 (.ref q :: l) st μ Q ↔ RR 99 109 (.ref q :: l) (.ref q :: st) μ Q := rw_go p99_108 rfl
theorem r99_109 : RR 99 109 (a0 :: a1 :: a2 :: a3 :: a4 :: .int x :: l) st μ Q ↔ RR 99 111 (a0 :: a1 :: a2 :: a3 :: a4 :: .int x :: l) (.int x :: st) μ Q := rw_go p99_109 rfl
theorem r99_111 : RR 99 111 L st μ Q ↔ RR 99 113 L (.int (nI 22) :: st) μ Q := rw_go p99_111 rfl
theorem r99_113 : RR 99 113 (a0 :: .int x :: l) st μ Q ↔ RR 99 114 (a0 :: .int x :: l) (.int x :: st) μ Q := rw_go p99_113 rfl
theorem r99_114 : RR 99 114 (a0 :: a1 :: .int x :: l) st μ Q ↔ RR 99 115 (a0 :: a1 :: .int x :: l) (.int x :: st) μ Q := rw_go p99_114 rfl
theorem r99_115 : RR 99 115 L (.int x4 :: .int x3 :: .int x2 :: .int x1 :: .ref q :: st) (S, (0, 0, sl), M, D, F) Q ↔ (am_cat st ≤ 8 ∧ 5 = 5 ∧ S[q]? = some (.inl 1)) ∧ RR 104 0 [.ref q, .int x1, .int x2, .int x3, .int x4] [] (S, (0, 0, sl), M, D, F) (fun rv μ' => μ'.1.length = S.length ∧ RR 99 118 L (rv.toList ++ st) (μ'.1, (0, 0, sl), μ'.2.2) Q) := rw_call p99_115 rfl (ac104 q x1 x2 x3 x4)
theorem r99_118 : RR 99 118 L st μ Q ↔ RR 99 173 L st μ Q := rw_go p99_118 rfl
theorem r99_121 : RR 99 121 (a0 :: a1 :: a2 :: a3 :: .int x :: l) st μ Q ↔ RR 99 123 (a0 :: a1 :: a2 :: a3 :: .int x :: l) (.int x :: st) μ Q := rw_go p99_121 rfl
theorem r99_123 : RR 99 123 L (.int x :: st) μ Q ↔ if x = 0 then RR 99 173 L st μ Q else RR 99 126 L st μ Q := rw_if p99_123 rfl
theorem r99_126 : RR 99 126 (a0 :: a1 :: .int x :: l) st μ Q ↔ RR 99 127 (a0 :: a1 :: .int x :: l) (.int x :: st) μ Q := rw_go p99_126 rfl
theorem r99_127 : RR 99 127 L (.int x1 :: st) (S, (0, 0, sl), M, D, F) Q ↔ (am_cat st ≤ 8 ∧ 1 = 1) ∧ RR 27 0 [.int x1] [] (S, (0, 0, sl), M, D, F) (fun rv μ' => μ'.1.length = S.length ∧ RR 99 130 L (rv.toList ++ st) (μ'.1, (0, 0, sl), μ'.2.2) Q) := rw_call p99_127 rfl (ac27 x1)
theorem r99_130 : RR 99 130 L (.int x :: st) μ Q ↔ if x = 0 then RR 99 151 L st μ Q else RR 99 133 L st μ Q := rw_if p99_130 rfl
theorem r99_133 : RR 99 133 (.ref q :: l) st μ Q ↔ RR 99 134 (.ref q :: l) (.ref q :: st) μ Q := rw_go p99_133 rfl
theorem r99_134 : RR 99 134 L (.ref q :: st) (S, b, M, D, F) Q ↔ S[q]? = some (.inl 1) ∧ RR 99 137 L (va_rf (F q 1) :: st) (S, b, M, D, F) Q := rw_c p99_134 rfl
theorem r99_137 : RR 99 137 (a0 :: .int x :: l) st μ Q ↔ RR 99 138 (a0 :: .int x :: l) (.int x :: st) μ Q := rw_go p99_137 rfl
theorem r99_138 : RR 99 138 (a0 :: a1 :: .int x :: l) st μ Q ↔ RR 99 139 (a0 :: a1 :: .int x :: l) (.int x :: st) μ Q := rw_go p99_138 rfl
theorem r99_139 : RR 99 139 L (.int x2 :: .int x1 :: .ref q :: st) (S, (0, 0, sl), M, D, F) Q ↔ (am_cat st ≤ 8 ∧ 3 = 3 ∧ S[q]? = some (.inl 0)) ∧ RR 91 0 [.ref q, .int x1, .int x2] [] (S, (0, 0, sl), M, D, F) (fun rv μ' => μ'.1.length = S.length ∧ RR 99 142 L (rv.toList ++ st) (μ'.1, (0, 0, sl), μ'.2.2) Q) := rw_call p99_139 rfl (ac91 q x1 x2)
theorem r99_142 : RR 99 142 L st μ Q ↔ RR 99 143 L (.int (nI 2) :: st) μ Q := rw_go p99_142 rfl
theorem r99_143 : RR 99 143 L (.int y :: .int x :: st) μ Q ↔ RR 99 144 L (.int (x &&& y) :: st) μ Q := rw_go p99_143 rfl
theorem r99_144 : RR 99 144 L (.int x :: st) μ Q ↔ if x = 0 then RR 99 151 L st μ Q else RR 99 147 L st μ Q := rw_if p99_144 rfl
theorem r99_147 : RR 99 147 L st μ Q ↔ RR 99 148 L (.int (nI 1) :: st) μ Q := rw_go p99_147 rfl
theorem r99_148 : RR 99 148 L st μ Q ↔ RR 99 152 L st μ Q := rw_go p99_148 rfl
theorem r99_151 : RR 99 151 L st μ Q ↔ RR 99 152 L (.int (nI 0) :: st) μ Q := rw_go p99_151 rfl
theorem r99_152 : RR 99 152 (a0 :: a1 :: a2 :: a3 :: a4 :: c0 :: l) (.int x :: st) μ Q ↔ RR 99 154 (a0 :: a1 :: a2 :: a3 :: am_nd a4 :: .int x :: l) st μ Q := rw_ist p99_152 (by show 5 < _; simp only [List.length_cons]; omega)
theorem r99_154 : RR 99 154 (.ref q :: l) st μ Q ↔ RR 99 155 (.ref q :: l) (.ref q :: st) μ Q := rw_go p99_154 rfl
theorem r99_155 : RR 99 155 L st μ Q ↔ RR 99 156 L (.int (nI 1) :: st) μ Q := rw_go p99_155 rfl
theorem r99_156 : RR 99 156 (a0 :: a1 :: a2 :: a3 :: a4 :: .int x :: l) st μ Q ↔ RR 99 158 (a0 :: a1 :: a2 :: a3 :: a4 :: .int x :: l) (.int x :: st) μ Q := rw_go p99_156 rfl
theorem r99_158 : RR 99 158 L (.int x :: st) μ Q ↔ if x = 0 then RR 99 166 L st μ Q else RR 99 161 L st μ Q := rw_if p99_158 rfl
theorem r99_161 : RR 99 161 L st μ Q ↔ RR 99 163 L (.int (nI 24) :: st) μ Q := rw_go p99_161 rfl
theorem r99_163 : RR 99 163 L st μ Q ↔ RR 99 168 L st μ Q := rw_go p99_163 rfl
theorem r99_166 : RR 99 166 L st μ Q ↔ RR 99 168 L (.int (nI 23) :: st) μ Q := rw_go p99_166 rfl
theorem r99_168 : RR 99 168 (a0 :: .int x :: l) st μ Q ↔ RR 99 169 (a0 :: .int x :: l) (.int x :: st) μ Q := rw_go p99_168 rfl
theorem r99_169 : RR 99 169 (a0 :: a1 :: .int x :: l) st μ Q ↔ RR 99 170 (a0 :: a1 :: .int x :: l) (.int x :: st) μ Q := rw_go p99_169 rfl
theorem r99_170 : RR 99 170 L (.int x4 :: .int x3 :: .int x2 :: .int x1 :: .ref q :: st) (S, (0, 0, sl), M, D, F) Q ↔ (am_cat st ≤ 8 ∧ 5 = 5 ∧ S[q]? = some (.inl 1)) ∧ RR 104 0 [.ref q, .int x1, .int x2, .int x3, .int x4] [] (S, (0, 0, sl), M, D, F) (fun rv μ' => μ'.1.length = S.length ∧ RR 99 173 L (rv.toList ++ st) (μ'.1, (0, 0, sl), μ'.2.2) Q) := rw_call p99_170 rfl (ac104 q x1 x2 x3 x4)
theorem r99_173 : RR 99 173 L [] μ Q ↔ Q none μ := rw_r p99_173 rfl
/-! ReleaseDesk$Comparison.isInherited -/
theorem r100_0 : RR 100 0 (.ref q :: l) st μ Q ↔ RR 100 1 (.ref q :: l) (.ref q :: st) μ Q := rw_go p100_0 rfl
theorem r100_1 : RR 100 1 L (.ref q :: st) (S, b, M, D, F) Q ↔ S[q]? = some (.inl 1) ∧ RR 100 4 L (va_rf (F q 1) :: st) (S, b, M, D, F) Q := rw_c p100_1 rfl
theorem r100_4 : RR 100 4 (a0 :: .int x :: l) st μ Q ↔ RR 100 5 (a0 :: .int x :: l) (.int x :: st) μ Q := rw_go p100_4 rfl
theorem r100_5 : RR 100 5 L (.int x1 :: .ref q :: st) (S, (0, 0, sl), M, D, F) Q ↔ (am_cat st ≤ 8 ∧ 2 = 2 ∧ S[q]? = some (.inl 0)) ∧ RR 86 0 [.ref q, .int x1, .long 0, .long 0, .long 0] [] (S, (0, 0, sl), M, D, F) (fun rv μ' => μ'.1.length = S.length ∧ RR 100 8 L (rv.toList ++ st) (μ'.1, (0, 0, sl), μ'.2.2) Q) := rw_call p100_5 rfl (ac86 q x1)
theorem r100_8 : RR 100 8 (a0 :: a1 :: a2 :: c0 :: l) (.int x :: st) μ Q ↔ RR 100 9 (a0 :: a1 :: am_nd a2 :: .int x :: l) st μ Q := rw_istn p100_8 (by show 3 < _; simp only [List.length_cons]; omega)
theorem r100_9 : RR 100 9 L st μ Q ↔ RR 100 10 L (.int (nI 0) :: st) μ Q := rw_go p100_9 rfl
theorem r100_10 : RR 100 10 (a0 :: a1 :: a2 :: a3 :: c0 :: l) (.int x :: st) μ Q ↔ RR 100 12 (a0 :: a1 :: a2 :: am_nd a3 :: .int x :: l) st μ Q := rw_ist p100_10 (by show 4 < _; simp only [List.length_cons]; omega)
theorem r100_12 : RR 100 12 (a0 :: a1 :: a2 :: a3 :: .int x :: l) st μ Q ↔ RR 100 14 (a0 :: a1 :: a2 :: a3 :: .int x :: l) (.int x :: st) μ Q := rw_go p100_12 rfl
theorem r100_14 : RR 100 14 L st μ Q ↔ RR 100 16 L (.int (nI 8) :: st) μ Q := rw_go p100_14 rfl
theorem r100_16 : RR 100 16 L (.int y :: .int x :: st) μ Q ↔ if y ≤ x then RR 100 72 L st μ Q else RR 100 19 L st μ Q := rw_if p100_16 rfl
theorem r100_19 : RR 100 19 (a0 :: a1 :: a2 :: .int x :: l) st μ Q ↔ RR 100 20 (a0 :: a1 :: a2 :: .int x :: l) (.int x :: st) μ Q := rw_go p100_19 rfl
theorem r100_20 : RR 100 20 (a0 :: a1 :: a2 :: a3 :: .int x :: l) st μ Q ↔ RR 100 22 (a0 :: a1 :: a2 :: a3 :: .int x :: l) (.int x :: st) μ Q := rw_go p100_20 rfl
theorem r100_22 : RR 100 22 L (.int y :: .int x :: st) μ Q ↔ RR 100 23 L (.int (x >>> (y &&& 31)) :: st) μ Q := rw_go p100_22 rfl
theorem r100_23 : RR 100 23 L st μ Q ↔ RR 100 24 L (.int (nI 1) :: st) μ Q := rw_go p100_23 rfl
theorem r100_24 : RR 100 24 L (.int y :: .int x :: st) μ Q ↔ RR 100 25 L (.int (x &&& y) :: st) μ Q := rw_go p100_24 rfl
theorem r100_25 : RR 100 25 L st μ Q ↔ RR 100 26 L (.int (nI 1) :: st) μ Q := rw_go p100_25 rfl
theorem r100_26 : RR 100 26 L (.int y :: .int x :: st) μ Q ↔ if ¬ x = y then RR 100 66 L st μ Q else RR 100 29 L st μ Q := rw_if p100_26 rfl
theorem r100_29 : RR 100 29 (.ref q :: l) st μ Q ↔ RR 100 30 (.ref q :: l) (.ref q :: st) μ Q := rw_go p100_29 rfl
theorem r100_30 : RR 100 30 L (.ref q :: st) (S, b, M, D, F) Q ↔ S[q]? = some (.inl 1) ∧ RR 100 33 L (va_rf (F q 1) :: st) (S, b, M, D, F) Q := rw_c p100_30 rfl
theorem r100_33 : RR 100 33 (a0 :: a1 :: a2 :: a3 :: .int x :: l) st μ Q ↔ RR 100 35 (a0 :: a1 :: a2 :: a3 :: .int x :: l) (.int x :: st) μ Q := rw_go p100_33 rfl
theorem r100_35 : RR 100 35 (a0 :: a1 :: .int x :: l) st μ Q ↔ RR 100 36 (a0 :: a1 :: .int x :: l) (.int x :: st) μ Q := rw_go p100_35 rfl
theorem r100_36 : RR 100 36 L (.int x2 :: .int x1 :: .ref q :: st) (S, (0, 0, sl), M, D, F) Q ↔ (am_cat st ≤ 8 ∧ 3 = 3 ∧ S[q]? = some (.inl 0)) ∧ RR 89 0 [.ref q, .int x1, .int x2, .long 0] [] (S, (0, 0, sl), M, D, F) (fun rv μ' => μ'.1.length = S.length ∧ RR 100 39 L (rv.toList ++ st) (μ'.1, (0, 0, sl), μ'.2.2) Q) := rw_call p100_36 rfl (ac89 q x1 x2)
theorem r100_39 : RR 100 39 L (.int x :: st) μ Q ↔ if x = 0 then RR 100 66 L st μ Q else RR 100 42 L st μ Q := rw_if p100_39 rfl
theorem r100_42 : RR 100 42 (.ref q :: l) st μ Q ↔ RR 100 43 (.ref q :: l) (.ref q :: st) μ Q := rw_go p100_42 rfl
theorem r100_43 : RR 100 43 L (.ref q :: st) (S, b, M, D, F) Q ↔ S[q]? = some (.inl 1) ∧ RR 100 46 L (va_rf (F q 1) :: st) (S, b, M, D, F) Q := rw_c p100_43 rfl
theorem r100_46 : RR 100 46 (a0 :: a1 :: a2 :: a3 :: .int x :: l) st μ Q ↔ RR 100 48 (a0 :: a1 :: a2 :: a3 :: .int x :: l) (.int x :: st) μ Q := rw_go p100_46 rfl
theorem r100_48 : RR 100 48 (a0 :: a1 :: .int x :: l) st μ Q ↔ RR 100 49 (a0 :: a1 :: .int x :: l) (.int x :: st) μ Q := rw_go p100_48 rfl
theorem r100_49 : RR 100 49 L (.int x2 :: .int x1 :: .ref q :: st) (S, (0, 0, sl), M, D, F) Q ↔ (am_cat st ≤ 8 ∧ 3 = 3 ∧ S[q]? = some (.inl 0)) ∧ RR 90 0 [.ref q, .int x1, .int x2] [] (S, (0, 0, sl), M, D, F) (fun rv μ' => μ'.1.length = S.length ∧ RR 100 52 L (rv.toList ++ st) (μ'.1, (0, 0, sl), μ'.2.2) Q) := rw_call p100_49 rfl (ac90 q x1 x2)
theorem r100_52 : RR 100 52 (.ref q :: l) st μ Q ↔ RR 100 53 (.ref q :: l) (.ref q :: st) μ Q := rw_go p100_52 rfl
theorem r100_53 : RR 100 53 L (.ref q :: st) (S, b, M, D, F) Q ↔ S[q]? = some (.inl 1) ∧ RR 100 56 L (va_rf (F q 0) :: st) (S, b, M, D, F) Q := rw_c p100_53 rfl
theorem r100_56 : RR 100 56 (a0 :: .int x :: l) st μ Q ↔ RR 100 57 (a0 :: .int x :: l) (.int x :: st) μ Q := rw_go p100_56 rfl
theorem r100_57 : RR 100 57 (a0 :: a1 :: .int x :: l) st μ Q ↔ RR 100 58 (a0 :: a1 :: .int x :: l) (.int x :: st) μ Q := rw_go p100_57 rfl
theorem r100_58 : RR 100 58 L (.int x2 :: .int x1 :: .ref q :: st) (S, (0, 0, sl), M, D, F) Q ↔ (am_cat st ≤ 8 ∧ 3 = 3 ∧ S[q]? = some (.inl 0)) ∧ RR 90 0 [.ref q, .int x1, .int x2] [] (S, (0, 0, sl), M, D, F) (fun rv μ' => μ'.1.length = S.length ∧ RR 100 61 L (rv.toList ++ st) (μ'.1, (0, 0, sl), μ'.2.2) Q) := rw_call p100_58 rfl (ac90 q x1 x2)
theorem r100_61 : RR 100 61 L (.int y :: .int x :: st) μ Q ↔ if x < y then RR 100 66 L st μ Q else RR 100 64 L st μ Q := rw_if p100_61 rfl
theorem r100_64 : RR 100 64 L st μ Q ↔ RR 100 65 L (.int (nI 1) :: st) μ Q := rw_go p100_64 rfl
theorem r100_65 : RR 100 65 L [.int x] μ Q ↔ (x = 0 ∨ x = 1) ∧ Q (some (.int x)) μ := rw_rc p100_65 rfl
theorem r100_66 : RR 100 66 (a0 :: a1 :: a2 :: a3 :: .int x :: l) st μ Q ↔ RR 100 69 (a0 :: a1 :: a2 :: am_nd a3 :: .int (x + nI 1) :: l) st μ Q := rw_go p100_66 rfl
theorem r100_69 : RR 100 69 L st μ Q ↔ RR 100 12 L st μ Q := rw_go p100_69 rfl
theorem r100_72 : RR 100 72 L st μ Q ↔ RR 100 73 L (.int (nI 0) :: st) μ Q := rw_go p100_72 rfl
theorem r100_73 : RR 100 73 L [.int x] μ Q ↔ (x = 0 ∨ x = 1) ∧ Q (some (.int x)) μ := rw_rc p100_73 rfl
/-! ReleaseDesk$Comparison.compareSeenMember -/
theorem r101_0 : RR 101 0 (.ref q :: l) st μ Q ↔ RR 101 1 (.ref q :: l) (.ref q :: st) μ Q := rw_go p101_0 rfl
theorem r101_1 : RR 101 1 L (.ref q :: st) (S, b, M, D, F) Q ↔ S[q]? = some (.inl 1) ∧ RR 101 4 L (va_rf (F q 1) :: st) (S, b, M, D, F) Q := rw_c p101_1 rfl
theorem r101_4 : RR 101 4 (a0 :: .int x :: l) st μ Q ↔ RR 101 5 (a0 :: .int x :: l) (.int x :: st) μ Q := rw_go p101_4 rfl
theorem r101_5 : RR 101 5 (a0 :: a1 :: .int x :: l) st μ Q ↔ RR 101 6 (a0 :: a1 :: .int x :: l) (.int x :: st) μ Q := rw_go p101_5 rfl
theorem r101_6 : RR 101 6 L (.int x2 :: .int x1 :: .ref q :: st) (S, (0, 0, sl), M, D, F) Q ↔ (am_cat st ≤ 8 ∧ 3 = 3 ∧ S[q]? = some (.inl 0)) ∧ RR 90 0 [.ref q, .int x1, .int x2] [] (S, (0, 0, sl), M, D, F) (fun rv μ' => μ'.1.length = S.length ∧ RR 101 9 L (rv.toList ++ st) (μ'.1, (0, 0, sl), μ'.2.2) Q) := rw_call p101_6 rfl (ac90 q x1 x2)
theorem r101_9 : RR 101 9 (.ref q :: l) st μ Q ↔ RR 101 10 (.ref q :: l) (.ref q :: st) μ Q := rw_go p101_9 rfl
theorem r101_10 : RR 101 10 L (.ref q :: st) (S, b, M, D, F) Q ↔ S[q]? = some (.inl 1) ∧ RR 101 13 L (va_rf (F q 0) :: st) (S, b, M, D, F) Q := rw_c p101_10 rfl
theorem r101_13 : RR 101 13 (a0 :: .int x :: l) st μ Q ↔ RR 101 14 (a0 :: .int x :: l) (.int x :: st) μ Q := rw_go p101_13 rfl
theorem r101_14 : RR 101 14 (a0 :: a1 :: .int x :: l) st μ Q ↔ RR 101 15 (a0 :: a1 :: .int x :: l) (.int x :: st) μ Q := rw_go p101_14 rfl
theorem r101_15 : RR 101 15 L (.int x2 :: .int x1 :: .ref q :: st) (S, (0, 0, sl), M, D, F) Q ↔ (am_cat st ≤ 8 ∧ 3 = 3 ∧ S[q]? = some (.inl 0)) ∧ RR 90 0 [.ref q, .int x1, .int x2] [] (S, (0, 0, sl), M, D, F) (fun rv μ' => μ'.1.length = S.length ∧ RR 101 18 L (rv.toList ++ st) (μ'.1, (0, 0, sl), μ'.2.2) Q) := rw_call p101_15 rfl (ac90 q x1 x2)
theorem r101_18 : RR 101 18 L (.int y :: .int x :: st) μ Q ↔ RR 101 19 L (.int (x - y) :: st) μ Q := rw_go p101_18 rfl
theorem r101_19 : RR 101 19 (a0 :: a1 :: a2 :: c0 :: l) (.int x :: st) μ Q ↔ RR 101 20 (a0 :: a1 :: am_nd a2 :: .int x :: l) st μ Q := rw_istn p101_19 (by show 3 < _; simp only [List.length_cons]; omega)
theorem r101_20 : RR 101 20 (.ref q :: l) st μ Q ↔ RR 101 21 (.ref q :: l) (.ref q :: st) μ Q := rw_go p101_20 rfl
theorem r101_21 : RR 101 21 L (.ref q :: st) (S, b, M, D, F) Q ↔ S[q]? = some (.inl 1) ∧ RR 101 24 L (va_rf (F q 0) :: st) (S, b, M, D, F) Q := rw_c p101_21 rfl
theorem r101_24 : RR 101 24 (a0 :: .int x :: l) st μ Q ↔ RR 101 25 (a0 :: .int x :: l) (.int x :: st) μ Q := rw_go p101_24 rfl
theorem r101_25 : RR 101 25 (a0 :: a1 :: .int x :: l) st μ Q ↔ RR 101 26 (a0 :: a1 :: .int x :: l) (.int x :: st) μ Q := rw_go p101_25 rfl
theorem r101_26 : RR 101 26 L (.int x2 :: .int x1 :: .ref q :: st) (S, (0, 0, sl), M, D, F) Q ↔ (am_cat st ≤ 8 ∧ 3 = 3 ∧ S[q]? = some (.inl 0)) ∧ RR 91 0 [.ref q, .int x1, .int x2] [] (S, (0, 0, sl), M, D, F) (fun rv μ' => μ'.1.length = S.length ∧ RR 101 29 L (rv.toList ++ st) (μ'.1, (0, 0, sl), μ'.2.2) Q) := rw_call p101_26 rfl (ac91 q x1 x2)
theorem r101_29 : RR 101 29 (.ref q :: l) st μ Q ↔ RR 101 30 (.ref q :: l) (.ref q :: st) μ Q := rw_go p101_29 rfl
theorem r101_30 : RR 101 30 L (.ref q :: st) (S, b, M, D, F) Q ↔ S[q]? = some (.inl 1) ∧ RR 101 33 L (va_rf (F q 1) :: st) (S, b, M, D, F) Q := rw_c p101_30 rfl
theorem r101_33 : RR 101 33 (a0 :: .int x :: l) st μ Q ↔ RR 101 34 (a0 :: .int x :: l) (.int x :: st) μ Q := rw_go p101_33 rfl
theorem r101_34 : RR 101 34 (a0 :: a1 :: .int x :: l) st μ Q ↔ RR 101 35 (a0 :: a1 :: .int x :: l) (.int x :: st) μ Q := rw_go p101_34 rfl
theorem r101_35 : RR 101 35 L (.int x2 :: .int x1 :: .ref q :: st) (S, (0, 0, sl), M, D, F) Q ↔ (am_cat st ≤ 8 ∧ 3 = 3 ∧ S[q]? = some (.inl 0)) ∧ RR 91 0 [.ref q, .int x1, .int x2] [] (S, (0, 0, sl), M, D, F) (fun rv μ' => μ'.1.length = S.length ∧ RR 101 38 L (rv.toList ++ st) (μ'.1, (0, 0, sl), μ'.2.2) Q) := rw_call p101_35 rfl (ac91 q x1 x2)
theorem r101_38 : RR 101 38 L st μ Q ↔ RR 101 39 L (.int ((-1)) :: st) μ Q := rw_go p101_38 rfl
theorem r101_39 : RR 101 39 L (.int y :: .int x :: st) μ Q ↔ RR 101 40 L (.int (x ^^^ y) :: st) μ Q := rw_go p101_39 rfl
theorem r101_40 : RR 101 40 L (.int y :: .int x :: st) μ Q ↔ RR 101 41 L (.int (x &&& y) :: st) μ Q := rw_go p101_40 rfl
theorem r101_41 : RR 101 41 (a0 :: a1 :: a2 :: a3 :: c0 :: l) (.int x :: st) μ Q ↔ RR 101 43 (a0 :: a1 :: a2 :: am_nd a3 :: .int x :: l) st μ Q := rw_ist p101_41 (by show 4 < _; simp only [List.length_cons]; omega)
theorem r101_43 : RR 101 43 (.ref q :: l) st μ Q ↔ RR 101 44 (.ref q :: l) (.ref q :: st) μ Q := rw_go p101_43 rfl
theorem r101_44 : RR 101 44 L (.ref q :: st) (S, b, M, D, F) Q ↔ S[q]? = some (.inl 1) ∧ RR 101 47 L (va_rf (F q 1) :: st) (S, b, M, D, F) Q := rw_c p101_44 rfl
theorem r101_47 : RR 101 47 (a0 :: .int x :: l) st μ Q ↔ RR 101 48 (a0 :: .int x :: l) (.int x :: st) μ Q := rw_go p101_47 rfl
theorem r101_48 : RR 101 48 (a0 :: a1 :: .int x :: l) st μ Q ↔ RR 101 49 (a0 :: a1 :: .int x :: l) (.int x :: st) μ Q := rw_go p101_48 rfl
theorem r101_49 : RR 101 49 L (.int x2 :: .int x1 :: .ref q :: st) (S, (0, 0, sl), M, D, F) Q ↔ (am_cat st ≤ 8 ∧ 3 = 3 ∧ S[q]? = some (.inl 0)) ∧ RR 91 0 [.ref q, .int x1, .int x2] [] (S, (0, 0, sl), M, D, F) (fun rv μ' => μ'.1.length = S.length ∧ RR 101 52 L (rv.toList ++ st) (μ'.1, (0, 0, sl), μ'.2.2) Q) := rw_call p101_49 rfl (ac91 q x1 x2)
theorem r101_52 : RR 101 52 (.ref q :: l) st μ Q ↔ RR 101 53 (.ref q :: l) (.ref q :: st) μ Q := rw_go p101_52 rfl
theorem r101_53 : RR 101 53 L (.ref q :: st) (S, b, M, D, F) Q ↔ S[q]? = some (.inl 1) ∧ RR 101 56 L (va_rf (F q 0) :: st) (S, b, M, D, F) Q := rw_c p101_53 rfl
theorem r101_56 : RR 101 56 (a0 :: .int x :: l) st μ Q ↔ RR 101 57 (a0 :: .int x :: l) (.int x :: st) μ Q := rw_go p101_56 rfl
theorem r101_57 : RR 101 57 (a0 :: a1 :: .int x :: l) st μ Q ↔ RR 101 58 (a0 :: a1 :: .int x :: l) (.int x :: st) μ Q := rw_go p101_57 rfl
theorem r101_58 : RR 101 58 L (.int x2 :: .int x1 :: .ref q :: st) (S, (0, 0, sl), M, D, F) Q ↔ (am_cat st ≤ 8 ∧ 3 = 3 ∧ S[q]? = some (.inl 0)) ∧ RR 91 0 [.ref q, .int x1, .int x2] [] (S, (0, 0, sl), M, D, F) (fun rv μ' => μ'.1.length = S.length ∧ RR 101 61 L (rv.toList ++ st) (μ'.1, (0, 0, sl), μ'.2.2) Q) := rw_call p101_58 rfl (ac91 q x1 x2)
theorem r101_61 : RR 101 61 L st μ Q ↔ RR 101 62 L (.int ((-1)) :: st) μ Q := rw_go p101_61 rfl
theorem r101_62 : RR 101 62 L (.int y :: .int x :: st) μ Q ↔ RR 101 63 L (.int (x ^^^ y) :: st) μ Q := rw_go p101_62 rfl
theorem r101_63 : RR 101 63 L (.int y :: .int x :: st) μ Q ↔ RR 101 64 L (.int (x &&& y) :: st) μ Q := rw_go p101_63 rfl
theorem r101_64 : RR 101 64 (a0 :: a1 :: a2 :: a3 :: a4 :: c0 :: l) (.int x :: st) μ Q ↔ RR 101 66 (a0 :: a1 :: a2 :: a3 :: am_nd a4 :: .int x :: l) st μ Q := rw_ist p101_64 (by show 5 < _; simp only [List.length_cons]; omega)
theorem r101_66 : RR 101 66 (.ref q :: l) st μ Q ↔ RR 101 67 (.ref q :: l) (.ref q :: st) μ Q := rw_go p101_66 rfl
theorem r101_67 : RR 101 67 (a0 :: a1 :: a2 :: .int x :: l) st μ Q ↔ RR 101 68 (a0 :: a1 :: a2 :: .int x :: l) (.int x :: st) μ Q := rw_go p101_67 rfl
theorem r101_68 : RR 101 68 L (.int x :: st) μ Q ↔ if 0 ≤ x then RR 101 75 L st μ Q else RR 101 71 L st μ Q := rw_if p101_68 rfl
theorem r101_71 : RR 101 71 L st μ Q ↔ RR 101 72 L (.int (nI 1) :: st) μ Q := rw_go p101_71 rfl
theorem r101_72 : RR 101 72 L st μ Q ↔ RR 101 76 L st μ Q := rw_go p101_72 rfl
theorem r101_75 : RR 101 75 L st μ Q ↔ RR 101 76 L (.int (nI 0) :: st) μ Q := rw_go p101_75 rfl
theorem r101_76 : RR 101 76 L st μ Q ↔ RR 101 78 L (.int (nI 22) :: st) μ Q := rw_go p101_76 rfl
theorem r101_78 : RR 101 78 (a0 :: .int x :: l) st μ Q ↔ RR 101 79 (a0 :: .int x :: l) (.int x :: st) μ Q := rw_go p101_78 rfl
theorem r101_79 : RR 101 79 (a0 :: a1 :: .int x :: l) st μ Q ↔ RR 101 80 (a0 :: a1 :: .int x :: l) (.int x :: st) μ Q := rw_go p101_79 rfl
theorem r101_80 : RR 101 80 L (.int x4 :: .int x3 :: .int x2 :: .int x1 :: .ref q :: st) (S, (0, 0, sl), M, D, F) Q ↔ (am_cat st ≤ 8 ∧ 5 = 5 ∧ S[q]? = some (.inl 1)) ∧ RR 104 0 [.ref q, .int x1, .int x2, .int x3, .int x4] [] (S, (0, 0, sl), M, D, F) (fun rv μ' => μ'.1.length = S.length ∧ RR 101 83 L (rv.toList ++ st) (μ'.1, (0, 0, sl), μ'.2.2) Q) := rw_call p101_80 rfl (ac104 q x1 x2 x3 x4)
theorem r101_83 : RR 101 83 (.ref q :: l) st μ Q ↔ RR 101 84 (.ref q :: l) (.ref q :: st) μ Q := rw_go p101_83 rfl
theorem r101_84 : RR 101 84 (a0 :: a1 :: a2 :: .int x :: l) st μ Q ↔ RR 101 85 (a0 :: a1 :: a2 :: .int x :: l) (.int x :: st) μ Q := rw_go p101_84 rfl
theorem r101_85 : RR 101 85 L (.int x :: st) μ Q ↔ if x ≤ 0 then RR 101 92 L st μ Q else RR 101 88 L st μ Q := rw_if p101_85 rfl
theorem r101_88 : RR 101 88 L st μ Q ↔ RR 101 89 L (.int (nI 1) :: st) μ Q := rw_go p101_88 rfl
theorem r101_89 : RR 101 89 L st μ Q ↔ RR 101 93 L st μ Q := rw_go p101_89 rfl
theorem r101_92 : RR 101 92 L st μ Q ↔ RR 101 93 L (.int (nI 0) :: st) μ Q := rw_go p101_92 rfl
theorem r101_93 : RR 101 93 L st μ Q ↔ RR 101 95 L (.int (nI 25) :: st) μ Q := rw_go p101_93 rfl
theorem r101_95 : RR 101 95 (a0 :: .int x :: l) st μ Q ↔ RR 101 96 (a0 :: .int x :: l) (.int x :: st) μ Q := rw_go p101_95 rfl
theorem r101_96 : RR 101 96 (a0 :: a1 :: .int x :: l) st μ Q ↔ RR 101 97 (a0 :: a1 :: .int x :: l) (.int x :: st) μ Q := rw_go p101_96 rfl
theorem r101_97 : RR 101 97 L (.int x4 :: .int x3 :: .int x2 :: .int x1 :: .ref q :: st) (S, (0, 0, sl), M, D, F) Q ↔ (am_cat st ≤ 8 ∧ 5 = 5 ∧ S[q]? = some (.inl 1)) ∧ RR 104 0 [.ref q, .int x1, .int x2, .int x3, .int x4] [] (S, (0, 0, sl), M, D, F) (fun rv μ' => μ'.1.length = S.length ∧ RR 101 100 L (rv.toList ++ st) (μ'.1, (0, 0, sl), μ'.2.2) Q) := rw_call p101_97 rfl (ac104 q x1 x2 x3 x4)
theorem r101_100 : RR 101 100 (.ref q :: l) st μ Q ↔ RR 101 101 (.ref q :: l) (.ref q :: st) μ Q := rw_go p101_100 rfl
theorem r101_101 : RR 101 101 (a0 :: a1 :: a2 :: a3 :: .int x :: l) st μ Q ↔ RR 101 103 (a0 :: a1 :: a2 :: a3 :: .int x :: l) (.int x :: st) μ Q := rw_go p101_101 rfl
theorem r101_103 : RR 101 103 (a0 :: a1 :: a2 :: a3 :: a4 :: .int x :: l) st μ Q ↔ RR 101 105 (a0 :: a1 :: a2 :: a3 :: a4 :: .int x :: l) (.int x :: st) μ Q := rw_go p101_103 rfl
theorem r101_105 : RR 101 105 L (.int y :: .int x :: st) μ Q ↔ RR 101 106 L (.int (x ||| y) :: st) μ Q := rw_go p101_105 rfl
theorem r101_106 : RR 101 106 L st μ Q ↔ RR 101 107 L (.int (nI 1) :: st) μ Q := rw_go p101_106 rfl
theorem r101_107 : RR 101 107 L (.int y :: .int x :: st) μ Q ↔ RR 101 108 L (.int (x &&& y) :: st) μ Q := rw_go p101_107 rfl
theorem r101_108 : RR 101 108 L (.int x :: st) μ Q ↔ if x = 0 then RR 101 115 L st μ Q else RR 101 111 L st μ Q := rw_if p101_108 rfl
theorem r101_111 : RR 101 111 L st μ Q ↔ RR 101 112 L (.int (nI 1) :: st) μ Q := rw_go p101_111 rfl
theorem r101_112 : RR 101 112 L st μ Q ↔ RR 101 116 L st μ Q := rw_go p101_112 rfl
theorem r101_115 : RR 101 115 L st μ Q ↔ RR 101 116 L (.int (nI 0) :: st) μ Q := rw_go p101_115 rfl
theorem r101_116 : RR 101 116 L st μ Q ↔ RR 101 118 L (.int (nI 26) :: st) μ Q := rw_go p101_116 rfl
theorem r101_118 : RR 101 118 (a0 :: .int x :: l) st μ Q ↔ RR 101 119 (a0 :: .int x :: l) (.int x :: st) μ Q := rw_go p101_118 rfl
theorem r101_119 : RR 101 119 (a0 :: a1 :: .int x :: l) st μ Q ↔ RR 101 120 (a0 :: a1 :: .int x :: l) (.int x :: st) μ Q := rw_go p101_119 rfl
theorem r101_120 : RR 101 120 L (.int x4 :: .int x3 :: .int x2 :: .int x1 :: .ref q :: st) (S, (0, 0, sl), M, D, F) Q ↔ (am_cat st ≤ 8 ∧ 5 = 5 ∧ S[q]? = some (.inl 1)) ∧ RR 104 0 [.ref q, .int x1, .int x2, .int x3, .int x4] [] (S, (0, 0, sl), M, D, F) (fun rv μ' => μ'.1.length = S.length ∧ RR 101 123 L (rv.toList ++ st) (μ'.1, (0, 0, sl), μ'.2.2) Q) := rw_call p101_120 rfl (ac104 q x1 x2 x3 x4)
theorem r101_123 : RR 101 123 (.ref q :: l) st μ Q ↔ RR 101 124 (.ref q :: l) (.ref q :: st) μ Q := rw_go p101_123 rfl
theorem r101_124 : RR 101 124 (a0 :: a1 :: a2 :: a3 :: a4 :: .int x :: l) st μ Q ↔ RR 101 126 (a0 :: a1 :: a2 :: a3 :: a4 :: .int x :: l) (.int x :: st) μ Q := rw_go p101_124 rfl
theorem r101_126 : RR 101 126 L st μ Q ↔ RR 101 127 L (.int (nI 4) :: st) μ Q := rw_go p101_126 rfl
theorem r101_127 : RR 101 127 L (.int y :: .int x :: st) μ Q ↔ RR 101 128 L (.int (x &&& y) :: st) μ Q := rw_go p101_127 rfl
theorem r101_128 : RR 101 128 L (.int x :: st) μ Q ↔ if x = 0 then RR 101 135 L st μ Q else RR 101 131 L st μ Q := rw_if p101_128 rfl
theorem r101_131 : RR 101 131 L st μ Q ↔ RR 101 132 L (.int (nI 1) :: st) μ Q := rw_go p101_131 rfl
theorem r101_132 : RR 101 132 L st μ Q ↔ RR 101 136 L st μ Q := rw_go p101_132 rfl
theorem r101_135 : RR 101 135 L st μ Q ↔ RR 101 136 L (.int (nI 0) :: st) μ Q := rw_go p101_135 rfl
theorem r101_136 : RR 101 136 L st μ Q ↔ RR 101 138 L (.int (nI 27) :: st) μ Q := rw_go p101_136 rfl
theorem r101_138 : RR 101 138 (a0 :: .int x :: l) st μ Q ↔ RR 101 139 (a0 :: .int x :: l) (.int x :: st) μ Q := rw_go p101_138 rfl
theorem r101_139 : RR 101 139 (a0 :: a1 :: .int x :: l) st μ Q ↔ RR 101 140 (a0 :: a1 :: .int x :: l) (.int x :: st) μ Q := rw_go p101_139 rfl
theorem r101_140 : RR 101 140 L (.int x4 :: .int x3 :: .int x2 :: .int x1 :: .ref q :: st) (S, (0, 0, sl), M, D, F) Q ↔ (am_cat st ≤ 8 ∧ 5 = 5 ∧ S[q]? = some (.inl 1)) ∧ RR 104 0 [.ref q, .int x1, .int x2, .int x3, .int x4] [] (S, (0, 0, sl), M, D, F) (fun rv μ' => μ'.1.length = S.length ∧ RR 101 143 L (rv.toList ++ st) (μ'.1, (0, 0, sl), μ'.2.2) Q) := rw_call p101_140 rfl (ac104 q x1 x2 x3 x4)
theorem r101_143 : RR 101 143 (.ref q :: l) st μ Q ↔ RR 101 144 (.ref q :: l) (.ref q :: st) μ Q := rw_go p101_143 rfl
theorem r101_144 : RR 101 144 (a0 :: a1 :: a2 :: a3 :: .int x :: l) st μ Q ↔ RR 101 146 (a0 :: a1 :: a2 :: a3 :: .int x :: l) (.int x :: st) μ Q := rw_go p101_144 rfl
theorem r101_146 : RR 101 146 L st μ Q ↔ RR 101 147 L (.int (nI 4) :: st) μ Q := rw_go p101_146 rfl
theorem r101_147 : RR 101 147 L (.int y :: .int x :: st) μ Q ↔ RR 101 148 L (.int (x &&& y) :: st) μ Q := rw_go p101_147 rfl
theorem r101_148 : RR 101 148 L (.int x :: st) μ Q ↔ if x = 0 then RR 101 155 L st μ Q else RR 101 151 L st μ Q := rw_if p101_148 rfl
theorem r101_151 : RR 101 151 L st μ Q ↔ RR 101 152 L (.int (nI 1) :: st) μ Q := rw_go p101_151 rfl
theorem r101_152 : RR 101 152 L st μ Q ↔ RR 101 156 L st μ Q := rw_go p101_152 rfl
theorem r101_155 : RR 101 155 L st μ Q ↔ RR 101 156 L (.int (nI 0) :: st) μ Q := rw_go p101_155 rfl
theorem r101_156 : RR 101 156 L st μ Q ↔ RR 101 158 L (.int (nI 28) :: st) μ Q := rw_go p101_156 rfl
theorem r101_158 : RR 101 158 (a0 :: .int x :: l) st μ Q ↔ RR 101 159 (a0 :: .int x :: l) (.int x :: st) μ Q := rw_go p101_158 rfl
theorem r101_159 : RR 101 159 (a0 :: a1 :: .int x :: l) st μ Q ↔ RR 101 160 (a0 :: a1 :: .int x :: l) (.int x :: st) μ Q := rw_go p101_159 rfl
theorem r101_160 : RR 101 160 L (.int x4 :: .int x3 :: .int x2 :: .int x1 :: .ref q :: st) (S, (0, 0, sl), M, D, F) Q ↔ (am_cat st ≤ 8 ∧ 5 = 5 ∧ S[q]? = some (.inl 1)) ∧ RR 104 0 [.ref q, .int x1, .int x2, .int x3, .int x4] [] (S, (0, 0, sl), M, D, F) (fun rv μ' => μ'.1.length = S.length ∧ RR 101 163 L (rv.toList ++ st) (μ'.1, (0, 0, sl), μ'.2.2) Q) := rw_call p101_160 rfl (ac104 q x1 x2 x3 x4)
theorem r101_163 : RR 101 163 (a0 :: a1 :: .int x :: l) st μ Q ↔ RR 101 164 (a0 :: a1 :: .int x :: l) (.int x :: st) μ Q := rw_go p101_163 rfl
theorem r101_164 : RR 101 164 L (.int x1 :: st) (S, (0, 0, sl), M, D, F) Q ↔ (am_cat st ≤ 8 ∧ 1 = 1) ∧ RR 27 0 [.int x1] [] (S, (0, 0, sl), M, D, F) (fun rv μ' => μ'.1.length = S.length ∧ RR 101 167 L (rv.toList ++ st) (μ'.1, (0, 0, sl), μ'.2.2) Q) := rw_call p101_164 rfl (ac27 x1)
theorem r101_167 : RR 101 167 L (.int x :: st) μ Q ↔ if x = 0 then RR 101 213 L st μ Q else RR 101 170 L st μ Q := rw_if p101_167 rfl
theorem r101_170 : RR 101 170 (.ref q :: l) st μ Q ↔ RR 101 171 (.ref q :: l) (.ref q :: st) μ Q := rw_go p101_170 rfl
theorem r101_171 : RR 101 171 (a0 :: a1 :: a2 :: a3 :: a4 :: .int x :: l) st μ Q ↔ RR 101 173 (a0 :: a1 :: a2 :: a3 :: a4 :: .int x :: l) (.int x :: st) μ Q := rw_go p101_171 rfl
theorem r101_173 : RR 101 173 L st μ Q ↔ RR 101 174 L (.int (nI 2) :: st) μ Q := rw_go p101_173 rfl
theorem r101_174 : RR 101 174 L (.int y :: .int x :: st) μ Q ↔ RR 101 175 L (.int (x &&& y) :: st) μ Q := rw_go p101_174 rfl
theorem r101_175 : RR 101 175 L (.int x :: st) μ Q ↔ if x = 0 then RR 101 182 L st μ Q else RR 101 178 L st μ Q := rw_if p101_175 rfl
theorem r101_178 : RR 101 178 L st μ Q ↔ RR 101 179 L (.int (nI 1) :: st) μ Q := rw_go p101_178 rfl
theorem r101_179 : RR 101 179 L st μ Q ↔ RR 101 183 L st μ Q := rw_go p101_179 rfl
theorem r101_182 : RR 101 182 L st μ Q ↔ RR 101 183 L (.int (nI 0) :: st) μ Q := rw_go p101_182 rfl
theorem r101_183 : RR 101 183 L st μ Q ↔ RR 101 185 L (.int (nI 29) :: st) μ Q := rw_go p101_183 rfl
theorem r101_185 : RR 101 185 (a0 :: .int x :: l) st μ Q ↔ RR 101 186 (a0 :: .int x :: l) (.int x :: st) μ Q := rw_go p101_185 rfl
theorem r101_186 : RR 101 186 (a0 :: a1 :: .int x :: l) st μ Q ↔ RR 101 187 (a0 :: a1 :: .int x :: l) (.int x :: st) μ Q := rw_go p101_186 rfl
theorem r101_187 : RR 101 187 L (.int x4 :: .int x3 :: .int x2 :: .int x1 :: .ref q :: st) (S, (0, 0, sl), M, D, F) Q ↔ (am_cat st ≤ 8 ∧ 5 = 5 ∧ S[q]? = some (.inl 1)) ∧ RR 104 0 [.ref q, .int x1, .int x2, .int x3, .int x4] [] (S, (0, 0, sl), M, D, F) (fun rv μ' => μ'.1.length = S.length ∧ RR 101 190 L (rv.toList ++ st) (μ'.1, (0, 0, sl), μ'.2.2) Q) := rw_call p101_187 rfl (ac104 q x1 x2 x3 x4)
theorem r101_190 : RR 101 190 (.ref q :: l) st μ Q ↔ RR 101 191 (.ref q :: l) (.ref q :: st) μ Q := rw_go p101_190 rfl
theorem r101_191 : RR 101 191 (a0 :: a1 :: a2 :: a3 :: .int x :: l) st μ Q ↔ RR 101 193 (a0 :: a1 :: a2 :: a3 :: .int x :: l) (.int x :: st) μ Q := rw_go p101_191 rfl
theorem r101_193 : RR 101 193 L st μ Q ↔ RR 101 194 L (.int (nI 2) :: st) μ Q := rw_go p101_193 rfl
theorem r101_194 : RR 101 194 L (.int y :: .int x :: st) μ Q ↔ RR 101 195 L (.int (x &&& y) :: st) μ Q := rw_go p101_194 rfl
theorem r101_195 : RR 101 195 L (.int x :: st) μ Q ↔ if x = 0 then RR 101 202 L st μ Q else RR 101 198 L st μ Q := rw_if p101_195 rfl
theorem r101_198 : RR 101 198 L st μ Q ↔ RR 101 199 L (.int (nI 1) :: st) μ Q := rw_go p101_198 rfl
theorem r101_199 : RR 101 199 L st μ Q ↔ RR 101 203 L st μ Q := rw_go p101_199 rfl
theorem r101_202 : RR 101 202 L st μ Q ↔ RR 101 203 L (.int (nI 0) :: st) μ Q := rw_go p101_202 rfl
theorem r101_203 : RR 101 203 L st μ Q ↔ RR 101 205 L (.int (nI 30) :: st) μ Q := rw_go p101_203 rfl
theorem r101_205 : RR 101 205 (a0 :: .int x :: l) st μ Q ↔ RR 101 206 (a0 :: .int x :: l) (.int x :: st) μ Q := rw_go p101_205 rfl
theorem r101_206 : RR 101 206 (a0 :: a1 :: .int x :: l) st μ Q ↔ RR 101 207 (a0 :: a1 :: .int x :: l) (.int x :: st) μ Q := rw_go p101_206 rfl
theorem r101_207 : RR 101 207 L (.int x4 :: .int x3 :: .int x2 :: .int x1 :: .ref q :: st) (S, (0, 0, sl), M, D, F) Q ↔ (am_cat st ≤ 8 ∧ 5 = 5 ∧ S[q]? = some (.inl 1)) ∧ RR 104 0 [.ref q, .int x1, .int x2, .int x3, .int x4] [] (S, (0, 0, sl), M, D, F) (fun rv μ' => μ'.1.length = S.length ∧ RR 101 210 L (rv.toList ++ st) (μ'.1, (0, 0, sl), μ'.2.2) Q) := rw_call p101_207 rfl (ac104 q x1 x2 x3 x4)
theorem r101_210 : RR 101 210 L st μ Q ↔ RR 101 313 L st μ Q := rw_go p101_210 rfl
theorem r101_213 : RR 101 213 (.ref q :: l) st μ Q ↔ RR 101 214 (.ref q :: l) (.ref q :: st) μ Q := rw_go p101_213 rfl
theorem r101_214 : RR 101 214 L (.ref q :: st) (S, b, M, D, F) Q ↔ S[q]? = some (.inl 1) ∧ RR 101 217 L (va_rf (F q 0) :: st) (S, b, M, D, F) Q := rw_c p101_214 rfl
theorem r101_217 : RR 101 217 (a0 :: .int x :: l) st μ Q ↔ RR 101 218 (a0 :: .int x :: l) (.int x :: st) μ Q := rw_go p101_217 rfl
theorem r101_218 : RR 101 218 (a0 :: a1 :: .int x :: l) st μ Q ↔ RR 101 219 (a0 :: a1 :: .int x :: l) (.int x :: st) μ Q := rw_go p101_218 rfl
theorem r101_219 : RR 101 219 L (.int x2 :: .int x1 :: .ref q :: st) (S, (0, 0, sl), M, D, F) Q ↔ (am_cat st ≤ 8 ∧ 3 = 3 ∧ S[q]? = some (.inl 0)) ∧ RR 92 0 [.ref q, .int x1, .int x2] [] (S, (0, 0, sl), M, D, F) (fun rv μ' => μ'.1.length = S.length ∧ RR 101 222 L (rv.toList ++ st) (μ'.1, (0, 0, sl), μ'.2.2) Q) := rw_call p101_219 rfl (ac92 q x1 x2)
theorem r101_222 : RR 101 222 (a0 :: a1 :: a2 :: a3 :: a4 :: a5 :: c0 :: l) (.int x :: st) μ Q ↔ RR 101 224 (a0 :: a1 :: a2 :: a3 :: a4 :: am_nd a5 :: .int x :: l) st μ Q := rw_ist p101_222 (by show 6 < _; simp only [List.length_cons]; omega)
theorem r101_224 : RR 101 224 (.ref q :: l) st μ Q ↔ RR 101 225 (.ref q :: l) (.ref q :: st) μ Q := rw_go p101_224 rfl
theorem r101_225 : RR 101 225 L (.ref q :: st) (S, b, M, D, F) Q ↔ S[q]? = some (.inl 1) ∧ RR 101 228 L (va_rf (F q 1) :: st) (S, b, M, D, F) Q := rw_c p101_225 rfl
theorem r101_228 : RR 101 228 (a0 :: .int x :: l) st μ Q ↔ RR 101 229 (a0 :: .int x :: l) (.int x :: st) μ Q := rw_go p101_228 rfl
theorem r101_229 : RR 101 229 (a0 :: a1 :: .int x :: l) st μ Q ↔ RR 101 230 (a0 :: a1 :: .int x :: l) (.int x :: st) μ Q := rw_go p101_229 rfl
theorem r101_230 : RR 101 230 L (.int x2 :: .int x1 :: .ref q :: st) (S, (0, 0, sl), M, D, F) Q ↔ (am_cat st ≤ 8 ∧ 3 = 3 ∧ S[q]? = some (.inl 0)) ∧ RR 92 0 [.ref q, .int x1, .int x2] [] (S, (0, 0, sl), M, D, F) (fun rv μ' => μ'.1.length = S.length ∧ RR 101 233 L (rv.toList ++ st) (μ'.1, (0, 0, sl), μ'.2.2) Q) := rw_call p101_230 rfl (ac92 q x1 x2)
theorem r101_233 : RR 101 233 (a0 :: a1 :: a2 :: a3 :: a4 :: a5 :: a6 :: c0 :: l) (.int x :: st) μ Q ↔ RR 101 235 (a0 :: a1 :: a2 :: a3 :: a4 :: a5 :: am_nd a6 :: .int x :: l) st μ Q := rw_ist p101_233 (by show 7 < _; simp only [List.length_cons]; omega)
theorem r101_235 : RR 101 235 (.ref q :: l) st μ Q ↔ RR 101 236 (.ref q :: l) (.ref q :: st) μ Q := rw_go p101_235 rfl
theorem r101_236 : RR 101 236 (a0 :: a1 :: a2 :: a3 :: a4 :: a5 :: .int x :: l) st μ Q ↔ RR 101 238 (a0 :: a1 :: a2 :: a3 :: a4 :: a5 :: .int x :: l) (.int x :: st) μ Q := rw_go p101_236 rfl
theorem r101_238 : RR 101 238 L (.int x :: st) μ Q ↔ if x = 0 then RR 101 259 L st μ Q else RR 101 241 L st μ Q := rw_if p101_238 rfl
theorem r101_241 : RR 101 241 (a0 :: a1 :: a2 :: a3 :: a4 :: a5 :: a6 :: .int x :: l) st μ Q ↔ RR 101 243 (a0 :: a1 :: a2 :: a3 :: a4 :: a5 :: a6 :: .int x :: l) (.int x :: st) μ Q := rw_go p101_241 rfl
theorem r101_243 : RR 101 243 L (.int x :: st) μ Q ↔ if x = 0 then RR 101 259 L st μ Q else RR 101 246 L st μ Q := rw_if p101_243 rfl
theorem r101_246 : RR 101 246 (.ref q :: l) st μ Q ↔ RR 101 247 (.ref q :: l) (.ref q :: st) μ Q := rw_go p101_246 rfl
theorem r101_247 : RR 101 247 (a0 :: .int x :: l) st μ Q ↔ RR 101 248 (a0 :: .int x :: l) (.int x :: st) μ Q := rw_go p101_247 rfl
theorem r101_248 : RR 101 248 (a0 :: a1 :: .int x :: l) st μ Q ↔ RR 101 249 (a0 :: a1 :: .int x :: l) (.int x :: st) μ Q := rw_go p101_248 rfl
theorem r101_249 : RR 101 249 L (.int x2 :: .int x1 :: .ref q :: st) (S, (0, 0, sl), M, D, F) Q ↔ (am_cat st ≤ 8 ∧ 3 = 3 ∧ S[q]? = some (.inl 1)) ∧ RR 102 0 [.ref q, .int x1, .int x2, .long 0, .long 0, .long 0, .long 0] [] (S, (0, 0, sl), M, D, F) (fun rv μ' => μ'.1.length = S.length ∧ RR 101 252 L (rv.toList ++ st) (μ'.1, (0, 0, sl), μ'.2.2) Q) := rw_call p101_249 rfl (ac102 q x1 x2)
theorem r101_252 : RR 101 252 L (.int x :: st) μ Q ↔ if x = 0 then RR 101 259 L st μ Q else RR 101 255 L st μ Q := rw_if p101_252 rfl
theorem r101_255 : RR 101 255 L st μ Q ↔ RR 101 256 L (.int (nI 1) :: st) μ Q := rw_go p101_255 rfl
theorem r101_256 : RR 101 256 L st μ Q ↔ RR 101 260 L st μ Q := rw_go p101_256 rfl
theorem r101_259 : RR 101 259 L st μ Q ↔ RR 101 260 L (.int (nI 0) :: st) μ Q := rw_go p101_259 rfl
theorem r101_260 : RR 101 260 L st μ Q ↔ RR 101 262 L (.int (nI 31) :: st) μ Q := rw_go p101_260 rfl
theorem r101_262 : RR 101 262 (a0 :: .int x :: l) st μ Q ↔ RR 101 263 (a0 :: .int x :: l) (.int x :: st) μ Q := rw_go p101_262 rfl
theorem r101_263 : RR 101 263 (a0 :: a1 :: .int x :: l) st μ Q ↔ RR 101 264 (a0 :: a1 :: .int x :: l) (.int x :: st) μ Q := rw_go p101_263 rfl
theorem r101_264 : RR 101 264 L (.int x4 :: .int x3 :: .int x2 :: .int x1 :: .ref q :: st) (S, (0, 0, sl), M, D, F) Q ↔ (am_cat st ≤ 8 ∧ 5 = 5 ∧ S[q]? = some (.inl 1)) ∧ RR 104 0 [.ref q, .int x1, .int x2, .int x3, .int x4] [] (S, (0, 0, sl), M, D, F) (fun rv μ' => μ'.1.length = S.length ∧ RR 101 267 L (rv.toList ++ st) (μ'.1, (0, 0, sl), μ'.2.2) Q) := rw_call p101_264 rfl (ac104 q x1 x2 x3 x4)
theorem r101_267 : RR 101 267 (.ref q :: l) st μ Q ↔ RR 101 268 (.ref q :: l) (.ref q :: st) μ Q := rw_go p101_267 rfl
theorem r101_268 : RR 101 268 (a0 :: a1 :: a2 :: a3 :: a4 :: a5 :: .int x :: l) st μ Q ↔ RR 101 270 (a0 :: a1 :: a2 :: a3 :: a4 :: a5 :: .int x :: l) (.int x :: st) μ Q := rw_go p101_268 rfl
theorem r101_270 : RR 101 270 L (.int x :: st) μ Q ↔ if x = 0 then RR 101 282 L st μ Q else RR 101 273 L st μ Q := rw_if p101_270 rfl
theorem r101_273 : RR 101 273 (a0 :: a1 :: a2 :: a3 :: a4 :: a5 :: a6 :: .int x :: l) st μ Q ↔ RR 101 275 (a0 :: a1 :: a2 :: a3 :: a4 :: a5 :: a6 :: .int x :: l) (.int x :: st) μ Q := rw_go p101_273 rfl
theorem r101_275 : RR 101 275 L (.int x :: st) μ Q ↔ if ¬ x = 0 then RR 101 282 L st μ Q else RR 101 278 L st μ Q := rw_if p101_275 rfl
theorem r101_278 : RR 101 278 L st μ Q ↔ RR 101 279 L (.int (nI 1) :: st) μ Q := rw_go p101_278 rfl
theorem r101_279 : RR 101 279 L st μ Q ↔ RR 101 283 L st μ Q := rw_go p101_279 rfl
theorem r101_282 : RR 101 282 L st μ Q ↔ RR 101 283 L (.int (nI 0) :: st) μ Q := rw_go p101_282 rfl
theorem r101_283 : RR 101 283 L st μ Q ↔ RR 101 285 L (.int (nI 32) :: st) μ Q := rw_go p101_283 rfl
theorem r101_285 : RR 101 285 (a0 :: .int x :: l) st μ Q ↔ RR 101 286 (a0 :: .int x :: l) (.int x :: st) μ Q := rw_go p101_285 rfl
theorem r101_286 : RR 101 286 (a0 :: a1 :: .int x :: l) st μ Q ↔ RR 101 287 (a0 :: a1 :: .int x :: l) (.int x :: st) μ Q := rw_go p101_286 rfl
theorem r101_287 : RR 101 287 L (.int x4 :: .int x3 :: .int x2 :: .int x1 :: .ref q :: st) (S, (0, 0, sl), M, D, F) Q ↔ (am_cat st ≤ 8 ∧ 5 = 5 ∧ S[q]? = some (.inl 1)) ∧ RR 104 0 [.ref q, .int x1, .int x2, .int x3, .int x4] [] (S, (0, 0, sl), M, D, F) (fun rv μ' => μ'.1.length = S.length ∧ RR 101 290 L (rv.toList ++ st) (μ'.1, (0, 0, sl), μ'.2.2) Q) := rw_call p101_287 rfl (ac104 q x1 x2 x3 x4)
theorem r101_290 : RR 101 290 (.ref q :: l) st μ Q ↔ RR 101 291 (.ref q :: l) (.ref q :: st) μ Q := rw_go p101_290 rfl
theorem r101_291 : RR 101 291 (a0 :: a1 :: a2 :: a3 :: a4 :: a5 :: .int x :: l) st μ Q ↔ RR 101 293 (a0 :: a1 :: a2 :: a3 :: a4 :: a5 :: .int x :: l) (.int x :: st) μ Q := rw_go p101_291 rfl
theorem r101_293 : RR 101 293 L (.int x :: st) μ Q ↔ if ¬ x = 0 then RR 101 305 L st μ Q else RR 101 296 L st μ Q := rw_if p101_293 rfl
theorem r101_296 : RR 101 296 (a0 :: a1 :: a2 :: a3 :: a4 :: a5 :: a6 :: .int x :: l) st μ Q ↔ RR 101 298 (a0 :: a1 :: a2 :: a3 :: a4 :: a5 :: a6 :: .int x :: l) (.int x :: st) μ Q := rw_go p101_296 rfl
theorem r101_298 : RR 101 298 L (.int x :: st) μ Q ↔ if x = 0 then RR 101 305 L st μ Q else RR 101 301 L st μ Q := rw_if p101_298 rfl
theorem r101_301 : RR 101 301 L st μ Q ↔ RR 101 302 L (.int (nI 1) :: st) μ Q := rw_go p101_301 rfl
theorem r101_302 : RR 101 302 L st μ Q ↔ RR 101 306 L st μ Q := rw_go p101_302 rfl
theorem r101_305 : RR 101 305 L st μ Q ↔ RR 101 306 L (.int (nI 0) :: st) μ Q := rw_go p101_305 rfl
theorem r101_306 : RR 101 306 L st μ Q ↔ RR 101 308 L (.int (nI 33) :: st) μ Q := rw_go p101_306 rfl
theorem r101_308 : RR 101 308 (a0 :: .int x :: l) st μ Q ↔ RR 101 309 (a0 :: .int x :: l) (.int x :: st) μ Q := rw_go p101_308 rfl
theorem r101_309 : RR 101 309 (a0 :: a1 :: .int x :: l) st μ Q ↔ RR 101 310 (a0 :: a1 :: .int x :: l) (.int x :: st) μ Q := rw_go p101_309 rfl
theorem r101_310 : RR 101 310 L (.int x4 :: .int x3 :: .int x2 :: .int x1 :: .ref q :: st) (S, (0, 0, sl), M, D, F) Q ↔ (am_cat st ≤ 8 ∧ 5 = 5 ∧ S[q]? = some (.inl 1)) ∧ RR 104 0 [.ref q, .int x1, .int x2, .int x3, .int x4] [] (S, (0, 0, sl), M, D, F) (fun rv μ' => μ'.1.length = S.length ∧ RR 101 313 L (rv.toList ++ st) (μ'.1, (0, 0, sl), μ'.2.2) Q) := rw_call p101_310 rfl (ac104 q x1 x2 x3 x4)
theorem r101_313 : RR 101 313 L [] μ Q ↔ Q none μ := rw_r p101_313 rfl
/-! ReleaseDesk$Comparison.areConstantsDifferent -/
theorem r102_0 : RR 102 0 (.ref q :: l) st μ Q ↔ RR 102 1 (.ref q :: l) (.ref q :: st) μ Q := rw_go p102_0 rfl
theorem r102_1 : RR 102 1 L (.ref q :: st) (S, b, M, D, F) Q ↔ S[q]? = some (.inl 1) ∧ RR 102 4 L (va_rf (F q 0) :: st) (S, b, M, D, F) Q := rw_c p102_1 rfl
theorem r102_4 : RR 102 4 (a0 :: .int x :: l) st μ Q ↔ RR 102 5 (a0 :: .int x :: l) (.int x :: st) μ Q := rw_go p102_4 rfl
theorem r102_5 : RR 102 5 (a0 :: a1 :: .int x :: l) st μ Q ↔ RR 102 6 (a0 :: a1 :: .int x :: l) (.int x :: st) μ Q := rw_go p102_5 rfl
theorem r102_6 : RR 102 6 L (.int x2 :: .int x1 :: .ref q :: st) (S, (0, 0, sl), M, D, F) Q ↔ (am_cat st ≤ 8 ∧ 3 = 3 ∧ S[q]? = some (.inl 0)) ∧ RR 93 0 [.ref q, .int x1, .int x2] [] (S, (0, 0, sl), M, D, F) (fun rv μ' => μ'.1.length = S.length ∧ RR 102 9 L (rv.toList ++ st) (μ'.1, (0, 0, sl), μ'.2.2) Q) := rw_call p102_6 rfl (ac93 q x1 x2)
theorem r102_9 : RR 102 9 (a0 :: a1 :: a2 :: c0 :: c1 :: l) (.double d :: st) μ Q ↔ RR 102 10 (a0 :: a1 :: am_nd a2 :: .double d :: .long 0 :: l) st μ Q := rw_dstn p102_9 (by show 4 < _; simp only [List.length_cons]; omega)
theorem r102_10 : RR 102 10 (.ref q :: l) st μ Q ↔ RR 102 11 (.ref q :: l) (.ref q :: st) μ Q := rw_go p102_10 rfl
theorem r102_11 : RR 102 11 L (.ref q :: st) (S, b, M, D, F) Q ↔ S[q]? = some (.inl 1) ∧ RR 102 14 L (va_rf (F q 1) :: st) (S, b, M, D, F) Q := rw_c p102_11 rfl
theorem r102_14 : RR 102 14 (a0 :: .int x :: l) st μ Q ↔ RR 102 15 (a0 :: .int x :: l) (.int x :: st) μ Q := rw_go p102_14 rfl
theorem r102_15 : RR 102 15 (a0 :: a1 :: .int x :: l) st μ Q ↔ RR 102 16 (a0 :: a1 :: .int x :: l) (.int x :: st) μ Q := rw_go p102_15 rfl
theorem r102_16 : RR 102 16 L (.int x2 :: .int x1 :: .ref q :: st) (S, (0, 0, sl), M, D, F) Q ↔ (am_cat st ≤ 8 ∧ 3 = 3 ∧ S[q]? = some (.inl 0)) ∧ RR 93 0 [.ref q, .int x1, .int x2] [] (S, (0, 0, sl), M, D, F) (fun rv μ' => μ'.1.length = S.length ∧ RR 102 19 L (rv.toList ++ st) (μ'.1, (0, 0, sl), μ'.2.2) Q) := rw_call p102_16 rfl (ac93 q x1 x2)
theorem r102_19 : RR 102 19 (a0 :: a1 :: a2 :: a3 :: a4 :: c0 :: c1 :: l) (.double d :: st) μ Q ↔ RR 102 21 (a0 :: a1 :: a2 :: a3 :: am_nd a4 :: .double d :: .long 0 :: l) st μ Q := rw_dst p102_19 (by show 6 < _; simp only [List.length_cons]; omega)
theorem r102_21 : RR 102 21 (a0 :: a1 :: a2 :: .double d :: l) st μ Q ↔ RR 102 22 (a0 :: a1 :: a2 :: .double d :: l) (.double d :: st) μ Q := rw_go p102_21 rfl
theorem r102_22 : RR 102 22 (a0 :: a1 :: a2 :: a3 :: a4 :: .double d :: l) st μ Q ↔ RR 102 24 (a0 :: a1 :: a2 :: a3 :: a4 :: .double d :: l) (.double d :: st) μ Q := rw_go p102_22 rfl
theorem r102_24 : RR 102 24 L (.double d2 :: .double d :: st) μ Q ↔ RR 102 25 L (.int (Op.cmpValue (FP.dcmp d d2) .l) :: st) μ Q := rw_go p102_24 rfl
theorem r102_25 : RR 102 25 L (.int x :: st) μ Q ↔ if x = 0 then RR 102 46 L st μ Q else RR 102 28 L st μ Q := rw_if p102_25 rfl
theorem r102_28 : RR 102 28 (a0 :: a1 :: a2 :: .double d :: l) st μ Q ↔ RR 102 29 (a0 :: a1 :: a2 :: .double d :: l) (.double d :: st) μ Q := rw_go p102_28 rfl
theorem r102_29 : RR 102 29 (a0 :: a1 :: a2 :: .double d :: l) st μ Q ↔ RR 102 30 (a0 :: a1 :: a2 :: .double d :: l) (.double d :: st) μ Q := rw_go p102_29 rfl
theorem r102_30 : RR 102 30 L (.double d2 :: .double d :: st) μ Q ↔ RR 102 31 L (.int (Op.cmpValue (FP.dcmp d d2) .l) :: st) μ Q := rw_go p102_30 rfl
theorem r102_31 : RR 102 31 L (.int x :: st) μ Q ↔ if x = 0 then RR 102 42 L st μ Q else RR 102 34 L st μ Q := rw_if p102_31 rfl
theorem r102_34 : RR 102 34 (a0 :: a1 :: a2 :: a3 :: a4 :: .double d :: l) st μ Q ↔ RR 102 36 (a0 :: a1 :: a2 :: a3 :: a4 :: .double d :: l) (.double d :: st) μ Q := rw_go p102_34 rfl
theorem r102_36 : RR 102 36 (a0 :: a1 :: a2 :: a3 :: a4 :: .double d :: l) st μ Q ↔ RR 102 38 (a0 :: a1 :: a2 :: a3 :: a4 :: .double d :: l) (.double d :: st) μ Q := rw_go p102_36 rfl
theorem r102_38 : RR 102 38 L (.double d2 :: .double d :: st) μ Q ↔ RR 102 39 L (.int (Op.cmpValue (FP.dcmp d d2) .l) :: st) μ Q := rw_go p102_38 rfl
theorem r102_39 : RR 102 39 L (.int x :: st) μ Q ↔ if ¬ x = 0 then RR 102 46 L st μ Q else RR 102 42 L st μ Q := rw_if p102_39 rfl
theorem r102_42 : RR 102 42 L st μ Q ↔ RR 102 43 L (.int (nI 1) :: st) μ Q := rw_go p102_42 rfl
theorem r102_43 : RR 102 43 L st μ Q ↔ RR 102 47 L st μ Q := rw_go p102_43 rfl
theorem r102_46 : RR 102 46 L st μ Q ↔ RR 102 47 L (.int (nI 0) :: st) μ Q := rw_go p102_46 rfl
theorem r102_47 : RR 102 47 L [.int x] μ Q ↔ (x = 0 ∨ x = 1) ∧ Q (some (.int x)) μ := rw_rc p102_47 rfl
/-! ReleaseDesk$Comparison.shiftOf -/
theorem r103_0 : RR 103 0 (.ref q :: l) st μ Q ↔ RR 103 1 (.ref q :: l) (.ref q :: st) μ Q := rw_go p103_0 rfl
theorem r103_1 : RR 103 1 L (.ref q :: st) (S, b, M, D, F) Q ↔ S[q]? = some (.inl 1) ∧ RR 103 4 L (va_rf (F q 0) :: st) (S, b, M, D, F) Q := rw_c p103_1 rfl
theorem r103_4 : RR 103 4 (a0 :: .int x :: l) st μ Q ↔ RR 103 5 (a0 :: .int x :: l) (.int x :: st) μ Q := rw_go p103_4 rfl
theorem r103_5 : RR 103 5 (a0 :: a1 :: .int x :: l) st μ Q ↔ RR 103 6 (a0 :: a1 :: .int x :: l) (.int x :: st) μ Q := rw_go p103_5 rfl
theorem r103_6 : RR 103 6 L (.int x2 :: .int x1 :: .ref q :: st) (S, (0, 0, sl), M, D, F) Q ↔ (am_cat st ≤ 8 ∧ 3 = 3 ∧ S[q]? = some (.inl 0)) ∧ RR 93 0 [.ref q, .int x1, .int x2] [] (S, (0, 0, sl), M, D, F) (fun rv μ' => μ'.1.length = S.length ∧ RR 103 9 L (rv.toList ++ st) (μ'.1, (0, 0, sl), μ'.2.2) Q) := rw_call p103_6 rfl (ac93 q x1 x2)
theorem r103_9 : RR 103 9 (a0 :: a1 :: a2 :: c0 :: c1 :: l) (.double d :: st) μ Q ↔ RR 103 10 (a0 :: a1 :: am_nd a2 :: .double d :: .long 0 :: l) st μ Q := rw_dstn p103_9 (by show 4 < _; simp only [List.length_cons]; omega)
theorem r103_10 : RR 103 10 (.ref q :: l) st μ Q ↔ RR 103 11 (.ref q :: l) (.ref q :: st) μ Q := rw_go p103_10 rfl
theorem r103_11 : RR 103 11 L (.ref q :: st) (S, b, M, D, F) Q ↔ S[q]? = some (.inl 1) ∧ RR 103 14 L (va_rf (F q 1) :: st) (S, b, M, D, F) Q := rw_c p103_11 rfl
theorem r103_14 : RR 103 14 (a0 :: .int x :: l) st μ Q ↔ RR 103 15 (a0 :: .int x :: l) (.int x :: st) μ Q := rw_go p103_14 rfl
theorem r103_15 : RR 103 15 (a0 :: a1 :: .int x :: l) st μ Q ↔ RR 103 16 (a0 :: a1 :: .int x :: l) (.int x :: st) μ Q := rw_go p103_15 rfl
theorem r103_16 : RR 103 16 L (.int x2 :: .int x1 :: .ref q :: st) (S, (0, 0, sl), M, D, F) Q ↔ (am_cat st ≤ 8 ∧ 3 = 3 ∧ S[q]? = some (.inl 0)) ∧ RR 93 0 [.ref q, .int x1, .int x2] [] (S, (0, 0, sl), M, D, F) (fun rv μ' => μ'.1.length = S.length ∧ RR 103 19 L (rv.toList ++ st) (μ'.1, (0, 0, sl), μ'.2.2) Q) := rw_call p103_16 rfl (ac93 q x1 x2)
theorem r103_19 : RR 103 19 (a0 :: a1 :: a2 :: a3 :: a4 :: c0 :: c1 :: l) (.double d :: st) μ Q ↔ RR 103 21 (a0 :: a1 :: a2 :: a3 :: am_nd a4 :: .double d :: .long 0 :: l) st μ Q := rw_dst p103_19 (by show 6 < _; simp only [List.length_cons]; omega)
theorem r103_21 : RR 103 21 (a0 :: a1 :: a2 :: .double d :: l) st μ Q ↔ RR 103 22 (a0 :: a1 :: a2 :: .double d :: l) (.double d :: st) μ Q := rw_go p103_21 rfl
theorem r103_22 : RR 103 22 (a0 :: a1 :: a2 :: .double d :: l) st μ Q ↔ RR 103 23 (a0 :: a1 :: a2 :: .double d :: l) (.double d :: st) μ Q := rw_go p103_22 rfl
theorem r103_23 : RR 103 23 L (.double d2 :: .double d :: st) μ Q ↔ RR 103 24 L (.int (Op.cmpValue (FP.dcmp d d2) .l) :: st) μ Q := rw_go p103_23 rfl
theorem r103_24 : RR 103 24 L (.int x :: st) μ Q ↔ if x = 0 then RR 103 29 L st μ Q else RR 103 27 L st μ Q := rw_if p103_24 rfl
theorem r103_27 : RR 103 27 (a0 :: a1 :: a2 :: .double d :: l) st μ Q ↔ RR 103 28 (a0 :: a1 :: a2 :: .double d :: l) (.double d :: st) μ Q := rw_go p103_27 rfl
theorem r103_28 : RR 103 28 L [.double d] μ Q ↔ Q (some (.double d)) μ := rw_r p103_28 rfl
theorem r103_29 : RR 103 29 (a0 :: a1 :: a2 :: a3 :: a4 :: .double d :: l) st μ Q ↔ RR 103 31 (a0 :: a1 :: a2 :: a3 :: a4 :: .double d :: l) (.double d :: st) μ Q := rw_go p103_29 rfl
theorem r103_31 : RR 103 31 (a0 :: a1 :: a2 :: a3 :: a4 :: .double d :: l) st μ Q ↔ RR 103 33 (a0 :: a1 :: a2 :: a3 :: a4 :: .double d :: l) (.double d :: st) μ Q := rw_go p103_31 rfl
theorem r103_33 : RR 103 33 L (.double d2 :: .double d :: st) μ Q ↔ RR 103 34 L (.int (Op.cmpValue (FP.dcmp d d2) .l) :: st) μ Q := rw_go p103_33 rfl
theorem r103_34 : RR 103 34 L (.int x :: st) μ Q ↔ if x = 0 then RR 103 40 L st μ Q else RR 103 37 L st μ Q := rw_if p103_34 rfl
theorem r103_37 : RR 103 37 (a0 :: a1 :: a2 :: a3 :: a4 :: .double d :: l) st μ Q ↔ RR 103 39 (a0 :: a1 :: a2 :: a3 :: a4 :: .double d :: l) (.double d :: st) μ Q := rw_go p103_37 rfl
theorem r103_39 : RR 103 39 L [.double d] μ Q ↔ Q (some (.double d)) μ := rw_r p103_39 rfl
theorem r103_40 : RR 103 40 (a0 :: a1 :: a2 :: a3 :: a4 :: .double d :: l) st μ Q ↔ RR 103 42 (a0 :: a1 :: a2 :: a3 :: a4 :: .double d :: l) (.double d :: st) μ Q := rw_go p103_40 rfl
theorem r103_42 : RR 103 42 (a0 :: a1 :: a2 :: .double d :: l) st μ Q ↔ RR 103 43 (a0 :: a1 :: a2 :: .double d :: l) (.double d :: st) μ Q := rw_go p103_42 rfl
theorem r103_43 : RR 103 43 L (.double d2 :: .double d :: st) μ Q ↔ vf_n64 (FP.dsub d d2) ∧ RR 103 44 L (.double (FP.dsub d d2) :: st) μ Q := rw_c (p := FP.dsub d d2 &&& 0x7fffffffffffffff ≤ 0x7ff0000000000000) p103_43 rfl
theorem r103_44 : RR 103 44 L [.double d] μ Q ↔ Q (some (.double d)) μ := rw_r p103_44 rfl
/-! ReleaseDesk$Comparison.note -/
theorem r104_0 : RR 104 0 (a0 :: .int x :: l) st μ Q ↔ RR 104 1 (a0 :: .int x :: l) (.int x :: st) μ Q := rw_go p104_0 rfl
theorem r104_1 : RR 104 1 L (.int x :: st) μ Q ↔ if x = 0 then RR 104 23 L st μ Q else RR 104 4 L st μ Q := rw_if p104_1 rfl
theorem r104_4 : RR 104 4 (.ref q :: l) st μ Q ↔ RR 104 5 (.ref q :: l) (.ref q :: st) μ Q := rw_go p104_4 rfl
theorem r104_5 : RR 104 5 L (.ref q :: st) (S, b, M, D, F) Q ↔ S[q]? = some (.inl 1) ∧ RR 104 8 L (va_rf (F q 2) :: st) (S, b, M, D, F) Q := rw_c p104_5 rfl
theorem r104_8 : RR 104 8 (a0 :: a1 :: .int x :: l) st μ Q ↔ RR 104 9 (a0 :: a1 :: .int x :: l) (.int x :: st) μ Q := rw_go p104_8 rfl
theorem r104_9 : RR 104 9 (.ref q :: l) st μ Q ↔ RR 104 10 (.ref q :: l) (.ref q :: st) μ Q := rw_go p104_9 rfl
theorem r104_10 : RR 104 10 L (.ref q :: st) (S, b, M, D, F) Q ↔ S[q]? = some (.inl 1) ∧ RR 104 13 L (va_rf (F q 0) :: st) (S, b, M, D, F) Q := rw_c p104_10 rfl
theorem r104_13 : RR 104 13 (a0 :: a1 :: a2 :: .int x :: l) st μ Q ↔ RR 104 14 (a0 :: a1 :: a2 :: .int x :: l) (.int x :: st) μ Q := rw_go p104_13 rfl
theorem r104_14 : RR 104 14 L (.int x1 :: .ref q :: st) (S, (0, 0, sl), M, D, F) Q ↔ (am_cat st ≤ 8 ∧ 2 = 2 ∧ S[q]? = some (.inl 0)) ∧ RR 84 0 [.ref q, .int x1] [] (S, (0, 0, sl), M, D, F) (fun rv μ' => μ'.1.length = S.length ∧ RR 104 17 L (rv.toList ++ st) (μ'.1, (0, 0, sl), μ'.2.2) Q) := rw_call p104_14 rfl (ac84 q x1)
theorem r104_17 : RR 104 17 (a0 :: a1 :: a2 :: .int x :: l) st μ Q ↔ RR 104 18 (a0 :: a1 :: a2 :: .int x :: l) (.int x :: st) μ Q := rw_go p104_17 rfl
theorem r104_18 : RR 104 18 (a0 :: a1 :: a2 :: a3 :: .int x :: l) st μ Q ↔ RR 104 20 (a0 :: a1 :: a2 :: a3 :: .int x :: l) (.int x :: st) μ Q := rw_go p104_18 rfl
theorem r104_20 : RR 104 20 L (.int x4 :: .int x3 :: .int x2 :: .int x1 :: .ref q :: st) (S, (0, 0, sl), M, D, F) Q ↔ (am_cat st ≤ 8 ∧ 5 = 5 ∧ S[q]? = some (.inl 2)) ∧ RR 109 0 [.ref q, .int x1, .int x2, .int x3, .int x4] [] (S, (0, 0, sl), M, D, F) (fun rv μ' => μ'.1.length = S.length ∧ RR 104 23 L (rv.toList ++ st) (μ'.1, (0, 0, sl), μ'.2.2) Q) := rw_call p104_20 rfl (ac109 q x1 x2 x3 x4)
theorem r104_23 : RR 104 23 L [] μ Q ↔ Q none μ := rw_r p104_23 rfl
/-! ReleaseDesk$Listing.init -/
theorem r105_0 : RR 105 0 (.ref q :: l) st μ Q ↔ RR 105 1 (.ref q :: l) (.ref q :: st) μ Q := rw_go p105_0 rfl
theorem r105_1 : RR 105 1 L (.ref q :: st) μ Q ↔ am_cat st ≤ 8 ∧ RR 105 4 L st μ Q := rw_c p105_1 rfl
theorem r105_4 : RR 105 4 (.ref q :: l) st μ Q ↔ RR 105 5 (.ref q :: l) (.ref q :: st) μ Q := rw_go p105_4 rfl
theorem r105_5 : RR 105 5 L st μ Q ↔ RR 105 8 L (.int (nI 816) :: st) μ Q := rw_go p105_5 rfl
theorem r105_10 : RR 105 10 L (.ref q2 :: .ref q :: st) (S, b, M, D, F) Q ↔ S[q]? = some (.inl 2) ∧ RR 105 13 L st (S, b, M, D, am_up F q 0 (some q2)) Q := rw_c p105_10 rfl
theorem r105_13 : RR 105 13 L [] μ Q ↔ Q none μ := rw_r p105_13 rfl
/-! ReleaseDesk$Listing.empty -/
theorem r106_0 : RR 106 0 (.ref q :: l) st μ Q ↔ RR 106 1 (.ref q :: l) (.ref q :: st) μ Q := rw_go p106_0 rfl
theorem r106_1 : RR 106 1 L st μ Q ↔ RR 106 2 L (.int (nI 0) :: st) μ Q := rw_go p106_1 rfl
theorem r106_2 : RR 106 2 L (.int x :: .ref q :: st) (S, b, M, D, F) Q ↔ S[q]? = some (.inl 2) ∧ RR 106 5 L st (S, b, am_up M q 1 x, D, F) Q := rw_c p106_2 rfl
theorem r106_5 : RR 106 5 L [] μ Q ↔ Q none μ := rw_r p106_5 rfl
/-! ReleaseDesk$Listing.size -/
theorem r107_0 : RR 107 0 (.ref q :: l) st μ Q ↔ RR 107 1 (.ref q :: l) (.ref q :: st) μ Q := rw_go p107_0 rfl
theorem r107_1 : RR 107 1 L (.ref q :: st) (S, b, M, D, F) Q ↔ S[q]? = some (.inl 2) ∧ RR 107 4 L (.int (M q 1) :: st) (S, b, M, D, F) Q := rw_c p107_1 rfl
theorem r107_4 : RR 107 4 L [.int x] μ Q ↔ Q (some (.int x)) μ := rw_r p107_4 rfl
/-! ReleaseDesk$Listing.has -/
theorem r108_0 : RR 108 0 (a0 :: .int x :: l) st μ Q ↔ RR 108 1 (a0 :: .int x :: l) (.int x :: st) μ Q := rw_go p108_0 rfl
theorem r108_1 : RR 108 1 L (.int x :: st) μ Q ↔ if x < 0 then RR 108 16 L st μ Q else RR 108 4 L st μ Q := rw_if p108_1 rfl
theorem r108_4 : RR 108 4 (a0 :: .int x :: l) st μ Q ↔ RR 108 5 (a0 :: .int x :: l) (.int x :: st) μ Q := rw_go p108_4 rfl
theorem r108_5 : RR 108 5 (.ref q :: l) st μ Q ↔ RR 108 6 (.ref q :: l) (.ref q :: st) μ Q := rw_go p108_5 rfl
theorem r108_6 : RR 108 6 L (.ref q :: st) (S, b, M, D, F) Q ↔ S[q]? = some (.inl 2) ∧ RR 108 9 L (.int (M q 1) :: st) (S, b, M, D, F) Q := rw_c p108_6 rfl
theorem r108_9 : RR 108 9 L (.int y :: .int x :: st) μ Q ↔ if y ≤ x then RR 108 16 L st μ Q else RR 108 12 L st μ Q := rw_if p108_9 rfl
theorem r108_12 : RR 108 12 L st μ Q ↔ RR 108 13 L (.int (nI 1) :: st) μ Q := rw_go p108_12 rfl
theorem r108_13 : RR 108 13 L st μ Q ↔ RR 108 17 L st μ Q := rw_go p108_13 rfl
theorem r108_16 : RR 108 16 L st μ Q ↔ RR 108 17 L (.int (nI 0) :: st) μ Q := rw_go p108_16 rfl
theorem r108_17 : RR 108 17 L [.int x] μ Q ↔ (x = 0 ∨ x = 1) ∧ Q (some (.int x)) μ := rw_rc p108_17 rfl
/-! ReleaseDesk$Listing.append -/
theorem r109_0 : RR 109 0 (.ref q :: l) st μ Q ↔ RR 109 1 (.ref q :: l) (.ref q :: st) μ Q := rw_go p109_0 rfl
theorem r109_1 : RR 109 1 L (.ref q :: st) (S, b, M, D, F) Q ↔ S[q]? = some (.inl 2) ∧ RR 109 4 L (.int (M q 1) :: st) (S, b, M, D, F) Q := rw_c p109_1 rfl
theorem r109_4 : RR 109 4 L st μ Q ↔ RR 109 7 L (.int (nI 816) :: st) μ Q := rw_go p109_4 rfl
theorem r109_7 : RR 109 7 L (.int y :: .int x :: st) μ Q ↔ if y ≤ x then RR 109 47 L st μ Q else RR 109 10 L st μ Q := rw_if p109_7 rfl
theorem r109_10 : RR 109 10 (.ref q :: l) st μ Q ↔ RR 109 11 (.ref q :: l) (.ref q :: st) μ Q := rw_go p109_10 rfl
theorem r109_11 : RR 109 11 L (.ref q :: st) (S, b, M, D, F) Q ↔ S[q]? = some (.inl 2) ∧ RR 109 14 L (va_rf (F q 0) :: st) (S, b, M, D, F) Q := rw_c p109_11 rfl
theorem r109_14 : RR 109 14 (.ref q :: l) st μ Q ↔ RR 109 15 (.ref q :: l) (.ref q :: st) μ Q := rw_go p109_14 rfl
theorem r109_15 : RR 109 15 L (.ref q :: st) (S, b, M, D, F) Q ↔ S[q]? = some (.inl 2) ∧ RR 109 18 L (.int (M q 1) :: st) (S, b, M, D, F) Q := rw_c p109_15 rfl
theorem r109_18 : RR 109 18 (a0 :: a1 :: .int x :: l) st μ Q ↔ RR 109 19 (a0 :: a1 :: .int x :: l) (.int x :: st) μ Q := rw_go p109_18 rfl
theorem r109_19 : RR 109 19 L st μ Q ↔ RR 109 21 L (.int (nI 19) :: st) μ Q := rw_go p109_19 rfl
theorem r109_21 : RR 109 21 L (.int y :: .int x :: st) μ Q ↔ RR 109 22 L (.int (x <<< (y &&& 31)) :: st) μ Q := rw_go p109_21 rfl
theorem r109_22 : RR 109 22 (a0 :: a1 :: a2 :: .int x :: l) st μ Q ↔ RR 109 23 (a0 :: a1 :: a2 :: .int x :: l) (.int x :: st) μ Q := rw_go p109_22 rfl
theorem r109_23 : RR 109 23 L st μ Q ↔ RR 109 25 L (.int (nI 16) :: st) μ Q := rw_go p109_23 rfl
theorem r109_25 : RR 109 25 L (.int y :: .int x :: st) μ Q ↔ RR 109 26 L (.int (x <<< (y &&& 31)) :: st) μ Q := rw_go p109_25 rfl
theorem r109_26 : RR 109 26 L (.int y :: .int x :: st) μ Q ↔ RR 109 27 L (.int (x ||| y) :: st) μ Q := rw_go p109_26 rfl
theorem r109_27 : RR 109 27 (a0 :: .int x :: l) st μ Q ↔ RR 109 28 (a0 :: .int x :: l) (.int x :: st) μ Q := rw_go p109_27 rfl
theorem r109_28 : RR 109 28 L st μ Q ↔ RR 109 29 L (.int (nI 5) :: st) μ Q := rw_go p109_28 rfl
theorem r109_29 : RR 109 29 L (.int y :: .int x :: st) μ Q ↔ RR 109 30 L (.int (x <<< (y &&& 31)) :: st) μ Q := rw_go p109_29 rfl
theorem r109_30 : RR 109 30 L (.int y :: .int x :: st) μ Q ↔ RR 109 31 L (.int (x ||| y) :: st) μ Q := rw_go p109_30 rfl
theorem r109_31 : RR 109 31 (a0 :: a1 :: a2 :: a3 :: .int x :: l) st μ Q ↔ RR 109 33 (a0 :: a1 :: a2 :: a3 :: .int x :: l) (.int x :: st) μ Q := rw_go p109_31 rfl
theorem r109_33 : RR 109 33 L st μ Q ↔ RR 109 34 L (.int (nI 1) :: st) μ Q := rw_go p109_33 rfl
theorem r109_34 : RR 109 34 L (.int y :: .int x :: st) μ Q ↔ RR 109 35 L (.int (x + y) :: st) μ Q := rw_go p109_34 rfl
theorem r109_35 : RR 109 35 L (.int y :: .int x :: st) μ Q ↔ RR 109 36 L (.int (x ||| y) :: st) μ Q := rw_go p109_35 rfl
theorem r109_36 : RR 109 36 L (.int x :: .int y :: .ref q :: st) (S, b, M, D, F) Q ↔ am_bs S q 0 y ∧ RR 109 37 L st (S, b, am_up M q y.toInt.toNat x, D, F) Q := rw_c p109_36 (am_xst_eq (f := fun x => x))
theorem r109_37 : RR 109 37 (.ref q :: l) st μ Q ↔ RR 109 38 (.ref q :: l) (.ref q :: st) μ Q := rw_go p109_37 rfl
theorem r109_38 : RR 109 38 L (.ref q :: st) μ Q ↔ RR 109 39 L (.ref q :: .ref q :: st) μ Q := rw_go p109_38 rfl
theorem r109_38i : RR 109 38 L (.int x :: st) μ Q ↔ RR 109 39 L (.int x :: .int x :: st) μ Q := rw_go p109_38 rfl
theorem r109_39 : RR 109 39 L (.ref q :: st) (S, b, M, D, F) Q ↔ S[q]? = some (.inl 2) ∧ RR 109 42 L (.int (M q 1) :: st) (S, b, M, D, F) Q := rw_c p109_39 rfl
theorem r109_42 : RR 109 42 L st μ Q ↔ RR 109 43 L (.int (nI 1) :: st) μ Q := rw_go p109_42 rfl
theorem r109_43 : RR 109 43 L (.int y :: .int x :: st) μ Q ↔ RR 109 44 L (.int (x + y) :: st) μ Q := rw_go p109_43 rfl
theorem r109_44 : RR 109 44 L (.int x :: .ref q :: st) (S, b, M, D, F) Q ↔ S[q]? = some (.inl 2) ∧ RR 109 47 L st (S, b, am_up M q 1 x, D, F) Q := rw_c p109_44 rfl
theorem r109_47 : RR 109 47 L [] μ Q ↔ Q none μ := rw_r p109_47 rfl
/-! ReleaseDesk$Listing.placeOf -/
theorem r110_0 : RR 110 0 (.int x :: l) st μ Q ↔ RR 110 1 (.int x :: l) (.int x :: st) μ Q := rw_go p110_0 rfl
theorem r110_1 : RR 110 1 L st μ Q ↔ RR 110 2 L (.int ((-1)) :: st) μ Q := rw_go p110_1 rfl
theorem r110_2 : RR 110 2 L (.int y :: .int x :: st) μ Q ↔ if ¬ x = y then RR 110 7 L st μ Q else RR 110 5 L st μ Q := rw_if p110_2 rfl
theorem r110_5 : RR 110 5 L st μ Q ↔ RR 110 6 L (.int (nI 0) :: st) μ Q := rw_go p110_5 rfl
theorem r110_6 : RR 110 6 L [.int x] μ Q ↔ Q (some (.int x)) μ := rw_r p110_6 rfl
theorem r110_7 : RR 110 7 (.int x :: l) st μ Q ↔ RR 110 8 (.int x :: l) (.int x :: st) μ Q := rw_go p110_7 rfl
theorem r110_8 : RR 110 8 L (.int x1 :: st) (S, (0, 0, sl), M, D, F) Q ↔ (am_cat st ≤ 8 ∧ 1 = 1) ∧ RR 28 0 [.int x1] [] (S, (0, 0, sl), M, D, F) (fun rv μ' => μ'.1.length = S.length ∧ RR 110 11 L (rv.toList ++ st) (μ'.1, (0, 0, sl), μ'.2.2) Q) := rw_call p110_8 rfl (ac28 x1)
theorem r110_11 : RR 110 11 (a0 :: c0 :: l) (.int x :: st) μ Q ↔ RR 110 12 (am_nd a0 :: .int x :: l) st μ Q := rw_istn p110_11 (by show 1 < _; simp only [List.length_cons]; omega)
theorem r110_12 : RR 110 12 (.int x :: l) st μ Q ↔ RR 110 13 (.int x :: l) (.int x :: st) μ Q := rw_go p110_12 rfl
theorem r110_13 : RR 110 13 L (.int x1 :: st) (S, (0, 0, sl), M, D, F) Q ↔ (am_cat st ≤ 8 ∧ 1 = 1) ∧ RR 27 0 [.int x1] [] (S, (0, 0, sl), M, D, F) (fun rv μ' => μ'.1.length = S.length ∧ RR 110 16 L (rv.toList ++ st) (μ'.1, (0, 0, sl), μ'.2.2) Q) := rw_call p110_13 rfl (ac27 x1)
theorem r110_16 : RR 110 16 L (.int x :: st) μ Q ↔ if x = 0 then RR 110 25 L st μ Q else RR 110 19 L st μ Q := rw_if p110_16 rfl
theorem r110_19 : RR 110 19 (a0 :: .int x :: l) st μ Q ↔ RR 110 20 (a0 :: .int x :: l) (.int x :: st) μ Q := rw_go p110_19 rfl
theorem r110_20 : RR 110 20 L st μ Q ↔ RR 110 21 L (.int (nI 3) :: st) μ Q := rw_go p110_20 rfl
theorem r110_21 : RR 110 21 L (.int y :: .int x :: st) μ Q ↔ ¬ y = 0 ∧ RR 110 22 L (.int (x - x / y * y) :: st) μ Q := rw_n p110_21 rfl
theorem r110_22 : RR 110 22 L st μ Q ↔ RR 110 32 L st μ Q := rw_go p110_22 rfl
theorem r110_25 : RR 110 25 L st μ Q ↔ RR 110 26 L (.int (nI 3) :: st) μ Q := rw_go p110_25 rfl
theorem r110_26 : RR 110 26 (a0 :: .int x :: l) st μ Q ↔ RR 110 27 (a0 :: .int x :: l) (.int x :: st) μ Q := rw_go p110_26 rfl
theorem r110_27 : RR 110 27 L st μ Q ↔ RR 110 28 L (.int (nI 1) :: st) μ Q := rw_go p110_27 rfl
theorem r110_28 : RR 110 28 L (.int y :: .int x :: st) μ Q ↔ RR 110 29 L (.int (x + y) :: st) μ Q := rw_go p110_28 rfl
theorem r110_29 : RR 110 29 L st μ Q ↔ RR 110 30 L (.int (nI 3) :: st) μ Q := rw_go p110_29 rfl
theorem r110_30 : RR 110 30 L (.int y :: .int x :: st) μ Q ↔ ¬ y = 0 ∧ RR 110 31 L (.int (x - x / y * y) :: st) μ Q := rw_n p110_30 rfl
theorem r110_31 : RR 110 31 L (.int y :: .int x :: st) μ Q ↔ RR 110 32 L (.int (x + y) :: st) μ Q := rw_go p110_31 rfl
theorem r110_32 : RR 110 32 (a0 :: a1 :: c0 :: l) (.int x :: st) μ Q ↔ RR 110 33 (a0 :: am_nd a1 :: .int x :: l) st μ Q := rw_istn p110_32 (by show 2 < _; simp only [List.length_cons]; omega)
theorem r110_33 : RR 110 33 L st μ Q ↔ RR 110 34 L (.int (nI 1) :: st) μ Q := rw_go p110_33 rfl
theorem r110_34 : RR 110 34 (a0 :: .int x :: l) st μ Q ↔ RR 110 35 (a0 :: .int x :: l) (.int x :: st) μ Q := rw_go p110_34 rfl
theorem r110_35 : RR 110 35 L st μ Q ↔ RR 110 36 L (.int (nI 3) :: st) μ Q := rw_go p110_35 rfl
theorem r110_36 : RR 110 36 L (.int y :: .int x :: st) μ Q ↔ ¬ y = 0 ∧ RR 110 37 L (.int (x / y) :: st) μ Q := rw_n p110_36 rfl
theorem r110_37 : RR 110 37 L st μ Q ↔ RR 110 39 L (.int (nI 6) :: st) μ Q := rw_go p110_37 rfl
theorem r110_39 : RR 110 39 L (.int y :: .int x :: st) μ Q ↔ RR 110 40 L (.int (x * y) :: st) μ Q := rw_go p110_39 rfl
theorem r110_40 : RR 110 40 L (.int y :: .int x :: st) μ Q ↔ RR 110 41 L (.int (x + y) :: st) μ Q := rw_go p110_40 rfl
theorem r110_41 : RR 110 41 (a0 :: a1 :: .int x :: l) st μ Q ↔ RR 110 42 (a0 :: a1 :: .int x :: l) (.int x :: st) μ Q := rw_go p110_41 rfl
theorem r110_42 : RR 110 42 L (.int y :: .int x :: st) μ Q ↔ RR 110 43 L (.int (x + y) :: st) μ Q := rw_go p110_42 rfl
theorem r110_43 : RR 110 43 L [.int x] μ Q ↔ Q (some (.int x)) μ := rw_r p110_43 rfl
/-! ReleaseDesk$Listing.weigh -/
theorem r111_0 : RR 111 0 (.ref q :: l) st μ Q ↔ RR 111 1 (.ref q :: l) (.ref q :: st) μ Q := rw_go p111_0 rfl
theorem r111_1 : RR 111 1 L (.ref q :: st) (S, b, M, D, F) Q ↔ S[q]? = some (.inl 2) ∧ RR 111 4 L (.int (M q 1) :: st) (S, b, M, D, F) Q := rw_c p111_1 rfl
theorem r111_4 : RR 111 4 (a0 :: a1 :: a2 :: c0 :: l) (.int x :: st) μ Q ↔ RR 111 5 (a0 :: a1 :: am_nd a2 :: .int x :: l) st μ Q := rw_istn p111_4 (by show 3 < _; simp only [List.length_cons]; omega)
theorem r111_5 : RR 111 5 (.ref q :: l) st μ Q ↔ RR 111 6 (.ref q :: l) (.ref q :: st) μ Q := rw_go p111_5 rfl
theorem r111_6 : RR 111 6 L st μ Q ↔ RR 111 7 L (.int (nI 0) :: st) μ Q := rw_go p111_6 rfl
theorem r111_7 : RR 111 7 L (.int x :: .ref q :: st) (S, b, M, D, F) Q ↔ S[q]? = some (.inl 2) ∧ RR 111 10 L st (S, b, am_up M q 1 x, D, F) Q := rw_c p111_7 rfl
theorem r111_10 : RR 111 10 L st μ Q ↔ RR 111 11 L (.int (nI 0) :: st) μ Q := rw_go p111_10 rfl
theorem r111_11 : RR 111 11 (a0 :: a1 :: a2 :: a3 :: c0 :: l) (.int x :: st) μ Q ↔ RR 111 13 (a0 :: a1 :: a2 :: am_nd a3 :: .int x :: l) st μ Q := rw_ist p111_11 (by show 4 < _; simp only [List.length_cons]; omega)
theorem r111_13 : RR 111 13 (a0 :: a1 :: a2 :: a3 :: .int x :: l) st μ Q ↔ RR 111 15 (a0 :: a1 :: a2 :: a3 :: .int x :: l) (.int x :: st) μ Q := rw_go p111_13 rfl
theorem r111_15 : RR 111 15 (a0 :: a1 :: a2 :: .int x :: l) st μ Q ↔ RR 111 16 (a0 :: a1 :: a2 :: .int x :: l) (.int x :: st) μ Q := rw_go p111_15 rfl
theorem r111_16 : RR 111 16 L (.int y :: .int x :: st) μ Q ↔ if y ≤ x then RR 111 86 L st μ Q else RR 111 19 L st μ Q := rw_if p111_16 rfl
theorem r111_19 : RR 111 19 (.ref q :: l) st μ Q ↔ RR 111 20 (.ref q :: l) (.ref q :: st) μ Q := rw_go p111_19 rfl
theorem r111_20 : RR 111 20 (a0 :: a1 :: a2 :: a3 :: .int x :: l) st μ Q ↔ RR 111 22 (a0 :: a1 :: a2 :: a3 :: .int x :: l) (.int x :: st) μ Q := rw_go p111_20 rfl
theorem r111_22 : RR 111 22 (a0 :: a1 :: .ref q :: l) st μ Q ↔ RR 111 23 (a0 :: a1 :: .ref q :: l) (.ref q :: st) μ Q := rw_go p111_22 rfl
theorem r111_23 : RR 111 23 L (.ref q1 :: .int x1 :: .ref q :: st) (S, (0, 0, sl), M, D, F) Q ↔ (am_cat st ≤ 8 ∧ 3 = 3 ∧ S[q]? = some (.inl 2)) ∧ RR 113 0 [.ref q, .int x1, .ref q1] [] (S, (0, 0, sl), M, D, F) (fun rv μ' => μ'.1.length = S.length ∧ RR 111 26 L (rv.toList ++ st) (μ'.1, (0, 0, sl), μ'.2.2) Q) := rw_call p111_23 rfl (ac113 q x1 q1)
theorem r111_26 : RR 111 26 (a0 :: .ref q :: l) st μ Q ↔ RR 111 27 (a0 :: .ref q :: l) (.ref q :: st) μ Q := rw_go p111_26 rfl
theorem r111_27 : RR 111 27 (.ref q :: l) st μ Q ↔ RR 111 28 (.ref q :: l) (.ref q :: st) μ Q := rw_go p111_27 rfl
theorem r111_28 : RR 111 28 (a0 :: a1 :: a2 :: a3 :: .int x :: l) st μ Q ↔ RR 111 30 (a0 :: a1 :: a2 :: a3 :: .int x :: l) (.int x :: st) μ Q := rw_go p111_28 rfl
theorem r111_30 : RR 111 30 L (.int x1 :: .ref q :: st) (S, (0, 0, sl), M, D, F) Q ↔ (am_cat st ≤ 8 ∧ 2 = 2 ∧ S[q]? = some (.inl 2)) ∧ RR 114 0 [.ref q, .int x1] [] (S, (0, 0, sl), M, D, F) (fun rv μ' => μ'.1.length = S.length ∧ RR 111 33 L (rv.toList ++ st) (μ'.1, (0, 0, sl), μ'.2.2) Q) := rw_call p111_30 rfl (ac114 q x1)
theorem r111_33 : RR 111 33 (a0 :: a1 :: .ref q :: l) st μ Q ↔ RR 111 34 (a0 :: a1 :: .ref q :: l) (.ref q :: st) μ Q := rw_go p111_33 rfl
theorem r111_34 : RR 111 34 L (.ref q1 :: .int x1 :: .ref q :: st) (S, (0, 0, sl), M, D, F) Q ↔ (am_cat st ≤ 8 ∧ 3 = 3 ∧ S[q]? = some (.inl 7)) ∧ RR 155 0 [.ref q, .int x1, .ref q1, .long 0] [] (S, (0, 0, sl), M, D, F) (fun rv μ' => μ'.1.length = S.length ∧ RR 111 37 L (rv.toList ++ st) (μ'.1, (0, 0, sl), μ'.2.2) Q) := rw_call p111_34 rfl (ac155 q x1 q1)
theorem r111_37 : RR 111 37 (a0 :: a1 :: a2 :: a3 :: a4 :: c0 :: l) (.int x :: st) μ Q ↔ RR 111 39 (a0 :: a1 :: a2 :: a3 :: am_nd a4 :: .int x :: l) st μ Q := rw_ist p111_37 (by show 5 < _; simp only [List.length_cons]; omega)
theorem r111_39 : RR 111 39 (a0 :: a1 :: a2 :: a3 :: a4 :: .int x :: l) st μ Q ↔ RR 111 41 (a0 :: a1 :: a2 :: a3 :: a4 :: .int x :: l) (.int x :: st) μ Q := rw_go p111_39 rfl
theorem r111_41 : RR 111 41 L (.int x :: st) μ Q ↔ if x ≤ 0 then RR 111 80 L st μ Q else RR 111 44 L st μ Q := rw_if p111_41 rfl
theorem r111_44 : RR 111 44 L st μ Q ↔ RR 111 45 L (.int (nI 3) :: st) μ Q := rw_go p111_44 rfl
theorem r111_45 : RR 111 45 (a0 :: a1 :: a2 :: a3 :: a4 :: .int x :: l) st μ Q ↔ RR 111 47 (a0 :: a1 :: a2 :: a3 :: a4 :: .int x :: l) (.int x :: st) μ Q := rw_go p111_45 rfl
theorem r111_47 : RR 111 47 L (.int y :: .int x :: st) μ Q ↔ RR 111 48 L (.int (x - y) :: st) μ Q := rw_go p111_47 rfl
theorem r111_48 : RR 111 48 (a0 :: a1 :: a2 :: a3 :: a4 :: a5 :: c0 :: l) (.int x :: st) μ Q ↔ RR 111 50 (a0 :: a1 :: a2 :: a3 :: a4 :: am_nd a5 :: .int x :: l) st μ Q := rw_ist p111_48 (by show 6 < _; simp only [List.length_cons]; omega)
theorem r111_50 : RR 111 50 (.ref q :: l) st μ Q ↔ RR 111 51 (.ref q :: l) (.ref q :: st) μ Q := rw_go p111_50 rfl
theorem r111_51 : RR 111 51 (.ref q :: l) st μ Q ↔ RR 111 52 (.ref q :: l) (.ref q :: st) μ Q := rw_go p111_51 rfl
theorem r111_52 : RR 111 52 L (.ref q :: st) (S, b, M, D, F) Q ↔ S[q]? = some (.inl 2) ∧ RR 111 55 L (va_rf (F q 0) :: st) (S, b, M, D, F) Q := rw_c p111_52 rfl
theorem r111_55 : RR 111 55 (a0 :: a1 :: a2 :: a3 :: .int x :: l) st μ Q ↔ RR 111 57 (a0 :: a1 :: a2 :: a3 :: .int x :: l) (.int x :: st) μ Q := rw_go p111_55 rfl
theorem r111_57 : RR 111 57 L (.int x :: .ref q :: st) (S, b, M, D, F) Q ↔ am_bd S b.2.2 q 0 x ∧ RR 111 58 L (.int (M q x.toInt.toNat) :: st) (S, b, M, D, F) Q := rw_c p111_57 am_xld_eq
theorem r111_58 : RR 111 58 (a0 :: a1 :: a2 :: a3 :: a4 :: a5 :: .int x :: l) st μ Q ↔ RR 111 60 (a0 :: a1 :: a2 :: a3 :: a4 :: a5 :: .int x :: l) (.int x :: st) μ Q := rw_go p111_58 rfl
theorem r111_60 : RR 111 60 L st μ Q ↔ RR 111 62 L (.int (nI 21) :: st) μ Q := rw_go p111_60 rfl
theorem r111_62 : RR 111 62 L (.int y :: .int x :: st) μ Q ↔ RR 111 63 L (.int (x <<< (y &&& 31)) :: st) μ Q := rw_go p111_62 rfl
theorem r111_63 : RR 111 63 L (.int y :: .int x :: st) μ Q ↔ RR 111 64 L (.int (x ||| y) :: st) μ Q := rw_go p111_63 rfl
theorem r111_64 : RR 111 64 (.ref q :: l) st μ Q ↔ RR 111 65 (.ref q :: l) (.ref q :: st) μ Q := rw_go p111_64 rfl
theorem r111_65 : RR 111 65 (a0 :: a1 :: a2 :: a3 :: .int x :: l) st μ Q ↔ RR 111 67 (a0 :: a1 :: a2 :: a3 :: .int x :: l) (.int x :: st) μ Q := rw_go p111_65 rfl
theorem r111_67 : RR 111 67 L (.int x1 :: .ref q :: st) (S, (0, 0, sl), M, D, F) Q ↔ (am_cat st ≤ 8 ∧ 2 = 2 ∧ S[q]? = some (.inl 2)) ∧ RR 117 0 [.ref q, .int x1] [] (S, (0, 0, sl), M, D, F) (fun rv μ' => μ'.1.length = S.length ∧ RR 111 70 L (rv.toList ++ st) (μ'.1, (0, 0, sl), μ'.2.2) Q) := rw_call p111_67 rfl (ac117 q x1)
theorem r111_70 : RR 111 70 L (.int x1 :: st) (S, (0, 0, sl), M, D, F) Q ↔ (am_cat st ≤ 8 ∧ 1 = 1) ∧ RR 110 0 [.int x1, .long 0, .long 0] [] (S, (0, 0, sl), M, D, F) (fun rv μ' => μ'.1.length = S.length ∧ RR 111 73 L (rv.toList ++ st) (μ'.1, (0, 0, sl), μ'.2.2) Q) := rw_call p111_70 rfl (ac110 x1)
theorem r111_73 : RR 111 73 L st μ Q ↔ RR 111 75 L (.int (nI 11) :: st) μ Q := rw_go p111_73 rfl
theorem r111_75 : RR 111 75 L (.int y :: .int x :: st) μ Q ↔ RR 111 76 L (.int (x <<< (y &&& 31)) :: st) μ Q := rw_go p111_75 rfl
theorem r111_76 : RR 111 76 L (.int y :: .int x :: st) μ Q ↔ RR 111 77 L (.int (x ||| y) :: st) μ Q := rw_go p111_76 rfl
theorem r111_77 : RR 111 77 L (.int x1 :: .ref q :: st) (S, (0, 0, sl), M, D, F) Q ↔ (am_cat st ≤ 8 ∧ 2 = 2 ∧ S[q]? = some (.inl 2)) ∧ RR 112 0 [.ref q, .int x1, .long 0] [] (S, (0, 0, sl), M, D, F) (fun rv μ' => μ'.1.length = S.length ∧ RR 111 80 L (rv.toList ++ st) (μ'.1, (0, 0, sl), μ'.2.2) Q) := rw_call p111_77 rfl (ac112 q x1)
theorem r111_80 : RR 111 80 (a0 :: a1 :: a2 :: a3 :: .int x :: l) st μ Q ↔ RR 111 83 (a0 :: a1 :: a2 :: am_nd a3 :: .int (x + nI 1) :: l) st μ Q := rw_go p111_80 rfl
theorem r111_83 : RR 111 83 L st μ Q ↔ RR 111 13 L st μ Q := rw_go p111_83 rfl
theorem r111_86 : RR 111 86 L [] μ Q ↔ Q none μ := rw_r p111_86 rfl
/-! ReleaseDesk$Listing.insert -/
theorem r112_0 : RR 112 0 (.ref q :: l) st μ Q ↔ RR 112 1 (.ref q :: l) (.ref q :: st) μ Q := rw_go p112_0 rfl
theorem r112_1 : RR 112 1 L (.ref q :: st) (S, b, M, D, F) Q ↔ S[q]? = some (.inl 2) ∧ RR 112 4 L (.int (M q 1) :: st) (S, b, M, D, F) Q := rw_c p112_1 rfl
theorem r112_4 : RR 112 4 (a0 :: a1 :: c0 :: l) (.int x :: st) μ Q ↔ RR 112 5 (a0 :: am_nd a1 :: .int x :: l) st μ Q := rw_istn p112_4 (by show 2 < _; simp only [List.length_cons]; omega)
theorem r112_5 : RR 112 5 (a0 :: a1 :: .int x :: l) st μ Q ↔ RR 112 6 (a0 :: a1 :: .int x :: l) (.int x :: st) μ Q := rw_go p112_5 rfl
theorem r112_6 : RR 112 6 L (.int x :: st) μ Q ↔ if x ≤ 0 then RR 112 41 L st μ Q else RR 112 9 L st μ Q := rw_if p112_6 rfl
theorem r112_9 : RR 112 9 (.ref q :: l) st μ Q ↔ RR 112 10 (.ref q :: l) (.ref q :: st) μ Q := rw_go p112_9 rfl
theorem r112_10 : RR 112 10 L (.ref q :: st) (S, b, M, D, F) Q ↔ S[q]? = some (.inl 2) ∧ RR 112 13 L (va_rf (F q 0) :: st) (S, b, M, D, F) Q := rw_c p112_10 rfl
theorem r112_13 : RR 112 13 (a0 :: a1 :: .int x :: l) st μ Q ↔ RR 112 14 (a0 :: a1 :: .int x :: l) (.int x :: st) μ Q := rw_go p112_13 rfl
theorem r112_14 : RR 112 14 L st μ Q ↔ RR 112 15 L (.int (nI 1) :: st) μ Q := rw_go p112_14 rfl
theorem r112_15 : RR 112 15 L (.int y :: .int x :: st) μ Q ↔ RR 112 16 L (.int (x - y) :: st) μ Q := rw_go p112_15 rfl
theorem r112_16 : RR 112 16 L (.int x :: .ref q :: st) (S, b, M, D, F) Q ↔ am_bd S b.2.2 q 0 x ∧ RR 112 17 L (.int (M q x.toInt.toNat) :: st) (S, b, M, D, F) Q := rw_c p112_16 am_xld_eq
theorem r112_17 : RR 112 17 (a0 :: .int x :: l) st μ Q ↔ RR 112 18 (a0 :: .int x :: l) (.int x :: st) μ Q := rw_go p112_17 rfl
theorem r112_18 : RR 112 18 L (.int y :: .int x :: st) μ Q ↔ if x ≤ y then RR 112 41 L st μ Q else RR 112 21 L st μ Q := rw_if p112_18 rfl
theorem r112_21 : RR 112 21 (.ref q :: l) st μ Q ↔ RR 112 22 (.ref q :: l) (.ref q :: st) μ Q := rw_go p112_21 rfl
theorem r112_22 : RR 112 22 L (.ref q :: st) (S, b, M, D, F) Q ↔ S[q]? = some (.inl 2) ∧ RR 112 25 L (va_rf (F q 0) :: st) (S, b, M, D, F) Q := rw_c p112_22 rfl
theorem r112_25 : RR 112 25 (a0 :: a1 :: .int x :: l) st μ Q ↔ RR 112 26 (a0 :: a1 :: .int x :: l) (.int x :: st) μ Q := rw_go p112_25 rfl
theorem r112_26 : RR 112 26 (.ref q :: l) st μ Q ↔ RR 112 27 (.ref q :: l) (.ref q :: st) μ Q := rw_go p112_26 rfl
theorem r112_27 : RR 112 27 L (.ref q :: st) (S, b, M, D, F) Q ↔ S[q]? = some (.inl 2) ∧ RR 112 30 L (va_rf (F q 0) :: st) (S, b, M, D, F) Q := rw_c p112_27 rfl
theorem r112_30 : RR 112 30 (a0 :: a1 :: .int x :: l) st μ Q ↔ RR 112 31 (a0 :: a1 :: .int x :: l) (.int x :: st) μ Q := rw_go p112_30 rfl
theorem r112_31 : RR 112 31 L st μ Q ↔ RR 112 32 L (.int (nI 1) :: st) μ Q := rw_go p112_31 rfl
theorem r112_32 : RR 112 32 L (.int y :: .int x :: st) μ Q ↔ RR 112 33 L (.int (x - y) :: st) μ Q := rw_go p112_32 rfl
theorem r112_33 : RR 112 33 L (.int x :: .ref q :: st) (S, b, M, D, F) Q ↔ am_bd S b.2.2 q 0 x ∧ RR 112 34 L (.int (M q x.toInt.toNat) :: st) (S, b, M, D, F) Q := rw_c p112_33 am_xld_eq
theorem r112_34 : RR 112 34 L (.int x :: .int y :: .ref q :: st) (S, b, M, D, F) Q ↔ am_bs S q 0 y ∧ RR 112 35 L st (S, b, am_up M q y.toInt.toNat x, D, F) Q := rw_c p112_34 (am_xst_eq (f := fun x => x))
theorem r112_35 : RR 112 35 (a0 :: a1 :: .int x :: l) st μ Q ↔ RR 112 38 (a0 :: am_nd a1 :: .int (x + (-1)) :: l) st μ Q := rw_go p112_35 rfl
theorem r112_38 : RR 112 38 L st μ Q ↔ RR 112 5 L st μ Q := rw_go p112_38 rfl
theorem r112_41 : RR 112 41 (.ref q :: l) st μ Q ↔ RR 112 42 (.ref q :: l) (.ref q :: st) μ Q := rw_go p112_41 rfl
theorem r112_42 : RR 112 42 L (.ref q :: st) (S, b, M, D, F) Q ↔ S[q]? = some (.inl 2) ∧ RR 112 45 L (va_rf (F q 0) :: st) (S, b, M, D, F) Q := rw_c p112_42 rfl
theorem r112_45 : RR 112 45 (a0 :: a1 :: .int x :: l) st μ Q ↔ RR 112 46 (a0 :: a1 :: .int x :: l) (.int x :: st) μ Q := rw_go p112_45 rfl
theorem r112_46 : RR 112 46 (a0 :: .int x :: l) st μ Q ↔ RR 112 47 (a0 :: .int x :: l) (.int x :: st) μ Q := rw_go p112_46 rfl
theorem r112_47 : RR 112 47 L (.int x :: .int y :: .ref q :: st) (S, b, M, D, F) Q ↔ am_bs S q 0 y ∧ RR 112 48 L st (S, b, am_up M q y.toInt.toNat x, D, F) Q := rw_c p112_47 (am_xst_eq (f := fun x => x))
theorem r112_48 : RR 112 48 (.ref q :: l) st μ Q ↔ RR 112 49 (.ref q :: l) (.ref q :: st) μ Q := rw_go p112_48 rfl
theorem r112_49 : RR 112 49 L (.ref q :: st) μ Q ↔ RR 112 50 L (.ref q :: .ref q :: st) μ Q := rw_go p112_49 rfl
theorem r112_49i : RR 112 49 L (.int x :: st) μ Q ↔ RR 112 50 L (.int x :: .int x :: st) μ Q := rw_go p112_49 rfl
theorem r112_50 : RR 112 50 L (.ref q :: st) (S, b, M, D, F) Q ↔ S[q]? = some (.inl 2) ∧ RR 112 53 L (.int (M q 1) :: st) (S, b, M, D, F) Q := rw_c p112_50 rfl
theorem r112_53 : RR 112 53 L st μ Q ↔ RR 112 54 L (.int (nI 1) :: st) μ Q := rw_go p112_53 rfl
theorem r112_54 : RR 112 54 L (.int y :: .int x :: st) μ Q ↔ RR 112 55 L (.int (x + y) :: st) μ Q := rw_go p112_54 rfl
theorem r112_55 : RR 112 55 L (.int x :: .ref q :: st) (S, b, M, D, F) Q ↔ S[q]? = some (.inl 2) ∧ RR 112 58 L st (S, b, am_up M q 1 x, D, F) Q := rw_c p112_55 rfl
theorem r112_58 : RR 112 58 L [] μ Q ↔ Q none μ := rw_r p112_58 rfl
/-! ReleaseDesk$Listing.spell -/
theorem r113_0 : RR 113 0 (a0 :: a1 :: .ref q :: l) st μ Q ↔ RR 113 1 (a0 :: a1 :: .ref q :: l) (.ref q :: st) μ Q := rw_go p113_0 rfl
theorem r113_1 : RR 113 1 (.ref q :: l) st μ Q ↔ RR 113 2 (.ref q :: l) (.ref q :: st) μ Q := rw_go p113_1 rfl
theorem r113_2 : RR 113 2 L (.ref q :: st) (S, b, M, D, F) Q ↔ S[q]? = some (.inl 2) ∧ RR 113 5 L (va_rf (F q 0) :: st) (S, b, M, D, F) Q := rw_c p113_2 rfl
theorem r113_5 : RR 113 5 (a0 :: .int x :: l) st μ Q ↔ RR 113 6 (a0 :: .int x :: l) (.int x :: st) μ Q := rw_go p113_5 rfl
theorem r113_6 : RR 113 6 L (.int x :: .ref q :: st) (S, b, M, D, F) Q ↔ am_bd S b.2.2 q 0 x ∧ RR 113 7 L (.int (M q x.toInt.toNat) :: st) (S, b, M, D, F) Q := rw_c p113_6 am_xld_eq
theorem r113_7 : RR 113 7 L st μ Q ↔ RR 113 9 L (.int (nI 19) :: st) μ Q := rw_go p113_7 rfl
theorem r113_9 : RR 113 9 L (.int y :: .int x :: st) μ Q ↔ RR 113 10 L (.int (x >>> (y &&& 31)) :: st) μ Q := rw_go p113_9 rfl
theorem r113_10 : RR 113 10 L st μ Q ↔ RR 113 11 L (.int (nI 3) :: st) μ Q := rw_go p113_10 rfl
theorem r113_11 : RR 113 11 L (.int y :: .int x :: st) μ Q ↔ RR 113 12 L (.int (x &&& y) :: st) μ Q := rw_go p113_11 rfl
theorem r113_12 : RR 113 12 (.ref q :: l) st μ Q ↔ RR 113 13 (.ref q :: l) (.ref q :: st) μ Q := rw_go p113_12 rfl
theorem r113_13 : RR 113 13 (a0 :: .int x :: l) st μ Q ↔ RR 113 14 (a0 :: .int x :: l) (.int x :: st) μ Q := rw_go p113_13 rfl
theorem r113_14 : RR 113 14 L (.int x1 :: .ref q :: st) (S, (0, 0, sl), M, D, F) Q ↔ (am_cat st ≤ 8 ∧ 2 = 2 ∧ S[q]? = some (.inl 2)) ∧ RR 116 0 [.ref q, .int x1] [] (S, (0, 0, sl), M, D, F) (fun rv μ' => μ'.1.length = S.length ∧ RR 113 17 L (rv.toList ++ st) (μ'.1, (0, 0, sl), μ'.2.2) Q) := rw_call p113_14 rfl (ac116 q x1)
theorem r113_17 : RR 113 17 (.ref q :: l) st μ Q ↔ RR 113 18 (.ref q :: l) (.ref q :: st) μ Q := rw_go p113_17 rfl
theorem r113_18 : RR 113 18 (a0 :: .int x :: l) st μ Q ↔ RR 113 19 (a0 :: .int x :: l) (.int x :: st) μ Q := rw_go p113_18 rfl
theorem r113_19 : RR 113 19 L (.int x1 :: .ref q :: st) (S, (0, 0, sl), M, D, F) Q ↔ (am_cat st ≤ 8 ∧ 2 = 2 ∧ S[q]? = some (.inl 2)) ∧ RR 117 0 [.ref q, .int x1] [] (S, (0, 0, sl), M, D, F) (fun rv μ' => μ'.1.length = S.length ∧ RR 113 22 L (rv.toList ++ st) (μ'.1, (0, 0, sl), μ'.2.2) Q) := rw_call p113_19 rfl (ac117 q x1)
theorem r113_22 : RR 113 22 L (.int x3 :: .int x2 :: .int x1 :: .ref q :: st) (S, (0, 0, sl), M, D, F) Q ↔ (am_cat st ≤ 8 ∧ 4 = 4 ∧ S[q]? = some (.inl 3)) ∧ RR 121 0 [.ref q, .int x1, .int x2, .int x3, .long 0, .long 0] [] (S, (0, 0, sl), M, D, F) (fun rv μ' => μ'.1.length = S.length ∧ RR 113 25 L (rv.toList ++ st) (μ'.1, (0, 0, sl), μ'.2.2) Q) := rw_call p113_22 rfl (ac121 q x1 x2 x3)
theorem r113_25 : RR 113 25 L [] μ Q ↔ Q none μ := rw_r p113_25 rfl
/-! ReleaseDesk$Listing.code -/
theorem r114_0 : RR 114 0 (.ref q :: l) st μ Q ↔ RR 114 1 (.ref q :: l) (.ref q :: st) μ Q := rw_go p114_0 rfl
theorem r114_1 : RR 114 1 L (.ref q :: st) (S, b, M, D, F) Q ↔ S[q]? = some (.inl 2) ∧ RR 114 4 L (va_rf (F q 0) :: st) (S, b, M, D, F) Q := rw_c p114_1 rfl
theorem r114_4 : RR 114 4 (a0 :: .int x :: l) st μ Q ↔ RR 114 5 (a0 :: .int x :: l) (.int x :: st) μ Q := rw_go p114_4 rfl
theorem r114_5 : RR 114 5 L (.int x :: .ref q :: st) (S, b, M, D, F) Q ↔ am_bd S b.2.2 q 0 x ∧ RR 114 6 L (.int (M q x.toInt.toNat) :: st) (S, b, M, D, F) Q := rw_c p114_5 am_xld_eq
theorem r114_6 : RR 114 6 L st μ Q ↔ RR 114 7 L (.int (nI 5) :: st) μ Q := rw_go p114_6 rfl
theorem r114_7 : RR 114 7 L (.int y :: .int x :: st) μ Q ↔ RR 114 8 L (.int (x >>> (y &&& 31)) :: st) μ Q := rw_go p114_7 rfl
theorem r114_8 : RR 114 8 L st μ Q ↔ RR 114 10 L (.int (nI 63) :: st) μ Q := rw_go p114_8 rfl
theorem r114_10 : RR 114 10 L (.int y :: .int x :: st) μ Q ↔ RR 114 11 L (.int (x &&& y) :: st) μ Q := rw_go p114_10 rfl
theorem r114_11 : RR 114 11 L [.int x] μ Q ↔ Q (some (.int x)) μ := rw_r p114_11 rfl
/-! ReleaseDesk$Listing.weight -/
theorem r115_0 : RR 115 0 L st μ Q ↔ RR 115 1 L (.int (nI 3) :: st) μ Q := rw_go p115_0 rfl
theorem r115_1 : RR 115 1 (.ref q :: l) st μ Q ↔ RR 115 2 (.ref q :: l) (.ref q :: st) μ Q := rw_go p115_1 rfl
theorem r115_2 : RR 115 2 L (.ref q :: st) (S, b, M, D, F) Q ↔ S[q]? = some (.inl 2) ∧ RR 115 5 L (va_rf (F q 0) :: st) (S, b, M, D, F) Q := rw_c p115_2 rfl
theorem r115_5 : RR 115 5 (a0 :: .int x :: l) st μ Q ↔ RR 115 6 (a0 :: .int x :: l) (.int x :: st) μ Q := rw_go p115_5 rfl
theorem r115_6 : RR 115 6 L (.int x :: .ref q :: st) (S, b, M, D, F) Q ↔ am_bd S b.2.2 q 0 x ∧ RR 115 7 L (.int (M q x.toInt.toNat) :: st) (S, b, M, D, F) Q := rw_c p115_6 am_xld_eq
theorem r115_7 : RR 115 7 L st μ Q ↔ RR 115 9 L (.int (nI 21) :: st) μ Q := rw_go p115_7 rfl
theorem r115_9 : RR 115 9 L (.int y :: .int x :: st) μ Q ↔ RR 115 10 L (.int (x >>> (y &&& 31)) :: st) μ Q := rw_go p115_9 rfl
theorem r115_10 : RR 115 10 L (.int y :: .int x :: st) μ Q ↔ RR 115 11 L (.int (x - y) :: st) μ Q := rw_go p115_10 rfl
theorem r115_11 : RR 115 11 L [.int x] μ Q ↔ Q (some (.int x)) μ := rw_r p115_11 rfl
/-! ReleaseDesk$Listing.typeOf -/
theorem r116_0 : RR 116 0 (.ref q :: l) st μ Q ↔ RR 116 1 (.ref q :: l) (.ref q :: st) μ Q := rw_go p116_0 rfl
theorem r116_1 : RR 116 1 L (.ref q :: st) (S, b, M, D, F) Q ↔ S[q]? = some (.inl 2) ∧ RR 116 4 L (va_rf (F q 0) :: st) (S, b, M, D, F) Q := rw_c p116_1 rfl
theorem r116_4 : RR 116 4 (a0 :: .int x :: l) st μ Q ↔ RR 116 5 (a0 :: .int x :: l) (.int x :: st) μ Q := rw_go p116_4 rfl
theorem r116_5 : RR 116 5 L (.int x :: .ref q :: st) (S, b, M, D, F) Q ↔ am_bd S b.2.2 q 0 x ∧ RR 116 6 L (.int (M q x.toInt.toNat) :: st) (S, b, M, D, F) Q := rw_c p116_5 am_xld_eq
theorem r116_6 : RR 116 6 L st μ Q ↔ RR 116 8 L (.int (nI 16) :: st) μ Q := rw_go p116_6 rfl
theorem r116_8 : RR 116 8 L (.int y :: .int x :: st) μ Q ↔ RR 116 9 L (.int (x >>> (y &&& 31)) :: st) μ Q := rw_go p116_8 rfl
theorem r116_9 : RR 116 9 L st μ Q ↔ RR 116 11 L (.int (nI 7) :: st) μ Q := rw_go p116_9 rfl
theorem r116_11 : RR 116 11 L (.int y :: .int x :: st) μ Q ↔ RR 116 12 L (.int (x &&& y) :: st) μ Q := rw_go p116_11 rfl
theorem r116_12 : RR 116 12 L [.int x] μ Q ↔ Q (some (.int x)) μ := rw_r p116_12 rfl
/-! ReleaseDesk$Listing.slot -/
theorem r117_0 : RR 117 0 (.ref q :: l) st μ Q ↔ RR 117 1 (.ref q :: l) (.ref q :: st) μ Q := rw_go p117_0 rfl
theorem r117_1 : RR 117 1 L (.ref q :: st) (S, b, M, D, F) Q ↔ S[q]? = some (.inl 2) ∧ RR 117 4 L (va_rf (F q 0) :: st) (S, b, M, D, F) Q := rw_c p117_1 rfl
theorem r117_4 : RR 117 4 (a0 :: .int x :: l) st μ Q ↔ RR 117 5 (a0 :: .int x :: l) (.int x :: st) μ Q := rw_go p117_4 rfl
theorem r117_5 : RR 117 5 L (.int x :: .ref q :: st) (S, b, M, D, F) Q ↔ am_bd S b.2.2 q 0 x ∧ RR 117 6 L (.int (M q x.toInt.toNat) :: st) (S, b, M, D, F) Q := rw_c p117_5 am_xld_eq
theorem r117_6 : RR 117 6 L st μ Q ↔ RR 117 8 L (.int (nI 31) :: st) μ Q := rw_go p117_6 rfl
theorem r117_8 : RR 117 8 L (.int y :: .int x :: st) μ Q ↔ RR 117 9 L (.int (x &&& y) :: st) μ Q := rw_go p117_8 rfl
theorem r117_9 : RR 117 9 L st μ Q ↔ RR 117 10 L (.int (nI 1) :: st) μ Q := rw_go p117_9 rfl
theorem r117_10 : RR 117 10 L (.int y :: .int x :: st) μ Q ↔ RR 117 11 L (.int (x - y) :: st) μ Q := rw_go p117_10 rfl
theorem r117_11 : RR 117 11 L [.int x] μ Q ↔ Q (some (.int x)) μ := rw_r p117_11 rfl
/-! ReleaseDesk$Listing.count -/
theorem r118_0 : RR 118 0 L st μ Q ↔ RR 118 1 L (.int (nI 0) :: st) μ Q := rw_go p118_0 rfl
theorem r118_1 : RR 118 1 (a0 :: a1 :: c0 :: l) (.int x :: st) μ Q ↔ RR 118 2 (a0 :: am_nd a1 :: .int x :: l) st μ Q := rw_istn p118_1 (by show 2 < _; simp only [List.length_cons]; omega)
theorem r118_2 : RR 118 2 L st μ Q ↔ RR 118 3 L (.int (nI 0) :: st) μ Q := rw_go p118_2 rfl
theorem r118_3 : RR 118 3 (a0 :: a1 :: a2 :: c0 :: l) (.int x :: st) μ Q ↔ RR 118 4 (a0 :: a1 :: am_nd a2 :: .int x :: l) st μ Q := rw_istn p118_3 (by show 3 < _; simp only [List.length_cons]; omega)
theorem r118_4 : RR 118 4 (a0 :: a1 :: a2 :: .int x :: l) st μ Q ↔ RR 118 5 (a0 :: a1 :: a2 :: .int x :: l) (.int x :: st) μ Q := rw_go p118_4 rfl
theorem r118_5 : RR 118 5 (.ref q :: l) st μ Q ↔ RR 118 6 (.ref q :: l) (.ref q :: st) μ Q := rw_go p118_5 rfl
theorem r118_6 : RR 118 6 L (.ref q :: st) (S, b, M, D, F) Q ↔ S[q]? = some (.inl 2) ∧ RR 118 9 L (.int (M q 1) :: st) (S, b, M, D, F) Q := rw_c p118_6 rfl
theorem r118_9 : RR 118 9 L (.int y :: .int x :: st) μ Q ↔ if y ≤ x then RR 118 30 L st μ Q else RR 118 12 L st μ Q := rw_if p118_9 rfl
theorem r118_12 : RR 118 12 (.ref q :: l) st μ Q ↔ RR 118 13 (.ref q :: l) (.ref q :: st) μ Q := rw_go p118_12 rfl
theorem r118_13 : RR 118 13 (a0 :: a1 :: a2 :: .int x :: l) st μ Q ↔ RR 118 14 (a0 :: a1 :: a2 :: .int x :: l) (.int x :: st) μ Q := rw_go p118_13 rfl
theorem r118_14 : RR 118 14 L (.int x1 :: .ref q :: st) (S, (0, 0, sl), M, D, F) Q ↔ (am_cat st ≤ 8 ∧ 2 = 2 ∧ S[q]? = some (.inl 2)) ∧ RR 115 0 [.ref q, .int x1] [] (S, (0, 0, sl), M, D, F) (fun rv μ' => μ'.1.length = S.length ∧ RR 118 17 L (rv.toList ++ st) (μ'.1, (0, 0, sl), μ'.2.2) Q) := rw_call p118_14 rfl (ac115 q x1)
theorem r118_17 : RR 118 17 (a0 :: .int x :: l) st μ Q ↔ RR 118 18 (a0 :: .int x :: l) (.int x :: st) μ Q := rw_go p118_17 rfl
theorem r118_18 : RR 118 18 L (.int y :: .int x :: st) μ Q ↔ if ¬ x = y then RR 118 24 L st μ Q else RR 118 21 L st μ Q := rw_if p118_18 rfl
theorem r118_21 : RR 118 21 (a0 :: a1 :: .int x :: l) st μ Q ↔ RR 118 24 (a0 :: am_nd a1 :: .int (x + nI 1) :: l) st μ Q := rw_go p118_21 rfl
theorem r118_24 : RR 118 24 (a0 :: a1 :: a2 :: .int x :: l) st μ Q ↔ RR 118 27 (a0 :: a1 :: am_nd a2 :: .int (x + nI 1) :: l) st μ Q := rw_go p118_24 rfl
theorem r118_27 : RR 118 27 L st μ Q ↔ RR 118 4 L st μ Q := rw_go p118_27 rfl
theorem r118_30 : RR 118 30 (a0 :: a1 :: .int x :: l) st μ Q ↔ RR 118 31 (a0 :: a1 :: .int x :: l) (.int x :: st) μ Q := rw_go p118_30 rfl
theorem r118_31 : RR 118 31 L [.int x] μ Q ↔ Q (some (.int x)) μ := rw_r p118_31 rfl
/-! ReleaseDesk$Listing.hasAddition -/
theorem r119_0 : RR 119 0 L st μ Q ↔ RR 119 1 L (.int (nI 0) :: st) μ Q := rw_go p119_0 rfl
theorem r119_1 : RR 119 1 (a0 :: c0 :: l) (.int x :: st) μ Q ↔ RR 119 2 (am_nd a0 :: .int x :: l) st μ Q := rw_istn p119_1 (by show 1 < _; simp only [List.length_cons]; omega)
theorem r119_2 : RR 119 2 (a0 :: .int x :: l) st μ Q ↔ RR 119 3 (a0 :: .int x :: l) (.int x :: st) μ Q := rw_go p119_2 rfl
theorem r119_3 : RR 119 3 (.ref q :: l) st μ Q ↔ RR 119 4 (.ref q :: l) (.ref q :: st) μ Q := rw_go p119_3 rfl
theorem r119_4 : RR 119 4 L (.ref q :: st) (S, b, M, D, F) Q ↔ S[q]? = some (.inl 2) ∧ RR 119 7 L (.int (M q 1) :: st) (S, b, M, D, F) Q := rw_c p119_4 rfl
theorem r119_7 : RR 119 7 L (.int y :: .int x :: st) μ Q ↔ if y ≤ x then RR 119 29 L st μ Q else RR 119 10 L st μ Q := rw_if p119_7 rfl
theorem r119_10 : RR 119 10 (.ref q :: l) st μ Q ↔ RR 119 11 (.ref q :: l) (.ref q :: st) μ Q := rw_go p119_10 rfl
theorem r119_11 : RR 119 11 (a0 :: .int x :: l) st μ Q ↔ RR 119 12 (a0 :: .int x :: l) (.int x :: st) μ Q := rw_go p119_11 rfl
theorem r119_12 : RR 119 12 L (.int x1 :: .ref q :: st) (S, (0, 0, sl), M, D, F) Q ↔ (am_cat st ≤ 8 ∧ 2 = 2 ∧ S[q]? = some (.inl 2)) ∧ RR 114 0 [.ref q, .int x1] [] (S, (0, 0, sl), M, D, F) (fun rv μ' => μ'.1.length = S.length ∧ RR 119 15 L (rv.toList ++ st) (μ'.1, (0, 0, sl), μ'.2.2) Q) := rw_call p119_12 rfl (ac114 q x1)
theorem r119_15 : RR 119 15 L (.int x1 :: st) (S, (0, 0, sl), M, D, F) Q ↔ (am_cat st ≤ 8 ∧ 1 = 1) ∧ RR 30 0 [.int x1] [] (S, (0, 0, sl), M, D, F) (fun rv μ' => μ'.1.length = S.length ∧ RR 119 18 L (rv.toList ++ st) (μ'.1, (0, 0, sl), μ'.2.2) Q) := rw_call p119_15 rfl (ac30 x1)
theorem r119_18 : RR 119 18 L (.int x :: st) μ Q ↔ if x = 0 then RR 119 23 L st μ Q else RR 119 21 L st μ Q := rw_if p119_18 rfl
theorem r119_21 : RR 119 21 L st μ Q ↔ RR 119 22 L (.int (nI 1) :: st) μ Q := rw_go p119_21 rfl
theorem r119_22 : RR 119 22 L [.int x] μ Q ↔ (x = 0 ∨ x = 1) ∧ Q (some (.int x)) μ := rw_rc p119_22 rfl
theorem r119_23 : RR 119 23 (a0 :: .int x :: l) st μ Q ↔ RR 119 26 (am_nd a0 :: .int (x + nI 1) :: l) st μ Q := rw_go p119_23 rfl
theorem r119_26 : RR 119 26 L st μ Q ↔ RR 119 2 L st μ Q := rw_go p119_26 rfl
theorem r119_29 : RR 119 29 L st μ Q ↔ RR 119 30 L (.int (nI 0) :: st) μ Q := rw_go p119_29 rfl
theorem r119_30 : RR 119 30 L [.int x] μ Q ↔ (x = 0 ∨ x = 1) ∧ Q (some (.int x)) μ := rw_rc p119_30 rfl
/-! ReleaseDesk$Name.init -/
theorem r120_0 : RR 120 0 (.ref q :: l) st μ Q ↔ RR 120 1 (.ref q :: l) (.ref q :: st) μ Q := rw_go p120_0 rfl
theorem r120_1 : RR 120 1 L (.ref q :: st) μ Q ↔ am_cat st ≤ 8 ∧ RR 120 4 L st μ Q := rw_c p120_1 rfl
theorem r120_4 : RR 120 4 (.ref q :: l) st μ Q ↔ RR 120 5 (.ref q :: l) (.ref q :: st) μ Q := rw_go p120_4 rfl
theorem r120_5 : RR 120 5 L st μ Q ↔ RR 120 7 L (.int (nI 15) :: st) μ Q := rw_go p120_5 rfl
theorem r120_9 : RR 120 9 L (.ref q2 :: .ref q :: st) (S, b, M, D, F) Q ↔ S[q]? = some (.inl 3) ∧ RR 120 12 L st (S, b, M, D, am_up F q 0 (some q2)) Q := rw_c p120_9 rfl
theorem r120_12 : RR 120 12 L [] μ Q ↔ Q none μ := rw_r p120_12 rfl
/-! ReleaseDesk$Name.spell -/
theorem r121_0 : RR 121 0 (.ref q :: l) st μ Q ↔ RR 121 1 (.ref q :: l) (.ref q :: st) μ Q := rw_go p121_0 rfl
theorem r121_1 : RR 121 1 L st μ Q ↔ RR 121 2 L (.int (nI 0) :: st) μ Q := rw_go p121_1 rfl
theorem r121_2 : RR 121 2 L (.int x :: .ref q :: st) (S, b, M, D, F) Q ↔ S[q]? = some (.inl 3) ∧ RR 121 5 L st (S, b, am_up M q 1 x, D, F) Q := rw_c p121_2 rfl
theorem r121_5 : RR 121 5 (.ref q :: l) st μ Q ↔ RR 121 6 (.ref q :: l) (.ref q :: st) μ Q := rw_go p121_5 rfl
theorem r121_6 : RR 121 6 L st μ Q ↔ RR 121 8 L (.int (nI 97) :: st) μ Q := rw_go p121_6 rfl
theorem r121_8 : RR 121 8 (a0 :: .int x :: l) st μ Q ↔ RR 121 9 (a0 :: .int x :: l) (.int x :: st) μ Q := rw_go p121_8 rfl
theorem r121_9 : RR 121 9 L (.int y :: .int x :: st) μ Q ↔ RR 121 10 L (.int (x + y) :: st) μ Q := rw_go p121_9 rfl
theorem r121_10 : RR 121 10 L (.int x :: st) μ Q ↔ RR 121 11 L (.int (x.toUInt32 % 65536).toInt32 :: st) μ Q := rw_go p121_10 rfl
theorem r121_11 : RR 121 11 L (.int x1 :: .ref q :: st) (S, (0, 0, sl), M, D, F) Q ↔ (am_cat st ≤ 8 ∧ 2 = 2 ∧ S[q]? = some (.inl 3)) ∧ RR 122 0 [.ref q, .int x1] [] (S, (0, 0, sl), M, D, F) (fun rv μ' => μ'.1.length = S.length ∧ RR 121 14 L (rv.toList ++ st) (μ'.1, (0, 0, sl), μ'.2.2) Q) := rw_call p121_11 rfl (ac122 q x1)
theorem r121_14 : RR 121 14 (.ref q :: l) st μ Q ↔ RR 121 15 (.ref q :: l) (.ref q :: st) μ Q := rw_go p121_14 rfl
theorem r121_15 : RR 121 15 L st μ Q ↔ RR 121 17 L (.int (nI 46) :: st) μ Q := rw_go p121_15 rfl
theorem r121_17 : RR 121 17 L (.int x1 :: .ref q :: st) (S, (0, 0, sl), M, D, F) Q ↔ (am_cat st ≤ 8 ∧ 2 = 2 ∧ S[q]? = some (.inl 3)) ∧ RR 122 0 [.ref q, .int x1] [] (S, (0, 0, sl), M, D, F) (fun rv μ' => μ'.1.length = S.length ∧ RR 121 20 L (rv.toList ++ st) (μ'.1, (0, 0, sl), μ'.2.2) Q) := rw_call p121_17 rfl (ac122 q x1)
theorem r121_20 : RR 121 20 (.ref q :: l) st μ Q ↔ RR 121 21 (.ref q :: l) (.ref q :: st) μ Q := rw_go p121_20 rfl
theorem r121_21 : RR 121 21 L st μ Q ↔ RR 121 23 L (.int (nI 65) :: st) μ Q := rw_go p121_21 rfl
theorem r121_23 : RR 121 23 (a0 :: a1 :: .int x :: l) st μ Q ↔ RR 121 24 (a0 :: a1 :: .int x :: l) (.int x :: st) μ Q := rw_go p121_23 rfl
theorem r121_24 : RR 121 24 L (.int y :: .int x :: st) μ Q ↔ RR 121 25 L (.int (x + y) :: st) μ Q := rw_go p121_24 rfl
theorem r121_25 : RR 121 25 L (.int x :: st) μ Q ↔ RR 121 26 L (.int (x.toUInt32 % 65536).toInt32 :: st) μ Q := rw_go p121_25 rfl
theorem r121_26 : RR 121 26 L (.int x1 :: .ref q :: st) (S, (0, 0, sl), M, D, F) Q ↔ (am_cat st ≤ 8 ∧ 2 = 2 ∧ S[q]? = some (.inl 3)) ∧ RR 122 0 [.ref q, .int x1] [] (S, (0, 0, sl), M, D, F) (fun rv μ' => μ'.1.length = S.length ∧ RR 121 29 L (rv.toList ++ st) (μ'.1, (0, 0, sl), μ'.2.2) Q) := rw_call p121_26 rfl (ac122 q x1)
theorem r121_29 : RR 121 29 (a0 :: a1 :: a2 :: .int x :: l) st μ Q ↔ RR 121 30 (a0 :: a1 :: a2 :: .int x :: l) (.int x :: st) μ Q := rw_go p121_29 rfl
theorem r121_30 : RR 121 30 L st μ Q ↔ RR 121 31 L (.int ((-1)) :: st) μ Q := rw_go p121_30 rfl
theorem r121_31 : RR 121 31 L (.int y :: .int x :: st) μ Q ↔ if x = y then RR 121 110 L st μ Q else RR 121 34 L st μ Q := rw_if p121_31 rfl
theorem r121_34 : RR 121 34 (.ref q :: l) st μ Q ↔ RR 121 35 (.ref q :: l) (.ref q :: st) μ Q := rw_go p121_34 rfl
theorem r121_35 : RR 121 35 L st μ Q ↔ RR 121 37 L (.int (nI 46) :: st) μ Q := rw_go p121_35 rfl
theorem r121_37 : RR 121 37 L (.int x1 :: .ref q :: st) (S, (0, 0, sl), M, D, F) Q ↔ (am_cat st ≤ 8 ∧ 2 = 2 ∧ S[q]? = some (.inl 3)) ∧ RR 122 0 [.ref q, .int x1] [] (S, (0, 0, sl), M, D, F) (fun rv μ' => μ'.1.length = S.length ∧ RR 121 40 L (rv.toList ++ st) (μ'.1, (0, 0, sl), μ'.2.2) Q) := rw_call p121_37 rfl (ac122 q x1)
theorem r121_40 : RR 121 40 (.ref q :: l) st μ Q ↔ RR 121 41 (.ref q :: l) (.ref q :: st) μ Q := rw_go p121_40 rfl
theorem r121_41 : RR 121 41 L st μ Q ↔ RR 121 43 L (.int (nI 97) :: st) μ Q := rw_go p121_41 rfl
theorem r121_43 : RR 121 43 (a0 :: a1 :: a2 :: .int x :: l) st μ Q ↔ RR 121 44 (a0 :: a1 :: a2 :: .int x :: l) (.int x :: st) μ Q := rw_go p121_43 rfl
theorem r121_44 : RR 121 44 L (.int x1 :: st) (S, (0, 0, sl), M, D, F) Q ↔ (am_cat st ≤ 8 ∧ 1 = 1) ∧ RR 28 0 [.int x1] [] (S, (0, 0, sl), M, D, F) (fun rv μ' => μ'.1.length = S.length ∧ RR 121 47 L (rv.toList ++ st) (μ'.1, (0, 0, sl), μ'.2.2) Q) := rw_call p121_44 rfl (ac28 x1)
theorem r121_47 : RR 121 47 L st μ Q ↔ RR 121 48 L (.int (nI 3) :: st) μ Q := rw_go p121_47 rfl
theorem r121_48 : RR 121 48 L (.int y :: .int x :: st) μ Q ↔ ¬ y = 0 ∧ RR 121 49 L (.int (x / y) :: st) μ Q := rw_n p121_48 rfl
theorem r121_49 : RR 121 49 L (.int y :: .int x :: st) μ Q ↔ RR 121 50 L (.int (x + y) :: st) μ Q := rw_go p121_49 rfl
theorem r121_50 : RR 121 50 L (.int x :: st) μ Q ↔ RR 121 51 L (.int (x.toUInt32 % 65536).toInt32 :: st) μ Q := rw_go p121_50 rfl
theorem r121_51 : RR 121 51 L (.int x1 :: .ref q :: st) (S, (0, 0, sl), M, D, F) Q ↔ (am_cat st ≤ 8 ∧ 2 = 2 ∧ S[q]? = some (.inl 3)) ∧ RR 122 0 [.ref q, .int x1] [] (S, (0, 0, sl), M, D, F) (fun rv μ' => μ'.1.length = S.length ∧ RR 121 54 L (rv.toList ++ st) (μ'.1, (0, 0, sl), μ'.2.2) Q) := rw_call p121_51 rfl (ac122 q x1)
theorem r121_54 : RR 121 54 (a0 :: a1 :: a2 :: .int x :: l) st μ Q ↔ RR 121 55 (a0 :: a1 :: a2 :: .int x :: l) (.int x :: st) μ Q := rw_go p121_54 rfl
theorem r121_55 : RR 121 55 L (.int x1 :: st) (S, (0, 0, sl), M, D, F) Q ↔ (am_cat st ≤ 8 ∧ 1 = 1) ∧ RR 27 0 [.int x1] [] (S, (0, 0, sl), M, D, F) (fun rv μ' => μ'.1.length = S.length ∧ RR 121 58 L (rv.toList ++ st) (μ'.1, (0, 0, sl), μ'.2.2) Q) := rw_call p121_55 rfl (ac27 x1)
theorem r121_58 : RR 121 58 L (.int x :: st) μ Q ↔ if x = 0 then RR 121 71 L st μ Q else RR 121 61 L st μ Q := rw_if p121_58 rfl
theorem r121_61 : RR 121 61 (a0 :: a1 :: a2 :: .int x :: l) st μ Q ↔ RR 121 62 (a0 :: a1 :: a2 :: .int x :: l) (.int x :: st) μ Q := rw_go p121_61 rfl
theorem r121_62 : RR 121 62 L (.int x1 :: st) (S, (0, 0, sl), M, D, F) Q ↔ (am_cat st ≤ 8 ∧ 1 = 1) ∧ RR 28 0 [.int x1] [] (S, (0, 0, sl), M, D, F) (fun rv μ' => μ'.1.length = S.length ∧ RR 121 65 L (rv.toList ++ st) (μ'.1, (0, 0, sl), μ'.2.2) Q) := rw_call p121_62 rfl (ac28 x1)
theorem r121_65 : RR 121 65 L (.int x1 :: st) (S, (0, 0, sl), M, D, F) Q ↔ (am_cat st ≤ 8 ∧ 1 = 1) ∧ RR 124 0 [.int x1] [] (S, (0, 0, sl), M, D, F) (fun rv μ' => μ'.1.length = S.length ∧ RR 121 68 L (rv.toList ++ st) (μ'.1, (0, 0, sl), μ'.2.2) Q) := rw_call p121_65 rfl (ac124 x1)
theorem r121_68 : RR 121 68 L st μ Q ↔ RR 121 78 L st μ Q := rw_go p121_68 rfl
theorem r121_71 : RR 121 71 (a0 :: a1 :: a2 :: .int x :: l) st μ Q ↔ RR 121 72 (a0 :: a1 :: a2 :: .int x :: l) (.int x :: st) μ Q := rw_go p121_71 rfl
theorem r121_72 : RR 121 72 L (.int x1 :: st) (S, (0, 0, sl), M, D, F) Q ↔ (am_cat st ≤ 8 ∧ 1 = 1) ∧ RR 28 0 [.int x1] [] (S, (0, 0, sl), M, D, F) (fun rv μ' => μ'.1.length = S.length ∧ RR 121 75 L (rv.toList ++ st) (μ'.1, (0, 0, sl), μ'.2.2) Q) := rw_call p121_72 rfl (ac28 x1)
theorem r121_75 : RR 121 75 L (.int x1 :: st) (S, (0, 0, sl), M, D, F) Q ↔ (am_cat st ≤ 8 ∧ 1 = 1) ∧ RR 123 0 [.int x1] [] (S, (0, 0, sl), M, D, F) (fun rv μ' => μ'.1.length = S.length ∧ RR 121 78 L (rv.toList ++ st) (μ'.1, (0, 0, sl), μ'.2.2) Q) := rw_call p121_75 rfl (ac123 x1)
theorem r121_78 : RR 121 78 (a0 :: a1 :: a2 :: a3 :: c0 :: l) (.ref q :: st) μ Q ↔ RR 121 80 (a0 :: a1 :: a2 :: am_nd a3 :: .ref q :: l) st μ Q := rw_ast p121_78 (by show 4 < _; simp only [List.length_cons]; omega)
theorem r121_80 : RR 121 80 L st μ Q ↔ RR 121 81 L (.int (nI 0) :: st) μ Q := rw_go p121_80 rfl
theorem r121_81 : RR 121 81 (a0 :: a1 :: a2 :: a3 :: a4 :: c0 :: l) (.int x :: st) μ Q ↔ RR 121 83 (a0 :: a1 :: a2 :: a3 :: am_nd a4 :: .int x :: l) st μ Q := rw_ist p121_81 (by show 5 < _; simp only [List.length_cons]; omega)
theorem r121_83 : RR 121 83 (a0 :: a1 :: a2 :: a3 :: a4 :: .int x :: l) st μ Q ↔ RR 121 85 (a0 :: a1 :: a2 :: a3 :: a4 :: .int x :: l) (.int x :: st) μ Q := rw_go p121_83 rfl
theorem r121_85 : RR 121 85 (a0 :: a1 :: a2 :: a3 :: .ref q :: l) st μ Q ↔ RR 121 87 (a0 :: a1 :: a2 :: a3 :: .ref q :: l) (.ref q :: st) μ Q := rw_go p121_85 rfl
theorem r121_87 : RR 121 87 L (.ref q :: st) μ Q ↔ (1000001 ≤ q ∧ q - 1000001 < am_strs.length ∧ am_cat st ≤ 8) ∧ RR 121 90 L (.int (nI (am_strs.getD (q - 1000001) []).length) :: st) μ Q := rw_c p121_87 rfl
theorem r121_90 : RR 121 90 L (.int y :: .int x :: st) μ Q ↔ if y ≤ x then RR 121 110 L st μ Q else RR 121 93 L st μ Q := rw_if p121_90 rfl
theorem r121_93 : RR 121 93 (.ref q :: l) st μ Q ↔ RR 121 94 (.ref q :: l) (.ref q :: st) μ Q := rw_go p121_93 rfl
theorem r121_94 : RR 121 94 (a0 :: a1 :: a2 :: a3 :: .ref q :: l) st μ Q ↔ RR 121 96 (a0 :: a1 :: a2 :: a3 :: .ref q :: l) (.ref q :: st) μ Q := rw_go p121_94 rfl
theorem r121_96 : RR 121 96 (a0 :: a1 :: a2 :: a3 :: a4 :: .int x :: l) st μ Q ↔ RR 121 98 (a0 :: a1 :: a2 :: a3 :: a4 :: .int x :: l) (.int x :: st) μ Q := rw_go p121_96 rfl
theorem r121_98 : RR 121 98 L (.int x :: .ref q :: st) μ Q ↔ (1000001 ≤ q ∧ q - 1000001 < am_strs.length ∧ am_cat st ≤ 8 ∧ 0 ≤ x.toInt ∧ x.toInt < ((am_strs.getD (q - 1000001) []).length : Int)) ∧ RR 121 101 L (.int (nI ((am_strs.getD (q - 1000001) []).getD x.toInt.toNat 0)) :: st) μ Q := rw_c p121_98 rfl
theorem r121_101 : RR 121 101 L (.int x1 :: .ref q :: st) (S, (0, 0, sl), M, D, F) Q ↔ (am_cat st ≤ 8 ∧ 2 = 2 ∧ S[q]? = some (.inl 3)) ∧ RR 122 0 [.ref q, .int x1] [] (S, (0, 0, sl), M, D, F) (fun rv μ' => μ'.1.length = S.length ∧ RR 121 104 L (rv.toList ++ st) (μ'.1, (0, 0, sl), μ'.2.2) Q) := rw_call p121_101 rfl (ac122 q x1)
theorem r121_104 : RR 121 104 (a0 :: a1 :: a2 :: a3 :: a4 :: .int x :: l) st μ Q ↔ RR 121 107 (a0 :: a1 :: a2 :: a3 :: am_nd a4 :: .int (x + nI 1) :: l) st μ Q := rw_go p121_104 rfl
theorem r121_107 : RR 121 107 L st μ Q ↔ RR 121 83 L st μ Q := rw_go p121_107 rfl
theorem r121_110 : RR 121 110 L [] μ Q ↔ Q none μ := rw_r p121_110 rfl
/-! ReleaseDesk$Name.put -/
theorem r122_0 : RR 122 0 (.ref q :: l) st μ Q ↔ RR 122 1 (.ref q :: l) (.ref q :: st) μ Q := rw_go p122_0 rfl
theorem r122_1 : RR 122 1 L (.ref q :: st) (S, b, M, D, F) Q ↔ S[q]? = some (.inl 3) ∧ RR 122 4 L (.int (M q 1) :: st) (S, b, M, D, F) Q := rw_c p122_1 rfl
theorem r122_4 : RR 122 4 L st μ Q ↔ RR 122 6 L (.int (nI 15) :: st) μ Q := rw_go p122_4 rfl
theorem r122_6 : RR 122 6 L (.int y :: .int x :: st) μ Q ↔ if y ≤ x then RR 122 29 L st μ Q else RR 122 9 L st μ Q := rw_if p122_6 rfl
theorem r122_9 : RR 122 9 (.ref q :: l) st μ Q ↔ RR 122 10 (.ref q :: l) (.ref q :: st) μ Q := rw_go p122_9 rfl
theorem r122_10 : RR 122 10 L (.ref q :: st) (S, b, M, D, F) Q ↔ S[q]? = some (.inl 3) ∧ RR 122 13 L (va_rf (F q 0) :: st) (S, b, M, D, F) Q := rw_c p122_10 rfl
theorem r122_13 : RR 122 13 (.ref q :: l) st μ Q ↔ RR 122 14 (.ref q :: l) (.ref q :: st) μ Q := rw_go p122_13 rfl
theorem r122_14 : RR 122 14 L (.ref q :: st) (S, b, M, D, F) Q ↔ S[q]? = some (.inl 3) ∧ RR 122 17 L (.int (M q 1) :: st) (S, b, M, D, F) Q := rw_c p122_14 rfl
theorem r122_17 : RR 122 17 (a0 :: .int x :: l) st μ Q ↔ RR 122 18 (a0 :: .int x :: l) (.int x :: st) μ Q := rw_go p122_17 rfl
theorem r122_18 : RR 122 18 L (.int x :: .int y :: .ref q :: st) (S, b, M, D, F) Q ↔ am_bs S q 1 y ∧ RR 122 19 L st (S, b, am_up M q y.toInt.toNat (vp_nar .char x), D, F) Q := rw_c p122_18 (am_xst_eq (f := fun x => (vp_nar .char x)))
theorem r122_19 : RR 122 19 (.ref q :: l) st μ Q ↔ RR 122 20 (.ref q :: l) (.ref q :: st) μ Q := rw_go p122_19 rfl
theorem r122_20 : RR 122 20 L (.ref q :: st) μ Q ↔ RR 122 21 L (.ref q :: .ref q :: st) μ Q := rw_go p122_20 rfl
theorem r122_20i : RR 122 20 L (.int x :: st) μ Q ↔ RR 122 21 L (.int x :: .int x :: st) μ Q := rw_go p122_20 rfl
theorem r122_21 : RR 122 21 L (.ref q :: st) (S, b, M, D, F) Q ↔ S[q]? = some (.inl 3) ∧ RR 122 24 L (.int (M q 1) :: st) (S, b, M, D, F) Q := rw_c p122_21 rfl
theorem r122_24 : RR 122 24 L st μ Q ↔ RR 122 25 L (.int (nI 1) :: st) μ Q := rw_go p122_24 rfl
theorem r122_25 : RR 122 25 L (.int y :: .int x :: st) μ Q ↔ RR 122 26 L (.int (x + y) :: st) μ Q := rw_go p122_25 rfl
theorem r122_26 : RR 122 26 L (.int x :: .ref q :: st) (S, b, M, D, F) Q ↔ S[q]? = some (.inl 3) ∧ RR 122 29 L st (S, b, am_up M q 1 x, D, F) Q := rw_c p122_26 rfl
theorem r122_29 : RR 122 29 L [] μ Q ↔ Q none μ := rw_r p122_29 rfl
/-! ReleaseDesk$Name.fieldEnd -/
theorem r123_0 : RR 123 0 (.int x :: l) st μ Q ↔ RR 123 1 (.int x :: l) (.int x :: st) μ Q := rw_go p123_0 rfl
theorem r123_1 : RR 123 1 L st μ Q ↔ RR 123 2 L (.int (nI 3) :: st) μ Q := rw_go p123_1 rfl
theorem r123_2 : RR 123 2 L (.int y :: .int x :: st) μ Q ↔ ¬ y = 0 ∧ RR 123 3 L (.int (x - x / y * y) :: st) μ Q := rw_n p123_2 rfl
theorem r123_3 : RR 123 3 L (.int x :: st) μ Q ↔ 0 ≤ ((3 : Nat) : Int) + Op.lookupswitch.offset [(0, 25), (1, 28)] 31 x.toInt ∧ RR 123 (((3 : Nat) : Int) + Op.lookupswitch.offset [(0, 25), (1, 28)] 31 x.toInt).toNat L st μ Q := rw_lsw p123_3
theorem r123_28 : RR 123 28 L st μ Q ↔ RR 123 30 L (.ref 1000004 :: st) μ Q := rw_go p123_28 (by rfl)
theorem r123_30 : RR 123 30 L [.ref q] μ Q ↔ Q (some (.ref q)) μ := rw_r p123_30 rfl
theorem r123_31 : RR 123 31 L st μ Q ↔ RR 123 33 L (.ref 1000005 :: st) μ Q := rw_go p123_31 (by rfl)
theorem r123_33 : RR 123 33 L [.ref q] μ Q ↔ Q (some (.ref q)) μ := rw_r p123_33 rfl
theorem r123_34 : RR 123 34 L st μ Q ↔ RR 123 36 L (.ref 1000006 :: st) μ Q := rw_go p123_34 (by rfl)
theorem r123_36 : RR 123 36 L [.ref q] μ Q ↔ Q (some (.ref q)) μ := rw_r p123_36 rfl
/-! ReleaseDesk$Name.methodEnd -/
theorem r124_0 : RR 124 0 (.int x :: l) st μ Q ↔ RR 124 1 (.int x :: l) (.int x :: st) μ Q := rw_go p124_0 rfl
theorem r124_1 : RR 124 1 L st μ Q ↔ RR 124 2 L (.int (nI 3) :: st) μ Q := rw_go p124_1 rfl
theorem r124_2 : RR 124 2 L (.int y :: .int x :: st) μ Q ↔ ¬ y = 0 ∧ RR 124 3 L (.int (x - x / y * y) :: st) μ Q := rw_n p124_2 rfl
theorem r124_3 : RR 124 3 L (.int x :: st) μ Q ↔ 0 ≤ ((3 : Nat) : Int) + Op.lookupswitch.offset [(0, 25), (1, 28)] 31 x.toInt ∧ RR 124 (((3 : Nat) : Int) + Op.lookupswitch.offset [(0, 25), (1, 28)] 31 x.toInt).toNat L st μ Q := rw_lsw p124_3
theorem r124_28 : RR 124 28 L st μ Q ↔ RR 124 30 L (.ref 1000001 :: st) μ Q := rw_go p124_28 (by rfl)
theorem r124_30 : RR 124 30 L [.ref q] μ Q ↔ Q (some (.ref q)) μ := rw_r p124_30 rfl
theorem r124_31 : RR 124 31 L st μ Q ↔ RR 124 33 L (.ref 1000002 :: st) μ Q := rw_go p124_31 (by rfl)
theorem r124_33 : RR 124 33 L [.ref q] μ Q ↔ Q (some (.ref q)) μ := rw_r p124_33 rfl
theorem r124_34 : RR 124 34 L st μ Q ↔ RR 124 36 L (.ref 1000003 :: st) μ Q := rw_go p124_34 (by rfl)
theorem r124_36 : RR 124 36 L [.ref q] μ Q ↔ Q (some (.ref q)) μ := rw_r p124_36 rfl
/-! ReleaseDesk$Name.length -/
theorem r125_0 : RR 125 0 (.ref q :: l) st μ Q ↔ RR 125 1 (.ref q :: l) (.ref q :: st) μ Q := rw_go p125_0 rfl
theorem r125_1 : RR 125 1 L (.ref q :: st) (S, b, M, D, F) Q ↔ S[q]? = some (.inl 3) ∧ RR 125 4 L (.int (M q 1) :: st) (S, b, M, D, F) Q := rw_c p125_1 rfl
theorem r125_4 : RR 125 4 L [.int x] μ Q ↔ Q (some (.int x)) μ := rw_r p125_4 rfl
/-! ReleaseDesk$Name.at -/
theorem r126_0 : RR 126 0 (.ref q :: l) st μ Q ↔ RR 126 1 (.ref q :: l) (.ref q :: st) μ Q := rw_go p126_0 rfl
theorem r126_1 : RR 126 1 L (.ref q :: st) (S, b, M, D, F) Q ↔ S[q]? = some (.inl 3) ∧ RR 126 4 L (va_rf (F q 0) :: st) (S, b, M, D, F) Q := rw_c p126_1 rfl
theorem r126_4 : RR 126 4 (a0 :: .int x :: l) st μ Q ↔ RR 126 5 (a0 :: .int x :: l) (.int x :: st) μ Q := rw_go p126_4 rfl
theorem r126_5 : RR 126 5 L (.int x :: .ref q :: st) (S, b, M, D, F) Q ↔ am_bd S b.2.2 q 1 x ∧ RR 126 6 L (.int (M q x.toInt.toNat) :: st) (S, b, M, D, F) Q := rw_c p126_5 am_xld_eq
theorem r126_6 : RR 126 6 L [.int x] μ Q ↔ (0 ≤ x.toInt ∧ x.toInt < 65536) ∧ Q (some (.int x)) μ := rw_rc p126_6 rfl
/-! ReleaseDesk$Name.placesOf -/
theorem r127_0 : RR 127 0 L st μ Q ↔ RR 127 1 L (.int (nI 0) :: st) μ Q := rw_go p127_0 rfl
theorem r127_1 : RR 127 1 (a0 :: a1 :: c0 :: l) (.int x :: st) μ Q ↔ RR 127 2 (a0 :: am_nd a1 :: .int x :: l) st μ Q := rw_istn p127_1 (by show 2 < _; simp only [List.length_cons]; omega)
theorem r127_2 : RR 127 2 L st μ Q ↔ RR 127 3 L (.int (nI 0) :: st) μ Q := rw_go p127_2 rfl
theorem r127_3 : RR 127 3 (a0 :: a1 :: a2 :: c0 :: l) (.int x :: st) μ Q ↔ RR 127 4 (a0 :: a1 :: am_nd a2 :: .int x :: l) st μ Q := rw_istn p127_3 (by show 3 < _; simp only [List.length_cons]; omega)
theorem r127_4 : RR 127 4 (a0 :: a1 :: a2 :: .int x :: l) st μ Q ↔ RR 127 5 (a0 :: a1 :: a2 :: .int x :: l) (.int x :: st) μ Q := rw_go p127_4 rfl
theorem r127_5 : RR 127 5 (.ref q :: l) st μ Q ↔ RR 127 6 (.ref q :: l) (.ref q :: st) μ Q := rw_go p127_5 rfl
theorem r127_6 : RR 127 6 L (.ref q :: st) (S, b, M, D, F) Q ↔ S[q]? = some (.inl 3) ∧ RR 127 9 L (.int (M q 1) :: st) (S, b, M, D, F) Q := rw_c p127_6 rfl
theorem r127_9 : RR 127 9 L (.int y :: .int x :: st) μ Q ↔ if y ≤ x then RR 127 34 L st μ Q else RR 127 12 L st μ Q := rw_if p127_9 rfl
theorem r127_12 : RR 127 12 (.ref q :: l) st μ Q ↔ RR 127 13 (.ref q :: l) (.ref q :: st) μ Q := rw_go p127_12 rfl
theorem r127_13 : RR 127 13 L (.ref q :: st) (S, b, M, D, F) Q ↔ S[q]? = some (.inl 3) ∧ RR 127 16 L (va_rf (F q 0) :: st) (S, b, M, D, F) Q := rw_c p127_13 rfl
theorem r127_16 : RR 127 16 (a0 :: a1 :: a2 :: .int x :: l) st μ Q ↔ RR 127 17 (a0 :: a1 :: a2 :: .int x :: l) (.int x :: st) μ Q := rw_go p127_16 rfl
theorem r127_17 : RR 127 17 L (.int x :: .ref q :: st) (S, b, M, D, F) Q ↔ am_bd S b.2.2 q 1 x ∧ RR 127 18 L (.int (M q x.toInt.toNat) :: st) (S, b, M, D, F) Q := rw_c p127_17 am_xld_eq
theorem r127_18 : RR 127 18 (a0 :: .int x :: l) st μ Q ↔ RR 127 19 (a0 :: .int x :: l) (.int x :: st) μ Q := rw_go p127_18 rfl
theorem r127_19 : RR 127 19 L (.int y :: .int x :: st) μ Q ↔ if ¬ x = y then RR 127 28 L st μ Q else RR 127 22 L st μ Q := rw_if p127_19 rfl
theorem r127_22 : RR 127 22 (a0 :: a1 :: .int x :: l) st μ Q ↔ RR 127 23 (a0 :: a1 :: .int x :: l) (.int x :: st) μ Q := rw_go p127_22 rfl
theorem r127_23 : RR 127 23 L st μ Q ↔ RR 127 24 L (.int (nI 1) :: st) μ Q := rw_go p127_23 rfl
theorem r127_24 : RR 127 24 (a0 :: a1 :: a2 :: .int x :: l) st μ Q ↔ RR 127 25 (a0 :: a1 :: a2 :: .int x :: l) (.int x :: st) μ Q := rw_go p127_24 rfl
theorem r127_25 : RR 127 25 L (.int y :: .int x :: st) μ Q ↔ RR 127 26 L (.int (x <<< (y &&& 31)) :: st) μ Q := rw_go p127_25 rfl
theorem r127_26 : RR 127 26 L (.int y :: .int x :: st) μ Q ↔ RR 127 27 L (.int (x ||| y) :: st) μ Q := rw_go p127_26 rfl
theorem r127_27 : RR 127 27 (a0 :: a1 :: c0 :: l) (.int x :: st) μ Q ↔ RR 127 28 (a0 :: am_nd a1 :: .int x :: l) st μ Q := rw_istn p127_27 (by show 2 < _; simp only [List.length_cons]; omega)
theorem r127_28 : RR 127 28 (a0 :: a1 :: a2 :: .int x :: l) st μ Q ↔ RR 127 31 (a0 :: a1 :: am_nd a2 :: .int (x + nI 1) :: l) st μ Q := rw_go p127_28 rfl
theorem r127_31 : RR 127 31 L st μ Q ↔ RR 127 4 L st μ Q := rw_go p127_31 rfl
theorem r127_34 : RR 127 34 (a0 :: a1 :: .int x :: l) st μ Q ↔ RR 127 35 (a0 :: a1 :: .int x :: l) (.int x :: st) μ Q := rw_go p127_34 rfl
theorem r127_35 : RR 127 35 L [.int x] μ Q ↔ Q (some (.int x)) μ := rw_r p127_35 rfl
/-! ReleaseDesk$Pattern.init -/
theorem r128_0 : RR 128 0 (.ref q :: l) st μ Q ↔ RR 128 1 (.ref q :: l) (.ref q :: st) μ Q := rw_go p128_0 rfl
theorem r128_1 : RR 128 1 L (.ref q :: st) μ Q ↔ am_cat st ≤ 8 ∧ RR 128 4 L st μ Q := rw_c p128_1 rfl
theorem r128_4 : RR 128 4 (.ref q :: l) st μ Q ↔ RR 128 5 (.ref q :: l) (.ref q :: st) μ Q := rw_go p128_4 rfl
theorem r128_5 : RR 128 5 L st μ Q ↔ RR 128 7 L (.int (nI 12) :: st) μ Q := rw_go p128_5 rfl
theorem r128_9 : RR 128 9 L (.ref q2 :: .ref q :: st) (S, b, M, D, F) Q ↔ S[q]? = some (.inl 4) ∧ RR 128 12 L st (S, b, M, D, am_up F q 0 (some q2)) Q := rw_c p128_9 rfl
theorem r128_12 : RR 128 12 L [] μ Q ↔ Q none μ := rw_r p128_12 rfl
/-! ReleaseDesk$Pattern.length -/
theorem r129_0 : RR 129 0 (.ref q :: l) st μ Q ↔ RR 129 1 (.ref q :: l) (.ref q :: st) μ Q := rw_go p129_0 rfl
theorem r129_1 : RR 129 1 L (.ref q :: st) (S, b, M, D, F) Q ↔ S[q]? = some (.inl 4) ∧ RR 129 4 L (.int (M q 1) :: st) (S, b, M, D, F) Q := rw_c p129_1 rfl
theorem r129_4 : RR 129 4 L [.int x] μ Q ↔ Q (some (.int x)) μ := rw_r p129_4 rfl
/-! ReleaseDesk$Pattern.isFull -/
theorem r130_0 : RR 130 0 (.ref q :: l) st μ Q ↔ RR 130 1 (.ref q :: l) (.ref q :: st) μ Q := rw_go p130_0 rfl
theorem r130_1 : RR 130 1 L (.ref q :: st) (S, b, M, D, F) Q ↔ S[q]? = some (.inl 4) ∧ RR 130 4 L (.int (M q 1) :: st) (S, b, M, D, F) Q := rw_c p130_1 rfl
theorem r130_4 : RR 130 4 L st μ Q ↔ RR 130 6 L (.int (nI 12) :: st) μ Q := rw_go p130_4 rfl
theorem r130_6 : RR 130 6 L (.int y :: .int x :: st) μ Q ↔ if ¬ x = y then RR 130 13 L st μ Q else RR 130 9 L st μ Q := rw_if p130_6 rfl
theorem r130_9 : RR 130 9 L st μ Q ↔ RR 130 10 L (.int (nI 1) :: st) μ Q := rw_go p130_9 rfl
theorem r130_10 : RR 130 10 L st μ Q ↔ RR 130 14 L st μ Q := rw_go p130_10 rfl
theorem r130_13 : RR 130 13 L st μ Q ↔ RR 130 14 L (.int (nI 0) :: st) μ Q := rw_go p130_13 rfl
theorem r130_14 : RR 130 14 L [.int x] μ Q ↔ (x = 0 ∨ x = 1) ∧ Q (some (.int x)) μ := rw_rc p130_14 rfl
/-! ReleaseDesk$Pattern.append -/
theorem r131_0 : RR 131 0 (.ref q :: l) st μ Q ↔ RR 131 1 (.ref q :: l) (.ref q :: st) μ Q := rw_go p131_0 rfl
theorem r131_1 : RR 131 1 L (.ref q :: st) (S, b, M, D, F) Q ↔ S[q]? = some (.inl 4) ∧ RR 131 4 L (.int (M q 1) :: st) (S, b, M, D, F) Q := rw_c p131_1 rfl
theorem r131_4 : RR 131 4 L st μ Q ↔ RR 131 6 L (.int (nI 12) :: st) μ Q := rw_go p131_4 rfl
theorem r131_6 : RR 131 6 L (.int y :: .int x :: st) μ Q ↔ if y ≤ x then RR 131 29 L st μ Q else RR 131 9 L st μ Q := rw_if p131_6 rfl
theorem r131_9 : RR 131 9 (.ref q :: l) st μ Q ↔ RR 131 10 (.ref q :: l) (.ref q :: st) μ Q := rw_go p131_9 rfl
theorem r131_10 : RR 131 10 L (.ref q :: st) (S, b, M, D, F) Q ↔ S[q]? = some (.inl 4) ∧ RR 131 13 L (va_rf (F q 0) :: st) (S, b, M, D, F) Q := rw_c p131_10 rfl
theorem r131_13 : RR 131 13 (.ref q :: l) st μ Q ↔ RR 131 14 (.ref q :: l) (.ref q :: st) μ Q := rw_go p131_13 rfl
theorem r131_14 : RR 131 14 L (.ref q :: st) (S, b, M, D, F) Q ↔ S[q]? = some (.inl 4) ∧ RR 131 17 L (.int (M q 1) :: st) (S, b, M, D, F) Q := rw_c p131_14 rfl
theorem r131_17 : RR 131 17 (a0 :: .int x :: l) st μ Q ↔ RR 131 18 (a0 :: .int x :: l) (.int x :: st) μ Q := rw_go p131_17 rfl
theorem r131_18 : RR 131 18 L (.int x :: .int y :: .ref q :: st) (S, b, M, D, F) Q ↔ am_bs S q 1 y ∧ RR 131 19 L st (S, b, am_up M q y.toInt.toNat (vp_nar .char x), D, F) Q := rw_c p131_18 (am_xst_eq (f := fun x => (vp_nar .char x)))
theorem r131_19 : RR 131 19 (.ref q :: l) st μ Q ↔ RR 131 20 (.ref q :: l) (.ref q :: st) μ Q := rw_go p131_19 rfl
theorem r131_20 : RR 131 20 L (.ref q :: st) μ Q ↔ RR 131 21 L (.ref q :: .ref q :: st) μ Q := rw_go p131_20 rfl
theorem r131_20i : RR 131 20 L (.int x :: st) μ Q ↔ RR 131 21 L (.int x :: .int x :: st) μ Q := rw_go p131_20 rfl
theorem r131_21 : RR 131 21 L (.ref q :: st) (S, b, M, D, F) Q ↔ S[q]? = some (.inl 4) ∧ RR 131 24 L (.int (M q 1) :: st) (S, b, M, D, F) Q := rw_c p131_21 rfl
theorem r131_24 : RR 131 24 L st μ Q ↔ RR 131 25 L (.int (nI 1) :: st) μ Q := rw_go p131_24 rfl
theorem r131_25 : RR 131 25 L (.int y :: .int x :: st) μ Q ↔ RR 131 26 L (.int (x + y) :: st) μ Q := rw_go p131_25 rfl
theorem r131_26 : RR 131 26 L (.int x :: .ref q :: st) (S, b, M, D, F) Q ↔ S[q]? = some (.inl 4) ∧ RR 131 29 L st (S, b, am_up M q 1 x, D, F) Q := rw_c p131_26 rfl
theorem r131_29 : RR 131 29 L [] μ Q ↔ Q none μ := rw_r p131_29 rfl
/-! ReleaseDesk$Pattern.empty -/
theorem r132_0 : RR 132 0 (.ref q :: l) st μ Q ↔ RR 132 1 (.ref q :: l) (.ref q :: st) μ Q := rw_go p132_0 rfl
theorem r132_1 : RR 132 1 L st μ Q ↔ RR 132 2 L (.int (nI 0) :: st) μ Q := rw_go p132_1 rfl
theorem r132_2 : RR 132 2 L (.int x :: .ref q :: st) (S, b, M, D, F) Q ↔ S[q]? = some (.inl 4) ∧ RR 132 5 L st (S, b, am_up M q 1 x, D, F) Q := rw_c p132_2 rfl
theorem r132_5 : RR 132 5 L [] μ Q ↔ Q none μ := rw_r p132_5 rfl
/-! ReleaseDesk$Pattern.become -/
theorem r133_0 : RR 133 0 (.ref q :: l) st μ Q ↔ RR 133 1 (.ref q :: l) (.ref q :: st) μ Q := rw_go p133_0 rfl
theorem r133_1 : RR 133 1 (a0 :: .ref q :: l) st μ Q ↔ RR 133 2 (a0 :: .ref q :: l) (.ref q :: st) μ Q := rw_go p133_1 rfl
theorem r133_2 : RR 133 2 L (.ref q :: st) (S, b, M, D, F) Q ↔ S[q]? = some (.inl 4) ∧ RR 133 5 L (.int (M q 1) :: st) (S, b, M, D, F) Q := rw_c p133_2 rfl
theorem r133_5 : RR 133 5 L (.int x :: .ref q :: st) (S, b, M, D, F) Q ↔ S[q]? = some (.inl 4) ∧ RR 133 8 L st (S, b, am_up M q 1 x, D, F) Q := rw_c p133_5 rfl
theorem r133_8 : RR 133 8 (a0 :: .ref q :: l) st μ Q ↔ RR 133 9 (a0 :: .ref q :: l) (.ref q :: st) μ Q := rw_go p133_8 rfl
theorem r133_9 : RR 133 9 L (.ref q :: st) (S, b, M, D, F) Q ↔ S[q]? = some (.inl 4) ∧ RR 133 12 L (va_rf (F q 0) :: st) (S, b, M, D, F) Q := rw_c p133_9 rfl
theorem r133_12 : RR 133 12 L st μ Q ↔ RR 133 13 L (.int (nI 0) :: st) μ Q := rw_go p133_12 rfl
theorem r133_13 : RR 133 13 (.ref q :: l) st μ Q ↔ RR 133 14 (.ref q :: l) (.ref q :: st) μ Q := rw_go p133_13 rfl
theorem r133_14 : RR 133 14 L (.ref q :: st) (S, b, M, D, F) Q ↔ S[q]? = some (.inl 4) ∧ RR 133 17 L (va_rf (F q 0) :: st) (S, b, M, D, F) Q := rw_c p133_14 rfl
theorem r133_17 : RR 133 17 L st μ Q ↔ RR 133 18 L (.int (nI 0) :: st) μ Q := rw_go p133_17 rfl
theorem r133_18 : RR 133 18 L st μ Q ↔ RR 133 20 L (.int (nI 12) :: st) μ Q := rw_go p133_18 rfl
theorem r133_23 : RR 133 23 L [] μ Q ↔ Q none μ := rw_r p133_23 rfl
/-! ReleaseDesk$Pattern.matches -/
theorem r134_0 : RR 134 0 L st μ Q ↔ RR 134 1 L (.int (nI 1) :: st) μ Q := rw_go p134_0 rfl
theorem r134_1 : RR 134 1 (a0 :: a1 :: c0 :: l) (.int x :: st) μ Q ↔ RR 134 2 (a0 :: am_nd a1 :: .int x :: l) st μ Q := rw_istn p134_1 (by show 2 < _; simp only [List.length_cons]; omega)
theorem r134_2 : RR 134 2 L st μ Q ↔ RR 134 3 L (.int (nI 0) :: st) μ Q := rw_go p134_2 rfl
theorem r134_3 : RR 134 3 (a0 :: a1 :: a2 :: c0 :: l) (.int x :: st) μ Q ↔ RR 134 4 (a0 :: a1 :: am_nd a2 :: .int x :: l) st μ Q := rw_istn p134_3 (by show 3 < _; simp only [List.length_cons]; omega)
theorem r134_4 : RR 134 4 (a0 :: a1 :: a2 :: .int x :: l) st μ Q ↔ RR 134 5 (a0 :: a1 :: a2 :: .int x :: l) (.int x :: st) μ Q := rw_go p134_4 rfl
theorem r134_5 : RR 134 5 (.ref q :: l) st μ Q ↔ RR 134 6 (.ref q :: l) (.ref q :: st) μ Q := rw_go p134_5 rfl
theorem r134_6 : RR 134 6 L (.ref q :: st) (S, b, M, D, F) Q ↔ S[q]? = some (.inl 4) ∧ RR 134 9 L (.int (M q 1) :: st) (S, b, M, D, F) Q := rw_c p134_6 rfl
theorem r134_9 : RR 134 9 L (.int y :: .int x :: st) μ Q ↔ if y ≤ x then RR 134 70 L st μ Q else RR 134 12 L st μ Q := rw_if p134_9 rfl
theorem r134_12 : RR 134 12 (.ref q :: l) st μ Q ↔ RR 134 13 (.ref q :: l) (.ref q :: st) μ Q := rw_go p134_12 rfl
theorem r134_13 : RR 134 13 L (.ref q :: st) (S, b, M, D, F) Q ↔ S[q]? = some (.inl 4) ∧ RR 134 16 L (va_rf (F q 0) :: st) (S, b, M, D, F) Q := rw_c p134_13 rfl
theorem r134_16 : RR 134 16 (a0 :: a1 :: a2 :: .int x :: l) st μ Q ↔ RR 134 17 (a0 :: a1 :: a2 :: .int x :: l) (.int x :: st) μ Q := rw_go p134_16 rfl
theorem r134_17 : RR 134 17 L (.int x :: .ref q :: st) (S, b, M, D, F) Q ↔ am_bd S b.2.2 q 1 x ∧ RR 134 18 L (.int (M q x.toInt.toNat) :: st) (S, b, M, D, F) Q := rw_c p134_17 am_xld_eq
theorem r134_18 : RR 134 18 L st μ Q ↔ RR 134 20 L (.int (nI 42) :: st) μ Q := rw_go p134_18 rfl
theorem r134_20 : RR 134 20 L (.int y :: .int x :: st) μ Q ↔ if ¬ x = y then RR 134 31 L st μ Q else RR 134 23 L st μ Q := rw_if p134_20 rfl
theorem r134_23 : RR 134 23 (a0 :: a1 :: .int x :: l) st μ Q ↔ RR 134 24 (a0 :: a1 :: .int x :: l) (.int x :: st) μ Q := rw_go p134_23 rfl
theorem r134_24 : RR 134 24 (a0 :: a1 :: .int x :: l) st μ Q ↔ RR 134 25 (a0 :: a1 :: .int x :: l) (.int x :: st) μ Q := rw_go p134_24 rfl
theorem r134_25 : RR 134 25 L (.int x :: st) μ Q ↔ RR 134 26 L (.int (-x) :: st) μ Q := rw_go p134_25 rfl
theorem r134_26 : RR 134 26 L (.int y :: .int x :: st) μ Q ↔ RR 134 27 L (.int (x ||| y) :: st) μ Q := rw_go p134_26 rfl
theorem r134_27 : RR 134 27 (a0 :: a1 :: c0 :: l) (.int x :: st) μ Q ↔ RR 134 28 (a0 :: am_nd a1 :: .int x :: l) st μ Q := rw_istn p134_27 (by show 2 < _; simp only [List.length_cons]; omega)
theorem r134_28 : RR 134 28 L st μ Q ↔ RR 134 64 L st μ Q := rw_go p134_28 rfl
theorem r134_31 : RR 134 31 (.ref q :: l) st μ Q ↔ RR 134 32 (.ref q :: l) (.ref q :: st) μ Q := rw_go p134_31 rfl
theorem r134_32 : RR 134 32 L (.ref q :: st) (S, b, M, D, F) Q ↔ S[q]? = some (.inl 4) ∧ RR 134 35 L (va_rf (F q 0) :: st) (S, b, M, D, F) Q := rw_c p134_32 rfl
theorem r134_35 : RR 134 35 (a0 :: a1 :: a2 :: .int x :: l) st μ Q ↔ RR 134 36 (a0 :: a1 :: a2 :: .int x :: l) (.int x :: st) μ Q := rw_go p134_35 rfl
theorem r134_36 : RR 134 36 L (.int x :: .ref q :: st) (S, b, M, D, F) Q ↔ am_bd S b.2.2 q 1 x ∧ RR 134 37 L (.int (M q x.toInt.toNat) :: st) (S, b, M, D, F) Q := rw_c p134_36 am_xld_eq
theorem r134_37 : RR 134 37 L st μ Q ↔ RR 134 39 L (.int (nI 63) :: st) μ Q := rw_go p134_37 rfl
theorem r134_39 : RR 134 39 L (.int y :: .int x :: st) μ Q ↔ if ¬ x = y then RR 134 49 L st μ Q else RR 134 42 L st μ Q := rw_if p134_39 rfl
theorem r134_42 : RR 134 42 (a0 :: a1 :: .int x :: l) st μ Q ↔ RR 134 43 (a0 :: a1 :: .int x :: l) (.int x :: st) μ Q := rw_go p134_42 rfl
theorem r134_43 : RR 134 43 L st μ Q ↔ RR 134 44 L (.int (nI 1) :: st) μ Q := rw_go p134_43 rfl
theorem r134_44 : RR 134 44 L (.int y :: .int x :: st) μ Q ↔ RR 134 45 L (.int (x <<< (y &&& 31)) :: st) μ Q := rw_go p134_44 rfl
theorem r134_45 : RR 134 45 (a0 :: a1 :: c0 :: l) (.int x :: st) μ Q ↔ RR 134 46 (a0 :: am_nd a1 :: .int x :: l) st μ Q := rw_istn p134_45 (by show 2 < _; simp only [List.length_cons]; omega)
theorem r134_46 : RR 134 46 L st μ Q ↔ RR 134 64 L st μ Q := rw_go p134_46 rfl
theorem r134_49 : RR 134 49 (a0 :: a1 :: .int x :: l) st μ Q ↔ RR 134 50 (a0 :: a1 :: .int x :: l) (.int x :: st) μ Q := rw_go p134_49 rfl
theorem r134_50 : RR 134 50 (a0 :: .ref q :: l) st μ Q ↔ RR 134 51 (a0 :: .ref q :: l) (.ref q :: st) μ Q := rw_go p134_50 rfl
theorem r134_51 : RR 134 51 (.ref q :: l) st μ Q ↔ RR 134 52 (.ref q :: l) (.ref q :: st) μ Q := rw_go p134_51 rfl
theorem r134_52 : RR 134 52 L (.ref q :: st) (S, b, M, D, F) Q ↔ S[q]? = some (.inl 4) ∧ RR 134 55 L (va_rf (F q 0) :: st) (S, b, M, D, F) Q := rw_c p134_52 rfl
theorem r134_55 : RR 134 55 (a0 :: a1 :: a2 :: .int x :: l) st μ Q ↔ RR 134 56 (a0 :: a1 :: a2 :: .int x :: l) (.int x :: st) μ Q := rw_go p134_55 rfl
theorem r134_56 : RR 134 56 L (.int x :: .ref q :: st) (S, b, M, D, F) Q ↔ am_bd S b.2.2 q 1 x ∧ RR 134 57 L (.int (M q x.toInt.toNat) :: st) (S, b, M, D, F) Q := rw_c p134_56 am_xld_eq
theorem r134_57 : RR 134 57 L (.int x1 :: .ref q :: st) (S, (0, 0, sl), M, D, F) Q ↔ (am_cat st ≤ 8 ∧ 2 = 2 ∧ S[q]? = some (.inl 3)) ∧ RR 127 0 [.ref q, .int x1, .long 0, .long 0] [] (S, (0, 0, sl), M, D, F) (fun rv μ' => μ'.1.length = S.length ∧ RR 134 60 L (rv.toList ++ st) (μ'.1, (0, 0, sl), μ'.2.2) Q) := rw_call p134_57 rfl (ac127 q x1)
theorem r134_60 : RR 134 60 L (.int y :: .int x :: st) μ Q ↔ RR 134 61 L (.int (x &&& y) :: st) μ Q := rw_go p134_60 rfl
theorem r134_61 : RR 134 61 L st μ Q ↔ RR 134 62 L (.int (nI 1) :: st) μ Q := rw_go p134_61 rfl
theorem r134_62 : RR 134 62 L (.int y :: .int x :: st) μ Q ↔ RR 134 63 L (.int (x <<< (y &&& 31)) :: st) μ Q := rw_go p134_62 rfl
theorem r134_63 : RR 134 63 (a0 :: a1 :: c0 :: l) (.int x :: st) μ Q ↔ RR 134 64 (a0 :: am_nd a1 :: .int x :: l) st μ Q := rw_istn p134_63 (by show 2 < _; simp only [List.length_cons]; omega)
theorem r134_64 : RR 134 64 (a0 :: a1 :: a2 :: .int x :: l) st μ Q ↔ RR 134 67 (a0 :: a1 :: am_nd a2 :: .int (x + nI 1) :: l) st μ Q := rw_go p134_64 rfl
theorem r134_67 : RR 134 67 L st μ Q ↔ RR 134 4 L st μ Q := rw_go p134_67 rfl
theorem r134_70 : RR 134 70 (a0 :: a1 :: .int x :: l) st μ Q ↔ RR 134 71 (a0 :: a1 :: .int x :: l) (.int x :: st) μ Q := rw_go p134_70 rfl
theorem r134_71 : RR 134 71 (a0 :: .ref q :: l) st μ Q ↔ RR 134 72 (a0 :: .ref q :: l) (.ref q :: st) μ Q := rw_go p134_71 rfl
theorem r134_72 : RR 134 72 L (.ref q :: st) (S, (0, 0, sl), M, D, F) Q ↔ (am_cat st ≤ 8 ∧ 1 = 1 ∧ S[q]? = some (.inl 3)) ∧ RR 125 0 [.ref q] [] (S, (0, 0, sl), M, D, F) (fun rv μ' => μ'.1.length = S.length ∧ RR 134 75 L (rv.toList ++ st) (μ'.1, (0, 0, sl), μ'.2.2) Q) := rw_call p134_72 rfl (ac125 q)
theorem r134_75 : RR 134 75 L (.int y :: .int x :: st) μ Q ↔ RR 134 76 L (.int (x >>> (y &&& 31)) :: st) μ Q := rw_go p134_75 rfl
theorem r134_76 : RR 134 76 L st μ Q ↔ RR 134 77 L (.int (nI 1) :: st) μ Q := rw_go p134_76 rfl
theorem r134_77 : RR 134 77 L (.int y :: .int x :: st) μ Q ↔ RR 134 78 L (.int (x &&& y) :: st) μ Q := rw_go p134_77 rfl
theorem r134_78 : RR 134 78 L st μ Q ↔ RR 134 79 L (.int (nI 1) :: st) μ Q := rw_go p134_78 rfl
theorem r134_79 : RR 134 79 L (.int y :: .int x :: st) μ Q ↔ if ¬ x = y then RR 134 86 L st μ Q else RR 134 82 L st μ Q := rw_if p134_79 rfl
theorem r134_82 : RR 134 82 L st μ Q ↔ RR 134 83 L (.int (nI 1) :: st) μ Q := rw_go p134_82 rfl
theorem r134_83 : RR 134 83 L st μ Q ↔ RR 134 87 L st μ Q := rw_go p134_83 rfl
theorem r134_86 : RR 134 86 L st μ Q ↔ RR 134 87 L (.int (nI 0) :: st) μ Q := rw_go p134_86 rfl
theorem r134_87 : RR 134 87 L [.int x] μ Q ↔ (x = 0 ∨ x = 1) ∧ Q (some (.int x)) μ := rw_rc p134_87 rfl
/-! ReleaseDesk$Report.init -/
theorem r135_0 : RR 135 0 (.ref q :: l) st μ Q ↔ RR 135 1 (.ref q :: l) (.ref q :: st) μ Q := rw_go p135_0 rfl
theorem r135_1 : RR 135 1 L (.ref q :: st) μ Q ↔ am_cat st ≤ 8 ∧ RR 135 4 L st μ Q := rw_c p135_1 rfl
theorem r135_4 : RR 135 4 L [] μ Q ↔ Q none μ := rw_r p135_4 rfl
/-! ReleaseDesk$Report.start -/
theorem r136_0 : RR 136 0 (.ref q :: l) st μ Q ↔ RR 136 1 (.ref q :: l) (.ref q :: st) μ Q := rw_go p136_0 rfl
theorem r136_1 : RR 136 1 (a0 :: .int x :: l) st μ Q ↔ RR 136 2 (a0 :: .int x :: l) (.int x :: st) μ Q := rw_go p136_1 rfl
theorem r136_2 : RR 136 2 L (.int x :: .ref q :: st) (S, b, M, D, F) Q ↔ S[q]? = some (.inl 5) ∧ RR 136 5 L st (S, b, am_up M q 0 x, D, F) Q := rw_c p136_2 rfl
theorem r136_5 : RR 136 5 (.ref q :: l) st μ Q ↔ RR 136 6 (.ref q :: l) (.ref q :: st) μ Q := rw_go p136_5 rfl
theorem r136_6 : RR 136 6 L st μ Q ↔ RR 136 7 L (.int (nI 0) :: st) μ Q := rw_go p136_6 rfl
theorem r136_7 : RR 136 7 L (.int x :: .ref q :: st) (S, b, M, D, F) Q ↔ S[q]? = some (.inl 5) ∧ RR 136 10 L st (S, b, am_up M q 1 x, D, F) Q := rw_c p136_7 rfl
theorem r136_10 : RR 136 10 (.ref q :: l) st μ Q ↔ RR 136 11 (.ref q :: l) (.ref q :: st) μ Q := rw_go p136_10 rfl
theorem r136_11 : RR 136 11 L st μ Q ↔ RR 136 13 L (.int ((-2)) :: st) μ Q := rw_go p136_11 rfl
theorem r136_13 : RR 136 13 L (.int x :: .ref q :: st) (S, b, M, D, F) Q ↔ S[q]? = some (.inl 5) ∧ RR 136 16 L st (S, b, am_up M q 2 x, D, F) Q := rw_c p136_13 rfl
theorem r136_16 : RR 136 16 L [] μ Q ↔ Q none μ := rw_r p136_16 rfl
/-! ReleaseDesk$Report.length -/
theorem r137_0 : RR 137 0 (.ref q :: l) st μ Q ↔ RR 137 1 (.ref q :: l) (.ref q :: st) μ Q := rw_go p137_0 rfl
theorem r137_1 : RR 137 1 L (.ref q :: st) (S, b, M, D, F) Q ↔ S[q]? = some (.inl 5) ∧ RR 137 4 L (.int (M q 1) :: st) (S, b, M, D, F) Q := rw_c p137_1 rfl
theorem r137_4 : RR 137 4 L [.int x] μ Q ↔ Q (some (.int x)) μ := rw_r p137_4 rfl
/-! ReleaseDesk$Report.found -/
theorem r138_0 : RR 138 0 (.ref q :: l) st μ Q ↔ RR 138 1 (.ref q :: l) (.ref q :: st) μ Q := rw_go p138_0 rfl
theorem r138_1 : RR 138 1 L (.ref q :: st) (S, b, M, D, F) Q ↔ S[q]? = some (.inl 5) ∧ RR 138 4 L (.int (M q 2) :: st) (S, b, M, D, F) Q := rw_c p138_1 rfl
theorem r138_4 : RR 138 4 L [.int x] μ Q ↔ Q (some (.int x)) μ := rw_r p138_4 rfl
/-! ReleaseDesk$Report.writeLines -/
theorem r139_0 : RR 139 0 L st μ Q ↔ RR 139 1 L (.int (nI 0) :: st) μ Q := rw_go p139_0 rfl
theorem r139_1 : RR 139 1 (a0 :: a1 :: a2 :: c0 :: l) (.int x :: st) μ Q ↔ RR 139 2 (a0 :: a1 :: am_nd a2 :: .int x :: l) st μ Q := rw_istn p139_1 (by show 3 < _; simp only [List.length_cons]; omega)
theorem r139_2 : RR 139 2 (a0 :: a1 :: a2 :: .int x :: l) st μ Q ↔ RR 139 3 (a0 :: a1 :: a2 :: .int x :: l) (.int x :: st) μ Q := rw_go p139_2 rfl
theorem r139_3 : RR 139 3 (a0 :: .ref q :: l) st μ Q ↔ RR 139 4 (a0 :: .ref q :: l) (.ref q :: st) μ Q := rw_go p139_3 rfl
theorem r139_4 : RR 139 4 L (.ref q :: st) (S, (0, 0, sl), M, D, F) Q ↔ (am_cat st ≤ 8 ∧ 1 = 1 ∧ S[q]? = some (.inl 2)) ∧ RR 107 0 [.ref q] [] (S, (0, 0, sl), M, D, F) (fun rv μ' => μ'.1.length = S.length ∧ RR 139 7 L (rv.toList ++ st) (μ'.1, (0, 0, sl), μ'.2.2) Q) := rw_call p139_4 rfl (ac107 q)
theorem r139_7 : RR 139 7 L (.int y :: .int x :: st) μ Q ↔ if y ≤ x then RR 139 66 L st μ Q else RR 139 10 L st μ Q := rw_if p139_7 rfl
theorem r139_10 : RR 139 10 (.ref q :: l) st μ Q ↔ RR 139 11 (.ref q :: l) (.ref q :: st) μ Q := rw_go p139_10 rfl
theorem r139_11 : RR 139 11 (a0 :: .ref q :: l) st μ Q ↔ RR 139 12 (a0 :: .ref q :: l) (.ref q :: st) μ Q := rw_go p139_11 rfl
theorem r139_12 : RR 139 12 (a0 :: a1 :: a2 :: .int x :: l) st μ Q ↔ RR 139 13 (a0 :: a1 :: a2 :: .int x :: l) (.int x :: st) μ Q := rw_go p139_12 rfl
theorem r139_13 : RR 139 13 L (.int x1 :: .ref q :: st) (S, (0, 0, sl), M, D, F) Q ↔ (am_cat st ≤ 8 ∧ 2 = 2 ∧ S[q]? = some (.inl 2)) ∧ RR 115 0 [.ref q, .int x1] [] (S, (0, 0, sl), M, D, F) (fun rv μ' => μ'.1.length = S.length ∧ RR 139 16 L (rv.toList ++ st) (μ'.1, (0, 0, sl), μ'.2.2) Q) := rw_call p139_13 rfl (ac115 q x1)
theorem r139_16 : RR 139 16 L (.int x1 :: st) (S, (0, 0, sl), M, D, F) Q ↔ (am_cat st ≤ 8 ∧ 1 = 1) ∧ RR 141 0 [.int x1] [] (S, (0, 0, sl), M, D, F) (fun rv μ' => μ'.1.length = S.length ∧ RR 139 19 L (rv.toList ++ st) (μ'.1, (0, 0, sl), μ'.2.2) Q) := rw_call p139_16 rfl (ac141 x1)
theorem r139_19 : RR 139 19 L (.int x1 :: .ref q :: st) (S, (0, 0, sl), M, D, F) Q ↔ (am_cat st ≤ 8 ∧ 2 = 2 ∧ S[q]? = some (.inl 5)) ∧ RR 142 0 [.ref q, .int x1] [] (S, (0, 0, sl), M, D, F) (fun rv μ' => μ'.1.length = S.length ∧ RR 139 22 L (rv.toList ++ st) (μ'.1, (0, 0, sl), μ'.2.2) Q) := rw_call p139_19 rfl (ac142 q x1)
theorem r139_22 : RR 139 22 (.ref q :: l) st μ Q ↔ RR 139 23 (.ref q :: l) (.ref q :: st) μ Q := rw_go p139_22 rfl
theorem r139_23 : RR 139 23 L st μ Q ↔ RR 139 25 L (.int (nI 32) :: st) μ Q := rw_go p139_23 rfl
theorem r139_25 : RR 139 25 L (.int x1 :: .ref q :: st) (S, (0, 0, sl), M, D, F) Q ↔ (am_cat st ≤ 8 ∧ 2 = 2 ∧ S[q]? = some (.inl 5)) ∧ RR 142 0 [.ref q, .int x1] [] (S, (0, 0, sl), M, D, F) (fun rv μ' => μ'.1.length = S.length ∧ RR 139 28 L (rv.toList ++ st) (μ'.1, (0, 0, sl), μ'.2.2) Q) := rw_call p139_25 rfl (ac142 q x1)
theorem r139_28 : RR 139 28 (a0 :: .ref q :: l) st μ Q ↔ RR 139 29 (a0 :: .ref q :: l) (.ref q :: st) μ Q := rw_go p139_28 rfl
theorem r139_29 : RR 139 29 (a0 :: a1 :: a2 :: .int x :: l) st μ Q ↔ RR 139 30 (a0 :: a1 :: a2 :: .int x :: l) (.int x :: st) μ Q := rw_go p139_29 rfl
theorem r139_30 : RR 139 30 (a0 :: a1 :: .ref q :: l) st μ Q ↔ RR 139 31 (a0 :: a1 :: .ref q :: l) (.ref q :: st) μ Q := rw_go p139_30 rfl
theorem r139_31 : RR 139 31 L (.ref q1 :: .int x1 :: .ref q :: st) (S, (0, 0, sl), M, D, F) Q ↔ (am_cat st ≤ 8 ∧ 3 = 3 ∧ S[q]? = some (.inl 2)) ∧ RR 113 0 [.ref q, .int x1, .ref q1] [] (S, (0, 0, sl), M, D, F) (fun rv μ' => μ'.1.length = S.length ∧ RR 139 34 L (rv.toList ++ st) (μ'.1, (0, 0, sl), μ'.2.2) Q) := rw_call p139_31 rfl (ac113 q x1 q1)
theorem r139_34 : RR 139 34 (.ref q :: l) st μ Q ↔ RR 139 35 (.ref q :: l) (.ref q :: st) μ Q := rw_go p139_34 rfl
theorem r139_35 : RR 139 35 (a0 :: a1 :: .ref q :: l) st μ Q ↔ RR 139 36 (a0 :: a1 :: .ref q :: l) (.ref q :: st) μ Q := rw_go p139_35 rfl
theorem r139_36 : RR 139 36 L (.ref q1 :: .ref q :: st) (S, (0, 0, sl), M, D, F) Q ↔ (am_cat st ≤ 8 ∧ 2 = 2 ∧ S[q]? = some (.inl 5)) ∧ RR 144 0 [.ref q, .ref q1, .long 0] [] (S, (0, 0, sl), M, D, F) (fun rv μ' => μ'.1.length = S.length ∧ RR 139 39 L (rv.toList ++ st) (μ'.1, (0, 0, sl), μ'.2.2) Q) := rw_call p139_36 rfl (ac144 q q1)
theorem r139_39 : RR 139 39 (.ref q :: l) st μ Q ↔ RR 139 40 (.ref q :: l) (.ref q :: st) μ Q := rw_go p139_39 rfl
theorem r139_40 : RR 139 40 L st μ Q ↔ RR 139 42 L (.int (nI 32) :: st) μ Q := rw_go p139_40 rfl
theorem r139_42 : RR 139 42 L (.int x1 :: .ref q :: st) (S, (0, 0, sl), M, D, F) Q ↔ (am_cat st ≤ 8 ∧ 2 = 2 ∧ S[q]? = some (.inl 5)) ∧ RR 142 0 [.ref q, .int x1] [] (S, (0, 0, sl), M, D, F) (fun rv μ' => μ'.1.length = S.length ∧ RR 139 45 L (rv.toList ++ st) (μ'.1, (0, 0, sl), μ'.2.2) Q) := rw_call p139_42 rfl (ac142 q x1)
theorem r139_45 : RR 139 45 (.ref q :: l) st μ Q ↔ RR 139 46 (.ref q :: l) (.ref q :: st) μ Q := rw_go p139_45 rfl
theorem r139_46 : RR 139 46 (a0 :: .ref q :: l) st μ Q ↔ RR 139 47 (a0 :: .ref q :: l) (.ref q :: st) μ Q := rw_go p139_46 rfl
theorem r139_47 : RR 139 47 (a0 :: a1 :: a2 :: .int x :: l) st μ Q ↔ RR 139 48 (a0 :: a1 :: a2 :: .int x :: l) (.int x :: st) μ Q := rw_go p139_47 rfl
theorem r139_48 : RR 139 48 L (.int x1 :: .ref q :: st) (S, (0, 0, sl), M, D, F) Q ↔ (am_cat st ≤ 8 ∧ 2 = 2 ∧ S[q]? = some (.inl 2)) ∧ RR 114 0 [.ref q, .int x1] [] (S, (0, 0, sl), M, D, F) (fun rv μ' => μ'.1.length = S.length ∧ RR 139 51 L (rv.toList ++ st) (μ'.1, (0, 0, sl), μ'.2.2) Q) := rw_call p139_48 rfl (ac114 q x1)
theorem r139_51 : RR 139 51 L (.int x1 :: .ref q :: st) (S, (0, 0, sl), M, D, F) Q ↔ (am_cat st ≤ 8 ∧ 2 = 2 ∧ S[q]? = some (.inl 5)) ∧ RR 145 0 [.ref q, .int x1, .long 0] [] (S, (0, 0, sl), M, D, F) (fun rv μ' => μ'.1.length = S.length ∧ RR 139 54 L (rv.toList ++ st) (μ'.1, (0, 0, sl), μ'.2.2) Q) := rw_call p139_51 rfl (ac145 q x1)
theorem r139_54 : RR 139 54 (.ref q :: l) st μ Q ↔ RR 139 55 (.ref q :: l) (.ref q :: st) μ Q := rw_go p139_54 rfl
theorem r139_55 : RR 139 55 L st μ Q ↔ RR 139 57 L (.int (nI 10) :: st) μ Q := rw_go p139_55 rfl
theorem r139_57 : RR 139 57 L (.int x1 :: .ref q :: st) (S, (0, 0, sl), M, D, F) Q ↔ (am_cat st ≤ 8 ∧ 2 = 2 ∧ S[q]? = some (.inl 5)) ∧ RR 142 0 [.ref q, .int x1] [] (S, (0, 0, sl), M, D, F) (fun rv μ' => μ'.1.length = S.length ∧ RR 139 60 L (rv.toList ++ st) (μ'.1, (0, 0, sl), μ'.2.2) Q) := rw_call p139_57 rfl (ac142 q x1)
theorem r139_60 : RR 139 60 (a0 :: a1 :: a2 :: .int x :: l) st μ Q ↔ RR 139 63 (a0 :: a1 :: am_nd a2 :: .int (x + nI 1) :: l) st μ Q := rw_go p139_60 rfl
theorem r139_63 : RR 139 63 L st μ Q ↔ RR 139 2 L st μ Q := rw_go p139_63 rfl
theorem r139_66 : RR 139 66 (.ref q :: l) st μ Q ↔ RR 139 67 (.ref q :: l) (.ref q :: st) μ Q := rw_go p139_66 rfl
theorem r139_67 : RR 139 67 (a0 :: .ref q :: l) st μ Q ↔ RR 139 68 (a0 :: .ref q :: l) (.ref q :: st) μ Q := rw_go p139_67 rfl
theorem r139_68 : RR 139 68 L st μ Q ↔ RR 139 69 L (.int (nI 3) :: st) μ Q := rw_go p139_68 rfl
theorem r139_69 : RR 139 69 L (.int x1 :: .ref q :: st) (S, (0, 0, sl), M, D, F) Q ↔ (am_cat st ≤ 8 ∧ 2 = 2 ∧ S[q]? = some (.inl 2)) ∧ RR 118 0 [.ref q, .int x1, .long 0, .long 0] [] (S, (0, 0, sl), M, D, F) (fun rv μ' => μ'.1.length = S.length ∧ RR 139 72 L (rv.toList ++ st) (μ'.1, (0, 0, sl), μ'.2.2) Q) := rw_call p139_69 rfl (ac118 q x1)
theorem r139_72 : RR 139 72 L (.int x1 :: .ref q :: st) (S, (0, 0, sl), M, D, F) Q ↔ (am_cat st ≤ 8 ∧ 2 = 2 ∧ S[q]? = some (.inl 5)) ∧ RR 145 0 [.ref q, .int x1, .long 0] [] (S, (0, 0, sl), M, D, F) (fun rv μ' => μ'.1.length = S.length ∧ RR 139 75 L (rv.toList ++ st) (μ'.1, (0, 0, sl), μ'.2.2) Q) := rw_call p139_72 rfl (ac145 q x1)
theorem r139_75 : RR 139 75 (.ref q :: l) st μ Q ↔ RR 139 76 (.ref q :: l) (.ref q :: st) μ Q := rw_go p139_75 rfl
theorem r139_76 : RR 139 76 L st μ Q ↔ RR 139 78 L (.int (nI 32) :: st) μ Q := rw_go p139_76 rfl
theorem r139_78 : RR 139 78 L (.int x1 :: .ref q :: st) (S, (0, 0, sl), M, D, F) Q ↔ (am_cat st ≤ 8 ∧ 2 = 2 ∧ S[q]? = some (.inl 5)) ∧ RR 142 0 [.ref q, .int x1] [] (S, (0, 0, sl), M, D, F) (fun rv μ' => μ'.1.length = S.length ∧ RR 139 81 L (rv.toList ++ st) (μ'.1, (0, 0, sl), μ'.2.2) Q) := rw_call p139_78 rfl (ac142 q x1)
theorem r139_81 : RR 139 81 (.ref q :: l) st μ Q ↔ RR 139 82 (.ref q :: l) (.ref q :: st) μ Q := rw_go p139_81 rfl
theorem r139_82 : RR 139 82 (a0 :: .ref q :: l) st μ Q ↔ RR 139 83 (a0 :: .ref q :: l) (.ref q :: st) μ Q := rw_go p139_82 rfl
theorem r139_83 : RR 139 83 L st μ Q ↔ RR 139 84 L (.int (nI 2) :: st) μ Q := rw_go p139_83 rfl
theorem r139_84 : RR 139 84 L (.int x1 :: .ref q :: st) (S, (0, 0, sl), M, D, F) Q ↔ (am_cat st ≤ 8 ∧ 2 = 2 ∧ S[q]? = some (.inl 2)) ∧ RR 118 0 [.ref q, .int x1, .long 0, .long 0] [] (S, (0, 0, sl), M, D, F) (fun rv μ' => μ'.1.length = S.length ∧ RR 139 87 L (rv.toList ++ st) (μ'.1, (0, 0, sl), μ'.2.2) Q) := rw_call p139_84 rfl (ac118 q x1)
theorem r139_87 : RR 139 87 L (.int x1 :: .ref q :: st) (S, (0, 0, sl), M, D, F) Q ↔ (am_cat st ≤ 8 ∧ 2 = 2 ∧ S[q]? = some (.inl 5)) ∧ RR 145 0 [.ref q, .int x1, .long 0] [] (S, (0, 0, sl), M, D, F) (fun rv μ' => μ'.1.length = S.length ∧ RR 139 90 L (rv.toList ++ st) (μ'.1, (0, 0, sl), μ'.2.2) Q) := rw_call p139_87 rfl (ac145 q x1)
theorem r139_90 : RR 139 90 (.ref q :: l) st μ Q ↔ RR 139 91 (.ref q :: l) (.ref q :: st) μ Q := rw_go p139_90 rfl
theorem r139_91 : RR 139 91 L st μ Q ↔ RR 139 93 L (.int (nI 32) :: st) μ Q := rw_go p139_91 rfl
theorem r139_93 : RR 139 93 L (.int x1 :: .ref q :: st) (S, (0, 0, sl), M, D, F) Q ↔ (am_cat st ≤ 8 ∧ 2 = 2 ∧ S[q]? = some (.inl 5)) ∧ RR 142 0 [.ref q, .int x1] [] (S, (0, 0, sl), M, D, F) (fun rv μ' => μ'.1.length = S.length ∧ RR 139 96 L (rv.toList ++ st) (μ'.1, (0, 0, sl), μ'.2.2) Q) := rw_call p139_93 rfl (ac142 q x1)
theorem r139_96 : RR 139 96 (.ref q :: l) st μ Q ↔ RR 139 97 (.ref q :: l) (.ref q :: st) μ Q := rw_go p139_96 rfl
theorem r139_97 : RR 139 97 (a0 :: .ref q :: l) st μ Q ↔ RR 139 98 (a0 :: .ref q :: l) (.ref q :: st) μ Q := rw_go p139_97 rfl
theorem r139_98 : RR 139 98 L st μ Q ↔ RR 139 99 L (.int (nI 1) :: st) μ Q := rw_go p139_98 rfl
theorem r139_99 : RR 139 99 L (.int x1 :: .ref q :: st) (S, (0, 0, sl), M, D, F) Q ↔ (am_cat st ≤ 8 ∧ 2 = 2 ∧ S[q]? = some (.inl 2)) ∧ RR 118 0 [.ref q, .int x1, .long 0, .long 0] [] (S, (0, 0, sl), M, D, F) (fun rv μ' => μ'.1.length = S.length ∧ RR 139 102 L (rv.toList ++ st) (μ'.1, (0, 0, sl), μ'.2.2) Q) := rw_call p139_99 rfl (ac118 q x1)
theorem r139_102 : RR 139 102 L (.int x1 :: .ref q :: st) (S, (0, 0, sl), M, D, F) Q ↔ (am_cat st ≤ 8 ∧ 2 = 2 ∧ S[q]? = some (.inl 5)) ∧ RR 145 0 [.ref q, .int x1, .long 0] [] (S, (0, 0, sl), M, D, F) (fun rv μ' => μ'.1.length = S.length ∧ RR 139 105 L (rv.toList ++ st) (μ'.1, (0, 0, sl), μ'.2.2) Q) := rw_call p139_102 rfl (ac145 q x1)
theorem r139_105 : RR 139 105 L [] μ Q ↔ Q none μ := rw_r p139_105 rfl
/-! ReleaseDesk$Report.writeJson -/
theorem r140_0 : RR 140 0 (.ref q :: l) st μ Q ↔ RR 140 1 (.ref q :: l) (.ref q :: st) μ Q := rw_go p140_0 rfl
theorem r140_1 : RR 140 1 L st μ Q ↔ RR 140 3 L (.ref 1000007 :: st) μ Q := rw_go p140_1 (by rfl)
theorem r140_3 : RR 140 3 L (.ref q1 :: .ref q :: st) (S, (0, 0, sl), M, D, F) Q ↔ (am_cat st ≤ 8 ∧ 2 = 2 ∧ S[q]? = some (.inl 5)) ∧ RR 143 0 [.ref q, .ref q1, .long 0] [] (S, (0, 0, sl), M, D, F) (fun rv μ' => μ'.1.length = S.length ∧ RR 140 6 L (rv.toList ++ st) (μ'.1, (0, 0, sl), μ'.2.2) Q) := rw_call p140_3 rfl (ac143 q q1)
theorem r140_6 : RR 140 6 L st μ Q ↔ RR 140 7 L (.int (nI 0) :: st) μ Q := rw_go p140_6 rfl
theorem r140_7 : RR 140 7 (a0 :: a1 :: a2 :: a3 :: c0 :: l) (.int x :: st) μ Q ↔ RR 140 9 (a0 :: a1 :: a2 :: am_nd a3 :: .int x :: l) st μ Q := rw_ist p140_7 (by show 4 < _; simp only [List.length_cons]; omega)
theorem r140_9 : RR 140 9 (a0 :: a1 :: a2 :: a3 :: .int x :: l) st μ Q ↔ RR 140 11 (a0 :: a1 :: a2 :: a3 :: .int x :: l) (.int x :: st) μ Q := rw_go p140_9 rfl
theorem r140_11 : RR 140 11 (a0 :: .ref q :: l) st μ Q ↔ RR 140 12 (a0 :: .ref q :: l) (.ref q :: st) μ Q := rw_go p140_11 rfl
theorem r140_12 : RR 140 12 L (.ref q :: st) (S, (0, 0, sl), M, D, F) Q ↔ (am_cat st ≤ 8 ∧ 1 = 1 ∧ S[q]? = some (.inl 2)) ∧ RR 107 0 [.ref q] [] (S, (0, 0, sl), M, D, F) (fun rv μ' => μ'.1.length = S.length ∧ RR 140 15 L (rv.toList ++ st) (μ'.1, (0, 0, sl), μ'.2.2) Q) := rw_call p140_12 rfl (ac107 q)
theorem r140_15 : RR 140 15 L (.int y :: .int x :: st) μ Q ↔ if y ≤ x then RR 140 90 L st μ Q else RR 140 18 L st μ Q := rw_if p140_15 rfl
theorem r140_18 : RR 140 18 (.ref q :: l) st μ Q ↔ RR 140 19 (.ref q :: l) (.ref q :: st) μ Q := rw_go p140_18 rfl
theorem r140_19 : RR 140 19 (a0 :: a1 :: a2 :: a3 :: .int x :: l) st μ Q ↔ RR 140 21 (a0 :: a1 :: a2 :: a3 :: .int x :: l) (.int x :: st) μ Q := rw_go p140_19 rfl
theorem r140_21 : RR 140 21 L (.int x :: st) μ Q ↔ if ¬ x = 0 then RR 140 29 L st μ Q else RR 140 24 L st μ Q := rw_if p140_21 rfl
theorem r140_24 : RR 140 24 L st μ Q ↔ RR 140 26 L (.ref 1000008 :: st) μ Q := rw_go p140_24 (by rfl)
theorem r140_26 : RR 140 26 L st μ Q ↔ RR 140 31 L st μ Q := rw_go p140_26 rfl
theorem r140_29 : RR 140 29 L st μ Q ↔ RR 140 31 L (.ref 1000009 :: st) μ Q := rw_go p140_29 (by rfl)
theorem r140_31 : RR 140 31 L (.ref q1 :: .ref q :: st) (S, (0, 0, sl), M, D, F) Q ↔ (am_cat st ≤ 8 ∧ 2 = 2 ∧ S[q]? = some (.inl 5)) ∧ RR 143 0 [.ref q, .ref q1, .long 0] [] (S, (0, 0, sl), M, D, F) (fun rv μ' => μ'.1.length = S.length ∧ RR 140 34 L (rv.toList ++ st) (μ'.1, (0, 0, sl), μ'.2.2) Q) := rw_call p140_31 rfl (ac143 q q1)
theorem r140_34 : RR 140 34 (.ref q :: l) st μ Q ↔ RR 140 35 (.ref q :: l) (.ref q :: st) μ Q := rw_go p140_34 rfl
theorem r140_35 : RR 140 35 (a0 :: .ref q :: l) st μ Q ↔ RR 140 36 (a0 :: .ref q :: l) (.ref q :: st) μ Q := rw_go p140_35 rfl
theorem r140_36 : RR 140 36 (a0 :: a1 :: a2 :: a3 :: .int x :: l) st μ Q ↔ RR 140 38 (a0 :: a1 :: a2 :: a3 :: .int x :: l) (.int x :: st) μ Q := rw_go p140_36 rfl
theorem r140_38 : RR 140 38 L (.int x1 :: .ref q :: st) (S, (0, 0, sl), M, D, F) Q ↔ (am_cat st ≤ 8 ∧ 2 = 2 ∧ S[q]? = some (.inl 2)) ∧ RR 115 0 [.ref q, .int x1] [] (S, (0, 0, sl), M, D, F) (fun rv μ' => μ'.1.length = S.length ∧ RR 140 41 L (rv.toList ++ st) (μ'.1, (0, 0, sl), μ'.2.2) Q) := rw_call p140_38 rfl (ac115 q x1)
theorem r140_41 : RR 140 41 L (.int x1 :: .ref q :: st) (S, (0, 0, sl), M, D, F) Q ↔ (am_cat st ≤ 8 ∧ 2 = 2 ∧ S[q]? = some (.inl 5)) ∧ RR 145 0 [.ref q, .int x1, .long 0] [] (S, (0, 0, sl), M, D, F) (fun rv μ' => μ'.1.length = S.length ∧ RR 140 44 L (rv.toList ++ st) (μ'.1, (0, 0, sl), μ'.2.2) Q) := rw_call p140_41 rfl (ac145 q x1)
theorem r140_44 : RR 140 44 (.ref q :: l) st μ Q ↔ RR 140 45 (.ref q :: l) (.ref q :: st) μ Q := rw_go p140_44 rfl
theorem r140_45 : RR 140 45 L st μ Q ↔ RR 140 47 L (.ref 1000010 :: st) μ Q := rw_go p140_45 (by rfl)
theorem r140_47 : RR 140 47 L (.ref q1 :: .ref q :: st) (S, (0, 0, sl), M, D, F) Q ↔ (am_cat st ≤ 8 ∧ 2 = 2 ∧ S[q]? = some (.inl 5)) ∧ RR 143 0 [.ref q, .ref q1, .long 0] [] (S, (0, 0, sl), M, D, F) (fun rv μ' => μ'.1.length = S.length ∧ RR 140 50 L (rv.toList ++ st) (μ'.1, (0, 0, sl), μ'.2.2) Q) := rw_call p140_47 rfl (ac143 q q1)
theorem r140_50 : RR 140 50 (a0 :: .ref q :: l) st μ Q ↔ RR 140 51 (a0 :: .ref q :: l) (.ref q :: st) μ Q := rw_go p140_50 rfl
theorem r140_51 : RR 140 51 (a0 :: a1 :: a2 :: a3 :: .int x :: l) st μ Q ↔ RR 140 53 (a0 :: a1 :: a2 :: a3 :: .int x :: l) (.int x :: st) μ Q := rw_go p140_51 rfl
theorem r140_53 : RR 140 53 (a0 :: a1 :: .ref q :: l) st μ Q ↔ RR 140 54 (a0 :: a1 :: .ref q :: l) (.ref q :: st) μ Q := rw_go p140_53 rfl
theorem r140_54 : RR 140 54 L (.ref q1 :: .int x1 :: .ref q :: st) (S, (0, 0, sl), M, D, F) Q ↔ (am_cat st ≤ 8 ∧ 3 = 3 ∧ S[q]? = some (.inl 2)) ∧ RR 113 0 [.ref q, .int x1, .ref q1] [] (S, (0, 0, sl), M, D, F) (fun rv μ' => μ'.1.length = S.length ∧ RR 140 57 L (rv.toList ++ st) (μ'.1, (0, 0, sl), μ'.2.2) Q) := rw_call p140_54 rfl (ac113 q x1 q1)
theorem r140_57 : RR 140 57 (.ref q :: l) st μ Q ↔ RR 140 58 (.ref q :: l) (.ref q :: st) μ Q := rw_go p140_57 rfl
theorem r140_58 : RR 140 58 (a0 :: a1 :: .ref q :: l) st μ Q ↔ RR 140 59 (a0 :: a1 :: .ref q :: l) (.ref q :: st) μ Q := rw_go p140_58 rfl
theorem r140_59 : RR 140 59 L (.ref q1 :: .ref q :: st) (S, (0, 0, sl), M, D, F) Q ↔ (am_cat st ≤ 8 ∧ 2 = 2 ∧ S[q]? = some (.inl 5)) ∧ RR 144 0 [.ref q, .ref q1, .long 0] [] (S, (0, 0, sl), M, D, F) (fun rv μ' => μ'.1.length = S.length ∧ RR 140 62 L (rv.toList ++ st) (μ'.1, (0, 0, sl), μ'.2.2) Q) := rw_call p140_59 rfl (ac144 q q1)
theorem r140_62 : RR 140 62 (.ref q :: l) st μ Q ↔ RR 140 63 (.ref q :: l) (.ref q :: st) μ Q := rw_go p140_62 rfl
theorem r140_63 : RR 140 63 L st μ Q ↔ RR 140 65 L (.ref 1000011 :: st) μ Q := rw_go p140_63 (by rfl)
theorem r140_65 : RR 140 65 L (.ref q1 :: .ref q :: st) (S, (0, 0, sl), M, D, F) Q ↔ (am_cat st ≤ 8 ∧ 2 = 2 ∧ S[q]? = some (.inl 5)) ∧ RR 143 0 [.ref q, .ref q1, .long 0] [] (S, (0, 0, sl), M, D, F) (fun rv μ' => μ'.1.length = S.length ∧ RR 140 68 L (rv.toList ++ st) (μ'.1, (0, 0, sl), μ'.2.2) Q) := rw_call p140_65 rfl (ac143 q q1)
theorem r140_68 : RR 140 68 (.ref q :: l) st μ Q ↔ RR 140 69 (.ref q :: l) (.ref q :: st) μ Q := rw_go p140_68 rfl
theorem r140_69 : RR 140 69 (a0 :: .ref q :: l) st μ Q ↔ RR 140 70 (a0 :: .ref q :: l) (.ref q :: st) μ Q := rw_go p140_69 rfl
theorem r140_70 : RR 140 70 (a0 :: a1 :: a2 :: a3 :: .int x :: l) st μ Q ↔ RR 140 72 (a0 :: a1 :: a2 :: a3 :: .int x :: l) (.int x :: st) μ Q := rw_go p140_70 rfl
theorem r140_72 : RR 140 72 L (.int x1 :: .ref q :: st) (S, (0, 0, sl), M, D, F) Q ↔ (am_cat st ≤ 8 ∧ 2 = 2 ∧ S[q]? = some (.inl 2)) ∧ RR 114 0 [.ref q, .int x1] [] (S, (0, 0, sl), M, D, F) (fun rv μ' => μ'.1.length = S.length ∧ RR 140 75 L (rv.toList ++ st) (μ'.1, (0, 0, sl), μ'.2.2) Q) := rw_call p140_72 rfl (ac114 q x1)
theorem r140_75 : RR 140 75 L (.int x1 :: .ref q :: st) (S, (0, 0, sl), M, D, F) Q ↔ (am_cat st ≤ 8 ∧ 2 = 2 ∧ S[q]? = some (.inl 5)) ∧ RR 145 0 [.ref q, .int x1, .long 0] [] (S, (0, 0, sl), M, D, F) (fun rv μ' => μ'.1.length = S.length ∧ RR 140 78 L (rv.toList ++ st) (μ'.1, (0, 0, sl), μ'.2.2) Q) := rw_call p140_75 rfl (ac145 q x1)
theorem r140_78 : RR 140 78 (.ref q :: l) st μ Q ↔ RR 140 79 (.ref q :: l) (.ref q :: st) μ Q := rw_go p140_78 rfl
theorem r140_79 : RR 140 79 L st μ Q ↔ RR 140 81 L (.int (nI 125) :: st) μ Q := rw_go p140_79 rfl
theorem r140_81 : RR 140 81 L (.int x1 :: .ref q :: st) (S, (0, 0, sl), M, D, F) Q ↔ (am_cat st ≤ 8 ∧ 2 = 2 ∧ S[q]? = some (.inl 5)) ∧ RR 142 0 [.ref q, .int x1] [] (S, (0, 0, sl), M, D, F) (fun rv μ' => μ'.1.length = S.length ∧ RR 140 84 L (rv.toList ++ st) (μ'.1, (0, 0, sl), μ'.2.2) Q) := rw_call p140_81 rfl (ac142 q x1)
theorem r140_84 : RR 140 84 (a0 :: a1 :: a2 :: a3 :: .int x :: l) st μ Q ↔ RR 140 87 (a0 :: a1 :: a2 :: am_nd a3 :: .int (x + nI 1) :: l) st μ Q := rw_go p140_84 rfl
theorem r140_87 : RR 140 87 L st μ Q ↔ RR 140 9 L st μ Q := rw_go p140_87 rfl
theorem r140_90 : RR 140 90 (.ref q :: l) st μ Q ↔ RR 140 91 (.ref q :: l) (.ref q :: st) μ Q := rw_go p140_90 rfl
theorem r140_91 : RR 140 91 L st μ Q ↔ RR 140 93 L (.ref 1000012 :: st) μ Q := rw_go p140_91 (by rfl)
theorem r140_93 : RR 140 93 L (.ref q1 :: .ref q :: st) (S, (0, 0, sl), M, D, F) Q ↔ (am_cat st ≤ 8 ∧ 2 = 2 ∧ S[q]? = some (.inl 5)) ∧ RR 143 0 [.ref q, .ref q1, .long 0] [] (S, (0, 0, sl), M, D, F) (fun rv μ' => μ'.1.length = S.length ∧ RR 140 96 L (rv.toList ++ st) (μ'.1, (0, 0, sl), μ'.2.2) Q) := rw_call p140_93 rfl (ac143 q q1)
theorem r140_96 : RR 140 96 (.ref q :: l) st μ Q ↔ RR 140 97 (.ref q :: l) (.ref q :: st) μ Q := rw_go p140_96 rfl
theorem r140_97 : RR 140 97 (a0 :: a1 :: a2 :: .int x :: l) st μ Q ↔ RR 140 98 (a0 :: a1 :: a2 :: .int x :: l) (.int x :: st) μ Q := rw_go p140_97 rfl
theorem r140_98 : RR 140 98 L st μ Q ↔ RR 140 100 L (.int (nI 1000000) :: st) μ Q := rw_go p140_98 rfl
theorem r140_100 : RR 140 100 L (.int y :: .int x :: st) μ Q ↔ ¬ y = 0 ∧ RR 140 101 L (.int (x / y) :: st) μ Q := rw_n p140_100 rfl
theorem r140_101 : RR 140 101 L (.int x1 :: .ref q :: st) (S, (0, 0, sl), M, D, F) Q ↔ (am_cat st ≤ 8 ∧ 2 = 2 ∧ S[q]? = some (.inl 5)) ∧ RR 145 0 [.ref q, .int x1, .long 0] [] (S, (0, 0, sl), M, D, F) (fun rv μ' => μ'.1.length = S.length ∧ RR 140 104 L (rv.toList ++ st) (μ'.1, (0, 0, sl), μ'.2.2) Q) := rw_call p140_101 rfl (ac145 q x1)
theorem r140_104 : RR 140 104 (.ref q :: l) st μ Q ↔ RR 140 105 (.ref q :: l) (.ref q :: st) μ Q := rw_go p140_104 rfl
theorem r140_105 : RR 140 105 L st μ Q ↔ RR 140 107 L (.int (nI 46) :: st) μ Q := rw_go p140_105 rfl
theorem r140_107 : RR 140 107 L (.int x1 :: .ref q :: st) (S, (0, 0, sl), M, D, F) Q ↔ (am_cat st ≤ 8 ∧ 2 = 2 ∧ S[q]? = some (.inl 5)) ∧ RR 142 0 [.ref q, .int x1] [] (S, (0, 0, sl), M, D, F) (fun rv μ' => μ'.1.length = S.length ∧ RR 140 110 L (rv.toList ++ st) (μ'.1, (0, 0, sl), μ'.2.2) Q) := rw_call p140_107 rfl (ac142 q x1)
theorem r140_110 : RR 140 110 (.ref q :: l) st μ Q ↔ RR 140 111 (.ref q :: l) (.ref q :: st) μ Q := rw_go p140_110 rfl
theorem r140_111 : RR 140 111 (a0 :: a1 :: a2 :: .int x :: l) st μ Q ↔ RR 140 112 (a0 :: a1 :: a2 :: .int x :: l) (.int x :: st) μ Q := rw_go p140_111 rfl
theorem r140_112 : RR 140 112 L st μ Q ↔ RR 140 115 L (.int (nI 1000) :: st) μ Q := rw_go p140_112 rfl
theorem r140_115 : RR 140 115 L (.int y :: .int x :: st) μ Q ↔ ¬ y = 0 ∧ RR 140 116 L (.int (x / y) :: st) μ Q := rw_n p140_115 rfl
theorem r140_116 : RR 140 116 L st μ Q ↔ RR 140 119 L (.int (nI 1000) :: st) μ Q := rw_go p140_116 rfl
theorem r140_119 : RR 140 119 L (.int y :: .int x :: st) μ Q ↔ ¬ y = 0 ∧ RR 140 120 L (.int (x - x / y * y) :: st) μ Q := rw_n p140_119 rfl
theorem r140_120 : RR 140 120 L (.int x1 :: .ref q :: st) (S, (0, 0, sl), M, D, F) Q ↔ (am_cat st ≤ 8 ∧ 2 = 2 ∧ S[q]? = some (.inl 5)) ∧ RR 145 0 [.ref q, .int x1, .long 0] [] (S, (0, 0, sl), M, D, F) (fun rv μ' => μ'.1.length = S.length ∧ RR 140 123 L (rv.toList ++ st) (μ'.1, (0, 0, sl), μ'.2.2) Q) := rw_call p140_120 rfl (ac145 q x1)
theorem r140_123 : RR 140 123 (.ref q :: l) st μ Q ↔ RR 140 124 (.ref q :: l) (.ref q :: st) μ Q := rw_go p140_123 rfl
theorem r140_124 : RR 140 124 L st μ Q ↔ RR 140 126 L (.int (nI 46) :: st) μ Q := rw_go p140_124 rfl
theorem r140_126 : RR 140 126 L (.int x1 :: .ref q :: st) (S, (0, 0, sl), M, D, F) Q ↔ (am_cat st ≤ 8 ∧ 2 = 2 ∧ S[q]? = some (.inl 5)) ∧ RR 142 0 [.ref q, .int x1] [] (S, (0, 0, sl), M, D, F) (fun rv μ' => μ'.1.length = S.length ∧ RR 140 129 L (rv.toList ++ st) (μ'.1, (0, 0, sl), μ'.2.2) Q) := rw_call p140_126 rfl (ac142 q x1)
theorem r140_129 : RR 140 129 (.ref q :: l) st μ Q ↔ RR 140 130 (.ref q :: l) (.ref q :: st) μ Q := rw_go p140_129 rfl
theorem r140_130 : RR 140 130 (a0 :: a1 :: a2 :: .int x :: l) st μ Q ↔ RR 140 131 (a0 :: a1 :: a2 :: .int x :: l) (.int x :: st) μ Q := rw_go p140_130 rfl
theorem r140_131 : RR 140 131 L st μ Q ↔ RR 140 134 L (.int (nI 1000) :: st) μ Q := rw_go p140_131 rfl
theorem r140_134 : RR 140 134 L (.int y :: .int x :: st) μ Q ↔ ¬ y = 0 ∧ RR 140 135 L (.int (x - x / y * y) :: st) μ Q := rw_n p140_134 rfl
theorem r140_135 : RR 140 135 L (.int x1 :: .ref q :: st) (S, (0, 0, sl), M, D, F) Q ↔ (am_cat st ≤ 8 ∧ 2 = 2 ∧ S[q]? = some (.inl 5)) ∧ RR 145 0 [.ref q, .int x1, .long 0] [] (S, (0, 0, sl), M, D, F) (fun rv μ' => μ'.1.length = S.length ∧ RR 140 138 L (rv.toList ++ st) (μ'.1, (0, 0, sl), μ'.2.2) Q) := rw_call p140_135 rfl (ac145 q x1)
theorem r140_138 : RR 140 138 (.ref q :: l) st μ Q ↔ RR 140 139 (.ref q :: l) (.ref q :: st) μ Q := rw_go p140_138 rfl
theorem r140_139 : RR 140 139 L st μ Q ↔ RR 140 141 L (.ref 1000013 :: st) μ Q := rw_go p140_139 (by rfl)
theorem r140_141 : RR 140 141 L (.ref q1 :: .ref q :: st) (S, (0, 0, sl), M, D, F) Q ↔ (am_cat st ≤ 8 ∧ 2 = 2 ∧ S[q]? = some (.inl 5)) ∧ RR 143 0 [.ref q, .ref q1, .long 0] [] (S, (0, 0, sl), M, D, F) (fun rv μ' => μ'.1.length = S.length ∧ RR 140 144 L (rv.toList ++ st) (μ'.1, (0, 0, sl), μ'.2.2) Q) := rw_call p140_141 rfl (ac143 q q1)
theorem r140_144 : RR 140 144 L [] μ Q ↔ Q none μ := rw_r p140_144 rfl
/-! ReleaseDesk$Report.sortOf -/
theorem r141_0 : RR 141 0 (.int x :: l) st μ Q ↔ RR 141 1 (.int x :: l) (.int x :: st) μ Q := rw_go p141_0 rfl
theorem r141_1 : RR 141 1 L st μ Q ↔ RR 141 2 L (.int (nI 3) :: st) μ Q := rw_go p141_1 rfl
theorem r141_2 : RR 141 2 L (.int y :: .int x :: st) μ Q ↔ if ¬ x = y then RR 141 10 L st μ Q else RR 141 5 L st μ Q := rw_if p141_2 rfl
theorem r141_5 : RR 141 5 L st μ Q ↔ RR 141 7 L (.int (nI 66) :: st) μ Q := rw_go p141_5 rfl
theorem r141_7 : RR 141 7 L st μ Q ↔ RR 141 22 L st μ Q := rw_go p141_7 rfl
theorem r141_10 : RR 141 10 (.int x :: l) st μ Q ↔ RR 141 11 (.int x :: l) (.int x :: st) μ Q := rw_go p141_10 rfl
theorem r141_11 : RR 141 11 L st μ Q ↔ RR 141 12 L (.int (nI 2) :: st) μ Q := rw_go p141_11 rfl
theorem r141_12 : RR 141 12 L (.int y :: .int x :: st) μ Q ↔ if ¬ x = y then RR 141 20 L st μ Q else RR 141 15 L st μ Q := rw_if p141_12 rfl
theorem r141_15 : RR 141 15 L st μ Q ↔ RR 141 17 L (.int (nI 87) :: st) μ Q := rw_go p141_15 rfl
theorem r141_17 : RR 141 17 L st μ Q ↔ RR 141 22 L st μ Q := rw_go p141_17 rfl
theorem r141_20 : RR 141 20 L st μ Q ↔ RR 141 22 L (.int (nI 78) :: st) μ Q := rw_go p141_20 rfl
theorem r141_22 : RR 141 22 L [.int x] μ Q ↔ (0 ≤ x.toInt ∧ x.toInt < 65536) ∧ Q (some (.int x)) μ := rw_rc p141_22 rfl
/-! ReleaseDesk$Report.put -/
theorem r142_0 : RR 142 0 (.ref q :: l) st μ Q ↔ RR 142 1 (.ref q :: l) (.ref q :: st) μ Q := rw_go p142_0 rfl
theorem r142_1 : RR 142 1 L (.ref q :: st) (S, b, M, D, F) Q ↔ S[q]? = some (.inl 5) ∧ RR 142 4 L (.int (M q 1) :: st) (S, b, M, D, F) Q := rw_c p142_1 rfl
theorem r142_4 : RR 142 4 (.ref q :: l) st μ Q ↔ RR 142 5 (.ref q :: l) (.ref q :: st) μ Q := rw_go p142_4 rfl
theorem r142_5 : RR 142 5 L (.ref q :: st) (S, b, M, D, F) Q ↔ S[q]? = some (.inl 5) ∧ RR 142 8 L (.int (M q 0) :: st) (S, b, M, D, F) Q := rw_c p142_5 rfl
theorem r142_8 : RR 142 8 L (.int y :: .int x :: st) μ Q ↔ if ¬ x = y then RR 142 16 L st μ Q else RR 142 11 L st μ Q := rw_if p142_8 rfl
theorem r142_11 : RR 142 11 (.ref q :: l) st μ Q ↔ RR 142 12 (.ref q :: l) (.ref q :: st) μ Q := rw_go p142_11 rfl
theorem r142_12 : RR 142 12 (a0 :: .int x :: l) st μ Q ↔ RR 142 13 (a0 :: .int x :: l) (.int x :: st) μ Q := rw_go p142_12 rfl
theorem r142_13 : RR 142 13 L (.int x :: .ref q :: st) (S, b, M, D, F) Q ↔ S[q]? = some (.inl 5) ∧ RR 142 16 L st (S, b, am_up M q 2 x, D, F) Q := rw_c p142_13 rfl
theorem r142_16 : RR 142 16 (.ref q :: l) st μ Q ↔ RR 142 17 (.ref q :: l) (.ref q :: st) μ Q := rw_go p142_16 rfl
theorem r142_17 : RR 142 17 L (.ref q :: st) μ Q ↔ RR 142 18 L (.ref q :: .ref q :: st) μ Q := rw_go p142_17 rfl
theorem r142_17i : RR 142 17 L (.int x :: st) μ Q ↔ RR 142 18 L (.int x :: .int x :: st) μ Q := rw_go p142_17 rfl
theorem r142_18 : RR 142 18 L (.ref q :: st) (S, b, M, D, F) Q ↔ S[q]? = some (.inl 5) ∧ RR 142 21 L (.int (M q 1) :: st) (S, b, M, D, F) Q := rw_c p142_18 rfl
theorem r142_21 : RR 142 21 L st μ Q ↔ RR 142 22 L (.int (nI 1) :: st) μ Q := rw_go p142_21 rfl
theorem r142_22 : RR 142 22 L (.int y :: .int x :: st) μ Q ↔ RR 142 23 L (.int (x + y) :: st) μ Q := rw_go p142_22 rfl
theorem r142_23 : RR 142 23 L (.int x :: .ref q :: st) (S, b, M, D, F) Q ↔ S[q]? = some (.inl 5) ∧ RR 142 26 L st (S, b, am_up M q 1 x, D, F) Q := rw_c p142_23 rfl
theorem r142_26 : RR 142 26 L [] μ Q ↔ Q none μ := rw_r p142_26 rfl
/-! ReleaseDesk$Report.putText -/
theorem r143_0 : RR 143 0 L st μ Q ↔ RR 143 1 L (.int (nI 0) :: st) μ Q := rw_go p143_0 rfl
theorem r143_1 : RR 143 1 (a0 :: a1 :: c0 :: l) (.int x :: st) μ Q ↔ RR 143 2 (a0 :: am_nd a1 :: .int x :: l) st μ Q := rw_istn p143_1 (by show 2 < _; simp only [List.length_cons]; omega)
theorem r143_2 : RR 143 2 (a0 :: a1 :: .int x :: l) st μ Q ↔ RR 143 3 (a0 :: a1 :: .int x :: l) (.int x :: st) μ Q := rw_go p143_2 rfl
theorem r143_3 : RR 143 3 (a0 :: .ref q :: l) st μ Q ↔ RR 143 4 (a0 :: .ref q :: l) (.ref q :: st) μ Q := rw_go p143_3 rfl
theorem r143_4 : RR 143 4 L (.ref q :: st) μ Q ↔ (1000001 ≤ q ∧ q - 1000001 < am_strs.length ∧ am_cat st ≤ 8) ∧ RR 143 7 L (.int (nI (am_strs.getD (q - 1000001) []).length) :: st) μ Q := rw_c p143_4 rfl
theorem r143_7 : RR 143 7 L (.int y :: .int x :: st) μ Q ↔ if y ≤ x then RR 143 25 L st μ Q else RR 143 10 L st μ Q := rw_if p143_7 rfl
theorem r143_10 : RR 143 10 (.ref q :: l) st μ Q ↔ RR 143 11 (.ref q :: l) (.ref q :: st) μ Q := rw_go p143_10 rfl
theorem r143_11 : RR 143 11 (a0 :: .ref q :: l) st μ Q ↔ RR 143 12 (a0 :: .ref q :: l) (.ref q :: st) μ Q := rw_go p143_11 rfl
theorem r143_12 : RR 143 12 (a0 :: a1 :: .int x :: l) st μ Q ↔ RR 143 13 (a0 :: a1 :: .int x :: l) (.int x :: st) μ Q := rw_go p143_12 rfl
theorem r143_13 : RR 143 13 L (.int x :: .ref q :: st) μ Q ↔ (1000001 ≤ q ∧ q - 1000001 < am_strs.length ∧ am_cat st ≤ 8 ∧ 0 ≤ x.toInt ∧ x.toInt < ((am_strs.getD (q - 1000001) []).length : Int)) ∧ RR 143 16 L (.int (nI ((am_strs.getD (q - 1000001) []).getD x.toInt.toNat 0)) :: st) μ Q := rw_c p143_13 rfl
theorem r143_16 : RR 143 16 L (.int x1 :: .ref q :: st) (S, (0, 0, sl), M, D, F) Q ↔ (am_cat st ≤ 8 ∧ 2 = 2 ∧ S[q]? = some (.inl 5)) ∧ RR 142 0 [.ref q, .int x1] [] (S, (0, 0, sl), M, D, F) (fun rv μ' => μ'.1.length = S.length ∧ RR 143 19 L (rv.toList ++ st) (μ'.1, (0, 0, sl), μ'.2.2) Q) := rw_call p143_16 rfl (ac142 q x1)
theorem r143_19 : RR 143 19 (a0 :: a1 :: .int x :: l) st μ Q ↔ RR 143 22 (a0 :: am_nd a1 :: .int (x + nI 1) :: l) st μ Q := rw_go p143_19 rfl
theorem r143_22 : RR 143 22 L st μ Q ↔ RR 143 2 L st μ Q := rw_go p143_22 rfl
theorem r143_25 : RR 143 25 L [] μ Q ↔ Q none μ := rw_r p143_25 rfl
/-! ReleaseDesk$Report.putName -/
theorem r144_0 : RR 144 0 L st μ Q ↔ RR 144 1 L (.int (nI 0) :: st) μ Q := rw_go p144_0 rfl
theorem r144_1 : RR 144 1 (a0 :: a1 :: c0 :: l) (.int x :: st) μ Q ↔ RR 144 2 (a0 :: am_nd a1 :: .int x :: l) st μ Q := rw_istn p144_1 (by show 2 < _; simp only [List.length_cons]; omega)
theorem r144_2 : RR 144 2 (a0 :: a1 :: .int x :: l) st μ Q ↔ RR 144 3 (a0 :: a1 :: .int x :: l) (.int x :: st) μ Q := rw_go p144_2 rfl
theorem r144_3 : RR 144 3 (a0 :: .ref q :: l) st μ Q ↔ RR 144 4 (a0 :: .ref q :: l) (.ref q :: st) μ Q := rw_go p144_3 rfl
theorem r144_4 : RR 144 4 L (.ref q :: st) (S, (0, 0, sl), M, D, F) Q ↔ (am_cat st ≤ 8 ∧ 1 = 1 ∧ S[q]? = some (.inl 3)) ∧ RR 125 0 [.ref q] [] (S, (0, 0, sl), M, D, F) (fun rv μ' => μ'.1.length = S.length ∧ RR 144 7 L (rv.toList ++ st) (μ'.1, (0, 0, sl), μ'.2.2) Q) := rw_call p144_4 rfl (ac125 q)
theorem r144_7 : RR 144 7 L (.int y :: .int x :: st) μ Q ↔ if y ≤ x then RR 144 25 L st μ Q else RR 144 10 L st μ Q := rw_if p144_7 rfl
theorem r144_10 : RR 144 10 (.ref q :: l) st μ Q ↔ RR 144 11 (.ref q :: l) (.ref q :: st) μ Q := rw_go p144_10 rfl
theorem r144_11 : RR 144 11 (a0 :: .ref q :: l) st μ Q ↔ RR 144 12 (a0 :: .ref q :: l) (.ref q :: st) μ Q := rw_go p144_11 rfl
theorem r144_12 : RR 144 12 (a0 :: a1 :: .int x :: l) st μ Q ↔ RR 144 13 (a0 :: a1 :: .int x :: l) (.int x :: st) μ Q := rw_go p144_12 rfl
theorem r144_13 : RR 144 13 L (.int x1 :: .ref q :: st) (S, (0, 0, sl), M, D, F) Q ↔ (am_cat st ≤ 8 ∧ 2 = 2 ∧ S[q]? = some (.inl 3)) ∧ RR 126 0 [.ref q, .int x1] [] (S, (0, 0, sl), M, D, F) (fun rv μ' => μ'.1.length = S.length ∧ RR 144 16 L (rv.toList ++ st) (μ'.1, (0, 0, sl), μ'.2.2) Q) := rw_call p144_13 rfl (ac126 q x1)
theorem r144_16 : RR 144 16 L (.int x1 :: .ref q :: st) (S, (0, 0, sl), M, D, F) Q ↔ (am_cat st ≤ 8 ∧ 2 = 2 ∧ S[q]? = some (.inl 5)) ∧ RR 142 0 [.ref q, .int x1] [] (S, (0, 0, sl), M, D, F) (fun rv μ' => μ'.1.length = S.length ∧ RR 144 19 L (rv.toList ++ st) (μ'.1, (0, 0, sl), μ'.2.2) Q) := rw_call p144_16 rfl (ac142 q x1)
theorem r144_19 : RR 144 19 (a0 :: a1 :: .int x :: l) st μ Q ↔ RR 144 22 (a0 :: am_nd a1 :: .int (x + nI 1) :: l) st μ Q := rw_go p144_19 rfl
theorem r144_22 : RR 144 22 L st μ Q ↔ RR 144 2 L st μ Q := rw_go p144_22 rfl
theorem r144_25 : RR 144 25 L [] μ Q ↔ Q none μ := rw_r p144_25 rfl
/-! ReleaseDesk$Report.putNumber -/
theorem r145_0 : RR 145 0 L st μ Q ↔ RR 145 3 L (.int (nI 1000) :: st) μ Q := rw_go p145_0 rfl
theorem r145_3 : RR 145 3 (a0 :: a1 :: c0 :: l) (.int x :: st) μ Q ↔ RR 145 4 (a0 :: am_nd a1 :: .int x :: l) st μ Q := rw_istn p145_3 (by show 2 < _; simp only [List.length_cons]; omega)
theorem r145_4 : RR 145 4 (a0 :: a1 :: .int x :: l) st μ Q ↔ RR 145 5 (a0 :: a1 :: .int x :: l) (.int x :: st) μ Q := rw_go p145_4 rfl
theorem r145_5 : RR 145 5 L (.int x :: st) μ Q ↔ if x ≤ 0 then RR 145 40 L st μ Q else RR 145 8 L st μ Q := rw_if p145_5 rfl
theorem r145_8 : RR 145 8 (a0 :: .int x :: l) st μ Q ↔ RR 145 9 (a0 :: .int x :: l) (.int x :: st) μ Q := rw_go p145_8 rfl
theorem r145_9 : RR 145 9 (a0 :: a1 :: .int x :: l) st μ Q ↔ RR 145 10 (a0 :: a1 :: .int x :: l) (.int x :: st) μ Q := rw_go p145_9 rfl
theorem r145_10 : RR 145 10 L (.int y :: .int x :: st) μ Q ↔ if y ≤ x then RR 145 18 L st μ Q else RR 145 13 L st μ Q := rw_if p145_10 rfl
theorem r145_13 : RR 145 13 (a0 :: a1 :: .int x :: l) st μ Q ↔ RR 145 14 (a0 :: a1 :: .int x :: l) (.int x :: st) μ Q := rw_go p145_13 rfl
theorem r145_14 : RR 145 14 L st μ Q ↔ RR 145 15 L (.int (nI 1) :: st) μ Q := rw_go p145_14 rfl
theorem r145_15 : RR 145 15 L (.int y :: .int x :: st) μ Q ↔ if ¬ x = y then RR 145 32 L st μ Q else RR 145 18 L st μ Q := rw_if p145_15 rfl
theorem r145_18 : RR 145 18 (.ref q :: l) st μ Q ↔ RR 145 19 (.ref q :: l) (.ref q :: st) μ Q := rw_go p145_18 rfl
theorem r145_19 : RR 145 19 L st μ Q ↔ RR 145 21 L (.int (nI 48) :: st) μ Q := rw_go p145_19 rfl
theorem r145_21 : RR 145 21 (a0 :: .int x :: l) st μ Q ↔ RR 145 22 (a0 :: .int x :: l) (.int x :: st) μ Q := rw_go p145_21 rfl
theorem r145_22 : RR 145 22 (a0 :: a1 :: .int x :: l) st μ Q ↔ RR 145 23 (a0 :: a1 :: .int x :: l) (.int x :: st) μ Q := rw_go p145_22 rfl
theorem r145_23 : RR 145 23 L (.int y :: .int x :: st) μ Q ↔ ¬ y = 0 ∧ RR 145 24 L (.int (x / y) :: st) μ Q := rw_n p145_23 rfl
theorem r145_24 : RR 145 24 L st μ Q ↔ RR 145 26 L (.int (nI 10) :: st) μ Q := rw_go p145_24 rfl
theorem r145_26 : RR 145 26 L (.int y :: .int x :: st) μ Q ↔ ¬ y = 0 ∧ RR 145 27 L (.int (x - x / y * y) :: st) μ Q := rw_n p145_26 rfl
theorem r145_27 : RR 145 27 L (.int y :: .int x :: st) μ Q ↔ RR 145 28 L (.int (x + y) :: st) μ Q := rw_go p145_27 rfl
theorem r145_28 : RR 145 28 L (.int x :: st) μ Q ↔ RR 145 29 L (.int (x.toUInt32 % 65536).toInt32 :: st) μ Q := rw_go p145_28 rfl
theorem r145_29 : RR 145 29 L (.int x1 :: .ref q :: st) (S, (0, 0, sl), M, D, F) Q ↔ (am_cat st ≤ 8 ∧ 2 = 2 ∧ S[q]? = some (.inl 5)) ∧ RR 142 0 [.ref q, .int x1] [] (S, (0, 0, sl), M, D, F) (fun rv μ' => μ'.1.length = S.length ∧ RR 145 32 L (rv.toList ++ st) (μ'.1, (0, 0, sl), μ'.2.2) Q) := rw_call p145_29 rfl (ac142 q x1)
theorem r145_32 : RR 145 32 (a0 :: a1 :: .int x :: l) st μ Q ↔ RR 145 33 (a0 :: a1 :: .int x :: l) (.int x :: st) μ Q := rw_go p145_32 rfl
theorem r145_33 : RR 145 33 L st μ Q ↔ RR 145 35 L (.int (nI 10) :: st) μ Q := rw_go p145_33 rfl
theorem r145_35 : RR 145 35 L (.int y :: .int x :: st) μ Q ↔ ¬ y = 0 ∧ RR 145 36 L (.int (x / y) :: st) μ Q := rw_n p145_35 rfl
theorem r145_36 : RR 145 36 (a0 :: a1 :: c0 :: l) (.int x :: st) μ Q ↔ RR 145 37 (a0 :: am_nd a1 :: .int x :: l) st μ Q := rw_istn p145_36 (by show 2 < _; simp only [List.length_cons]; omega)
theorem r145_37 : RR 145 37 L st μ Q ↔ RR 145 4 L st μ Q := rw_go p145_37 rfl
theorem r145_40 : RR 145 40 L [] μ Q ↔ Q none μ := rw_r p145_40 rfl
/-! ReleaseDesk$Rule.init -/
theorem r146_0 : RR 146 0 (.ref q :: l) st μ Q ↔ RR 146 1 (.ref q :: l) (.ref q :: st) μ Q := rw_go p146_0 rfl
theorem r146_1 : RR 146 1 L (.ref q :: st) μ Q ↔ am_cat st ≤ 8 ∧ RR 146 4 L st μ Q := rw_c p146_1 rfl
theorem r146_4 : RR 146 4 (.ref q :: l) st μ Q ↔ RR 146 5 (.ref q :: l) (.ref q :: st) μ Q := rw_go p146_4 rfl
theorem r146_8 : RR 146 8 L (.ref q :: st) μ Q ↔ RR 146 9 L (.ref q :: .ref q :: st) μ Q := rw_go p146_8 rfl
theorem r146_8i : RR 146 8 L (.int x :: st) μ Q ↔ RR 146 9 L (.int x :: .int x :: st) μ Q := rw_go p146_8 rfl
theorem r146_12 : RR 146 12 L (.ref q2 :: .ref q :: st) (S, b, M, D, F) Q ↔ S[q]? = some (.inl 6) ∧ RR 146 15 L st (S, b, M, D, am_up F q 0 (some q2)) Q := rw_c p146_12 rfl
theorem r146_15 : RR 146 15 L [] μ Q ↔ Q none μ := rw_r p146_15 rfl
/-! ReleaseDesk$Rule.become -/
theorem r147_0 : RR 147 0 (.ref q :: l) st μ Q ↔ RR 147 1 (.ref q :: l) (.ref q :: st) μ Q := rw_go p147_0 rfl
theorem r147_1 : RR 147 1 L (.ref q :: st) (S, b, M, D, F) Q ↔ S[q]? = some (.inl 6) ∧ RR 147 4 L (va_rf (F q 0) :: st) (S, b, M, D, F) Q := rw_c p147_1 rfl
theorem r147_4 : RR 147 4 (a0 :: .ref q :: l) st μ Q ↔ RR 147 5 (a0 :: .ref q :: l) (.ref q :: st) μ Q := rw_go p147_4 rfl
theorem r147_5 : RR 147 5 L (.ref q1 :: .ref q :: st) (S, (0, 0, sl), M, D, F) Q ↔ (am_cat st ≤ 8 ∧ 2 = 2 ∧ S[q]? = some (.inl 4)) ∧ RR 133 0 [.ref q, .ref q1] [] (S, (0, 0, sl), M, D, F) (fun rv μ' => μ'.1.length = S.length ∧ RR 147 8 L (rv.toList ++ st) (μ'.1, (0, 0, sl), μ'.2.2) Q) := rw_call p147_5 rfl (ac133 q q1)
theorem r147_8 : RR 147 8 (.ref q :: l) st μ Q ↔ RR 147 9 (.ref q :: l) (.ref q :: st) μ Q := rw_go p147_8 rfl
theorem r147_9 : RR 147 9 (a0 :: a1 :: .int x :: l) st μ Q ↔ RR 147 10 (a0 :: a1 :: .int x :: l) (.int x :: st) μ Q := rw_go p147_9 rfl
theorem r147_10 : RR 147 10 L (.int x :: .ref q :: st) (S, b, M, D, F) Q ↔ S[q]? = some (.inl 6) ∧ RR 147 13 L st (S, b, am_up M q 1 x, D, F) Q := rw_c p147_10 rfl
theorem r147_13 : RR 147 13 (.ref q :: l) st μ Q ↔ RR 147 14 (.ref q :: l) (.ref q :: st) μ Q := rw_go p147_13 rfl
theorem r147_14 : RR 147 14 (a0 :: a1 :: a2 :: .int x :: l) st μ Q ↔ RR 147 15 (a0 :: a1 :: a2 :: .int x :: l) (.int x :: st) μ Q := rw_go p147_14 rfl
theorem r147_15 : RR 147 15 L (.int x :: .ref q :: st) (S, b, M, D, F) Q ↔ S[q]? = some (.inl 6) ∧ RR 147 18 L st (S, b, am_up M q 2 x, D, F) Q := rw_c p147_15 rfl
theorem r147_18 : RR 147 18 (.ref q :: l) st μ Q ↔ RR 147 19 (.ref q :: l) (.ref q :: st) μ Q := rw_go p147_18 rfl
theorem r147_19 : RR 147 19 (a0 :: a1 :: a2 :: a3 :: .int x :: l) st μ Q ↔ RR 147 21 (a0 :: a1 :: a2 :: a3 :: .int x :: l) (.int x :: st) μ Q := rw_go p147_19 rfl
theorem r147_21 : RR 147 21 L (.int x :: .ref q :: st) (S, b, M, D, F) Q ↔ S[q]? = some (.inl 6) ∧ RR 147 24 L st (S, b, am_up M q 3 x, D, F) Q := rw_c p147_21 rfl
theorem r147_24 : RR 147 24 L [] μ Q ↔ Q none μ := rw_r p147_24 rfl
/-! ReleaseDesk$Rule.applies -/
theorem r148_0 : RR 148 0 (a0 :: .int x :: l) st μ Q ↔ RR 148 1 (a0 :: .int x :: l) (.int x :: st) μ Q := rw_go p148_0 rfl
theorem r148_1 : RR 148 1 (.ref q :: l) st μ Q ↔ RR 148 2 (.ref q :: l) (.ref q :: st) μ Q := rw_go p148_1 rfl
theorem r148_2 : RR 148 2 L (.ref q :: st) (S, b, M, D, F) Q ↔ S[q]? = some (.inl 6) ∧ RR 148 5 L (.int (M q 1) :: st) (S, b, M, D, F) Q := rw_c p148_2 rfl
theorem r148_5 : RR 148 5 L (.int y :: .int x :: st) μ Q ↔ if x < y then RR 148 31 L st μ Q else RR 148 8 L st μ Q := rw_if p148_5 rfl
theorem r148_8 : RR 148 8 (a0 :: .int x :: l) st μ Q ↔ RR 148 9 (a0 :: .int x :: l) (.int x :: st) μ Q := rw_go p148_8 rfl
theorem r148_9 : RR 148 9 (.ref q :: l) st μ Q ↔ RR 148 10 (.ref q :: l) (.ref q :: st) μ Q := rw_go p148_9 rfl
theorem r148_10 : RR 148 10 L (.ref q :: st) (S, b, M, D, F) Q ↔ S[q]? = some (.inl 6) ∧ RR 148 13 L (.int (M q 2) :: st) (S, b, M, D, F) Q := rw_c p148_10 rfl
theorem r148_13 : RR 148 13 L (.int y :: .int x :: st) μ Q ↔ if y < x then RR 148 31 L st μ Q else RR 148 16 L st μ Q := rw_if p148_13 rfl
theorem r148_16 : RR 148 16 (.ref q :: l) st μ Q ↔ RR 148 17 (.ref q :: l) (.ref q :: st) μ Q := rw_go p148_16 rfl
theorem r148_17 : RR 148 17 L (.ref q :: st) (S, b, M, D, F) Q ↔ S[q]? = some (.inl 6) ∧ RR 148 20 L (va_rf (F q 0) :: st) (S, b, M, D, F) Q := rw_c p148_17 rfl
theorem r148_20 : RR 148 20 (a0 :: a1 :: .ref q :: l) st μ Q ↔ RR 148 21 (a0 :: a1 :: .ref q :: l) (.ref q :: st) μ Q := rw_go p148_20 rfl
theorem r148_21 : RR 148 21 L (.ref q1 :: .ref q :: st) (S, (0, 0, sl), M, D, F) Q ↔ (am_cat st ≤ 8 ∧ 2 = 2 ∧ S[q]? = some (.inl 4)) ∧ RR 134 0 [.ref q, .ref q1, .long 0, .long 0] [] (S, (0, 0, sl), M, D, F) (fun rv μ' => μ'.1.length = S.length ∧ RR 148 24 L (rv.toList ++ st) (μ'.1, (0, 0, sl), μ'.2.2) Q) := rw_call p148_21 rfl (ac134 q q1)
theorem r148_24 : RR 148 24 L (.int x :: st) μ Q ↔ if x = 0 then RR 148 31 L st μ Q else RR 148 27 L st μ Q := rw_if p148_24 rfl
theorem r148_27 : RR 148 27 L st μ Q ↔ RR 148 28 L (.int (nI 1) :: st) μ Q := rw_go p148_27 rfl
theorem r148_28 : RR 148 28 L st μ Q ↔ RR 148 32 L st μ Q := rw_go p148_28 rfl
theorem r148_31 : RR 148 31 L st μ Q ↔ RR 148 32 L (.int (nI 0) :: st) μ Q := rw_go p148_31 rfl
theorem r148_32 : RR 148 32 L [.int x] μ Q ↔ (x = 0 ∨ x = 1) ∧ Q (some (.int x)) μ := rw_rc p148_32 rfl
/-! ReleaseDesk$Rule.weight -/
theorem r149_0 : RR 149 0 (.ref q :: l) st μ Q ↔ RR 149 1 (.ref q :: l) (.ref q :: st) μ Q := rw_go p149_0 rfl
theorem r149_1 : RR 149 1 L (.ref q :: st) (S, b, M, D, F) Q ↔ S[q]? = some (.inl 6) ∧ RR 149 4 L (.int (M q 3) :: st) (S, b, M, D, F) Q := rw_c p149_1 rfl
theorem r149_4 : RR 149 4 L [.int x] μ Q ↔ Q (some (.int x)) μ := rw_r p149_4 rfl
/-! ReleaseDesk$RuleBook.init -/
theorem r150_0 : RR 150 0 (.ref q :: l) st μ Q ↔ RR 150 1 (.ref q :: l) (.ref q :: st) μ Q := rw_go p150_0 rfl
theorem r150_1 : RR 150 1 L (.ref q :: st) μ Q ↔ am_cat st ≤ 8 ∧ RR 150 4 L st μ Q := rw_c p150_1 rfl
theorem r150_4 : RR 150 4 (.ref q :: l) st μ Q ↔ RR 150 5 (.ref q :: l) (.ref q :: st) μ Q := rw_go p150_4 rfl
theorem r150_5 : RR 150 5 L st μ Q ↔ RR 150 7 L (.int (nI 8) :: st) μ Q := rw_go p150_5 rfl
theorem r150_10 : RR 150 10 L (.ref q2 :: .ref q :: st) (S, b, M, D, F) Q ↔ S[q]? = some (.inl 7) ∧ RR 150 13 L st (S, b, M, D, am_up F q 0 (some q2)) Q := rw_c p150_10 rfl
theorem r150_13 : RR 150 13 L st μ Q ↔ RR 150 14 L (.int (nI 0) :: st) μ Q := rw_go p150_13 rfl
theorem r150_14 : RR 150 14 (a0 :: c0 :: l) (.int x :: st) μ Q ↔ RR 150 15 (am_nd a0 :: .int x :: l) st μ Q := rw_istn p150_14 (by show 1 < _; simp only [List.length_cons]; omega)
theorem r150_15 : RR 150 15 (a0 :: .int x :: l) st μ Q ↔ RR 150 16 (a0 :: .int x :: l) (.int x :: st) μ Q := rw_go p150_15 rfl
theorem r150_16 : RR 150 16 L st μ Q ↔ RR 150 18 L (.int (nI 8) :: st) μ Q := rw_go p150_16 rfl
theorem r150_18 : RR 150 18 L (.int y :: .int x :: st) μ Q ↔ if y ≤ x then RR 150 40 L st μ Q else RR 150 21 L st μ Q := rw_if p150_18 rfl
theorem r150_21 : RR 150 21 (.ref q :: l) st μ Q ↔ RR 150 22 (.ref q :: l) (.ref q :: st) μ Q := rw_go p150_21 rfl
theorem r150_22 : RR 150 22 L (.ref q :: st) (S, b, M, D, F) Q ↔ S[q]? = some (.inl 7) ∧ RR 150 25 L (va_rf (F q 0) :: st) (S, b, M, D, F) Q := rw_c p150_22 rfl
theorem r150_25 : RR 150 25 (a0 :: .int x :: l) st μ Q ↔ RR 150 26 (a0 :: .int x :: l) (.int x :: st) μ Q := rw_go p150_25 rfl
theorem r150_29 : RR 150 29 L (.ref q :: st) μ Q ↔ RR 150 30 L (.ref q :: .ref q :: st) μ Q := rw_go p150_29 rfl
theorem r150_29i : RR 150 29 L (.int x :: st) μ Q ↔ RR 150 30 L (.int x :: .int x :: st) μ Q := rw_go p150_29 rfl
theorem r150_34 : RR 150 34 (a0 :: .int x :: l) st μ Q ↔ RR 150 37 (am_nd a0 :: .int (x + nI 1) :: l) st μ Q := rw_go p150_34 rfl
theorem r150_37 : RR 150 37 L st μ Q ↔ RR 150 15 L st μ Q := rw_go p150_37 rfl
theorem r150_40 : RR 150 40 L [] μ Q ↔ Q none μ := rw_r p150_40 rfl
/-! ReleaseDesk$RuleBook.size -/
theorem r151_0 : RR 151 0 (.ref q :: l) st μ Q ↔ RR 151 1 (.ref q :: l) (.ref q :: st) μ Q := rw_go p151_0 rfl
theorem r151_1 : RR 151 1 L (.ref q :: st) (S, b, M, D, F) Q ↔ S[q]? = some (.inl 7) ∧ RR 151 4 L (.int (M q 1) :: st) (S, b, M, D, F) Q := rw_c p151_1 rfl
theorem r151_4 : RR 151 4 L [.int x] μ Q ↔ Q (some (.int x)) μ := rw_r p151_4 rfl
/-! ReleaseDesk$RuleBook.isFull -/
theorem r152_0 : RR 152 0 (.ref q :: l) st μ Q ↔ RR 152 1 (.ref q :: l) (.ref q :: st) μ Q := rw_go p152_0 rfl
theorem r152_1 : RR 152 1 L (.ref q :: st) (S, b, M, D, F) Q ↔ S[q]? = some (.inl 7) ∧ RR 152 4 L (.int (M q 1) :: st) (S, b, M, D, F) Q := rw_c p152_1 rfl
theorem r152_4 : RR 152 4 L st μ Q ↔ RR 152 6 L (.int (nI 8) :: st) μ Q := rw_go p152_4 rfl
theorem r152_6 : RR 152 6 L (.int y :: .int x :: st) μ Q ↔ if ¬ x = y then RR 152 13 L st μ Q else RR 152 9 L st μ Q := rw_if p152_6 rfl
theorem r152_9 : RR 152 9 L st μ Q ↔ RR 152 10 L (.int (nI 1) :: st) μ Q := rw_go p152_9 rfl
theorem r152_10 : RR 152 10 L st μ Q ↔ RR 152 14 L st μ Q := rw_go p152_10 rfl
theorem r152_13 : RR 152 13 L st μ Q ↔ RR 152 14 L (.int (nI 0) :: st) μ Q := rw_go p152_13 rfl
theorem r152_14 : RR 152 14 L [.int x] μ Q ↔ (x = 0 ∨ x = 1) ∧ Q (some (.int x)) μ := rw_rc p152_14 rfl
/-! ReleaseDesk$RuleBook.append -/
theorem r153_0 : RR 153 0 (.ref q :: l) st μ Q ↔ RR 153 1 (.ref q :: l) (.ref q :: st) μ Q := rw_go p153_0 rfl
theorem r153_1 : RR 153 1 L (.ref q :: st) (S, b, M, D, F) Q ↔ S[q]? = some (.inl 7) ∧ RR 153 4 L (.int (M q 1) :: st) (S, b, M, D, F) Q := rw_c p153_1 rfl
theorem r153_4 : RR 153 4 L st μ Q ↔ RR 153 6 L (.int (nI 8) :: st) μ Q := rw_go p153_4 rfl
theorem r153_6 : RR 153 6 L (.int y :: .int x :: st) μ Q ↔ if y ≤ x then RR 153 36 L st μ Q else RR 153 9 L st μ Q := rw_if p153_6 rfl
theorem r153_9 : RR 153 9 (.ref q :: l) st μ Q ↔ RR 153 10 (.ref q :: l) (.ref q :: st) μ Q := rw_go p153_9 rfl
theorem r153_10 : RR 153 10 L (.ref q :: st) (S, b, M, D, F) Q ↔ S[q]? = some (.inl 7) ∧ RR 153 13 L (va_rf (F q 0) :: st) (S, b, M, D, F) Q := rw_c p153_10 rfl
theorem r153_13 : RR 153 13 (.ref q :: l) st μ Q ↔ RR 153 14 (.ref q :: l) (.ref q :: st) μ Q := rw_go p153_13 rfl
theorem r153_14 : RR 153 14 L (.ref q :: st) (S, b, M, D, F) Q ↔ S[q]? = some (.inl 7) ∧ RR 153 17 L (.int (M q 1) :: st) (S, b, M, D, F) Q := rw_c p153_14 rfl
theorem r153_17 : RR 153 17 L (.int x :: .ref q :: st) (S, b, M, D, F) Q ↔ am_bs S q 4 x ∧ RR 153 18 L (va_rf (F q x.toInt.toNat) :: st) (S, b, M, D, F) Q := rw_c p153_17 am_axld_eq
theorem r153_18 : RR 153 18 (a0 :: .ref q :: l) st μ Q ↔ RR 153 19 (a0 :: .ref q :: l) (.ref q :: st) μ Q := rw_go p153_18 rfl
theorem r153_19 : RR 153 19 (a0 :: a1 :: .int x :: l) st μ Q ↔ RR 153 20 (a0 :: a1 :: .int x :: l) (.int x :: st) μ Q := rw_go p153_19 rfl
theorem r153_20 : RR 153 20 (a0 :: a1 :: a2 :: .int x :: l) st μ Q ↔ RR 153 21 (a0 :: a1 :: a2 :: .int x :: l) (.int x :: st) μ Q := rw_go p153_20 rfl
theorem r153_21 : RR 153 21 (a0 :: a1 :: a2 :: a3 :: .int x :: l) st μ Q ↔ RR 153 23 (a0 :: a1 :: a2 :: a3 :: .int x :: l) (.int x :: st) μ Q := rw_go p153_21 rfl
theorem r153_23 : RR 153 23 L (.int x3 :: .int x2 :: .int x1 :: .ref q1 :: .ref q :: st) (S, (0, 0, sl), M, D, F) Q ↔ (am_cat st ≤ 8 ∧ 5 = 5 ∧ S[q]? = some (.inl 6)) ∧ RR 147 0 [.ref q, .ref q1, .int x1, .int x2, .int x3] [] (S, (0, 0, sl), M, D, F) (fun rv μ' => μ'.1.length = S.length ∧ RR 153 26 L (rv.toList ++ st) (μ'.1, (0, 0, sl), μ'.2.2) Q) := rw_call p153_23 rfl (ac147 q q1 x1 x2 x3)
theorem r153_26 : RR 153 26 (.ref q :: l) st μ Q ↔ RR 153 27 (.ref q :: l) (.ref q :: st) μ Q := rw_go p153_26 rfl
theorem r153_27 : RR 153 27 L (.ref q :: st) μ Q ↔ RR 153 28 L (.ref q :: .ref q :: st) μ Q := rw_go p153_27 rfl
theorem r153_27i : RR 153 27 L (.int x :: st) μ Q ↔ RR 153 28 L (.int x :: .int x :: st) μ Q := rw_go p153_27 rfl
theorem r153_28 : RR 153 28 L (.ref q :: st) (S, b, M, D, F) Q ↔ S[q]? = some (.inl 7) ∧ RR 153 31 L (.int (M q 1) :: st) (S, b, M, D, F) Q := rw_c p153_28 rfl
theorem r153_31 : RR 153 31 L st μ Q ↔ RR 153 32 L (.int (nI 1) :: st) μ Q := rw_go p153_31 rfl
theorem r153_32 : RR 153 32 L (.int y :: .int x :: st) μ Q ↔ RR 153 33 L (.int (x + y) :: st) μ Q := rw_go p153_32 rfl
theorem r153_33 : RR 153 33 L (.int x :: .ref q :: st) (S, b, M, D, F) Q ↔ S[q]? = some (.inl 7) ∧ RR 153 36 L st (S, b, am_up M q 1 x, D, F) Q := rw_c p153_33 rfl
theorem r153_36 : RR 153 36 L [] μ Q ↔ Q none μ := rw_r p153_36 rfl
/-! ReleaseDesk$RuleBook.empty -/
theorem r154_0 : RR 154 0 (.ref q :: l) st μ Q ↔ RR 154 1 (.ref q :: l) (.ref q :: st) μ Q := rw_go p154_0 rfl
theorem r154_1 : RR 154 1 L st μ Q ↔ RR 154 2 L (.int (nI 0) :: st) μ Q := rw_go p154_1 rfl
theorem r154_2 : RR 154 2 L (.int x :: .ref q :: st) (S, b, M, D, F) Q ↔ S[q]? = some (.inl 7) ∧ RR 154 5 L st (S, b, am_up M q 1 x, D, F) Q := rw_c p154_2 rfl
theorem r154_5 : RR 154 5 L [] μ Q ↔ Q none μ := rw_r p154_5 rfl
/-! ReleaseDesk$RuleBook.weigh -/
theorem r155_0 : RR 155 0 (.ref q :: l) st μ Q ↔ RR 155 1 (.ref q :: l) (.ref q :: st) μ Q := rw_go p155_0 rfl
theorem r155_1 : RR 155 1 L (.ref q :: st) (S, b, M, D, F) Q ↔ S[q]? = some (.inl 7) ∧ RR 155 4 L (.int (M q 1) :: st) (S, b, M, D, F) Q := rw_c p155_1 rfl
theorem r155_4 : RR 155 4 L st μ Q ↔ RR 155 5 L (.int (nI 1) :: st) μ Q := rw_go p155_4 rfl
theorem r155_5 : RR 155 5 L (.int y :: .int x :: st) μ Q ↔ RR 155 6 L (.int (x - y) :: st) μ Q := rw_go p155_5 rfl
theorem r155_6 : RR 155 6 (a0 :: a1 :: a2 :: c0 :: l) (.int x :: st) μ Q ↔ RR 155 7 (a0 :: a1 :: am_nd a2 :: .int x :: l) st μ Q := rw_istn p155_6 (by show 3 < _; simp only [List.length_cons]; omega)
theorem r155_7 : RR 155 7 (a0 :: a1 :: a2 :: .int x :: l) st μ Q ↔ RR 155 8 (a0 :: a1 :: a2 :: .int x :: l) (.int x :: st) μ Q := rw_go p155_7 rfl
theorem r155_8 : RR 155 8 L (.int x :: st) μ Q ↔ if x < 0 then RR 155 41 L st μ Q else RR 155 11 L st μ Q := rw_if p155_8 rfl
theorem r155_11 : RR 155 11 (.ref q :: l) st μ Q ↔ RR 155 12 (.ref q :: l) (.ref q :: st) μ Q := rw_go p155_11 rfl
theorem r155_12 : RR 155 12 L (.ref q :: st) (S, b, M, D, F) Q ↔ S[q]? = some (.inl 7) ∧ RR 155 15 L (va_rf (F q 0) :: st) (S, b, M, D, F) Q := rw_c p155_12 rfl
theorem r155_15 : RR 155 15 (a0 :: a1 :: a2 :: .int x :: l) st μ Q ↔ RR 155 16 (a0 :: a1 :: a2 :: .int x :: l) (.int x :: st) μ Q := rw_go p155_15 rfl
theorem r155_16 : RR 155 16 L (.int x :: .ref q :: st) (S, b, M, D, F) Q ↔ am_bs S q 4 x ∧ RR 155 17 L (va_rf (F q x.toInt.toNat) :: st) (S, b, M, D, F) Q := rw_c p155_16 am_axld_eq
theorem r155_17 : RR 155 17 (a0 :: .int x :: l) st μ Q ↔ RR 155 18 (a0 :: .int x :: l) (.int x :: st) μ Q := rw_go p155_17 rfl
theorem r155_18 : RR 155 18 (a0 :: a1 :: .ref q :: l) st μ Q ↔ RR 155 19 (a0 :: a1 :: .ref q :: l) (.ref q :: st) μ Q := rw_go p155_18 rfl
theorem r155_19 : RR 155 19 L (.ref q1 :: .int x1 :: .ref q :: st) (S, (0, 0, sl), M, D, F) Q ↔ (am_cat st ≤ 8 ∧ 3 = 3 ∧ S[q]? = some (.inl 6)) ∧ RR 148 0 [.ref q, .int x1, .ref q1] [] (S, (0, 0, sl), M, D, F) (fun rv μ' => μ'.1.length = S.length ∧ RR 155 22 L (rv.toList ++ st) (μ'.1, (0, 0, sl), μ'.2.2) Q) := rw_call p155_19 rfl (ac148 q x1 q1)
theorem r155_22 : RR 155 22 L (.int x :: st) μ Q ↔ if x = 0 then RR 155 35 L st μ Q else RR 155 25 L st μ Q := rw_if p155_22 rfl
theorem r155_25 : RR 155 25 (.ref q :: l) st μ Q ↔ RR 155 26 (.ref q :: l) (.ref q :: st) μ Q := rw_go p155_25 rfl
theorem r155_26 : RR 155 26 L (.ref q :: st) (S, b, M, D, F) Q ↔ S[q]? = some (.inl 7) ∧ RR 155 29 L (va_rf (F q 0) :: st) (S, b, M, D, F) Q := rw_c p155_26 rfl
theorem r155_29 : RR 155 29 (a0 :: a1 :: a2 :: .int x :: l) st μ Q ↔ RR 155 30 (a0 :: a1 :: a2 :: .int x :: l) (.int x :: st) μ Q := rw_go p155_29 rfl
theorem r155_30 : RR 155 30 L (.int x :: .ref q :: st) (S, b, M, D, F) Q ↔ am_bs S q 4 x ∧ RR 155 31 L (va_rf (F q x.toInt.toNat) :: st) (S, b, M, D, F) Q := rw_c p155_30 am_axld_eq
theorem r155_31 : RR 155 31 L (.ref q :: st) (S, (0, 0, sl), M, D, F) Q ↔ (am_cat st ≤ 8 ∧ 1 = 1 ∧ S[q]? = some (.inl 6)) ∧ RR 149 0 [.ref q] [] (S, (0, 0, sl), M, D, F) (fun rv μ' => μ'.1.length = S.length ∧ RR 155 34 L (rv.toList ++ st) (μ'.1, (0, 0, sl), μ'.2.2) Q) := rw_call p155_31 rfl (ac149 q)
theorem r155_34 : RR 155 34 L [.int x] μ Q ↔ Q (some (.int x)) μ := rw_r p155_34 rfl
theorem r155_35 : RR 155 35 (a0 :: a1 :: a2 :: .int x :: l) st μ Q ↔ RR 155 38 (a0 :: a1 :: am_nd a2 :: .int (x + (-1)) :: l) st μ Q := rw_go p155_35 rfl
theorem r155_38 : RR 155 38 L st μ Q ↔ RR 155 7 L st μ Q := rw_go p155_38 rfl
theorem r155_41 : RR 155 41 (a0 :: .int x :: l) st μ Q ↔ RR 155 42 (a0 :: .int x :: l) (.int x :: st) μ Q := rw_go p155_41 rfl
theorem r155_42 : RR 155 42 L (.int x1 :: st) (S, (0, 0, sl), M, D, F) Q ↔ (am_cat st ≤ 8 ∧ 1 = 1) ∧ RR 29 0 [.int x1] [] (S, (0, 0, sl), M, D, F) (fun rv μ' => μ'.1.length = S.length ∧ RR 155 45 L (rv.toList ++ st) (μ'.1, (0, 0, sl), μ'.2.2) Q) := rw_call p155_42 rfl (ac29 x1)
theorem r155_45 : RR 155 45 L [.int x] μ Q ↔ Q (some (.int x)) μ := rw_r p155_45 rfl
/-! java/util/Arrays.fill -/
theorem r156_0 : RR 156 0 L st μ Q ↔ RR 156 1 L (.int (nI 0) :: st) μ Q := rw_go p156_0 rfl
theorem r156_1 : RR 156 1 (a0 :: a1 :: c0 :: l) (.int x :: st) μ Q ↔ RR 156 2 (a0 :: am_nd a1 :: .int x :: l) st μ Q := rw_istn p156_1 (by show 2 < _; simp only [List.length_cons]; omega)
theorem r156_2 : RR 156 2 (.ref q :: l) st μ Q ↔ RR 156 3 (.ref q :: l) (.ref q :: st) μ Q := rw_go p156_2 rfl
theorem r156_3 {n : Nat} (h : am_an S b.2.2 q = some n) : RR 156 3 L (.ref q :: st) (S, b, M, D, F) Q ↔ RR 156 4 L (.int (nI n) :: st) (S, b, M, D, F) Q := rw_alen p156_3 (fun _ => rfl) h
theorem r156_4 : RR 156 4 (a0 :: a1 :: a2 :: c0 :: l) (.int x :: st) μ Q ↔ RR 156 5 (a0 :: a1 :: am_nd a2 :: .int x :: l) st μ Q := rw_istn p156_4 (by show 3 < _; simp only [List.length_cons]; omega)
theorem r156_5 : RR 156 5 (a0 :: a1 :: .int x :: l) st μ Q ↔ RR 156 6 (a0 :: a1 :: .int x :: l) (.int x :: st) μ Q := rw_go p156_5 rfl
theorem r156_6 : RR 156 6 (a0 :: a1 :: a2 :: .int x :: l) st μ Q ↔ RR 156 7 (a0 :: a1 :: a2 :: .int x :: l) (.int x :: st) μ Q := rw_go p156_6 rfl
theorem r156_7 : RR 156 7 L (.int y :: .int x :: st) μ Q ↔ if y ≤ x then RR 156 20 L st μ Q else RR 156 10 L st μ Q := rw_if p156_7 rfl
theorem r156_10 : RR 156 10 (.ref q :: l) st μ Q ↔ RR 156 11 (.ref q :: l) (.ref q :: st) μ Q := rw_go p156_10 rfl
theorem r156_11 : RR 156 11 (a0 :: a1 :: .int x :: l) st μ Q ↔ RR 156 12 (a0 :: a1 :: .int x :: l) (.int x :: st) μ Q := rw_go p156_11 rfl
theorem r156_12 : RR 156 12 (a0 :: .int x :: l) st μ Q ↔ RR 156 13 (a0 :: .int x :: l) (.int x :: st) μ Q := rw_go p156_12 rfl
theorem r156_13 : RR 156 13 L (.int x :: .int y :: .ref q :: st) (S, b, M, D, F) Q ↔ am_bs S q 0 y ∧ RR 156 14 L st (S, b, am_up M q y.toInt.toNat x, D, F) Q := rw_c p156_13 (am_xst_eq (f := fun x => x))
theorem r156_14 : RR 156 14 (a0 :: a1 :: .int x :: l) st μ Q ↔ RR 156 17 (a0 :: am_nd a1 :: .int (x + nI 1) :: l) st μ Q := rw_go p156_14 rfl
theorem r156_17 : RR 156 17 L st μ Q ↔ RR 156 5 L st μ Q := rw_go p156_17 rfl
theorem r156_20 : RR 156 20 L [] μ Q ↔ Q none μ := rw_r p156_20 rfl
end RW
