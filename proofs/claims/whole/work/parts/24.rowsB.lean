/-! rows -/
section RW
variable {Q : Option Value → amM → Prop} {μ : amM} {S : List (Nat ⊕ (Nat × Nat))} {b : Nat × Nat × Nat} {M : Nat → Nat → Int32} {D : Nat → Nat → UInt64} {F : Nat → Nat → Option Nat}
variable {L l st : List Value} {a0 a1 a2 a3 a4 a5 a6 a7 a8 a9 c0 c1 : Value} {x y x1 x2 x3 x4 x5 x6 : Int32} {q q1 q2 q3 sl : Nat} {d d1 d2 : UInt64}

/-! ReleaseDeskModel.init -/
theorem r31_0 : RR 31 0 (.ref q :: l) st μ Q ↔ RR 31 1 (.ref q :: l) (.ref q :: st) μ Q := rw_go p31_0 rfl
theorem r31_1 : RR 31 1 L (.ref q :: st) μ Q ↔ am_cat st ≤ 8 ∧ RR 31 4 L st μ Q := rw_c p31_1 rfl
theorem r31_4 : RR 31 4 (.ref q :: l) st μ Q ↔ RR 31 5 (.ref q :: l) (.ref q :: st) μ Q := rw_go p31_4 rfl
theorem r31_5 : RR 31 5 L st μ Q ↔ RR 31 7 L (.int (nI 16) :: st) μ Q := rw_go p31_5 rfl
theorem r31_9 : RR 31 9 L (.ref q2 :: .ref q :: st) (S, b, M, D, F) Q ↔ S[q]? = some (.inl 9) ∧ RR 31 12 L st (S, b, M, D, am_up F q 0 (some q2)) Q := rw_c p31_9 rfl
theorem r31_12 : RR 31 12 (.ref q :: l) st μ Q ↔ RR 31 13 (.ref q :: l) (.ref q :: st) μ Q := rw_go p31_12 rfl
theorem r31_13 : RR 31 13 L st μ Q ↔ RR 31 16 L (.int (nI 192) :: st) μ Q := rw_go p31_13 rfl
theorem r31_18 : RR 31 18 L (.ref q2 :: .ref q :: st) (S, b, M, D, F) Q ↔ S[q]? = some (.inl 9) ∧ RR 31 21 L st (S, b, M, D, am_up F q 1 (some q2)) Q := rw_c p31_18 rfl
theorem r31_21 : RR 31 21 (.ref q :: l) st μ Q ↔ RR 31 22 (.ref q :: l) (.ref q :: st) μ Q := rw_go p31_21 rfl
theorem r31_22 : RR 31 22 L st μ Q ↔ RR 31 24 L (.int (nI 16) :: st) μ Q := rw_go p31_22 rfl
theorem r31_26 : RR 31 26 L (.ref q2 :: .ref q :: st) (S, b, M, D, F) Q ↔ S[q]? = some (.inl 9) ∧ RR 31 29 L st (S, b, M, D, am_up F q 2 (some q2)) Q := rw_c p31_26 rfl
theorem r31_29 : RR 31 29 (.ref q :: l) st μ Q ↔ RR 31 30 (.ref q :: l) (.ref q :: st) μ Q := rw_go p31_29 rfl
theorem r31_30 : RR 31 30 L st μ Q ↔ RR 31 32 L (.int (nI 16) :: st) μ Q := rw_go p31_30 rfl
theorem r31_34 : RR 31 34 L (.ref q2 :: .ref q :: st) (S, b, M, D, F) Q ↔ S[q]? = some (.inl 9) ∧ RR 31 37 L st (S, b, M, D, am_up F q 3 (some q2)) Q := rw_c p31_34 rfl
theorem r31_37 : RR 31 37 (.ref q :: l) st μ Q ↔ RR 31 38 (.ref q :: l) (.ref q :: st) μ Q := rw_go p31_37 rfl
theorem r31_38 : RR 31 38 L st μ Q ↔ RR 31 40 L (.int (nI 16) :: st) μ Q := rw_go p31_38 rfl
theorem r31_42 : RR 31 42 L (.ref q2 :: .ref q :: st) (S, b, M, D, F) Q ↔ S[q]? = some (.inl 9) ∧ RR 31 45 L st (S, b, M, D, am_up F q 4 (some q2)) Q := rw_c p31_42 rfl
theorem r31_45 : RR 31 45 (.ref q :: l) st μ Q ↔ RR 31 46 (.ref q :: l) (.ref q :: st) μ Q := rw_go p31_45 rfl
theorem r31_46 : RR 31 46 L st μ Q ↔ RR 31 48 L (.int (nI 16) :: st) μ Q := rw_go p31_46 rfl
theorem r31_50 : RR 31 50 L (.ref q2 :: .ref q :: st) (S, b, M, D, F) Q ↔ S[q]? = some (.inl 9) ∧ RR 31 53 L st (S, b, M, D, am_up F q 5 (some q2)) Q := rw_c p31_50 rfl
theorem r31_53 : RR 31 53 (.ref q :: l) st μ Q ↔ RR 31 54 (.ref q :: l) (.ref q :: st) μ Q := rw_go p31_53 rfl
theorem r31_54 : RR 31 54 L st μ Q ↔ RR 31 57 L (.int (nI 384) :: st) μ Q := rw_go p31_54 rfl
theorem r31_59 : RR 31 59 L (.ref q2 :: .ref q :: st) (S, b, M, D, F) Q ↔ S[q]? = some (.inl 9) ∧ RR 31 62 L st (S, b, M, D, am_up F q 6 (some q2)) Q := rw_c p31_59 rfl
theorem r31_62 : RR 31 62 (.ref q :: l) st μ Q ↔ RR 31 63 (.ref q :: l) (.ref q :: st) μ Q := rw_go p31_62 rfl
theorem r31_63 : RR 31 63 L st μ Q ↔ RR 31 66 L (.int (nI 192) :: st) μ Q := rw_go p31_63 rfl
theorem r31_68 : RR 31 68 L (.ref q2 :: .ref q :: st) (S, b, M, D, F) Q ↔ S[q]? = some (.inl 9) ∧ RR 31 71 L st (S, b, M, D, am_up F q 7 (some q2)) Q := rw_c p31_68 rfl
theorem r31_71 : RR 31 71 (.ref q :: l) st μ Q ↔ RR 31 72 (.ref q :: l) (.ref q :: st) μ Q := rw_go p31_71 rfl
theorem r31_72 : RR 31 72 L st μ Q ↔ RR 31 74 L (.int (nI 108) :: st) μ Q := rw_go p31_72 rfl
theorem r31_76 : RR 31 76 L (.ref q2 :: .ref q :: st) (S, b, M, D, F) Q ↔ S[q]? = some (.inl 9) ∧ RR 31 79 L st (S, b, M, D, am_up F q 8 (some q2)) Q := rw_c p31_76 rfl
theorem r31_79 : RR 31 79 (.ref q :: l) st μ Q ↔ RR 31 80 (.ref q :: l) (.ref q :: st) μ Q := rw_go p31_79 rfl
theorem r31_80 : RR 31 80 L st μ Q ↔ RR 31 82 L (.int (nI 9) :: st) μ Q := rw_go p31_80 rfl
theorem r31_84 : RR 31 84 L (.ref q2 :: .ref q :: st) (S, b, M, D, F) Q ↔ S[q]? = some (.inl 9) ∧ RR 31 87 L st (S, b, M, D, am_up F q 9 (some q2)) Q := rw_c p31_84 rfl
theorem r31_87 : RR 31 87 (.ref q :: l) st μ Q ↔ RR 31 88 (.ref q :: l) (.ref q :: st) μ Q := rw_go p31_87 rfl
theorem r31_88 : RR 31 88 L st μ Q ↔ RR 31 90 L (.int (nI 8) :: st) μ Q := rw_go p31_88 rfl
theorem r31_92 : RR 31 92 L (.ref q2 :: .ref q :: st) (S, b, M, D, F) Q ↔ S[q]? = some (.inl 9) ∧ RR 31 95 L st (S, b, M, D, am_up F q 10 (some q2)) Q := rw_c p31_92 rfl
theorem r31_95 : RR 31 95 (.ref q :: l) st μ Q ↔ RR 31 96 (.ref q :: l) (.ref q :: st) μ Q := rw_go p31_95 rfl
theorem r31_96 : RR 31 96 L st μ Q ↔ RR 31 98 L (.int (nI 8) :: st) μ Q := rw_go p31_96 rfl
theorem r31_100 : RR 31 100 L (.ref q2 :: .ref q :: st) (S, b, M, D, F) Q ↔ S[q]? = some (.inl 9) ∧ RR 31 103 L st (S, b, M, D, am_up F q 11 (some q2)) Q := rw_c p31_100 rfl
theorem r31_103 : RR 31 103 (.ref q :: l) st μ Q ↔ RR 31 104 (.ref q :: l) (.ref q :: st) μ Q := rw_go p31_103 rfl
theorem r31_104 : RR 31 104 L st μ Q ↔ RR 31 106 L (.int (nI 8) :: st) μ Q := rw_go p31_104 rfl
theorem r31_108 : RR 31 108 L (.ref q2 :: .ref q :: st) (S, b, M, D, F) Q ↔ S[q]? = some (.inl 9) ∧ RR 31 111 L st (S, b, M, D, am_up F q 12 (some q2)) Q := rw_c p31_108 rfl
theorem r31_111 : RR 31 111 (.ref q :: l) st μ Q ↔ RR 31 112 (.ref q :: l) (.ref q :: st) μ Q := rw_go p31_111 rfl
theorem r31_112 : RR 31 112 L st μ Q ↔ RR 31 113 L (.int (nI 1) :: st) μ Q := rw_go p31_112 rfl
theorem r31_113 : RR 31 113 L (.int x :: .ref q :: st) (S, b, M, D, F) Q ↔ S[q]? = some (.inl 9) ∧ RR 31 116 L st (S, b, am_up M q 14 x, D, F) Q := rw_c p31_113 rfl
theorem r31_116 : RR 31 116 (.ref q :: l) st μ Q ↔ RR 31 117 (.ref q :: l) (.ref q :: st) μ Q := rw_go p31_116 rfl
theorem r31_117 : RR 31 117 L st μ Q ↔ RR 31 120 L (.int (nI 1408) :: st) μ Q := rw_go p31_117 rfl
theorem r31_122 : RR 31 122 L (.ref q2 :: .ref q :: st) (S, b, M, D, F) Q ↔ S[q]? = some (.inl 9) ∧ RR 31 125 L st (S, b, M, D, am_up F q 17 (some q2)) Q := rw_c p31_122 rfl
theorem r31_125 : RR 31 125 (.ref q :: l) st μ Q ↔ RR 31 126 (.ref q :: l) (.ref q :: st) μ Q := rw_go p31_125 rfl
theorem r31_126 : RR 31 126 L st μ Q ↔ RR 31 129 L (.int (nI 1408) :: st) μ Q := rw_go p31_126 rfl
theorem r31_131 : RR 31 131 L (.ref q2 :: .ref q :: st) (S, b, M, D, F) Q ↔ S[q]? = some (.inl 9) ∧ RR 31 134 L st (S, b, M, D, am_up F q 18 (some q2)) Q := rw_c p31_131 rfl
theorem r31_134 : RR 31 134 (.ref q :: l) st μ Q ↔ RR 31 135 (.ref q :: l) (.ref q :: st) μ Q := rw_go p31_134 rfl
theorem r31_135 : RR 31 135 L st μ Q ↔ RR 31 138 L (.int (nI 1408) :: st) μ Q := rw_go p31_135 rfl
theorem r31_140 : RR 31 140 L (.ref q2 :: .ref q :: st) (S, b, M, D, F) Q ↔ S[q]? = some (.inl 9) ∧ RR 31 143 L st (S, b, M, D, am_up F q 19 (some q2)) Q := rw_c p31_140 rfl
theorem r31_143 : RR 31 143 (.ref q :: l) st μ Q ↔ RR 31 144 (.ref q :: l) (.ref q :: st) μ Q := rw_go p31_143 rfl
theorem r31_144 : RR 31 144 L st μ Q ↔ RR 31 147 L (.int (nI 1408) :: st) μ Q := rw_go p31_144 rfl
theorem r31_149 : RR 31 149 L (.ref q2 :: .ref q :: st) (S, b, M, D, F) Q ↔ S[q]? = some (.inl 9) ∧ RR 31 152 L st (S, b, M, D, am_up F q 20 (some q2)) Q := rw_c p31_149 rfl
theorem r31_152 : RR 31 152 (.ref q :: l) st μ Q ↔ RR 31 153 (.ref q :: l) (.ref q :: st) μ Q := rw_go p31_152 rfl
theorem r31_153 : RR 31 153 L st μ Q ↔ RR 31 156 L (.int (nI 1408) :: st) μ Q := rw_go p31_153 rfl
theorem r31_158 : RR 31 158 L (.ref q2 :: .ref q :: st) (S, b, M, D, F) Q ↔ S[q]? = some (.inl 9) ∧ RR 31 161 L st (S, b, M, D, am_up F q 21 (some q2)) Q := rw_c p31_158 rfl
theorem r31_161 : RR 31 161 (.ref q :: l) st μ Q ↔ RR 31 162 (.ref q :: l) (.ref q :: st) μ Q := rw_go p31_161 rfl
theorem r31_162 : RR 31 162 L st μ Q ↔ RR 31 164 L (.int (nI 20) :: st) μ Q := rw_go p31_162 rfl
theorem r31_166 : RR 31 166 L (.ref q2 :: .ref q :: st) (S, b, M, D, F) Q ↔ S[q]? = some (.inl 9) ∧ RR 31 169 L st (S, b, M, D, am_up F q 23 (some q2)) Q := rw_c p31_166 rfl
theorem r31_169 : RR 31 169 (.ref q :: l) st μ Q ↔ RR 31 170 (.ref q :: l) (.ref q :: st) μ Q := rw_go p31_169 rfl
theorem r31_170 : RR 31 170 L st μ Q ↔ RR 31 172 L (.int (nI 42) :: st) μ Q := rw_go p31_170 rfl
theorem r31_174 : RR 31 174 L (.ref q2 :: .ref q :: st) (S, b, M, D, F) Q ↔ S[q]? = some (.inl 9) ∧ RR 31 177 L st (S, b, M, D, am_up F q 24 (some q2)) Q := rw_c p31_174 rfl
theorem r31_177 : RR 31 177 L st μ Q ↔ RR 31 178 L (.int (nI 0) :: st) μ Q := rw_go p31_177 rfl
theorem r31_178 : RR 31 178 (a0 :: c0 :: l) (.int x :: st) μ Q ↔ RR 31 179 (am_nd a0 :: .int x :: l) st μ Q := rw_istn p31_178 (by show 1 < _; simp only [List.length_cons]; omega)
theorem r31_179 : RR 31 179 (a0 :: .int x :: l) st μ Q ↔ RR 31 180 (a0 :: .int x :: l) (.int x :: st) μ Q := rw_go p31_179 rfl
theorem r31_180 : RR 31 180 L st μ Q ↔ RR 31 183 L (.int (nI 384) :: st) μ Q := rw_go p31_180 rfl
theorem r31_183 : RR 31 183 L (.int y :: .int x :: st) μ Q ↔ if y ≤ x then RR 31 199 L st μ Q else RR 31 186 L st μ Q := rw_if p31_183 rfl
theorem r31_186 : RR 31 186 (.ref q :: l) st μ Q ↔ RR 31 187 (.ref q :: l) (.ref q :: st) μ Q := rw_go p31_186 rfl
theorem r31_187 : RR 31 187 L (.ref q :: st) (S, b, M, D, F) Q ↔ S[q]? = some (.inl 9) ∧ RR 31 190 L (va_rf (F q 6) :: st) (S, b, M, D, F) Q := rw_c p31_187 rfl
theorem r31_190 : RR 31 190 (a0 :: .int x :: l) st μ Q ↔ RR 31 191 (a0 :: .int x :: l) (.int x :: st) μ Q := rw_go p31_190 rfl
theorem r31_191 : RR 31 191 L st μ Q ↔ RR 31 192 L (.int ((-1)) :: st) μ Q := rw_go p31_191 rfl
theorem r31_192 : RR 31 192 L (.int x :: .int y :: .ref q :: st) (S, b, M, D, F) Q ↔ am_bs S q 0 y ∧ RR 31 193 L st (S, b, am_up M q y.toInt.toNat x, D, F) Q := rw_c p31_192 (am_xst_eq (f := fun x => x))
theorem r31_193 : RR 31 193 (a0 :: .int x :: l) st μ Q ↔ RR 31 196 (am_nd a0 :: .int (x + nI 1) :: l) st μ Q := rw_go p31_193 rfl
theorem r31_196 : RR 31 196 L st μ Q ↔ RR 31 179 L st μ Q := rw_go p31_196 rfl
theorem r31_199 : RR 31 199 L [] μ Q ↔ Q none μ := rw_r p31_199 rfl
/-! ReleaseDeskModel.in -/
theorem r32_0 : RR 32 0 (.int x :: l) st μ Q ↔ RR 32 1 (.int x :: l) (.int x :: st) μ Q := rw_go p32_0 rfl
theorem r32_1 : RR 32 1 (a0 :: .int x :: l) st μ Q ↔ RR 32 2 (a0 :: .int x :: l) (.int x :: st) μ Q := rw_go p32_1 rfl
theorem r32_2 : RR 32 2 L (.int y :: .int x :: st) μ Q ↔ if x < y then RR 32 14 L st μ Q else RR 32 5 L st μ Q := rw_if p32_2 rfl
theorem r32_5 : RR 32 5 (.int x :: l) st μ Q ↔ RR 32 6 (.int x :: l) (.int x :: st) μ Q := rw_go p32_5 rfl
theorem r32_6 : RR 32 6 (a0 :: a1 :: .int x :: l) st μ Q ↔ RR 32 7 (a0 :: a1 :: .int x :: l) (.int x :: st) μ Q := rw_go p32_6 rfl
theorem r32_7 : RR 32 7 L (.int y :: .int x :: st) μ Q ↔ if y < x then RR 32 14 L st μ Q else RR 32 10 L st μ Q := rw_if p32_7 rfl
theorem r32_10 : RR 32 10 L st μ Q ↔ RR 32 11 L (.int (nI 1) :: st) μ Q := rw_go p32_10 rfl
theorem r32_11 : RR 32 11 L st μ Q ↔ RR 32 15 L st μ Q := rw_go p32_11 rfl
theorem r32_14 : RR 32 14 L st μ Q ↔ RR 32 15 L (.int (nI 0) :: st) μ Q := rw_go p32_14 rfl
theorem r32_15 : RR 32 15 L [.int x] μ Q ↔ (x = 0 ∨ x = 1) ∧ Q (some (.int x)) μ := rw_rc p32_15 rfl
/-! ReleaseDeskModel.isThere -/
theorem r33_0 : RR 33 0 (a0 :: .int x :: l) st μ Q ↔ RR 33 1 (a0 :: .int x :: l) (.int x :: st) μ Q := rw_go p33_0 rfl
theorem r33_1 : RR 33 1 L st μ Q ↔ RR 33 2 L (.int (nI 0) :: st) μ Q := rw_go p33_1 rfl
theorem r33_2 : RR 33 2 L st μ Q ↔ RR 33 3 L (.int (nI 1) :: st) μ Q := rw_go p33_2 rfl
theorem r33_3 : RR 33 3 L (.int x3 :: .int x2 :: .int x1 :: st) (S, (0, 0, sl), M, D, F) Q ↔ (am_cat st ≤ 8 ∧ 3 = 3) ∧ RR 32 0 [.int x1, .int x2, .int x3] [] (S, (0, 0, sl), M, D, F) (fun rv μ' => μ'.1.length = S.length ∧ RR 33 6 L (rv.toList ++ st) (μ'.1, (0, 0, sl), μ'.2.2) Q) := rw_call p33_3 rfl (ac32 x1 x2 x3)
theorem r33_6 : RR 33 6 L (.int x :: st) μ Q ↔ if x = 0 then RR 33 37 L st μ Q else RR 33 9 L st μ Q := rw_if p33_6 rfl
theorem r33_9 : RR 33 9 (a0 :: a1 :: .int x :: l) st μ Q ↔ RR 33 10 (a0 :: a1 :: .int x :: l) (.int x :: st) μ Q := rw_go p33_9 rfl
theorem r33_10 : RR 33 10 L st μ Q ↔ RR 33 11 L (.int (nI 0) :: st) μ Q := rw_go p33_10 rfl
theorem r33_11 : RR 33 11 L st μ Q ↔ RR 33 13 L (.int (nI 7) :: st) μ Q := rw_go p33_11 rfl
theorem r33_13 : RR 33 13 L (.int x3 :: .int x2 :: .int x1 :: st) (S, (0, 0, sl), M, D, F) Q ↔ (am_cat st ≤ 8 ∧ 3 = 3) ∧ RR 32 0 [.int x1, .int x2, .int x3] [] (S, (0, 0, sl), M, D, F) (fun rv μ' => μ'.1.length = S.length ∧ RR 33 16 L (rv.toList ++ st) (μ'.1, (0, 0, sl), μ'.2.2) Q) := rw_call p33_13 rfl (ac32 x1 x2 x3)
theorem r33_16 : RR 33 16 L (.int x :: st) μ Q ↔ if x = 0 then RR 33 37 L st μ Q else RR 33 19 L st μ Q := rw_if p33_16 rfl
theorem r33_19 : RR 33 19 (.ref q :: l) st μ Q ↔ RR 33 20 (.ref q :: l) (.ref q :: st) μ Q := rw_go p33_19 rfl
theorem r33_20 : RR 33 20 L (.ref q :: st) (S, b, M, D, F) Q ↔ S[q]? = some (.inl 9) ∧ RR 33 23 L (va_rf (F q 0) :: st) (S, b, M, D, F) Q := rw_c p33_20 rfl
theorem r33_23 : RR 33 23 L st μ Q ↔ RR 33 25 L (.int (nI 8) :: st) μ Q := rw_go p33_23 rfl
theorem r33_25 : RR 33 25 (a0 :: .int x :: l) st μ Q ↔ RR 33 26 (a0 :: .int x :: l) (.int x :: st) μ Q := rw_go p33_25 rfl
theorem r33_26 : RR 33 26 L (.int y :: .int x :: st) μ Q ↔ RR 33 27 L (.int (x * y) :: st) μ Q := rw_go p33_26 rfl
theorem r33_27 : RR 33 27 (a0 :: a1 :: .int x :: l) st μ Q ↔ RR 33 28 (a0 :: a1 :: .int x :: l) (.int x :: st) μ Q := rw_go p33_27 rfl
theorem r33_28 : RR 33 28 L (.int y :: .int x :: st) μ Q ↔ RR 33 29 L (.int (x + y) :: st) μ Q := rw_go p33_28 rfl
theorem r33_29 : RR 33 29 L (.int x :: .ref q :: st) (S, b, M, D, F) Q ↔ am_bd S b.2.2 q 2 x ∧ RR 33 30 L (.int (M q x.toInt.toNat) :: st) (S, b, M, D, F) Q := rw_c p33_29 am_xld_eq
theorem r33_30 : RR 33 30 L (.int x :: st) μ Q ↔ if x = 0 then RR 33 37 L st μ Q else RR 33 33 L st μ Q := rw_if p33_30 rfl
theorem r33_33 : RR 33 33 L st μ Q ↔ RR 33 34 L (.int (nI 1) :: st) μ Q := rw_go p33_33 rfl
theorem r33_34 : RR 33 34 L st μ Q ↔ RR 33 38 L st μ Q := rw_go p33_34 rfl
theorem r33_37 : RR 33 37 L st μ Q ↔ RR 33 38 L (.int (nI 0) :: st) μ Q := rw_go p33_37 rfl
theorem r33_38 : RR 33 38 L [.int x] μ Q ↔ (x = 0 ∨ x = 1) ∧ Q (some (.int x)) μ := rw_rc p33_38 rfl
/-! ReleaseDeskModel.type -/
theorem r34_0 : RR 34 0 (a0 :: .int x :: l) st μ Q ↔ RR 34 1 (a0 :: .int x :: l) (.int x :: st) μ Q := rw_go p34_0 rfl
theorem r34_1 : RR 34 1 L st μ Q ↔ RR 34 2 L (.int (nI 0) :: st) μ Q := rw_go p34_1 rfl
theorem r34_2 : RR 34 2 L st μ Q ↔ RR 34 3 L (.int (nI 1) :: st) μ Q := rw_go p34_2 rfl
theorem r34_3 : RR 34 3 L (.int x3 :: .int x2 :: .int x1 :: st) (S, (0, 0, sl), M, D, F) Q ↔ (am_cat st ≤ 8 ∧ 3 = 3) ∧ RR 32 0 [.int x1, .int x2, .int x3] [] (S, (0, 0, sl), M, D, F) (fun rv μ' => μ'.1.length = S.length ∧ RR 34 6 L (rv.toList ++ st) (μ'.1, (0, 0, sl), μ'.2.2) Q) := rw_call p34_3 rfl (ac32 x1 x2 x3)
theorem r34_6 : RR 34 6 L (.int x :: st) μ Q ↔ if x = 0 then RR 34 52 L st μ Q else RR 34 9 L st μ Q := rw_if p34_6 rfl
theorem r34_9 : RR 34 9 (a0 :: a1 :: .int x :: l) st μ Q ↔ RR 34 10 (a0 :: a1 :: .int x :: l) (.int x :: st) μ Q := rw_go p34_9 rfl
theorem r34_10 : RR 34 10 L st μ Q ↔ RR 34 11 L (.int (nI 0) :: st) μ Q := rw_go p34_10 rfl
theorem r34_11 : RR 34 11 L st μ Q ↔ RR 34 13 L (.int (nI 7) :: st) μ Q := rw_go p34_11 rfl
theorem r34_13 : RR 34 13 L (.int x3 :: .int x2 :: .int x1 :: st) (S, (0, 0, sl), M, D, F) Q ↔ (am_cat st ≤ 8 ∧ 3 = 3) ∧ RR 32 0 [.int x1, .int x2, .int x3] [] (S, (0, 0, sl), M, D, F) (fun rv μ' => μ'.1.length = S.length ∧ RR 34 16 L (rv.toList ++ st) (μ'.1, (0, 0, sl), μ'.2.2) Q) := rw_call p34_13 rfl (ac32 x1 x2 x3)
theorem r34_16 : RR 34 16 L (.int x :: st) μ Q ↔ if x = 0 then RR 34 52 L st μ Q else RR 34 19 L st μ Q := rw_if p34_16 rfl
theorem r34_19 : RR 34 19 (a0 :: a1 :: a2 :: .int x :: l) st μ Q ↔ RR 34 20 (a0 :: a1 :: a2 :: .int x :: l) (.int x :: st) μ Q := rw_go p34_19 rfl
theorem r34_20 : RR 34 20 L st μ Q ↔ RR 34 21 L (.int (nI 0) :: st) μ Q := rw_go p34_20 rfl
theorem r34_21 : RR 34 21 L st μ Q ↔ RR 34 23 L (.int (nI 47) :: st) μ Q := rw_go p34_21 rfl
theorem r34_23 : RR 34 23 L (.int x3 :: .int x2 :: .int x1 :: st) (S, (0, 0, sl), M, D, F) Q ↔ (am_cat st ≤ 8 ∧ 3 = 3) ∧ RR 32 0 [.int x1, .int x2, .int x3] [] (S, (0, 0, sl), M, D, F) (fun rv μ' => μ'.1.length = S.length ∧ RR 34 26 L (rv.toList ++ st) (μ'.1, (0, 0, sl), μ'.2.2) Q) := rw_call p34_23 rfl (ac32 x1 x2 x3)
theorem r34_26 : RR 34 26 L (.int x :: st) μ Q ↔ if x = 0 then RR 34 52 L st μ Q else RR 34 29 L st μ Q := rw_if p34_26 rfl
theorem r34_29 : RR 34 29 (a0 :: a1 :: a2 :: a3 :: .int x :: l) st μ Q ↔ RR 34 31 (a0 :: a1 :: a2 :: a3 :: .int x :: l) (.int x :: st) μ Q := rw_go p34_29 rfl
theorem r34_31 : RR 34 31 L st μ Q ↔ RR 34 32 L (.int ((-1)) :: st) μ Q := rw_go p34_31 rfl
theorem r34_32 : RR 34 32 L st μ Q ↔ RR 34 34 L (.int (nI 7) :: st) μ Q := rw_go p34_32 rfl
theorem r34_34 : RR 34 34 L (.int x3 :: .int x2 :: .int x1 :: st) (S, (0, 0, sl), M, D, F) Q ↔ (am_cat st ≤ 8 ∧ 3 = 3) ∧ RR 32 0 [.int x1, .int x2, .int x3] [] (S, (0, 0, sl), M, D, F) (fun rv μ' => μ'.1.length = S.length ∧ RR 34 37 L (rv.toList ++ st) (μ'.1, (0, 0, sl), μ'.2.2) Q) := rw_call p34_34 rfl (ac32 x1 x2 x3)
theorem r34_37 : RR 34 37 L (.int x :: st) μ Q ↔ if x = 0 then RR 34 52 L st μ Q else RR 34 40 L st μ Q := rw_if p34_37 rfl
theorem r34_40 : RR 34 40 (a0 :: a1 :: a2 :: a3 :: a4 :: .int x :: l) st μ Q ↔ RR 34 42 (a0 :: a1 :: a2 :: a3 :: a4 :: .int x :: l) (.int x :: st) μ Q := rw_go p34_40 rfl
theorem r34_42 : RR 34 42 L st μ Q ↔ RR 34 43 L (.int (nI 0) :: st) μ Q := rw_go p34_42 rfl
theorem r34_43 : RR 34 43 L st μ Q ↔ RR 34 46 L (.int (nI 255) :: st) μ Q := rw_go p34_43 rfl
theorem r34_46 : RR 34 46 L (.int x3 :: .int x2 :: .int x1 :: st) (S, (0, 0, sl), M, D, F) Q ↔ (am_cat st ≤ 8 ∧ 3 = 3) ∧ RR 32 0 [.int x1, .int x2, .int x3] [] (S, (0, 0, sl), M, D, F) (fun rv μ' => μ'.1.length = S.length ∧ RR 34 49 L (rv.toList ++ st) (μ'.1, (0, 0, sl), μ'.2.2) Q) := rw_call p34_46 rfl (ac32 x1 x2 x3)
theorem r34_49 : RR 34 49 L (.int x :: st) μ Q ↔ if ¬ x = 0 then RR 34 54 L st μ Q else RR 34 52 L st μ Q := rw_if p34_49 rfl
theorem r34_52 : RR 34 52 L st μ Q ↔ RR 34 53 L (.int (nI 0) :: st) μ Q := rw_go p34_52 rfl
theorem r34_53 : RR 34 53 L [.int x] μ Q ↔ (x = 0 ∨ x = 1) ∧ Q (some (.int x)) μ := rw_rc p34_53 rfl
theorem r34_54 : RR 34 54 L st μ Q ↔ RR 34 56 L (.int (nI 8) :: st) μ Q := rw_go p34_54 rfl
theorem r34_56 : RR 34 56 (a0 :: .int x :: l) st μ Q ↔ RR 34 57 (a0 :: .int x :: l) (.int x :: st) μ Q := rw_go p34_56 rfl
theorem r34_57 : RR 34 57 L (.int y :: .int x :: st) μ Q ↔ RR 34 58 L (.int (x * y) :: st) μ Q := rw_go p34_57 rfl
theorem r34_58 : RR 34 58 (a0 :: a1 :: .int x :: l) st μ Q ↔ RR 34 59 (a0 :: a1 :: .int x :: l) (.int x :: st) μ Q := rw_go p34_58 rfl
theorem r34_59 : RR 34 59 L (.int y :: .int x :: st) μ Q ↔ RR 34 60 L (.int (x + y) :: st) μ Q := rw_go p34_59 rfl
theorem r34_60 : RR 34 60 (a0 :: a1 :: a2 :: a3 :: a4 :: a5 :: c0 :: l) (.int x :: st) μ Q ↔ RR 34 62 (a0 :: a1 :: a2 :: a3 :: a4 :: am_nd a5 :: .int x :: l) st μ Q := rw_ist p34_60 (by show 6 < _; simp only [List.length_cons]; omega)
theorem r34_62 : RR 34 62 (.ref q :: l) st μ Q ↔ RR 34 63 (.ref q :: l) (.ref q :: st) μ Q := rw_go p34_62 rfl
theorem r34_63 : RR 34 63 L (.ref q :: st) (S, b, M, D, F) Q ↔ S[q]? = some (.inl 9) ∧ RR 34 66 L (va_rf (F q 0) :: st) (S, b, M, D, F) Q := rw_c p34_63 rfl
theorem r34_66 : RR 34 66 (a0 :: a1 :: a2 :: a3 :: a4 :: a5 :: .int x :: l) st μ Q ↔ RR 34 68 (a0 :: a1 :: a2 :: a3 :: a4 :: a5 :: .int x :: l) (.int x :: st) μ Q := rw_go p34_66 rfl
theorem r34_68 : RR 34 68 L st μ Q ↔ RR 34 69 L (.int (nI 1) :: st) μ Q := rw_go p34_68 rfl
theorem r34_69 : RR 34 69 L (.int x :: .int y :: .ref q :: st) (S, b, M, D, F) Q ↔ am_bs S q 2 y ∧ RR 34 70 L st (S, b, am_up M q y.toInt.toNat (vp_nar .boolean x), D, F) Q := rw_c p34_69 (am_xst_eq (f := fun x => (vp_nar .boolean x)))
theorem r34_70 : RR 34 70 (.ref q :: l) st μ Q ↔ RR 34 71 (.ref q :: l) (.ref q :: st) μ Q := rw_go p34_70 rfl
theorem r34_71 : RR 34 71 L (.ref q :: st) (S, b, M, D, F) Q ↔ S[q]? = some (.inl 9) ∧ RR 34 74 L (va_rf (F q 3) :: st) (S, b, M, D, F) Q := rw_c p34_71 rfl
theorem r34_74 : RR 34 74 (a0 :: a1 :: a2 :: a3 :: a4 :: a5 :: .int x :: l) st μ Q ↔ RR 34 76 (a0 :: a1 :: a2 :: a3 :: a4 :: a5 :: .int x :: l) (.int x :: st) μ Q := rw_go p34_74 rfl
theorem r34_76 : RR 34 76 (a0 :: a1 :: a2 :: .int x :: l) st μ Q ↔ RR 34 77 (a0 :: a1 :: a2 :: .int x :: l) (.int x :: st) μ Q := rw_go p34_76 rfl
theorem r34_77 : RR 34 77 L st μ Q ↔ RR 34 79 L (.int (nI 16) :: st) μ Q := rw_go p34_77 rfl
theorem r34_79 : RR 34 79 L (.int y :: .int x :: st) μ Q ↔ ¬ y = 0 ∧ RR 34 80 L (.int (x / y) :: st) μ Q := rw_n p34_79 rfl
theorem r34_80 : RR 34 80 L (.int x :: .int y :: .ref q :: st) (S, b, M, D, F) Q ↔ am_bs S q 0 y ∧ RR 34 81 L st (S, b, am_up M q y.toInt.toNat x, D, F) Q := rw_c p34_80 (am_xst_eq (f := fun x => x))
theorem r34_81 : RR 34 81 (.ref q :: l) st μ Q ↔ RR 34 82 (.ref q :: l) (.ref q :: st) μ Q := rw_go p34_81 rfl
theorem r34_82 : RR 34 82 L (.ref q :: st) (S, b, M, D, F) Q ↔ S[q]? = some (.inl 9) ∧ RR 34 85 L (va_rf (F q 2) :: st) (S, b, M, D, F) Q := rw_c p34_82 rfl
theorem r34_85 : RR 34 85 (a0 :: a1 :: a2 :: a3 :: a4 :: a5 :: .int x :: l) st μ Q ↔ RR 34 87 (a0 :: a1 :: a2 :: a3 :: a4 :: a5 :: .int x :: l) (.int x :: st) μ Q := rw_go p34_85 rfl
theorem r34_87 : RR 34 87 (a0 :: a1 :: a2 :: .int x :: l) st μ Q ↔ RR 34 88 (a0 :: a1 :: a2 :: .int x :: l) (.int x :: st) μ Q := rw_go p34_87 rfl
theorem r34_88 : RR 34 88 L st μ Q ↔ RR 34 90 L (.int (nI 16) :: st) μ Q := rw_go p34_88 rfl
theorem r34_90 : RR 34 90 L (.int y :: .int x :: st) μ Q ↔ ¬ y = 0 ∧ RR 34 91 L (.int (x - x / y * y) :: st) μ Q := rw_n p34_90 rfl
theorem r34_91 : RR 34 91 L (.int x :: .int y :: .ref q :: st) (S, b, M, D, F) Q ↔ am_bs S q 0 y ∧ RR 34 92 L st (S, b, am_up M q y.toInt.toNat x, D, F) Q := rw_c p34_91 (am_xst_eq (f := fun x => x))
theorem r34_92 : RR 34 92 (.ref q :: l) st μ Q ↔ RR 34 93 (.ref q :: l) (.ref q :: st) μ Q := rw_go p34_92 rfl
theorem r34_93 : RR 34 93 L (.ref q :: st) (S, b, M, D, F) Q ↔ S[q]? = some (.inl 9) ∧ RR 34 96 L (va_rf (F q 4) :: st) (S, b, M, D, F) Q := rw_c p34_93 rfl
theorem r34_96 : RR 34 96 (a0 :: a1 :: a2 :: a3 :: a4 :: a5 :: .int x :: l) st μ Q ↔ RR 34 98 (a0 :: a1 :: a2 :: a3 :: a4 :: a5 :: .int x :: l) (.int x :: st) μ Q := rw_go p34_96 rfl
theorem r34_98 : RR 34 98 (a0 :: a1 :: a2 :: a3 :: .int x :: l) st μ Q ↔ RR 34 100 (a0 :: a1 :: a2 :: a3 :: .int x :: l) (.int x :: st) μ Q := rw_go p34_98 rfl
theorem r34_100 : RR 34 100 L (.int x :: .int y :: .ref q :: st) (S, b, M, D, F) Q ↔ am_bs S q 0 y ∧ RR 34 101 L st (S, b, am_up M q y.toInt.toNat x, D, F) Q := rw_c p34_100 (am_xst_eq (f := fun x => x))
theorem r34_101 : RR 34 101 (.ref q :: l) st μ Q ↔ RR 34 102 (.ref q :: l) (.ref q :: st) μ Q := rw_go p34_101 rfl
theorem r34_102 : RR 34 102 L (.ref q :: st) (S, b, M, D, F) Q ↔ S[q]? = some (.inl 9) ∧ RR 34 105 L (va_rf (F q 5) :: st) (S, b, M, D, F) Q := rw_c p34_102 rfl
theorem r34_105 : RR 34 105 (a0 :: a1 :: a2 :: a3 :: a4 :: a5 :: .int x :: l) st μ Q ↔ RR 34 107 (a0 :: a1 :: a2 :: a3 :: a4 :: a5 :: .int x :: l) (.int x :: st) μ Q := rw_go p34_105 rfl
theorem r34_107 : RR 34 107 (a0 :: a1 :: a2 :: a3 :: a4 :: .int x :: l) st μ Q ↔ RR 34 109 (a0 :: a1 :: a2 :: a3 :: a4 :: .int x :: l) (.int x :: st) μ Q := rw_go p34_107 rfl
theorem r34_109 : RR 34 109 L (.int x :: .int y :: .ref q :: st) (S, b, M, D, F) Q ↔ am_bs S q 0 y ∧ RR 34 110 L st (S, b, am_up M q y.toInt.toNat x, D, F) Q := rw_c p34_109 (am_xst_eq (f := fun x => x))
theorem r34_110 : RR 34 110 L st μ Q ↔ RR 34 111 L (.int (nI 1) :: st) μ Q := rw_go p34_110 rfl
theorem r34_111 : RR 34 111 L [.int x] μ Q ↔ (x = 0 ∨ x = 1) ∧ Q (some (.int x)) μ := rw_rc p34_111 rfl
/-! ReleaseDeskModel.drop -/
theorem r35_0 : RR 35 0 (.ref q :: l) st μ Q ↔ RR 35 1 (.ref q :: l) (.ref q :: st) μ Q := rw_go p35_0 rfl
theorem r35_1 : RR 35 1 (a0 :: .int x :: l) st μ Q ↔ RR 35 2 (a0 :: .int x :: l) (.int x :: st) μ Q := rw_go p35_1 rfl
theorem r35_2 : RR 35 2 (a0 :: a1 :: .int x :: l) st μ Q ↔ RR 35 3 (a0 :: a1 :: .int x :: l) (.int x :: st) μ Q := rw_go p35_2 rfl
theorem r35_3 : RR 35 3 L (.int x2 :: .int x1 :: .ref q :: st) (S, (0, 0, sl), M, D, F) Q ↔ (am_cat st ≤ 8 ∧ 3 = 3 ∧ S[q]? = some (.inl 9)) ∧ RR 33 0 [.ref q, .int x1, .int x2] [] (S, (0, 0, sl), M, D, F) (fun rv μ' => μ'.1.length = S.length ∧ RR 35 6 L (rv.toList ++ st) (μ'.1, (0, 0, sl), μ'.2.2) Q) := rw_call p35_3 rfl (ac33 q x1 x2)
theorem r35_6 : RR 35 6 L (.int x :: st) μ Q ↔ if ¬ x = 0 then RR 35 11 L st μ Q else RR 35 9 L st μ Q := rw_if p35_6 rfl
theorem r35_9 : RR 35 9 L st μ Q ↔ RR 35 10 L (.int (nI 0) :: st) μ Q := rw_go p35_9 rfl
theorem r35_10 : RR 35 10 L [.int x] μ Q ↔ (x = 0 ∨ x = 1) ∧ Q (some (.int x)) μ := rw_rc p35_10 rfl
theorem r35_11 : RR 35 11 (.ref q :: l) st μ Q ↔ RR 35 12 (.ref q :: l) (.ref q :: st) μ Q := rw_go p35_11 rfl
theorem r35_12 : RR 35 12 L (.ref q :: st) (S, b, M, D, F) Q ↔ S[q]? = some (.inl 9) ∧ RR 35 15 L (va_rf (F q 0) :: st) (S, b, M, D, F) Q := rw_c p35_12 rfl
theorem r35_15 : RR 35 15 L st μ Q ↔ RR 35 17 L (.int (nI 8) :: st) μ Q := rw_go p35_15 rfl
theorem r35_17 : RR 35 17 (a0 :: .int x :: l) st μ Q ↔ RR 35 18 (a0 :: .int x :: l) (.int x :: st) μ Q := rw_go p35_17 rfl
theorem r35_18 : RR 35 18 L (.int y :: .int x :: st) μ Q ↔ RR 35 19 L (.int (x * y) :: st) μ Q := rw_go p35_18 rfl
theorem r35_19 : RR 35 19 (a0 :: a1 :: .int x :: l) st μ Q ↔ RR 35 20 (a0 :: a1 :: .int x :: l) (.int x :: st) μ Q := rw_go p35_19 rfl
theorem r35_20 : RR 35 20 L (.int y :: .int x :: st) μ Q ↔ RR 35 21 L (.int (x + y) :: st) μ Q := rw_go p35_20 rfl
theorem r35_21 : RR 35 21 L st μ Q ↔ RR 35 22 L (.int (nI 0) :: st) μ Q := rw_go p35_21 rfl
theorem r35_22 : RR 35 22 L (.int x :: .int y :: .ref q :: st) (S, b, M, D, F) Q ↔ am_bs S q 2 y ∧ RR 35 23 L st (S, b, am_up M q y.toInt.toNat (vp_nar .boolean x), D, F) Q := rw_c p35_22 (am_xst_eq (f := fun x => (vp_nar .boolean x)))
theorem r35_23 : RR 35 23 L st μ Q ↔ RR 35 25 L (.int (nI 24) :: st) μ Q := rw_go p35_23 rfl
theorem r35_25 : RR 35 25 L st μ Q ↔ RR 35 27 L (.int (nI 8) :: st) μ Q := rw_go p35_25 rfl
theorem r35_27 : RR 35 27 (a0 :: .int x :: l) st μ Q ↔ RR 35 28 (a0 :: .int x :: l) (.int x :: st) μ Q := rw_go p35_27 rfl
theorem r35_28 : RR 35 28 L (.int y :: .int x :: st) μ Q ↔ RR 35 29 L (.int (x * y) :: st) μ Q := rw_go p35_28 rfl
theorem r35_29 : RR 35 29 (a0 :: a1 :: .int x :: l) st μ Q ↔ RR 35 30 (a0 :: a1 :: .int x :: l) (.int x :: st) μ Q := rw_go p35_29 rfl
theorem r35_30 : RR 35 30 L (.int y :: .int x :: st) μ Q ↔ RR 35 31 L (.int (x + y) :: st) μ Q := rw_go p35_30 rfl
theorem r35_31 : RR 35 31 L (.int y :: .int x :: st) μ Q ↔ RR 35 32 L (.int (x * y) :: st) μ Q := rw_go p35_31 rfl
theorem r35_32 : RR 35 32 (a0 :: a1 :: a2 :: c0 :: l) (.int x :: st) μ Q ↔ RR 35 33 (a0 :: a1 :: am_nd a2 :: .int x :: l) st μ Q := rw_istn p35_32 (by show 3 < _; simp only [List.length_cons]; omega)
theorem r35_33 : RR 35 33 (a0 :: a1 :: a2 :: .int x :: l) st μ Q ↔ RR 35 34 (a0 :: a1 :: a2 :: .int x :: l) (.int x :: st) μ Q := rw_go p35_33 rfl
theorem r35_34 : RR 35 34 L st μ Q ↔ RR 35 36 L (.int (nI 24) :: st) μ Q := rw_go p35_34 rfl
theorem r35_36 : RR 35 36 L st μ Q ↔ RR 35 38 L (.int (nI 8) :: st) μ Q := rw_go p35_36 rfl
theorem r35_38 : RR 35 38 (a0 :: .int x :: l) st μ Q ↔ RR 35 39 (a0 :: .int x :: l) (.int x :: st) μ Q := rw_go p35_38 rfl
theorem r35_39 : RR 35 39 L (.int y :: .int x :: st) μ Q ↔ RR 35 40 L (.int (x * y) :: st) μ Q := rw_go p35_39 rfl
theorem r35_40 : RR 35 40 (a0 :: a1 :: .int x :: l) st μ Q ↔ RR 35 41 (a0 :: a1 :: .int x :: l) (.int x :: st) μ Q := rw_go p35_40 rfl
theorem r35_41 : RR 35 41 L (.int y :: .int x :: st) μ Q ↔ RR 35 42 L (.int (x + y) :: st) μ Q := rw_go p35_41 rfl
theorem r35_42 : RR 35 42 L (.int y :: .int x :: st) μ Q ↔ RR 35 43 L (.int (x * y) :: st) μ Q := rw_go p35_42 rfl
theorem r35_43 : RR 35 43 L st μ Q ↔ RR 35 45 L (.int (nI 24) :: st) μ Q := rw_go p35_43 rfl
theorem r35_45 : RR 35 45 L (.int y :: .int x :: st) μ Q ↔ RR 35 46 L (.int (x + y) :: st) μ Q := rw_go p35_45 rfl
theorem r35_46 : RR 35 46 L (.int y :: .int x :: st) μ Q ↔ if y ≤ x then RR 35 62 L st μ Q else RR 35 49 L st μ Q := rw_if p35_46 rfl
theorem r35_49 : RR 35 49 (.ref q :: l) st μ Q ↔ RR 35 50 (.ref q :: l) (.ref q :: st) μ Q := rw_go p35_49 rfl
theorem r35_50 : RR 35 50 L (.ref q :: st) (S, b, M, D, F) Q ↔ S[q]? = some (.inl 9) ∧ RR 35 53 L (va_rf (F q 6) :: st) (S, b, M, D, F) Q := rw_c p35_50 rfl
theorem r35_53 : RR 35 53 (a0 :: a1 :: a2 :: .int x :: l) st μ Q ↔ RR 35 54 (a0 :: a1 :: a2 :: .int x :: l) (.int x :: st) μ Q := rw_go p35_53 rfl
theorem r35_54 : RR 35 54 L st μ Q ↔ RR 35 55 L (.int ((-1)) :: st) μ Q := rw_go p35_54 rfl
theorem r35_55 : RR 35 55 L (.int x :: .int y :: .ref q :: st) (S, b, M, D, F) Q ↔ am_bs S q 0 y ∧ RR 35 56 L st (S, b, am_up M q y.toInt.toNat x, D, F) Q := rw_c p35_55 (am_xst_eq (f := fun x => x))
theorem r35_56 : RR 35 56 (a0 :: a1 :: a2 :: .int x :: l) st μ Q ↔ RR 35 59 (a0 :: a1 :: am_nd a2 :: .int (x + nI 1) :: l) st μ Q := rw_go p35_56 rfl
theorem r35_59 : RR 35 59 L st μ Q ↔ RR 35 33 L st μ Q := rw_go p35_59 rfl
theorem r35_62 : RR 35 62 L st μ Q ↔ RR 35 63 L (.int (nI 1) :: st) μ Q := rw_go p35_62 rfl
theorem r35_63 : RR 35 63 L [.int x] μ Q ↔ (x = 0 ∨ x = 1) ∧ Q (some (.int x)) μ := rw_rc p35_63 rfl
/-! ReleaseDeskModel.placeOf -/
theorem r36_0 : RR 36 0 L st μ Q ↔ RR 36 2 L (.int (nI 24) :: st) μ Q := rw_go p36_0 rfl
theorem r36_2 : RR 36 2 L st μ Q ↔ RR 36 4 L (.int (nI 8) :: st) μ Q := rw_go p36_2 rfl
theorem r36_4 : RR 36 4 (.int x :: l) st μ Q ↔ RR 36 5 (.int x :: l) (.int x :: st) μ Q := rw_go p36_4 rfl
theorem r36_5 : RR 36 5 L (.int y :: .int x :: st) μ Q ↔ RR 36 6 L (.int (x * y) :: st) μ Q := rw_go p36_5 rfl
theorem r36_6 : RR 36 6 (a0 :: .int x :: l) st μ Q ↔ RR 36 7 (a0 :: .int x :: l) (.int x :: st) μ Q := rw_go p36_6 rfl
theorem r36_7 : RR 36 7 L (.int y :: .int x :: st) μ Q ↔ RR 36 8 L (.int (x + y) :: st) μ Q := rw_go p36_7 rfl
theorem r36_8 : RR 36 8 L (.int y :: .int x :: st) μ Q ↔ RR 36 9 L (.int (x * y) :: st) μ Q := rw_go p36_8 rfl
theorem r36_9 : RR 36 9 (a0 :: a1 :: .int x :: l) st μ Q ↔ RR 36 10 (a0 :: a1 :: .int x :: l) (.int x :: st) μ Q := rw_go p36_9 rfl
theorem r36_10 : RR 36 10 L (.int y :: .int x :: st) μ Q ↔ RR 36 11 L (.int (x + y) :: st) μ Q := rw_go p36_10 rfl
theorem r36_11 : RR 36 11 L st μ Q ↔ RR 36 12 L (.int (nI 1) :: st) μ Q := rw_go p36_11 rfl
theorem r36_12 : RR 36 12 L (.int y :: .int x :: st) μ Q ↔ RR 36 13 L (.int (x - y) :: st) μ Q := rw_go p36_12 rfl
theorem r36_13 : RR 36 13 L [.int x] μ Q ↔ Q (some (.int x)) μ := rw_r p36_13 rfl
/-! ReleaseDeskModel.member -/
theorem r37_0 : RR 37 0 (.ref q :: l) st μ Q ↔ RR 37 1 (.ref q :: l) (.ref q :: st) μ Q := rw_go p37_0 rfl
theorem r37_1 : RR 37 1 (a0 :: .int x :: l) st μ Q ↔ RR 37 2 (a0 :: .int x :: l) (.int x :: st) μ Q := rw_go p37_1 rfl
theorem r37_2 : RR 37 2 (a0 :: a1 :: .int x :: l) st μ Q ↔ RR 37 3 (a0 :: a1 :: .int x :: l) (.int x :: st) μ Q := rw_go p37_2 rfl
theorem r37_3 : RR 37 3 L (.int x2 :: .int x1 :: .ref q :: st) (S, (0, 0, sl), M, D, F) Q ↔ (am_cat st ≤ 8 ∧ 3 = 3 ∧ S[q]? = some (.inl 9)) ∧ RR 33 0 [.ref q, .int x1, .int x2] [] (S, (0, 0, sl), M, D, F) (fun rv μ' => μ'.1.length = S.length ∧ RR 37 6 L (rv.toList ++ st) (μ'.1, (0, 0, sl), μ'.2.2) Q) := rw_call p37_3 rfl (ac33 q x1 x2)
theorem r37_6 : RR 37 6 L (.int x :: st) μ Q ↔ if x = 0 then RR 37 31 L st μ Q else RR 37 9 L st μ Q := rw_if p37_6 rfl
theorem r37_9 : RR 37 9 (a0 :: a1 :: a2 :: a3 :: .int x :: l) st μ Q ↔ RR 37 11 (a0 :: a1 :: a2 :: a3 :: .int x :: l) (.int x :: st) μ Q := rw_go p37_9 rfl
theorem r37_11 : RR 37 11 L st μ Q ↔ RR 37 12 L (.int (nI 0) :: st) μ Q := rw_go p37_11 rfl
theorem r37_12 : RR 37 12 L st μ Q ↔ RR 37 14 L (.int (nI 11) :: st) μ Q := rw_go p37_12 rfl
theorem r37_14 : RR 37 14 L (.int x3 :: .int x2 :: .int x1 :: st) (S, (0, 0, sl), M, D, F) Q ↔ (am_cat st ≤ 8 ∧ 3 = 3) ∧ RR 32 0 [.int x1, .int x2, .int x3] [] (S, (0, 0, sl), M, D, F) (fun rv μ' => μ'.1.length = S.length ∧ RR 37 17 L (rv.toList ++ st) (μ'.1, (0, 0, sl), μ'.2.2) Q) := rw_call p37_14 rfl (ac32 x1 x2 x3)
theorem r37_17 : RR 37 17 L (.int x :: st) μ Q ↔ if x = 0 then RR 37 31 L st μ Q else RR 37 20 L st μ Q := rw_if p37_17 rfl
theorem r37_20 : RR 37 20 (a0 :: a1 :: a2 :: a3 :: a4 :: .int x :: l) st μ Q ↔ RR 37 22 (a0 :: a1 :: a2 :: a3 :: a4 :: .int x :: l) (.int x :: st) μ Q := rw_go p37_20 rfl
theorem r37_22 : RR 37 22 L st μ Q ↔ RR 37 23 L (.int (nI 0) :: st) μ Q := rw_go p37_22 rfl
theorem r37_23 : RR 37 23 L st μ Q ↔ RR 37 25 L (.int (nI 31) :: st) μ Q := rw_go p37_23 rfl
theorem r37_25 : RR 37 25 L (.int x3 :: .int x2 :: .int x1 :: st) (S, (0, 0, sl), M, D, F) Q ↔ (am_cat st ≤ 8 ∧ 3 = 3) ∧ RR 32 0 [.int x1, .int x2, .int x3] [] (S, (0, 0, sl), M, D, F) (fun rv μ' => μ'.1.length = S.length ∧ RR 37 28 L (rv.toList ++ st) (μ'.1, (0, 0, sl), μ'.2.2) Q) := rw_call p37_25 rfl (ac32 x1 x2 x3)
theorem r37_28 : RR 37 28 L (.int x :: st) μ Q ↔ if ¬ x = 0 then RR 37 33 L st μ Q else RR 37 31 L st μ Q := rw_if p37_28 rfl
theorem r37_31 : RR 37 31 L st μ Q ↔ RR 37 32 L (.int (nI 0) :: st) μ Q := rw_go p37_31 rfl
theorem r37_32 : RR 37 32 L [.int x] μ Q ↔ (x = 0 ∨ x = 1) ∧ Q (some (.int x)) μ := rw_rc p37_32 rfl
theorem r37_33 : RR 37 33 (.ref q :: l) st μ Q ↔ RR 37 34 (.ref q :: l) (.ref q :: st) μ Q := rw_go p37_33 rfl
theorem r37_34 : RR 37 34 L (.ref q :: st) (S, b, M, D, F) Q ↔ S[q]? = some (.inl 9) ∧ RR 37 37 L (va_rf (F q 6) :: st) (S, b, M, D, F) Q := rw_c p37_34 rfl
theorem r37_37 : RR 37 37 (a0 :: .int x :: l) st μ Q ↔ RR 37 38 (a0 :: .int x :: l) (.int x :: st) μ Q := rw_go p37_37 rfl
theorem r37_38 : RR 37 38 (a0 :: a1 :: .int x :: l) st μ Q ↔ RR 37 39 (a0 :: a1 :: .int x :: l) (.int x :: st) μ Q := rw_go p37_38 rfl
theorem r37_39 : RR 37 39 (a0 :: a1 :: a2 :: .int x :: l) st μ Q ↔ RR 37 40 (a0 :: a1 :: a2 :: .int x :: l) (.int x :: st) μ Q := rw_go p37_39 rfl
theorem r37_40 : RR 37 40 L (.int x :: st) μ Q ↔ if x = 0 then RR 37 48 L st μ Q else RR 37 43 L st μ Q := rw_if p37_40 rfl
theorem r37_43 : RR 37 43 L st μ Q ↔ RR 37 45 L (.int (nI 13) :: st) μ Q := rw_go p37_43 rfl
theorem r37_45 : RR 37 45 L st μ Q ↔ RR 37 49 L st μ Q := rw_go p37_45 rfl
theorem r37_48 : RR 37 48 L st μ Q ↔ RR 37 49 L (.int (nI 1) :: st) μ Q := rw_go p37_48 rfl
theorem r37_49 : RR 37 49 (a0 :: a1 :: a2 :: a3 :: .int x :: l) st μ Q ↔ RR 37 51 (a0 :: a1 :: a2 :: a3 :: .int x :: l) (.int x :: st) μ Q := rw_go p37_49 rfl
theorem r37_51 : RR 37 51 L (.int y :: .int x :: st) μ Q ↔ RR 37 52 L (.int (x + y) :: st) μ Q := rw_go p37_51 rfl
theorem r37_52 : RR 37 52 L (.int x3 :: .int x2 :: .int x1 :: st) (S, (0, 0, sl), M, D, F) Q ↔ (am_cat st ≤ 8 ∧ 3 = 3) ∧ RR 36 0 [.int x1, .int x2, .int x3] [] (S, (0, 0, sl), M, D, F) (fun rv μ' => μ'.1.length = S.length ∧ RR 37 55 L (rv.toList ++ st) (μ'.1, (0, 0, sl), μ'.2.2) Q) := rw_call p37_52 rfl (ac36 x1 x2 x3)
theorem r37_55 : RR 37 55 (a0 :: a1 :: a2 :: a3 :: a4 :: .int x :: l) st μ Q ↔ RR 37 57 (a0 :: a1 :: a2 :: a3 :: a4 :: .int x :: l) (.int x :: st) μ Q := rw_go p37_55 rfl
theorem r37_57 : RR 37 57 L (.int x :: .int y :: .ref q :: st) (S, b, M, D, F) Q ↔ am_bs S q 0 y ∧ RR 37 58 L st (S, b, am_up M q y.toInt.toNat x, D, F) Q := rw_c p37_57 (am_xst_eq (f := fun x => x))
theorem r37_58 : RR 37 58 (a0 :: a1 :: a2 :: .int x :: l) st μ Q ↔ RR 37 59 (a0 :: a1 :: a2 :: .int x :: l) (.int x :: st) μ Q := rw_go p37_58 rfl
theorem r37_59 : RR 37 59 L (.int x :: st) μ Q ↔ if ¬ x = 0 then RR 37 80 L st μ Q else RR 37 62 L st μ Q := rw_if p37_59 rfl
theorem r37_62 : RR 37 62 (.ref q :: l) st μ Q ↔ RR 37 63 (.ref q :: l) (.ref q :: st) μ Q := rw_go p37_62 rfl
theorem r37_63 : RR 37 63 L (.ref q :: st) (S, b, M, D, F) Q ↔ S[q]? = some (.inl 9) ∧ RR 37 66 L (va_rf (F q 1) :: st) (S, b, M, D, F) Q := rw_c p37_63 rfl
theorem r37_66 : RR 37 66 L st μ Q ↔ RR 37 68 L (.int (nI 12) :: st) μ Q := rw_go p37_66 rfl
theorem r37_68 : RR 37 68 L st μ Q ↔ RR 37 70 L (.int (nI 8) :: st) μ Q := rw_go p37_68 rfl
theorem r37_70 : RR 37 70 (a0 :: .int x :: l) st μ Q ↔ RR 37 71 (a0 :: .int x :: l) (.int x :: st) μ Q := rw_go p37_70 rfl
theorem r37_71 : RR 37 71 L (.int y :: .int x :: st) μ Q ↔ RR 37 72 L (.int (x * y) :: st) μ Q := rw_go p37_71 rfl
theorem r37_72 : RR 37 72 (a0 :: a1 :: .int x :: l) st μ Q ↔ RR 37 73 (a0 :: a1 :: .int x :: l) (.int x :: st) μ Q := rw_go p37_72 rfl
theorem r37_73 : RR 37 73 L (.int y :: .int x :: st) μ Q ↔ RR 37 74 L (.int (x + y) :: st) μ Q := rw_go p37_73 rfl
theorem r37_74 : RR 37 74 L (.int y :: .int x :: st) μ Q ↔ RR 37 75 L (.int (x * y) :: st) μ Q := rw_go p37_74 rfl
theorem r37_75 : RR 37 75 (a0 :: a1 :: a2 :: a3 :: .int x :: l) st μ Q ↔ RR 37 77 (a0 :: a1 :: a2 :: a3 :: .int x :: l) (.int x :: st) μ Q := rw_go p37_75 rfl
theorem r37_77 : RR 37 77 L (.int y :: .int x :: st) μ Q ↔ RR 37 78 L (.int (x + y) :: st) μ Q := rw_go p37_77 rfl
theorem r37_78 : RR 37 78 L st μ Q ↔ RR 37 79 L (.int (nI 0) :: st) μ Q := rw_go p37_78 rfl
theorem r37_79 : RR 37 79 L (.int x :: .int y :: .ref q :: st) (S, b, M, D, F) Q ↔ am_bs S q 2 y ∧ RR 37 80 L st (S, b, am_up M q y.toInt.toNat (vp_nar .boolean x), D, F) Q := rw_c p37_79 (am_xst_eq (f := fun x => (vp_nar .boolean x)))
theorem r37_80 : RR 37 80 L st μ Q ↔ RR 37 81 L (.int (nI 1) :: st) μ Q := rw_go p37_80 rfl
theorem r37_81 : RR 37 81 L [.int x] μ Q ↔ (x = 0 ∨ x = 1) ∧ Q (some (.int x)) μ := rw_rc p37_81 rfl
/-! ReleaseDeskModel.constant -/
theorem r38_0 : RR 38 0 (.ref q :: l) st μ Q ↔ RR 38 1 (.ref q :: l) (.ref q :: st) μ Q := rw_go p38_0 rfl
theorem r38_1 : RR 38 1 (a0 :: .int x :: l) st μ Q ↔ RR 38 2 (a0 :: .int x :: l) (.int x :: st) μ Q := rw_go p38_1 rfl
theorem r38_2 : RR 38 2 (a0 :: a1 :: .int x :: l) st μ Q ↔ RR 38 3 (a0 :: a1 :: .int x :: l) (.int x :: st) μ Q := rw_go p38_2 rfl
theorem r38_3 : RR 38 3 L (.int x2 :: .int x1 :: .ref q :: st) (S, (0, 0, sl), M, D, F) Q ↔ (am_cat st ≤ 8 ∧ 3 = 3 ∧ S[q]? = some (.inl 9)) ∧ RR 33 0 [.ref q, .int x1, .int x2] [] (S, (0, 0, sl), M, D, F) (fun rv μ' => μ'.1.length = S.length ∧ RR 38 6 L (rv.toList ++ st) (μ'.1, (0, 0, sl), μ'.2.2) Q) := rw_call p38_3 rfl (ac33 q x1 x2)
theorem r38_6 : RR 38 6 L (.int x :: st) μ Q ↔ if x = 0 then RR 38 35 L st μ Q else RR 38 9 L st μ Q := rw_if p38_6 rfl
theorem r38_9 : RR 38 9 (a0 :: a1 :: a2 :: .int x :: l) st μ Q ↔ RR 38 10 (a0 :: a1 :: a2 :: .int x :: l) (.int x :: st) μ Q := rw_go p38_9 rfl
theorem r38_10 : RR 38 10 L st μ Q ↔ RR 38 11 L (.int (nI 0) :: st) μ Q := rw_go p38_10 rfl
theorem r38_11 : RR 38 11 L st μ Q ↔ RR 38 13 L (.int (nI 11) :: st) μ Q := rw_go p38_11 rfl
theorem r38_13 : RR 38 13 L (.int x3 :: .int x2 :: .int x1 :: st) (S, (0, 0, sl), M, D, F) Q ↔ (am_cat st ≤ 8 ∧ 3 = 3) ∧ RR 32 0 [.int x1, .int x2, .int x3] [] (S, (0, 0, sl), M, D, F) (fun rv μ' => μ'.1.length = S.length ∧ RR 38 16 L (rv.toList ++ st) (μ'.1, (0, 0, sl), μ'.2.2) Q) := rw_call p38_13 rfl (ac32 x1 x2 x3)
theorem r38_16 : RR 38 16 L (.int x :: st) μ Q ↔ if x = 0 then RR 38 35 L st μ Q else RR 38 19 L st μ Q := rw_if p38_16 rfl
theorem r38_19 : RR 38 19 (.ref q :: l) st μ Q ↔ RR 38 20 (.ref q :: l) (.ref q :: st) μ Q := rw_go p38_19 rfl
theorem r38_20 : RR 38 20 L (.ref q :: st) (S, b, M, D, F) Q ↔ S[q]? = some (.inl 9) ∧ RR 38 23 L (va_rf (F q 6) :: st) (S, b, M, D, F) Q := rw_c p38_20 rfl
theorem r38_23 : RR 38 23 (a0 :: .int x :: l) st μ Q ↔ RR 38 24 (a0 :: .int x :: l) (.int x :: st) μ Q := rw_go p38_23 rfl
theorem r38_24 : RR 38 24 (a0 :: a1 :: .int x :: l) st μ Q ↔ RR 38 25 (a0 :: a1 :: .int x :: l) (.int x :: st) μ Q := rw_go p38_24 rfl
theorem r38_25 : RR 38 25 L st μ Q ↔ RR 38 26 L (.int (nI 1) :: st) μ Q := rw_go p38_25 rfl
theorem r38_26 : RR 38 26 (a0 :: a1 :: a2 :: .int x :: l) st μ Q ↔ RR 38 27 (a0 :: a1 :: a2 :: .int x :: l) (.int x :: st) μ Q := rw_go p38_26 rfl
theorem r38_27 : RR 38 27 L (.int y :: .int x :: st) μ Q ↔ RR 38 28 L (.int (x + y) :: st) μ Q := rw_go p38_27 rfl
theorem r38_28 : RR 38 28 L (.int x3 :: .int x2 :: .int x1 :: st) (S, (0, 0, sl), M, D, F) Q ↔ (am_cat st ≤ 8 ∧ 3 = 3) ∧ RR 36 0 [.int x1, .int x2, .int x3] [] (S, (0, 0, sl), M, D, F) (fun rv μ' => μ'.1.length = S.length ∧ RR 38 31 L (rv.toList ++ st) (μ'.1, (0, 0, sl), μ'.2.2) Q) := rw_call p38_28 rfl (ac36 x1 x2 x3)
theorem r38_31 : RR 38 31 L (.int x :: .ref q :: st) (S, b, M, D, F) Q ↔ am_bd S b.2.2 q 0 x ∧ RR 38 32 L (.int (M q x.toInt.toNat) :: st) (S, b, M, D, F) Q := rw_c p38_31 am_xld_eq
theorem r38_32 : RR 38 32 L (.int x :: st) μ Q ↔ if 0 ≤ x then RR 38 37 L st μ Q else RR 38 35 L st μ Q := rw_if p38_32 rfl
theorem r38_35 : RR 38 35 L st μ Q ↔ RR 38 36 L (.int (nI 0) :: st) μ Q := rw_go p38_35 rfl
theorem r38_36 : RR 38 36 L [.int x] μ Q ↔ (x = 0 ∨ x = 1) ∧ Q (some (.int x)) μ := rw_rc p38_36 rfl
theorem r38_37 : RR 38 37 (.ref q :: l) st μ Q ↔ RR 38 38 (.ref q :: l) (.ref q :: st) μ Q := rw_go p38_37 rfl
theorem r38_38 : RR 38 38 L (.ref q :: st) (S, b, M, D, F) Q ↔ S[q]? = some (.inl 9) ∧ RR 38 41 L (va_rf (F q 1) :: st) (S, b, M, D, F) Q := rw_c p38_38 rfl
theorem r38_41 : RR 38 41 L st μ Q ↔ RR 38 43 L (.int (nI 12) :: st) μ Q := rw_go p38_41 rfl
theorem r38_43 : RR 38 43 L st μ Q ↔ RR 38 45 L (.int (nI 8) :: st) μ Q := rw_go p38_43 rfl
theorem r38_45 : RR 38 45 (a0 :: .int x :: l) st μ Q ↔ RR 38 46 (a0 :: .int x :: l) (.int x :: st) μ Q := rw_go p38_45 rfl
theorem r38_46 : RR 38 46 L (.int y :: .int x :: st) μ Q ↔ RR 38 47 L (.int (x * y) :: st) μ Q := rw_go p38_46 rfl
theorem r38_47 : RR 38 47 (a0 :: a1 :: .int x :: l) st μ Q ↔ RR 38 48 (a0 :: a1 :: .int x :: l) (.int x :: st) μ Q := rw_go p38_47 rfl
theorem r38_48 : RR 38 48 L (.int y :: .int x :: st) μ Q ↔ RR 38 49 L (.int (x + y) :: st) μ Q := rw_go p38_48 rfl
theorem r38_49 : RR 38 49 L (.int y :: .int x :: st) μ Q ↔ RR 38 50 L (.int (x * y) :: st) μ Q := rw_go p38_49 rfl
theorem r38_50 : RR 38 50 (a0 :: a1 :: a2 :: .int x :: l) st μ Q ↔ RR 38 51 (a0 :: a1 :: a2 :: .int x :: l) (.int x :: st) μ Q := rw_go p38_50 rfl
theorem r38_51 : RR 38 51 L (.int y :: .int x :: st) μ Q ↔ RR 38 52 L (.int (x + y) :: st) μ Q := rw_go p38_51 rfl
theorem r38_52 : RR 38 52 L st μ Q ↔ RR 38 53 L (.int (nI 1) :: st) μ Q := rw_go p38_52 rfl
theorem r38_53 : RR 38 53 L (.int x :: .int y :: .ref q :: st) (S, b, M, D, F) Q ↔ am_bs S q 2 y ∧ RR 38 54 L st (S, b, am_up M q y.toInt.toNat (vp_nar .boolean x), D, F) Q := rw_c p38_53 (am_xst_eq (f := fun x => (vp_nar .boolean x)))
theorem r38_54 : RR 38 54 (.ref q :: l) st μ Q ↔ RR 38 55 (.ref q :: l) (.ref q :: st) μ Q := rw_go p38_54 rfl
theorem r38_55 : RR 38 55 L (.ref q :: st) (S, b, M, D, F) Q ↔ S[q]? = some (.inl 9) ∧ RR 38 58 L (va_rf (F q 7) :: st) (S, b, M, D, F) Q := rw_c p38_55 rfl
theorem r38_58 : RR 38 58 L st μ Q ↔ RR 38 60 L (.int (nI 12) :: st) μ Q := rw_go p38_58 rfl
theorem r38_60 : RR 38 60 L st μ Q ↔ RR 38 62 L (.int (nI 8) :: st) μ Q := rw_go p38_60 rfl
theorem r38_62 : RR 38 62 (a0 :: .int x :: l) st μ Q ↔ RR 38 63 (a0 :: .int x :: l) (.int x :: st) μ Q := rw_go p38_62 rfl
theorem r38_63 : RR 38 63 L (.int y :: .int x :: st) μ Q ↔ RR 38 64 L (.int (x * y) :: st) μ Q := rw_go p38_63 rfl
theorem r38_64 : RR 38 64 (a0 :: a1 :: .int x :: l) st μ Q ↔ RR 38 65 (a0 :: a1 :: .int x :: l) (.int x :: st) μ Q := rw_go p38_64 rfl
theorem r38_65 : RR 38 65 L (.int y :: .int x :: st) μ Q ↔ RR 38 66 L (.int (x + y) :: st) μ Q := rw_go p38_65 rfl
theorem r38_66 : RR 38 66 L (.int y :: .int x :: st) μ Q ↔ RR 38 67 L (.int (x * y) :: st) μ Q := rw_go p38_66 rfl
theorem r38_67 : RR 38 67 (a0 :: a1 :: a2 :: .int x :: l) st μ Q ↔ RR 38 68 (a0 :: a1 :: a2 :: .int x :: l) (.int x :: st) μ Q := rw_go p38_67 rfl
theorem r38_68 : RR 38 68 L (.int y :: .int x :: st) μ Q ↔ RR 38 69 L (.int (x + y) :: st) μ Q := rw_go p38_68 rfl
theorem r38_69 : RR 38 69 (a0 :: a1 :: a2 :: a3 :: .double d :: l) st μ Q ↔ RR 38 71 (a0 :: a1 :: a2 :: a3 :: .double d :: l) (.double d :: st) μ Q := rw_go p38_69 rfl
theorem r38_71 : RR 38 71 L (.double d :: .int y :: .ref q :: st) (S, b, M, D, F) Q ↔ am_bs S q 3 y ∧ RR 38 72 L st (S, b, M, am_up D q y.toInt.toNat d, F) Q := rw_c p38_71 am_dxst_eq
theorem r38_72 : RR 38 72 L st μ Q ↔ RR 38 73 L (.int (nI 1) :: st) μ Q := rw_go p38_72 rfl
theorem r38_73 : RR 38 73 L [.int x] μ Q ↔ (x = 0 ∨ x = 1) ∧ Q (some (.int x)) μ := rw_rc p38_73 rfl
/-! ReleaseDeskModel.remove -/
theorem r39_0 : RR 39 0 (.ref q :: l) st μ Q ↔ RR 39 1 (.ref q :: l) (.ref q :: st) μ Q := rw_go p39_0 rfl
theorem r39_1 : RR 39 1 (a0 :: .int x :: l) st μ Q ↔ RR 39 2 (a0 :: .int x :: l) (.int x :: st) μ Q := rw_go p39_1 rfl
theorem r39_2 : RR 39 2 (a0 :: a1 :: .int x :: l) st μ Q ↔ RR 39 3 (a0 :: a1 :: .int x :: l) (.int x :: st) μ Q := rw_go p39_2 rfl
theorem r39_3 : RR 39 3 L (.int x2 :: .int x1 :: .ref q :: st) (S, (0, 0, sl), M, D, F) Q ↔ (am_cat st ≤ 8 ∧ 3 = 3 ∧ S[q]? = some (.inl 9)) ∧ RR 33 0 [.ref q, .int x1, .int x2] [] (S, (0, 0, sl), M, D, F) (fun rv μ' => μ'.1.length = S.length ∧ RR 39 6 L (rv.toList ++ st) (μ'.1, (0, 0, sl), μ'.2.2) Q) := rw_call p39_3 rfl (ac33 q x1 x2)
theorem r39_6 : RR 39 6 L (.int x :: st) μ Q ↔ if x = 0 then RR 39 20 L st μ Q else RR 39 9 L st μ Q := rw_if p39_6 rfl
theorem r39_9 : RR 39 9 (a0 :: a1 :: a2 :: a3 :: .int x :: l) st μ Q ↔ RR 39 11 (a0 :: a1 :: a2 :: a3 :: .int x :: l) (.int x :: st) μ Q := rw_go p39_9 rfl
theorem r39_11 : RR 39 11 L st μ Q ↔ RR 39 12 L (.int (nI 0) :: st) μ Q := rw_go p39_11 rfl
theorem r39_12 : RR 39 12 L st μ Q ↔ RR 39 14 L (.int (nI 11) :: st) μ Q := rw_go p39_12 rfl
theorem r39_14 : RR 39 14 L (.int x3 :: .int x2 :: .int x1 :: st) (S, (0, 0, sl), M, D, F) Q ↔ (am_cat st ≤ 8 ∧ 3 = 3) ∧ RR 32 0 [.int x1, .int x2, .int x3] [] (S, (0, 0, sl), M, D, F) (fun rv μ' => μ'.1.length = S.length ∧ RR 39 17 L (rv.toList ++ st) (μ'.1, (0, 0, sl), μ'.2.2) Q) := rw_call p39_14 rfl (ac32 x1 x2 x3)
theorem r39_17 : RR 39 17 L (.int x :: st) μ Q ↔ if ¬ x = 0 then RR 39 22 L st μ Q else RR 39 20 L st μ Q := rw_if p39_17 rfl
theorem r39_20 : RR 39 20 L st μ Q ↔ RR 39 21 L (.int (nI 0) :: st) μ Q := rw_go p39_20 rfl
theorem r39_21 : RR 39 21 L [.int x] μ Q ↔ (x = 0 ∨ x = 1) ∧ Q (some (.int x)) μ := rw_rc p39_21 rfl
theorem r39_22 : RR 39 22 (a0 :: .int x :: l) st μ Q ↔ RR 39 23 (a0 :: .int x :: l) (.int x :: st) μ Q := rw_go p39_22 rfl
theorem r39_23 : RR 39 23 (a0 :: a1 :: .int x :: l) st μ Q ↔ RR 39 24 (a0 :: a1 :: .int x :: l) (.int x :: st) μ Q := rw_go p39_23 rfl
theorem r39_24 : RR 39 24 (a0 :: a1 :: a2 :: .int x :: l) st μ Q ↔ RR 39 25 (a0 :: a1 :: a2 :: .int x :: l) (.int x :: st) μ Q := rw_go p39_24 rfl
theorem r39_25 : RR 39 25 L (.int x :: st) μ Q ↔ if x = 0 then RR 39 33 L st μ Q else RR 39 28 L st μ Q := rw_if p39_25 rfl
theorem r39_28 : RR 39 28 L st μ Q ↔ RR 39 30 L (.int (nI 13) :: st) μ Q := rw_go p39_28 rfl
theorem r39_30 : RR 39 30 L st μ Q ↔ RR 39 34 L st μ Q := rw_go p39_30 rfl
theorem r39_33 : RR 39 33 L st μ Q ↔ RR 39 34 L (.int (nI 1) :: st) μ Q := rw_go p39_33 rfl
theorem r39_34 : RR 39 34 (a0 :: a1 :: a2 :: a3 :: .int x :: l) st μ Q ↔ RR 39 36 (a0 :: a1 :: a2 :: a3 :: .int x :: l) (.int x :: st) μ Q := rw_go p39_34 rfl
theorem r39_36 : RR 39 36 L (.int y :: .int x :: st) μ Q ↔ RR 39 37 L (.int (x + y) :: st) μ Q := rw_go p39_36 rfl
theorem r39_37 : RR 39 37 L (.int x3 :: .int x2 :: .int x1 :: st) (S, (0, 0, sl), M, D, F) Q ↔ (am_cat st ≤ 8 ∧ 3 = 3) ∧ RR 36 0 [.int x1, .int x2, .int x3] [] (S, (0, 0, sl), M, D, F) (fun rv μ' => μ'.1.length = S.length ∧ RR 39 40 L (rv.toList ++ st) (μ'.1, (0, 0, sl), μ'.2.2) Q) := rw_call p39_37 rfl (ac36 x1 x2 x3)
theorem r39_40 : RR 39 40 (a0 :: a1 :: a2 :: a3 :: a4 :: c0 :: l) (.int x :: st) μ Q ↔ RR 39 42 (a0 :: a1 :: a2 :: a3 :: am_nd a4 :: .int x :: l) st μ Q := rw_ist p39_40 (by show 5 < _; simp only [List.length_cons]; omega)
theorem r39_42 : RR 39 42 (.ref q :: l) st μ Q ↔ RR 39 43 (.ref q :: l) (.ref q :: st) μ Q := rw_go p39_42 rfl
theorem r39_43 : RR 39 43 L (.ref q :: st) (S, b, M, D, F) Q ↔ S[q]? = some (.inl 9) ∧ RR 39 46 L (va_rf (F q 6) :: st) (S, b, M, D, F) Q := rw_c p39_43 rfl
theorem r39_46 : RR 39 46 (a0 :: a1 :: a2 :: a3 :: a4 :: .int x :: l) st μ Q ↔ RR 39 48 (a0 :: a1 :: a2 :: a3 :: a4 :: .int x :: l) (.int x :: st) μ Q := rw_go p39_46 rfl
theorem r39_48 : RR 39 48 L (.int x :: .ref q :: st) (S, b, M, D, F) Q ↔ am_bd S b.2.2 q 0 x ∧ RR 39 49 L (.int (M q x.toInt.toNat) :: st) (S, b, M, D, F) Q := rw_c p39_48 am_xld_eq
theorem r39_49 : RR 39 49 L (.int x :: st) μ Q ↔ if 0 ≤ x then RR 39 54 L st μ Q else RR 39 52 L st μ Q := rw_if p39_49 rfl
theorem r39_52 : RR 39 52 L st μ Q ↔ RR 39 53 L (.int (nI 0) :: st) μ Q := rw_go p39_52 rfl
theorem r39_53 : RR 39 53 L [.int x] μ Q ↔ (x = 0 ∨ x = 1) ∧ Q (some (.int x)) μ := rw_rc p39_53 rfl
theorem r39_54 : RR 39 54 (.ref q :: l) st μ Q ↔ RR 39 55 (.ref q :: l) (.ref q :: st) μ Q := rw_go p39_54 rfl
theorem r39_55 : RR 39 55 L (.ref q :: st) (S, b, M, D, F) Q ↔ S[q]? = some (.inl 9) ∧ RR 39 58 L (va_rf (F q 6) :: st) (S, b, M, D, F) Q := rw_c p39_55 rfl
theorem r39_58 : RR 39 58 (a0 :: a1 :: a2 :: a3 :: a4 :: .int x :: l) st μ Q ↔ RR 39 60 (a0 :: a1 :: a2 :: a3 :: a4 :: .int x :: l) (.int x :: st) μ Q := rw_go p39_58 rfl
theorem r39_60 : RR 39 60 L st μ Q ↔ RR 39 61 L (.int ((-1)) :: st) μ Q := rw_go p39_60 rfl
theorem r39_61 : RR 39 61 L (.int x :: .int y :: .ref q :: st) (S, b, M, D, F) Q ↔ am_bs S q 0 y ∧ RR 39 62 L st (S, b, am_up M q y.toInt.toNat x, D, F) Q := rw_c p39_61 (am_xst_eq (f := fun x => x))
theorem r39_62 : RR 39 62 L st μ Q ↔ RR 39 63 L (.int (nI 1) :: st) μ Q := rw_go p39_62 rfl
theorem r39_63 : RR 39 63 L [.int x] μ Q ↔ (x = 0 ∨ x = 1) ∧ Q (some (.int x)) μ := rw_rc p39_63 rfl
/-! ReleaseDeskModel.branch -/
theorem r40_0 : RR 40 0 L st μ Q ↔ RR 40 1 L (.int (nI 0) :: st) μ Q := rw_go p40_0 rfl
theorem r40_1 : RR 40 1 (a0 :: c0 :: l) (.int x :: st) μ Q ↔ RR 40 2 (am_nd a0 :: .int x :: l) st μ Q := rw_istn p40_1 (by show 1 < _; simp only [List.length_cons]; omega)
theorem r40_2 : RR 40 2 L st μ Q ↔ RR 40 3 L (.int (nI 0) :: st) μ Q := rw_go p40_2 rfl
theorem r40_3 : RR 40 3 (a0 :: a1 :: c0 :: l) (.int x :: st) μ Q ↔ RR 40 4 (a0 :: am_nd a1 :: .int x :: l) st μ Q := rw_istn p40_3 (by show 2 < _; simp only [List.length_cons]; omega)
theorem r40_4 : RR 40 4 (a0 :: a1 :: .int x :: l) st μ Q ↔ RR 40 5 (a0 :: a1 :: .int x :: l) (.int x :: st) μ Q := rw_go p40_4 rfl
theorem r40_5 : RR 40 5 L st μ Q ↔ RR 40 7 L (.int (nI 8) :: st) μ Q := rw_go p40_5 rfl
theorem r40_7 : RR 40 7 L (.int y :: .int x :: st) μ Q ↔ if y ≤ x then RR 40 91 L st μ Q else RR 40 10 L st μ Q := rw_if p40_7 rfl
theorem r40_10 : RR 40 10 (.ref q :: l) st μ Q ↔ RR 40 11 (.ref q :: l) (.ref q :: st) μ Q := rw_go p40_10 rfl
theorem r40_11 : RR 40 11 L (.ref q :: st) (S, b, M, D, F) Q ↔ S[q]? = some (.inl 9) ∧ RR 40 14 L (va_rf (F q 0) :: st) (S, b, M, D, F) Q := rw_c p40_11 rfl
theorem r40_14 : RR 40 14 L st μ Q ↔ RR 40 16 L (.int (nI 8) :: st) μ Q := rw_go p40_14 rfl
theorem r40_16 : RR 40 16 (a0 :: a1 :: .int x :: l) st μ Q ↔ RR 40 17 (a0 :: a1 :: .int x :: l) (.int x :: st) μ Q := rw_go p40_16 rfl
theorem r40_17 : RR 40 17 L (.int y :: .int x :: st) μ Q ↔ RR 40 18 L (.int (x + y) :: st) μ Q := rw_go p40_17 rfl
theorem r40_18 : RR 40 18 (.ref q :: l) st μ Q ↔ RR 40 19 (.ref q :: l) (.ref q :: st) μ Q := rw_go p40_18 rfl
theorem r40_19 : RR 40 19 L (.ref q :: st) (S, b, M, D, F) Q ↔ S[q]? = some (.inl 9) ∧ RR 40 22 L (va_rf (F q 0) :: st) (S, b, M, D, F) Q := rw_c p40_19 rfl
theorem r40_22 : RR 40 22 (a0 :: a1 :: .int x :: l) st μ Q ↔ RR 40 23 (a0 :: a1 :: .int x :: l) (.int x :: st) μ Q := rw_go p40_22 rfl
theorem r40_23 : RR 40 23 L (.int x :: .ref q :: st) (S, b, M, D, F) Q ↔ am_bd S b.2.2 q 2 x ∧ RR 40 24 L (.int (M q x.toInt.toNat) :: st) (S, b, M, D, F) Q := rw_c p40_23 am_xld_eq
theorem r40_24 : RR 40 24 L (.int x :: .int y :: .ref q :: st) (S, b, M, D, F) Q ↔ am_bs S q 2 y ∧ RR 40 25 L st (S, b, am_up M q y.toInt.toNat (vp_nar .boolean x), D, F) Q := rw_c p40_24 (am_xst_eq (f := fun x => (vp_nar .boolean x)))
theorem r40_25 : RR 40 25 (.ref q :: l) st μ Q ↔ RR 40 26 (.ref q :: l) (.ref q :: st) μ Q := rw_go p40_25 rfl
theorem r40_26 : RR 40 26 L (.ref q :: st) (S, b, M, D, F) Q ↔ S[q]? = some (.inl 9) ∧ RR 40 29 L (va_rf (F q 2) :: st) (S, b, M, D, F) Q := rw_c p40_26 rfl
theorem r40_29 : RR 40 29 L st μ Q ↔ RR 40 31 L (.int (nI 8) :: st) μ Q := rw_go p40_29 rfl
theorem r40_31 : RR 40 31 (a0 :: a1 :: .int x :: l) st μ Q ↔ RR 40 32 (a0 :: a1 :: .int x :: l) (.int x :: st) μ Q := rw_go p40_31 rfl
theorem r40_32 : RR 40 32 L (.int y :: .int x :: st) μ Q ↔ RR 40 33 L (.int (x + y) :: st) μ Q := rw_go p40_32 rfl
theorem r40_33 : RR 40 33 (.ref q :: l) st μ Q ↔ RR 40 34 (.ref q :: l) (.ref q :: st) μ Q := rw_go p40_33 rfl
theorem r40_34 : RR 40 34 L (.ref q :: st) (S, b, M, D, F) Q ↔ S[q]? = some (.inl 9) ∧ RR 40 37 L (va_rf (F q 2) :: st) (S, b, M, D, F) Q := rw_c p40_34 rfl
theorem r40_37 : RR 40 37 (a0 :: a1 :: .int x :: l) st μ Q ↔ RR 40 38 (a0 :: a1 :: .int x :: l) (.int x :: st) μ Q := rw_go p40_37 rfl
theorem r40_38 : RR 40 38 L (.int x :: .ref q :: st) (S, b, M, D, F) Q ↔ am_bd S b.2.2 q 0 x ∧ RR 40 39 L (.int (M q x.toInt.toNat) :: st) (S, b, M, D, F) Q := rw_c p40_38 am_xld_eq
theorem r40_39 : RR 40 39 L (.int x :: .int y :: .ref q :: st) (S, b, M, D, F) Q ↔ am_bs S q 0 y ∧ RR 40 40 L st (S, b, am_up M q y.toInt.toNat x, D, F) Q := rw_c p40_39 (am_xst_eq (f := fun x => x))
theorem r40_40 : RR 40 40 (.ref q :: l) st μ Q ↔ RR 40 41 (.ref q :: l) (.ref q :: st) μ Q := rw_go p40_40 rfl
theorem r40_41 : RR 40 41 L (.ref q :: st) (S, b, M, D, F) Q ↔ S[q]? = some (.inl 9) ∧ RR 40 44 L (va_rf (F q 3) :: st) (S, b, M, D, F) Q := rw_c p40_41 rfl
theorem r40_44 : RR 40 44 L st μ Q ↔ RR 40 46 L (.int (nI 8) :: st) μ Q := rw_go p40_44 rfl
theorem r40_46 : RR 40 46 (a0 :: a1 :: .int x :: l) st μ Q ↔ RR 40 47 (a0 :: a1 :: .int x :: l) (.int x :: st) μ Q := rw_go p40_46 rfl
theorem r40_47 : RR 40 47 L (.int y :: .int x :: st) μ Q ↔ RR 40 48 L (.int (x + y) :: st) μ Q := rw_go p40_47 rfl
theorem r40_48 : RR 40 48 (.ref q :: l) st μ Q ↔ RR 40 49 (.ref q :: l) (.ref q :: st) μ Q := rw_go p40_48 rfl
theorem r40_49 : RR 40 49 L (.ref q :: st) (S, b, M, D, F) Q ↔ S[q]? = some (.inl 9) ∧ RR 40 52 L (va_rf (F q 3) :: st) (S, b, M, D, F) Q := rw_c p40_49 rfl
theorem r40_52 : RR 40 52 (a0 :: a1 :: .int x :: l) st μ Q ↔ RR 40 53 (a0 :: a1 :: .int x :: l) (.int x :: st) μ Q := rw_go p40_52 rfl
theorem r40_53 : RR 40 53 L (.int x :: .ref q :: st) (S, b, M, D, F) Q ↔ am_bd S b.2.2 q 0 x ∧ RR 40 54 L (.int (M q x.toInt.toNat) :: st) (S, b, M, D, F) Q := rw_c p40_53 am_xld_eq
theorem r40_54 : RR 40 54 L (.int x :: .int y :: .ref q :: st) (S, b, M, D, F) Q ↔ am_bs S q 0 y ∧ RR 40 55 L st (S, b, am_up M q y.toInt.toNat x, D, F) Q := rw_c p40_54 (am_xst_eq (f := fun x => x))
theorem r40_55 : RR 40 55 (.ref q :: l) st μ Q ↔ RR 40 56 (.ref q :: l) (.ref q :: st) μ Q := rw_go p40_55 rfl
theorem r40_56 : RR 40 56 L (.ref q :: st) (S, b, M, D, F) Q ↔ S[q]? = some (.inl 9) ∧ RR 40 59 L (va_rf (F q 4) :: st) (S, b, M, D, F) Q := rw_c p40_56 rfl
theorem r40_59 : RR 40 59 L st μ Q ↔ RR 40 61 L (.int (nI 8) :: st) μ Q := rw_go p40_59 rfl
theorem r40_61 : RR 40 61 (a0 :: a1 :: .int x :: l) st μ Q ↔ RR 40 62 (a0 :: a1 :: .int x :: l) (.int x :: st) μ Q := rw_go p40_61 rfl
theorem r40_62 : RR 40 62 L (.int y :: .int x :: st) μ Q ↔ RR 40 63 L (.int (x + y) :: st) μ Q := rw_go p40_62 rfl
theorem r40_63 : RR 40 63 (.ref q :: l) st μ Q ↔ RR 40 64 (.ref q :: l) (.ref q :: st) μ Q := rw_go p40_63 rfl
theorem r40_64 : RR 40 64 L (.ref q :: st) (S, b, M, D, F) Q ↔ S[q]? = some (.inl 9) ∧ RR 40 67 L (va_rf (F q 4) :: st) (S, b, M, D, F) Q := rw_c p40_64 rfl
theorem r40_67 : RR 40 67 (a0 :: a1 :: .int x :: l) st μ Q ↔ RR 40 68 (a0 :: a1 :: .int x :: l) (.int x :: st) μ Q := rw_go p40_67 rfl
theorem r40_68 : RR 40 68 L (.int x :: .ref q :: st) (S, b, M, D, F) Q ↔ am_bd S b.2.2 q 0 x ∧ RR 40 69 L (.int (M q x.toInt.toNat) :: st) (S, b, M, D, F) Q := rw_c p40_68 am_xld_eq
theorem r40_69 : RR 40 69 L (.int x :: .int y :: .ref q :: st) (S, b, M, D, F) Q ↔ am_bs S q 0 y ∧ RR 40 70 L st (S, b, am_up M q y.toInt.toNat x, D, F) Q := rw_c p40_69 (am_xst_eq (f := fun x => x))
theorem r40_70 : RR 40 70 (.ref q :: l) st μ Q ↔ RR 40 71 (.ref q :: l) (.ref q :: st) μ Q := rw_go p40_70 rfl
theorem r40_71 : RR 40 71 L (.ref q :: st) (S, b, M, D, F) Q ↔ S[q]? = some (.inl 9) ∧ RR 40 74 L (va_rf (F q 5) :: st) (S, b, M, D, F) Q := rw_c p40_71 rfl
theorem r40_74 : RR 40 74 L st μ Q ↔ RR 40 76 L (.int (nI 8) :: st) μ Q := rw_go p40_74 rfl
theorem r40_76 : RR 40 76 (a0 :: a1 :: .int x :: l) st μ Q ↔ RR 40 77 (a0 :: a1 :: .int x :: l) (.int x :: st) μ Q := rw_go p40_76 rfl
theorem r40_77 : RR 40 77 L (.int y :: .int x :: st) μ Q ↔ RR 40 78 L (.int (x + y) :: st) μ Q := rw_go p40_77 rfl
theorem r40_78 : RR 40 78 (.ref q :: l) st μ Q ↔ RR 40 79 (.ref q :: l) (.ref q :: st) μ Q := rw_go p40_78 rfl
theorem r40_79 : RR 40 79 L (.ref q :: st) (S, b, M, D, F) Q ↔ S[q]? = some (.inl 9) ∧ RR 40 82 L (va_rf (F q 5) :: st) (S, b, M, D, F) Q := rw_c p40_79 rfl
theorem r40_82 : RR 40 82 (a0 :: a1 :: .int x :: l) st μ Q ↔ RR 40 83 (a0 :: a1 :: .int x :: l) (.int x :: st) μ Q := rw_go p40_82 rfl
theorem r40_83 : RR 40 83 L (.int x :: .ref q :: st) (S, b, M, D, F) Q ↔ am_bd S b.2.2 q 0 x ∧ RR 40 84 L (.int (M q x.toInt.toNat) :: st) (S, b, M, D, F) Q := rw_c p40_83 am_xld_eq
theorem r40_84 : RR 40 84 L (.int x :: .int y :: .ref q :: st) (S, b, M, D, F) Q ↔ am_bs S q 0 y ∧ RR 40 85 L st (S, b, am_up M q y.toInt.toNat x, D, F) Q := rw_c p40_84 (am_xst_eq (f := fun x => x))
theorem r40_85 : RR 40 85 (a0 :: a1 :: .int x :: l) st μ Q ↔ RR 40 88 (a0 :: am_nd a1 :: .int (x + nI 1) :: l) st μ Q := rw_go p40_85 rfl
theorem r40_88 : RR 40 88 L st μ Q ↔ RR 40 4 L st μ Q := rw_go p40_88 rfl
theorem r40_91 : RR 40 91 L st μ Q ↔ RR 40 92 L (.int (nI 0) :: st) μ Q := rw_go p40_91 rfl
theorem r40_92 : RR 40 92 (a0 :: a1 :: c0 :: l) (.int x :: st) μ Q ↔ RR 40 93 (a0 :: am_nd a1 :: .int x :: l) st μ Q := rw_istn p40_92 (by show 2 < _; simp only [List.length_cons]; omega)
theorem r40_93 : RR 40 93 (a0 :: a1 :: .int x :: l) st μ Q ↔ RR 40 94 (a0 :: a1 :: .int x :: l) (.int x :: st) μ Q := rw_go p40_93 rfl
theorem r40_94 : RR 40 94 L st μ Q ↔ RR 40 97 L (.int (nI 192) :: st) μ Q := rw_go p40_94 rfl
theorem r40_97 : RR 40 97 L (.int y :: .int x :: st) μ Q ↔ if y ≤ x then RR 40 134 L st μ Q else RR 40 100 L st μ Q := rw_if p40_97 rfl
theorem r40_100 : RR 40 100 (.ref q :: l) st μ Q ↔ RR 40 101 (.ref q :: l) (.ref q :: st) μ Q := rw_go p40_100 rfl
theorem r40_101 : RR 40 101 L (.ref q :: st) (S, b, M, D, F) Q ↔ S[q]? = some (.inl 9) ∧ RR 40 104 L (va_rf (F q 6) :: st) (S, b, M, D, F) Q := rw_c p40_101 rfl
theorem r40_104 : RR 40 104 L st μ Q ↔ RR 40 107 L (.int (nI 192) :: st) μ Q := rw_go p40_104 rfl
theorem r40_107 : RR 40 107 (a0 :: a1 :: .int x :: l) st μ Q ↔ RR 40 108 (a0 :: a1 :: .int x :: l) (.int x :: st) μ Q := rw_go p40_107 rfl
theorem r40_108 : RR 40 108 L (.int y :: .int x :: st) μ Q ↔ RR 40 109 L (.int (x + y) :: st) μ Q := rw_go p40_108 rfl
theorem r40_109 : RR 40 109 (.ref q :: l) st μ Q ↔ RR 40 110 (.ref q :: l) (.ref q :: st) μ Q := rw_go p40_109 rfl
theorem r40_110 : RR 40 110 L (.ref q :: st) (S, b, M, D, F) Q ↔ S[q]? = some (.inl 9) ∧ RR 40 113 L (va_rf (F q 6) :: st) (S, b, M, D, F) Q := rw_c p40_110 rfl
theorem r40_113 : RR 40 113 (a0 :: a1 :: .int x :: l) st μ Q ↔ RR 40 114 (a0 :: a1 :: .int x :: l) (.int x :: st) μ Q := rw_go p40_113 rfl
theorem r40_114 : RR 40 114 L (.int x :: .ref q :: st) (S, b, M, D, F) Q ↔ am_bd S b.2.2 q 0 x ∧ RR 40 115 L (.int (M q x.toInt.toNat) :: st) (S, b, M, D, F) Q := rw_c p40_114 am_xld_eq
theorem r40_115 : RR 40 115 L (.int x :: .int y :: .ref q :: st) (S, b, M, D, F) Q ↔ am_bs S q 0 y ∧ RR 40 116 L st (S, b, am_up M q y.toInt.toNat x, D, F) Q := rw_c p40_115 (am_xst_eq (f := fun x => x))
theorem r40_116 : RR 40 116 (.ref q :: l) st μ Q ↔ RR 40 117 (.ref q :: l) (.ref q :: st) μ Q := rw_go p40_116 rfl
theorem r40_117 : RR 40 117 L (.ref q :: st) (S, b, M, D, F) Q ↔ S[q]? = some (.inl 9) ∧ RR 40 120 L (va_rf (F q 6) :: st) (S, b, M, D, F) Q := rw_c p40_117 rfl
theorem r40_120 : RR 40 120 (a0 :: a1 :: .int x :: l) st μ Q ↔ RR 40 121 (a0 :: a1 :: .int x :: l) (.int x :: st) μ Q := rw_go p40_120 rfl
theorem r40_121 : RR 40 121 L (.int x :: .ref q :: st) (S, b, M, D, F) Q ↔ am_bd S b.2.2 q 0 x ∧ RR 40 122 L (.int (M q x.toInt.toNat) :: st) (S, b, M, D, F) Q := rw_c p40_121 am_xld_eq
theorem r40_122 : RR 40 122 L (.int x :: st) μ Q ↔ if x < 0 then RR 40 128 L st μ Q else RR 40 125 L st μ Q := rw_if p40_122 rfl
theorem r40_125 : RR 40 125 (a0 :: .int x :: l) st μ Q ↔ RR 40 128 (am_nd a0 :: .int (x + nI 1) :: l) st μ Q := rw_go p40_125 rfl
theorem r40_128 : RR 40 128 (a0 :: a1 :: .int x :: l) st μ Q ↔ RR 40 131 (a0 :: am_nd a1 :: .int (x + nI 1) :: l) st μ Q := rw_go p40_128 rfl
theorem r40_131 : RR 40 131 L st μ Q ↔ RR 40 93 L st μ Q := rw_go p40_131 rfl
theorem r40_134 : RR 40 134 L st μ Q ↔ RR 40 135 L (.int (nI 0) :: st) μ Q := rw_go p40_134 rfl
theorem r40_135 : RR 40 135 (a0 :: a1 :: c0 :: l) (.int x :: st) μ Q ↔ RR 40 136 (a0 :: am_nd a1 :: .int x :: l) st μ Q := rw_istn p40_135 (by show 2 < _; simp only [List.length_cons]; omega)
theorem r40_136 : RR 40 136 (a0 :: a1 :: .int x :: l) st μ Q ↔ RR 40 137 (a0 :: a1 :: .int x :: l) (.int x :: st) μ Q := rw_go p40_136 rfl
theorem r40_137 : RR 40 137 L st μ Q ↔ RR 40 139 L (.int (nI 96) :: st) μ Q := rw_go p40_137 rfl
theorem r40_139 : RR 40 139 L (.int y :: .int x :: st) μ Q ↔ if y ≤ x then RR 40 178 L st μ Q else RR 40 142 L st μ Q := rw_if p40_139 rfl
theorem r40_142 : RR 40 142 (.ref q :: l) st μ Q ↔ RR 40 143 (.ref q :: l) (.ref q :: st) μ Q := rw_go p40_142 rfl
theorem r40_143 : RR 40 143 L (.ref q :: st) (S, b, M, D, F) Q ↔ S[q]? = some (.inl 9) ∧ RR 40 146 L (va_rf (F q 1) :: st) (S, b, M, D, F) Q := rw_c p40_143 rfl
theorem r40_146 : RR 40 146 L st μ Q ↔ RR 40 148 L (.int (nI 96) :: st) μ Q := rw_go p40_146 rfl
theorem r40_148 : RR 40 148 (a0 :: a1 :: .int x :: l) st μ Q ↔ RR 40 149 (a0 :: a1 :: .int x :: l) (.int x :: st) μ Q := rw_go p40_148 rfl
theorem r40_149 : RR 40 149 L (.int y :: .int x :: st) μ Q ↔ RR 40 150 L (.int (x + y) :: st) μ Q := rw_go p40_149 rfl
theorem r40_150 : RR 40 150 (.ref q :: l) st μ Q ↔ RR 40 151 (.ref q :: l) (.ref q :: st) μ Q := rw_go p40_150 rfl
theorem r40_151 : RR 40 151 L (.ref q :: st) (S, b, M, D, F) Q ↔ S[q]? = some (.inl 9) ∧ RR 40 154 L (va_rf (F q 1) :: st) (S, b, M, D, F) Q := rw_c p40_151 rfl
theorem r40_154 : RR 40 154 (a0 :: a1 :: .int x :: l) st μ Q ↔ RR 40 155 (a0 :: a1 :: .int x :: l) (.int x :: st) μ Q := rw_go p40_154 rfl
theorem r40_155 : RR 40 155 L (.int x :: .ref q :: st) (S, b, M, D, F) Q ↔ am_bd S b.2.2 q 2 x ∧ RR 40 156 L (.int (M q x.toInt.toNat) :: st) (S, b, M, D, F) Q := rw_c p40_155 am_xld_eq
theorem r40_156 : RR 40 156 L (.int x :: .int y :: .ref q :: st) (S, b, M, D, F) Q ↔ am_bs S q 2 y ∧ RR 40 157 L st (S, b, am_up M q y.toInt.toNat (vp_nar .boolean x), D, F) Q := rw_c p40_156 (am_xst_eq (f := fun x => (vp_nar .boolean x)))
theorem r40_157 : RR 40 157 (.ref q :: l) st μ Q ↔ RR 40 158 (.ref q :: l) (.ref q :: st) μ Q := rw_go p40_157 rfl
theorem r40_158 : RR 40 158 L (.ref q :: st) (S, b, M, D, F) Q ↔ S[q]? = some (.inl 9) ∧ RR 40 161 L (va_rf (F q 7) :: st) (S, b, M, D, F) Q := rw_c p40_158 rfl
theorem r40_161 : RR 40 161 L st μ Q ↔ RR 40 163 L (.int (nI 96) :: st) μ Q := rw_go p40_161 rfl
theorem r40_163 : RR 40 163 (a0 :: a1 :: .int x :: l) st μ Q ↔ RR 40 164 (a0 :: a1 :: .int x :: l) (.int x :: st) μ Q := rw_go p40_163 rfl
theorem r40_164 : RR 40 164 L (.int y :: .int x :: st) μ Q ↔ RR 40 165 L (.int (x + y) :: st) μ Q := rw_go p40_164 rfl
theorem r40_165 : RR 40 165 (.ref q :: l) st μ Q ↔ RR 40 166 (.ref q :: l) (.ref q :: st) μ Q := rw_go p40_165 rfl
theorem r40_166 : RR 40 166 L (.ref q :: st) (S, b, M, D, F) Q ↔ S[q]? = some (.inl 9) ∧ RR 40 169 L (va_rf (F q 7) :: st) (S, b, M, D, F) Q := rw_c p40_166 rfl
theorem r40_169 : RR 40 169 (a0 :: a1 :: .int x :: l) st μ Q ↔ RR 40 170 (a0 :: a1 :: .int x :: l) (.int x :: st) μ Q := rw_go p40_169 rfl
theorem r40_170 : RR 40 170 L (.int x :: .ref q :: st) (S, b, M, D, F) Q ↔ am_bs S q 3 x ∧ RR 40 171 L (.double (D q x.toInt.toNat) :: st) (S, b, M, D, F) Q := rw_c p40_170 am_dxld_eq
theorem r40_171 : RR 40 171 L (.double d :: .int y :: .ref q :: st) (S, b, M, D, F) Q ↔ am_bs S q 3 y ∧ RR 40 172 L st (S, b, M, am_up D q y.toInt.toNat d, F) Q := rw_c p40_171 am_dxst_eq
theorem r40_172 : RR 40 172 (a0 :: a1 :: .int x :: l) st μ Q ↔ RR 40 175 (a0 :: am_nd a1 :: .int (x + nI 1) :: l) st μ Q := rw_go p40_172 rfl
theorem r40_175 : RR 40 175 L st μ Q ↔ RR 40 136 L st μ Q := rw_go p40_175 rfl
theorem r40_178 : RR 40 178 (a0 :: .int x :: l) st μ Q ↔ RR 40 179 (a0 :: .int x :: l) (.int x :: st) μ Q := rw_go p40_178 rfl
theorem r40_179 : RR 40 179 L [.int x] μ Q ↔ Q (some (.int x)) μ := rw_r p40_179 rfl
/-! ReleaseDeskModel.letter -/
theorem r41_0 : RR 41 0 (a0 :: .int x :: l) st μ Q ↔ RR 41 1 (a0 :: .int x :: l) (.int x :: st) μ Q := rw_go p41_0 rfl
theorem r41_1 : RR 41 1 L st μ Q ↔ RR 41 3 L (.int (nI 33) :: st) μ Q := rw_go p41_1 rfl
theorem r41_3 : RR 41 3 L st μ Q ↔ RR 41 5 L (.int (nI 126) :: st) μ Q := rw_go p41_3 rfl
theorem r41_5 : RR 41 5 L (.int x3 :: .int x2 :: .int x1 :: st) (S, (0, 0, sl), M, D, F) Q ↔ (am_cat st ≤ 8 ∧ 3 = 3) ∧ RR 32 0 [.int x1, .int x2, .int x3] [] (S, (0, 0, sl), M, D, F) (fun rv μ' => μ'.1.length = S.length ∧ RR 41 8 L (rv.toList ++ st) (μ'.1, (0, 0, sl), μ'.2.2) Q) := rw_call p41_5 rfl (ac32 x1 x2 x3)
theorem r41_8 : RR 41 8 L (.int x :: st) μ Q ↔ if ¬ x = 0 then RR 41 13 L st μ Q else RR 41 11 L st μ Q := rw_if p41_8 rfl
theorem r41_11 : RR 41 11 L st μ Q ↔ RR 41 12 L (.int ((-1)) :: st) μ Q := rw_go p41_11 rfl
theorem r41_12 : RR 41 12 L [.int x] μ Q ↔ Q (some (.int x)) μ := rw_r p41_12 rfl
theorem r41_13 : RR 41 13 (.ref q :: l) st μ Q ↔ RR 41 14 (.ref q :: l) (.ref q :: st) μ Q := rw_go p41_13 rfl
theorem r41_14 : RR 41 14 L (.ref q :: st) (S, b, M, D, F) Q ↔ S[q]? = some (.inl 9) ∧ RR 41 17 L (va_rf (F q 9) :: st) (S, b, M, D, F) Q := rw_c p41_14 rfl
theorem r41_17 : RR 41 17 L st μ Q ↔ RR 41 19 L (.int (nI 8) :: st) μ Q := rw_go p41_17 rfl
theorem r41_19 : RR 41 19 L (.int x :: .ref q :: st) (S, b, M, D, F) Q ↔ am_bd S b.2.2 q 0 x ∧ RR 41 20 L (.int (M q x.toInt.toNat) :: st) (S, b, M, D, F) Q := rw_c p41_19 am_xld_eq
theorem r41_20 : RR 41 20 L st μ Q ↔ RR 41 22 L (.int (nI 12) :: st) μ Q := rw_go p41_20 rfl
theorem r41_22 : RR 41 22 L (.int y :: .int x :: st) μ Q ↔ if ¬ x = y then RR 41 28 L st μ Q else RR 41 25 L st μ Q := rw_if p41_22 rfl
theorem r41_25 : RR 41 25 L st μ Q ↔ RR 41 27 L (.int ((-3)) :: st) μ Q := rw_go p41_25 rfl
theorem r41_27 : RR 41 27 L [.int x] μ Q ↔ Q (some (.int x)) μ := rw_r p41_27 rfl
theorem r41_28 : RR 41 28 (.ref q :: l) st μ Q ↔ RR 41 29 (.ref q :: l) (.ref q :: st) μ Q := rw_go p41_28 rfl
theorem r41_29 : RR 41 29 L (.ref q :: st) (S, b, M, D, F) Q ↔ S[q]? = some (.inl 9) ∧ RR 41 32 L (va_rf (F q 8) :: st) (S, b, M, D, F) Q := rw_c p41_29 rfl
theorem r41_32 : RR 41 32 L st μ Q ↔ RR 41 34 L (.int (nI 96) :: st) μ Q := rw_go p41_32 rfl
theorem r41_34 : RR 41 34 (.ref q :: l) st μ Q ↔ RR 41 35 (.ref q :: l) (.ref q :: st) μ Q := rw_go p41_34 rfl
theorem r41_35 : RR 41 35 L (.ref q :: st) (S, b, M, D, F) Q ↔ S[q]? = some (.inl 9) ∧ RR 41 38 L (va_rf (F q 9) :: st) (S, b, M, D, F) Q := rw_c p41_35 rfl
theorem r41_38 : RR 41 38 L st μ Q ↔ RR 41 40 L (.int (nI 8) :: st) μ Q := rw_go p41_38 rfl
theorem r41_40 : RR 41 40 L (.int x :: .ref q :: st) (S, b, M, D, F) Q ↔ am_bd S b.2.2 q 0 x ∧ RR 41 41 L (.int (M q x.toInt.toNat) :: st) (S, b, M, D, F) Q := rw_c p41_40 am_xld_eq
theorem r41_41 : RR 41 41 L (.int y :: .int x :: st) μ Q ↔ RR 41 42 L (.int (x + y) :: st) μ Q := rw_go p41_41 rfl
theorem r41_42 : RR 41 42 (a0 :: .int x :: l) st μ Q ↔ RR 41 43 (a0 :: .int x :: l) (.int x :: st) μ Q := rw_go p41_42 rfl
theorem r41_43 : RR 41 43 L (.int x :: .int y :: .ref q :: st) (S, b, M, D, F) Q ↔ am_bs S q 0 y ∧ RR 41 44 L st (S, b, am_up M q y.toInt.toNat x, D, F) Q := rw_c p41_43 (am_xst_eq (f := fun x => x))
theorem r41_44 : RR 41 44 (.ref q :: l) st μ Q ↔ RR 41 45 (.ref q :: l) (.ref q :: st) μ Q := rw_go p41_44 rfl
theorem r41_45 : RR 41 45 L (.ref q :: st) (S, b, M, D, F) Q ↔ S[q]? = some (.inl 9) ∧ RR 41 48 L (va_rf (F q 9) :: st) (S, b, M, D, F) Q := rw_c p41_45 rfl
theorem r41_48 : RR 41 48 L st μ Q ↔ RR 41 50 L (.int (nI 8) :: st) μ Q := rw_go p41_48 rfl
theorem r41_50 : RR 41 50 L (.int x :: .ref q :: st) μ Q ↔ RR 41 51 L (.int x :: .ref q :: .int x :: .ref q :: st) μ Q := rw_go p41_50 rfl
theorem r41_51 : RR 41 51 L (.int x :: .ref q :: st) (S, b, M, D, F) Q ↔ am_bd S b.2.2 q 0 x ∧ RR 41 52 L (.int (M q x.toInt.toNat) :: st) (S, b, M, D, F) Q := rw_c p41_51 am_xld_eq
theorem r41_52 : RR 41 52 L st μ Q ↔ RR 41 53 L (.int (nI 1) :: st) μ Q := rw_go p41_52 rfl
theorem r41_53 : RR 41 53 L (.int y :: .int x :: st) μ Q ↔ RR 41 54 L (.int (x + y) :: st) μ Q := rw_go p41_53 rfl
theorem r41_54 : RR 41 54 L (.int x :: .int y :: .ref q :: st) (S, b, M, D, F) Q ↔ am_bs S q 0 y ∧ RR 41 55 L st (S, b, am_up M q y.toInt.toNat x, D, F) Q := rw_c p41_54 (am_xst_eq (f := fun x => x))
theorem r41_55 : RR 41 55 (.ref q :: l) st μ Q ↔ RR 41 56 (.ref q :: l) (.ref q :: st) μ Q := rw_go p41_55 rfl
theorem r41_56 : RR 41 56 L (.ref q :: st) (S, b, M, D, F) Q ↔ S[q]? = some (.inl 9) ∧ RR 41 59 L (va_rf (F q 9) :: st) (S, b, M, D, F) Q := rw_c p41_56 rfl
theorem r41_59 : RR 41 59 L st μ Q ↔ RR 41 61 L (.int (nI 8) :: st) μ Q := rw_go p41_59 rfl
theorem r41_61 : RR 41 61 L (.int x :: .ref q :: st) (S, b, M, D, F) Q ↔ am_bd S b.2.2 q 0 x ∧ RR 41 62 L (.int (M q x.toInt.toNat) :: st) (S, b, M, D, F) Q := rw_c p41_61 am_xld_eq
theorem r41_62 : RR 41 62 L [.int x] μ Q ↔ Q (some (.int x)) μ := rw_r p41_62 rfl
/-! ReleaseDeskModel.rule -/
theorem r42_0 : RR 42 0 (a0 :: .int x :: l) st μ Q ↔ RR 42 1 (a0 :: .int x :: l) (.int x :: st) μ Q := rw_go p42_0 rfl
theorem r42_1 : RR 42 1 L st μ Q ↔ RR 42 2 L (.int (nI 1) :: st) μ Q := rw_go p42_1 rfl
theorem r42_2 : RR 42 2 L st μ Q ↔ RR 42 4 L (.int (nI 33) :: st) μ Q := rw_go p42_2 rfl
theorem r42_4 : RR 42 4 L (.int x3 :: .int x2 :: .int x1 :: st) (S, (0, 0, sl), M, D, F) Q ↔ (am_cat st ≤ 8 ∧ 3 = 3) ∧ RR 32 0 [.int x1, .int x2, .int x3] [] (S, (0, 0, sl), M, D, F) (fun rv μ' => μ'.1.length = S.length ∧ RR 42 7 L (rv.toList ++ st) (μ'.1, (0, 0, sl), μ'.2.2) Q) := rw_call p42_4 rfl (ac32 x1 x2 x3)
theorem r42_7 : RR 42 7 L (.int x :: st) μ Q ↔ if x = 0 then RR 42 29 L st μ Q else RR 42 10 L st μ Q := rw_if p42_7 rfl
theorem r42_10 : RR 42 10 (a0 :: a1 :: .int x :: l) st μ Q ↔ RR 42 11 (a0 :: a1 :: .int x :: l) (.int x :: st) μ Q := rw_go p42_10 rfl
theorem r42_11 : RR 42 11 (a0 :: .int x :: l) st μ Q ↔ RR 42 12 (a0 :: .int x :: l) (.int x :: st) μ Q := rw_go p42_11 rfl
theorem r42_12 : RR 42 12 L st μ Q ↔ RR 42 14 L (.int (nI 33) :: st) μ Q := rw_go p42_12 rfl
theorem r42_14 : RR 42 14 L (.int x3 :: .int x2 :: .int x1 :: st) (S, (0, 0, sl), M, D, F) Q ↔ (am_cat st ≤ 8 ∧ 3 = 3) ∧ RR 32 0 [.int x1, .int x2, .int x3] [] (S, (0, 0, sl), M, D, F) (fun rv μ' => μ'.1.length = S.length ∧ RR 42 17 L (rv.toList ++ st) (μ'.1, (0, 0, sl), μ'.2.2) Q) := rw_call p42_14 rfl (ac32 x1 x2 x3)
theorem r42_17 : RR 42 17 L (.int x :: st) μ Q ↔ if x = 0 then RR 42 29 L st μ Q else RR 42 20 L st μ Q := rw_if p42_17 rfl
theorem r42_20 : RR 42 20 (a0 :: a1 :: a2 :: .int x :: l) st μ Q ↔ RR 42 21 (a0 :: a1 :: a2 :: .int x :: l) (.int x :: st) μ Q := rw_go p42_20 rfl
theorem r42_21 : RR 42 21 L st μ Q ↔ RR 42 22 L (.int (nI 0) :: st) μ Q := rw_go p42_21 rfl
theorem r42_22 : RR 42 22 L st μ Q ↔ RR 42 23 L (.int (nI 3) :: st) μ Q := rw_go p42_22 rfl
theorem r42_23 : RR 42 23 L (.int x3 :: .int x2 :: .int x1 :: st) (S, (0, 0, sl), M, D, F) Q ↔ (am_cat st ≤ 8 ∧ 3 = 3) ∧ RR 32 0 [.int x1, .int x2, .int x3] [] (S, (0, 0, sl), M, D, F) (fun rv μ' => μ'.1.length = S.length ∧ RR 42 26 L (rv.toList ++ st) (μ'.1, (0, 0, sl), μ'.2.2) Q) := rw_call p42_23 rfl (ac32 x1 x2 x3)
theorem r42_26 : RR 42 26 L (.int x :: st) μ Q ↔ if ¬ x = 0 then RR 42 31 L st μ Q else RR 42 29 L st μ Q := rw_if p42_26 rfl
theorem r42_29 : RR 42 29 L st μ Q ↔ RR 42 30 L (.int ((-1)) :: st) μ Q := rw_go p42_29 rfl
theorem r42_30 : RR 42 30 L [.int x] μ Q ↔ Q (some (.int x)) μ := rw_r p42_30 rfl
theorem r42_31 : RR 42 31 (.ref q :: l) st μ Q ↔ RR 42 32 (.ref q :: l) (.ref q :: st) μ Q := rw_go p42_31 rfl
theorem r42_32 : RR 42 32 L (.ref q :: st) (S, b, M, D, F) Q ↔ S[q]? = some (.inl 9) ∧ RR 42 35 L (.int (M q 13) :: st) (S, b, M, D, F) Q := rw_c p42_32 rfl
theorem r42_35 : RR 42 35 L st μ Q ↔ RR 42 37 L (.int (nI 8) :: st) μ Q := rw_go p42_35 rfl
theorem r42_37 : RR 42 37 L (.int y :: .int x :: st) μ Q ↔ if ¬ x = y then RR 42 43 L st μ Q else RR 42 40 L st μ Q := rw_if p42_37 rfl
theorem r42_40 : RR 42 40 L st μ Q ↔ RR 42 42 L (.int ((-3)) :: st) μ Q := rw_go p42_40 rfl
theorem r42_42 : RR 42 42 L [.int x] μ Q ↔ Q (some (.int x)) μ := rw_r p42_42 rfl
theorem r42_43 : RR 42 43 L st μ Q ↔ RR 42 44 L (.int (nI 0) :: st) μ Q := rw_go p42_43 rfl
theorem r42_44 : RR 42 44 (a0 :: a1 :: a2 :: a3 :: c0 :: l) (.int x :: st) μ Q ↔ RR 42 46 (a0 :: a1 :: a2 :: am_nd a3 :: .int x :: l) st μ Q := rw_ist p42_44 (by show 4 < _; simp only [List.length_cons]; omega)
theorem r42_46 : RR 42 46 (a0 :: a1 :: a2 :: a3 :: .int x :: l) st μ Q ↔ RR 42 48 (a0 :: a1 :: a2 :: a3 :: .int x :: l) (.int x :: st) μ Q := rw_go p42_46 rfl
theorem r42_48 : RR 42 48 (.ref q :: l) st μ Q ↔ RR 42 49 (.ref q :: l) (.ref q :: st) μ Q := rw_go p42_48 rfl
theorem r42_49 : RR 42 49 L (.ref q :: st) (S, b, M, D, F) Q ↔ S[q]? = some (.inl 9) ∧ RR 42 52 L (va_rf (F q 9) :: st) (S, b, M, D, F) Q := rw_c p42_49 rfl
theorem r42_52 : RR 42 52 L st μ Q ↔ RR 42 54 L (.int (nI 8) :: st) μ Q := rw_go p42_52 rfl
theorem r42_54 : RR 42 54 L (.int x :: .ref q :: st) (S, b, M, D, F) Q ↔ am_bd S b.2.2 q 0 x ∧ RR 42 55 L (.int (M q x.toInt.toNat) :: st) (S, b, M, D, F) Q := rw_c p42_54 am_xld_eq
theorem r42_55 : RR 42 55 L (.int y :: .int x :: st) μ Q ↔ if y ≤ x then RR 42 89 L st μ Q else RR 42 58 L st μ Q := rw_if p42_55 rfl
theorem r42_58 : RR 42 58 (.ref q :: l) st μ Q ↔ RR 42 59 (.ref q :: l) (.ref q :: st) μ Q := rw_go p42_58 rfl
theorem r42_59 : RR 42 59 L (.ref q :: st) (S, b, M, D, F) Q ↔ S[q]? = some (.inl 9) ∧ RR 42 62 L (va_rf (F q 8) :: st) (S, b, M, D, F) Q := rw_c p42_59 rfl
theorem r42_62 : RR 42 62 L st μ Q ↔ RR 42 64 L (.int (nI 12) :: st) μ Q := rw_go p42_62 rfl
theorem r42_64 : RR 42 64 (.ref q :: l) st μ Q ↔ RR 42 65 (.ref q :: l) (.ref q :: st) μ Q := rw_go p42_64 rfl
theorem r42_65 : RR 42 65 L (.ref q :: st) (S, b, M, D, F) Q ↔ S[q]? = some (.inl 9) ∧ RR 42 68 L (.int (M q 13) :: st) (S, b, M, D, F) Q := rw_c p42_65 rfl
theorem r42_68 : RR 42 68 L (.int y :: .int x :: st) μ Q ↔ RR 42 69 L (.int (x * y) :: st) μ Q := rw_go p42_68 rfl
theorem r42_69 : RR 42 69 (a0 :: a1 :: a2 :: a3 :: .int x :: l) st μ Q ↔ RR 42 71 (a0 :: a1 :: a2 :: a3 :: .int x :: l) (.int x :: st) μ Q := rw_go p42_69 rfl
theorem r42_71 : RR 42 71 L (.int y :: .int x :: st) μ Q ↔ RR 42 72 L (.int (x + y) :: st) μ Q := rw_go p42_71 rfl
theorem r42_72 : RR 42 72 (.ref q :: l) st μ Q ↔ RR 42 73 (.ref q :: l) (.ref q :: st) μ Q := rw_go p42_72 rfl
theorem r42_73 : RR 42 73 L (.ref q :: st) (S, b, M, D, F) Q ↔ S[q]? = some (.inl 9) ∧ RR 42 76 L (va_rf (F q 8) :: st) (S, b, M, D, F) Q := rw_c p42_73 rfl
theorem r42_76 : RR 42 76 L st μ Q ↔ RR 42 78 L (.int (nI 96) :: st) μ Q := rw_go p42_76 rfl
theorem r42_78 : RR 42 78 (a0 :: a1 :: a2 :: a3 :: .int x :: l) st μ Q ↔ RR 42 80 (a0 :: a1 :: a2 :: a3 :: .int x :: l) (.int x :: st) μ Q := rw_go p42_78 rfl
theorem r42_80 : RR 42 80 L (.int y :: .int x :: st) μ Q ↔ RR 42 81 L (.int (x + y) :: st) μ Q := rw_go p42_80 rfl
theorem r42_81 : RR 42 81 L (.int x :: .ref q :: st) (S, b, M, D, F) Q ↔ am_bd S b.2.2 q 0 x ∧ RR 42 82 L (.int (M q x.toInt.toNat) :: st) (S, b, M, D, F) Q := rw_c p42_81 am_xld_eq
theorem r42_82 : RR 42 82 L (.int x :: .int y :: .ref q :: st) (S, b, M, D, F) Q ↔ am_bs S q 0 y ∧ RR 42 83 L st (S, b, am_up M q y.toInt.toNat x, D, F) Q := rw_c p42_82 (am_xst_eq (f := fun x => x))
theorem r42_83 : RR 42 83 (a0 :: a1 :: a2 :: a3 :: .int x :: l) st μ Q ↔ RR 42 86 (a0 :: a1 :: a2 :: am_nd a3 :: .int (x + nI 1) :: l) st μ Q := rw_go p42_83 rfl
theorem r42_86 : RR 42 86 L st μ Q ↔ RR 42 46 L st μ Q := rw_go p42_86 rfl
theorem r42_89 : RR 42 89 (.ref q :: l) st μ Q ↔ RR 42 90 (.ref q :: l) (.ref q :: st) μ Q := rw_go p42_89 rfl
theorem r42_90 : RR 42 90 L (.ref q :: st) (S, b, M, D, F) Q ↔ S[q]? = some (.inl 9) ∧ RR 42 93 L (va_rf (F q 9) :: st) (S, b, M, D, F) Q := rw_c p42_90 rfl
theorem r42_93 : RR 42 93 (.ref q :: l) st μ Q ↔ RR 42 94 (.ref q :: l) (.ref q :: st) μ Q := rw_go p42_93 rfl
theorem r42_94 : RR 42 94 L (.ref q :: st) (S, b, M, D, F) Q ↔ S[q]? = some (.inl 9) ∧ RR 42 97 L (.int (M q 13) :: st) (S, b, M, D, F) Q := rw_c p42_94 rfl
theorem r42_97 : RR 42 97 (.ref q :: l) st μ Q ↔ RR 42 98 (.ref q :: l) (.ref q :: st) μ Q := rw_go p42_97 rfl
theorem r42_98 : RR 42 98 L (.ref q :: st) (S, b, M, D, F) Q ↔ S[q]? = some (.inl 9) ∧ RR 42 101 L (va_rf (F q 9) :: st) (S, b, M, D, F) Q := rw_c p42_98 rfl
theorem r42_101 : RR 42 101 L st μ Q ↔ RR 42 103 L (.int (nI 8) :: st) μ Q := rw_go p42_101 rfl
theorem r42_103 : RR 42 103 L (.int x :: .ref q :: st) (S, b, M, D, F) Q ↔ am_bd S b.2.2 q 0 x ∧ RR 42 104 L (.int (M q x.toInt.toNat) :: st) (S, b, M, D, F) Q := rw_c p42_103 am_xld_eq
theorem r42_104 : RR 42 104 L (.int x :: .int y :: .ref q :: st) (S, b, M, D, F) Q ↔ am_bs S q 0 y ∧ RR 42 105 L st (S, b, am_up M q y.toInt.toNat x, D, F) Q := rw_c p42_104 (am_xst_eq (f := fun x => x))
theorem r42_105 : RR 42 105 (.ref q :: l) st μ Q ↔ RR 42 106 (.ref q :: l) (.ref q :: st) μ Q := rw_go p42_105 rfl
theorem r42_106 : RR 42 106 L (.ref q :: st) (S, b, M, D, F) Q ↔ S[q]? = some (.inl 9) ∧ RR 42 109 L (va_rf (F q 9) :: st) (S, b, M, D, F) Q := rw_c p42_106 rfl
theorem r42_109 : RR 42 109 L st μ Q ↔ RR 42 111 L (.int (nI 8) :: st) μ Q := rw_go p42_109 rfl
theorem r42_111 : RR 42 111 L st μ Q ↔ RR 42 112 L (.int (nI 0) :: st) μ Q := rw_go p42_111 rfl
theorem r42_112 : RR 42 112 L (.int x :: .int y :: .ref q :: st) (S, b, M, D, F) Q ↔ am_bs S q 0 y ∧ RR 42 113 L st (S, b, am_up M q y.toInt.toNat x, D, F) Q := rw_c p42_112 (am_xst_eq (f := fun x => x))
theorem r42_113 : RR 42 113 (.ref q :: l) st μ Q ↔ RR 42 114 (.ref q :: l) (.ref q :: st) μ Q := rw_go p42_113 rfl
theorem r42_114 : RR 42 114 L (.ref q :: st) (S, b, M, D, F) Q ↔ S[q]? = some (.inl 9) ∧ RR 42 117 L (va_rf (F q 10) :: st) (S, b, M, D, F) Q := rw_c p42_114 rfl
theorem r42_117 : RR 42 117 (.ref q :: l) st μ Q ↔ RR 42 118 (.ref q :: l) (.ref q :: st) μ Q := rw_go p42_117 rfl
theorem r42_118 : RR 42 118 L (.ref q :: st) (S, b, M, D, F) Q ↔ S[q]? = some (.inl 9) ∧ RR 42 121 L (.int (M q 13) :: st) (S, b, M, D, F) Q := rw_c p42_118 rfl
theorem r42_121 : RR 42 121 (a0 :: .int x :: l) st μ Q ↔ RR 42 122 (a0 :: .int x :: l) (.int x :: st) μ Q := rw_go p42_121 rfl
theorem r42_122 : RR 42 122 L (.int x :: .int y :: .ref q :: st) (S, b, M, D, F) Q ↔ am_bs S q 0 y ∧ RR 42 123 L st (S, b, am_up M q y.toInt.toNat x, D, F) Q := rw_c p42_122 (am_xst_eq (f := fun x => x))
theorem r42_123 : RR 42 123 (.ref q :: l) st μ Q ↔ RR 42 124 (.ref q :: l) (.ref q :: st) μ Q := rw_go p42_123 rfl
theorem r42_124 : RR 42 124 L (.ref q :: st) (S, b, M, D, F) Q ↔ S[q]? = some (.inl 9) ∧ RR 42 127 L (va_rf (F q 11) :: st) (S, b, M, D, F) Q := rw_c p42_124 rfl
theorem r42_127 : RR 42 127 (.ref q :: l) st μ Q ↔ RR 42 128 (.ref q :: l) (.ref q :: st) μ Q := rw_go p42_127 rfl
theorem r42_128 : RR 42 128 L (.ref q :: st) (S, b, M, D, F) Q ↔ S[q]? = some (.inl 9) ∧ RR 42 131 L (.int (M q 13) :: st) (S, b, M, D, F) Q := rw_c p42_128 rfl
theorem r42_131 : RR 42 131 (a0 :: a1 :: .int x :: l) st μ Q ↔ RR 42 132 (a0 :: a1 :: .int x :: l) (.int x :: st) μ Q := rw_go p42_131 rfl
theorem r42_132 : RR 42 132 L (.int x :: .int y :: .ref q :: st) (S, b, M, D, F) Q ↔ am_bs S q 0 y ∧ RR 42 133 L st (S, b, am_up M q y.toInt.toNat x, D, F) Q := rw_c p42_132 (am_xst_eq (f := fun x => x))
theorem r42_133 : RR 42 133 (.ref q :: l) st μ Q ↔ RR 42 134 (.ref q :: l) (.ref q :: st) μ Q := rw_go p42_133 rfl
theorem r42_134 : RR 42 134 L (.ref q :: st) (S, b, M, D, F) Q ↔ S[q]? = some (.inl 9) ∧ RR 42 137 L (va_rf (F q 12) :: st) (S, b, M, D, F) Q := rw_c p42_134 rfl
theorem r42_137 : RR 42 137 (.ref q :: l) st μ Q ↔ RR 42 138 (.ref q :: l) (.ref q :: st) μ Q := rw_go p42_137 rfl
theorem r42_138 : RR 42 138 L (.ref q :: st) (S, b, M, D, F) Q ↔ S[q]? = some (.inl 9) ∧ RR 42 141 L (.int (M q 13) :: st) (S, b, M, D, F) Q := rw_c p42_138 rfl
theorem r42_141 : RR 42 141 (a0 :: a1 :: a2 :: .int x :: l) st μ Q ↔ RR 42 142 (a0 :: a1 :: a2 :: .int x :: l) (.int x :: st) μ Q := rw_go p42_141 rfl
theorem r42_142 : RR 42 142 L (.int x :: .int y :: .ref q :: st) (S, b, M, D, F) Q ↔ am_bs S q 0 y ∧ RR 42 143 L st (S, b, am_up M q y.toInt.toNat x, D, F) Q := rw_c p42_142 (am_xst_eq (f := fun x => x))
theorem r42_143 : RR 42 143 (.ref q :: l) st μ Q ↔ RR 42 144 (.ref q :: l) (.ref q :: st) μ Q := rw_go p42_143 rfl
theorem r42_144 : RR 42 144 L (.ref q :: st) μ Q ↔ RR 42 145 L (.ref q :: .ref q :: st) μ Q := rw_go p42_144 rfl
theorem r42_144i : RR 42 144 L (.int x :: st) μ Q ↔ RR 42 145 L (.int x :: .int x :: st) μ Q := rw_go p42_144 rfl
theorem r42_145 : RR 42 145 L (.ref q :: st) (S, b, M, D, F) Q ↔ S[q]? = some (.inl 9) ∧ RR 42 148 L (.int (M q 13) :: st) (S, b, M, D, F) Q := rw_c p42_145 rfl
theorem r42_148 : RR 42 148 L st μ Q ↔ RR 42 149 L (.int (nI 1) :: st) μ Q := rw_go p42_148 rfl
theorem r42_149 : RR 42 149 L (.int y :: .int x :: st) μ Q ↔ RR 42 150 L (.int (x + y) :: st) μ Q := rw_go p42_149 rfl
theorem r42_150 : RR 42 150 L (.int x :: .ref q :: st) (S, b, M, D, F) Q ↔ S[q]? = some (.inl 9) ∧ RR 42 153 L st (S, b, am_up M q 13 x, D, F) Q := rw_c p42_150 rfl
theorem r42_153 : RR 42 153 (.ref q :: l) st μ Q ↔ RR 42 154 (.ref q :: l) (.ref q :: st) μ Q := rw_go p42_153 rfl
theorem r42_154 : RR 42 154 L (.ref q :: st) (S, b, M, D, F) Q ↔ S[q]? = some (.inl 9) ∧ RR 42 157 L (.int (M q 13) :: st) (S, b, M, D, F) Q := rw_c p42_154 rfl
theorem r42_157 : RR 42 157 L [.int x] μ Q ↔ Q (some (.int x)) μ := rw_r p42_157 rfl
/-! ReleaseDeskModel.clear -/
theorem r43_0 : RR 43 0 (.ref q :: l) st μ Q ↔ RR 43 1 (.ref q :: l) (.ref q :: st) μ Q := rw_go p43_0 rfl
theorem r43_1 : RR 43 1 L (.ref q :: st) (S, b, M, D, F) Q ↔ S[q]? = some (.inl 9) ∧ RR 43 4 L (.int (M q 13) :: st) (S, b, M, D, F) Q := rw_c p43_1 rfl
theorem r43_4 : RR 43 4 (a0 :: c0 :: l) (.int x :: st) μ Q ↔ RR 43 5 (am_nd a0 :: .int x :: l) st μ Q := rw_istn p43_4 (by show 1 < _; simp only [List.length_cons]; omega)
theorem r43_5 : RR 43 5 (.ref q :: l) st μ Q ↔ RR 43 6 (.ref q :: l) (.ref q :: st) μ Q := rw_go p43_5 rfl
theorem r43_6 : RR 43 6 L st μ Q ↔ RR 43 7 L (.int (nI 0) :: st) μ Q := rw_go p43_6 rfl
theorem r43_7 : RR 43 7 L (.int x :: .ref q :: st) (S, b, M, D, F) Q ↔ S[q]? = some (.inl 9) ∧ RR 43 10 L st (S, b, am_up M q 13 x, D, F) Q := rw_c p43_7 rfl
theorem r43_10 : RR 43 10 (.ref q :: l) st μ Q ↔ RR 43 11 (.ref q :: l) (.ref q :: st) μ Q := rw_go p43_10 rfl
theorem r43_11 : RR 43 11 L (.ref q :: st) (S, b, M, D, F) Q ↔ S[q]? = some (.inl 9) ∧ RR 43 14 L (va_rf (F q 9) :: st) (S, b, M, D, F) Q := rw_c p43_11 rfl
theorem r43_14 : RR 43 14 L st μ Q ↔ RR 43 16 L (.int (nI 8) :: st) μ Q := rw_go p43_14 rfl
theorem r43_16 : RR 43 16 L st μ Q ↔ RR 43 17 L (.int (nI 0) :: st) μ Q := rw_go p43_16 rfl
theorem r43_17 : RR 43 17 L (.int x :: .int y :: .ref q :: st) (S, b, M, D, F) Q ↔ am_bs S q 0 y ∧ RR 43 18 L st (S, b, am_up M q y.toInt.toNat x, D, F) Q := rw_c p43_17 (am_xst_eq (f := fun x => x))
theorem r43_18 : RR 43 18 (a0 :: .int x :: l) st μ Q ↔ RR 43 19 (a0 :: .int x :: l) (.int x :: st) μ Q := rw_go p43_18 rfl
theorem r43_19 : RR 43 19 L [.int x] μ Q ↔ Q (some (.int x)) μ := rw_r p43_19 rfl
/-! ReleaseDeskModel.version -/
theorem r44_0 : RR 44 0 (a0 :: .int x :: l) st μ Q ↔ RR 44 1 (a0 :: .int x :: l) (.int x :: st) μ Q := rw_go p44_0 rfl
theorem r44_1 : RR 44 1 L st μ Q ↔ RR 44 2 L (.int (nI 0) :: st) μ Q := rw_go p44_1 rfl
theorem r44_2 : RR 44 2 L st μ Q ↔ RR 44 5 L (.int (nI 999) :: st) μ Q := rw_go p44_2 rfl
theorem r44_5 : RR 44 5 L (.int x3 :: .int x2 :: .int x1 :: st) (S, (0, 0, sl), M, D, F) Q ↔ (am_cat st ≤ 8 ∧ 3 = 3) ∧ RR 32 0 [.int x1, .int x2, .int x3] [] (S, (0, 0, sl), M, D, F) (fun rv μ' => μ'.1.length = S.length ∧ RR 44 8 L (rv.toList ++ st) (μ'.1, (0, 0, sl), μ'.2.2) Q) := rw_call p44_5 rfl (ac32 x1 x2 x3)
theorem r44_8 : RR 44 8 L (.int x :: st) μ Q ↔ if x = 0 then RR 44 33 L st μ Q else RR 44 11 L st μ Q := rw_if p44_8 rfl
theorem r44_11 : RR 44 11 (a0 :: a1 :: .int x :: l) st μ Q ↔ RR 44 12 (a0 :: a1 :: .int x :: l) (.int x :: st) μ Q := rw_go p44_11 rfl
theorem r44_12 : RR 44 12 L st μ Q ↔ RR 44 13 L (.int (nI 0) :: st) μ Q := rw_go p44_12 rfl
theorem r44_13 : RR 44 13 L st μ Q ↔ RR 44 16 L (.int (nI 999) :: st) μ Q := rw_go p44_13 rfl
theorem r44_16 : RR 44 16 L (.int x3 :: .int x2 :: .int x1 :: st) (S, (0, 0, sl), M, D, F) Q ↔ (am_cat st ≤ 8 ∧ 3 = 3) ∧ RR 32 0 [.int x1, .int x2, .int x3] [] (S, (0, 0, sl), M, D, F) (fun rv μ' => μ'.1.length = S.length ∧ RR 44 19 L (rv.toList ++ st) (μ'.1, (0, 0, sl), μ'.2.2) Q) := rw_call p44_16 rfl (ac32 x1 x2 x3)
theorem r44_19 : RR 44 19 L (.int x :: st) μ Q ↔ if x = 0 then RR 44 33 L st μ Q else RR 44 22 L st μ Q := rw_if p44_19 rfl
theorem r44_22 : RR 44 22 (a0 :: a1 :: a2 :: .int x :: l) st μ Q ↔ RR 44 23 (a0 :: a1 :: a2 :: .int x :: l) (.int x :: st) μ Q := rw_go p44_22 rfl
theorem r44_23 : RR 44 23 L st μ Q ↔ RR 44 24 L (.int (nI 0) :: st) μ Q := rw_go p44_23 rfl
theorem r44_24 : RR 44 24 L st μ Q ↔ RR 44 27 L (.int (nI 999) :: st) μ Q := rw_go p44_24 rfl
theorem r44_27 : RR 44 27 L (.int x3 :: .int x2 :: .int x1 :: st) (S, (0, 0, sl), M, D, F) Q ↔ (am_cat st ≤ 8 ∧ 3 = 3) ∧ RR 32 0 [.int x1, .int x2, .int x3] [] (S, (0, 0, sl), M, D, F) (fun rv μ' => μ'.1.length = S.length ∧ RR 44 30 L (rv.toList ++ st) (μ'.1, (0, 0, sl), μ'.2.2) Q) := rw_call p44_27 rfl (ac32 x1 x2 x3)
theorem r44_30 : RR 44 30 L (.int x :: st) μ Q ↔ if ¬ x = 0 then RR 44 35 L st μ Q else RR 44 33 L st μ Q := rw_if p44_30 rfl
theorem r44_33 : RR 44 33 L st μ Q ↔ RR 44 34 L (.int (nI 0) :: st) μ Q := rw_go p44_33 rfl
theorem r44_34 : RR 44 34 L [.int x] μ Q ↔ (x = 0 ∨ x = 1) ∧ Q (some (.int x)) μ := rw_rc p44_34 rfl
theorem r44_35 : RR 44 35 (.ref q :: l) st μ Q ↔ RR 44 36 (.ref q :: l) (.ref q :: st) μ Q := rw_go p44_35 rfl
theorem r44_36 : RR 44 36 (a0 :: .int x :: l) st μ Q ↔ RR 44 37 (a0 :: .int x :: l) (.int x :: st) μ Q := rw_go p44_36 rfl
theorem r44_37 : RR 44 37 L (.int x :: .ref q :: st) (S, b, M, D, F) Q ↔ S[q]? = some (.inl 9) ∧ RR 44 40 L st (S, b, am_up M q 14 x, D, F) Q := rw_c p44_37 rfl
theorem r44_40 : RR 44 40 (.ref q :: l) st μ Q ↔ RR 44 41 (.ref q :: l) (.ref q :: st) μ Q := rw_go p44_40 rfl
theorem r44_41 : RR 44 41 (a0 :: a1 :: .int x :: l) st μ Q ↔ RR 44 42 (a0 :: a1 :: .int x :: l) (.int x :: st) μ Q := rw_go p44_41 rfl
theorem r44_42 : RR 44 42 L (.int x :: .ref q :: st) (S, b, M, D, F) Q ↔ S[q]? = some (.inl 9) ∧ RR 44 45 L st (S, b, am_up M q 15 x, D, F) Q := rw_c p44_42 rfl
theorem r44_45 : RR 44 45 (.ref q :: l) st μ Q ↔ RR 44 46 (.ref q :: l) (.ref q :: st) μ Q := rw_go p44_45 rfl
theorem r44_46 : RR 44 46 (a0 :: a1 :: a2 :: .int x :: l) st μ Q ↔ RR 44 47 (a0 :: a1 :: a2 :: .int x :: l) (.int x :: st) μ Q := rw_go p44_46 rfl
theorem r44_47 : RR 44 47 L (.int x :: .ref q :: st) (S, b, M, D, F) Q ↔ S[q]? = some (.inl 9) ∧ RR 44 50 L st (S, b, am_up M q 16 x, D, F) Q := rw_c p44_47 rfl
theorem r44_50 : RR 44 50 L st μ Q ↔ RR 44 51 L (.int (nI 1) :: st) μ Q := rw_go p44_50 rfl
theorem r44_51 : RR 44 51 L [.int x] μ Q ↔ (x = 0 ∨ x = 1) ∧ Q (some (.int x)) μ := rw_rc p44_51 rfl
/-! ReleaseDeskModel.suffix -/
theorem r45_0 : RR 45 0 (.int x :: l) st μ Q ↔ RR 45 1 (.int x :: l) (.int x :: st) μ Q := rw_go p45_0 rfl
theorem r45_1 : RR 45 1 L st μ Q ↔ RR 45 2 L (.int (nI 1) :: st) μ Q := rw_go p45_1 rfl
theorem r45_2 : RR 45 2 L (.int y :: .int x :: st) μ Q ↔ RR 45 3 L (.int (x - y) :: st) μ Q := rw_go p45_2 rfl
theorem r45_3 : RR 45 3 L st μ Q ↔ RR 45 4 L (.int (nI 3) :: st) μ Q := rw_go p45_3 rfl
theorem r45_4 : RR 45 4 L (.int y :: .int x :: st) μ Q ↔ ¬ y = 0 ∧ RR 45 5 L (.int (x - x / y * y) :: st) μ Q := rw_n p45_4 rfl
theorem r45_5 : RR 45 5 (a0 :: a1 :: c0 :: l) (.int x :: st) μ Q ↔ RR 45 6 (a0 :: am_nd a1 :: .int x :: l) st μ Q := rw_istn p45_5 (by show 2 < _; simp only [List.length_cons]; omega)
theorem r45_6 : RR 45 6 (.int x :: l) st μ Q ↔ RR 45 7 (.int x :: l) (.int x :: st) μ Q := rw_go p45_6 rfl
theorem r45_7 : RR 45 7 L st μ Q ↔ RR 45 9 L (.int (nI 12) :: st) μ Q := rw_go p45_7 rfl
theorem r45_9 : RR 45 9 L (.int y :: .int x :: st) μ Q ↔ if x ≤ y then RR 45 135 L st μ Q else RR 45 12 L st μ Q := rw_if p45_9 rfl
theorem r45_12 : RR 45 12 (a0 :: .int x :: l) st μ Q ↔ RR 45 13 (a0 :: .int x :: l) (.int x :: st) μ Q := rw_go p45_12 rfl
theorem r45_13 : RR 45 13 L (.int x :: st) μ Q ↔ if ¬ x = 0 then RR 45 19 L st μ Q else RR 45 16 L st μ Q := rw_if p45_13 rfl
theorem r45_16 : RR 45 16 L st μ Q ↔ RR 45 18 L (.int (nI 40) :: st) μ Q := rw_go p45_16 rfl
theorem r45_18 : RR 45 18 L [.int x] μ Q ↔ Q (some (.int x)) μ := rw_r p45_18 rfl
theorem r45_19 : RR 45 19 (a0 :: a1 :: .int x :: l) st μ Q ↔ RR 45 20 (a0 :: a1 :: .int x :: l) (.int x :: st) μ Q := rw_go p45_19 rfl
theorem r45_20 : RR 45 20 L (.int x :: st) μ Q ↔ if ¬ x = 0 then RR 45 27 L st μ Q else RR 45 23 L st μ Q := rw_if p45_20 rfl
theorem r45_23 : RR 45 23 L st μ Q ↔ RR 45 24 L (.int (nI 0) :: st) μ Q := rw_go p45_23 rfl
theorem r45_24 : RR 45 24 L st μ Q ↔ RR 45 38 L st μ Q := rw_go p45_24 rfl
theorem r45_27 : RR 45 27 (a0 :: a1 :: .int x :: l) st μ Q ↔ RR 45 28 (a0 :: a1 :: .int x :: l) (.int x :: st) μ Q := rw_go p45_27 rfl
theorem r45_28 : RR 45 28 L st μ Q ↔ RR 45 29 L (.int (nI 1) :: st) μ Q := rw_go p45_28 rfl
theorem r45_29 : RR 45 29 L (.int y :: .int x :: st) μ Q ↔ if ¬ x = y then RR 45 36 L st μ Q else RR 45 32 L st μ Q := rw_if p45_29 rfl
theorem r45_32 : RR 45 32 L st μ Q ↔ RR 45 33 L (.int (nI 3) :: st) μ Q := rw_go p45_32 rfl
theorem r45_33 : RR 45 33 L st μ Q ↔ RR 45 38 L st μ Q := rw_go p45_33 rfl
theorem r45_36 : RR 45 36 L st μ Q ↔ RR 45 38 L (.int (nI 8) :: st) μ Q := rw_go p45_36 rfl
theorem r45_38 : RR 45 38 (a0 :: a1 :: a2 :: c0 :: l) (.int x :: st) μ Q ↔ RR 45 39 (a0 :: a1 :: am_nd a2 :: .int x :: l) st μ Q := rw_istn p45_38 (by show 3 < _; simp only [List.length_cons]; omega)
theorem r45_39 : RR 45 39 (a0 :: .int x :: l) st μ Q ↔ RR 45 40 (a0 :: .int x :: l) (.int x :: st) μ Q := rw_go p45_39 rfl
theorem r45_40 : RR 45 40 (a0 :: a1 :: a2 :: .int x :: l) st μ Q ↔ RR 45 41 (a0 :: a1 :: a2 :: .int x :: l) (.int x :: st) μ Q := rw_go p45_40 rfl
theorem r45_41 : RR 45 41 L st μ Q ↔ RR 45 42 L (.int (nI 1) :: st) μ Q := rw_go p45_41 rfl
theorem r45_42 : RR 45 42 L (.int y :: .int x :: st) μ Q ↔ RR 45 43 L (.int (x + y) :: st) μ Q := rw_go p45_42 rfl
theorem r45_43 : RR 45 43 L (.int y :: .int x :: st) μ Q ↔ if ¬ x = y then RR 45 49 L st μ Q else RR 45 46 L st μ Q := rw_if p45_43 rfl
theorem r45_46 : RR 45 46 L st μ Q ↔ RR 45 48 L (.int (nI 41) :: st) μ Q := rw_go p45_46 rfl
theorem r45_48 : RR 45 48 L [.int x] μ Q ↔ Q (some (.int x)) μ := rw_r p45_48 rfl
theorem r45_49 : RR 45 49 (a0 :: .int x :: l) st μ Q ↔ RR 45 50 (a0 :: .int x :: l) (.int x :: st) μ Q := rw_go p45_49 rfl
theorem r45_50 : RR 45 50 (a0 :: a1 :: a2 :: .int x :: l) st μ Q ↔ RR 45 51 (a0 :: a1 :: a2 :: .int x :: l) (.int x :: st) μ Q := rw_go p45_50 rfl
theorem r45_51 : RR 45 51 L st μ Q ↔ RR 45 52 L (.int (nI 1) :: st) μ Q := rw_go p45_51 rfl
theorem r45_52 : RR 45 52 L (.int y :: .int x :: st) μ Q ↔ RR 45 53 L (.int (x + y) :: st) μ Q := rw_go p45_52 rfl
theorem r45_53 : RR 45 53 L (.int y :: .int x :: st) μ Q ↔ if x ≤ y then RR 45 60 L st μ Q else RR 45 56 L st μ Q := rw_if p45_53 rfl
theorem r45_56 : RR 45 56 L st μ Q ↔ RR 45 57 L (.int ((-1)) :: st) μ Q := rw_go p45_56 rfl
theorem r45_57 : RR 45 57 L st μ Q ↔ RR 45 134 L st μ Q := rw_go p45_57 rfl
theorem r45_60 : RR 45 60 (a0 :: .int x :: l) st μ Q ↔ RR 45 61 (a0 :: .int x :: l) (.int x :: st) μ Q := rw_go p45_60 rfl
theorem r45_61 : RR 45 61 L st μ Q ↔ RR 45 62 L (.int (nI 1) :: st) μ Q := rw_go p45_61 rfl
theorem r45_62 : RR 45 62 L (.int y :: .int x :: st) μ Q ↔ if ¬ x = y then RR 45 70 L st μ Q else RR 45 65 L st μ Q := rw_if p45_62 rfl
theorem r45_65 : RR 45 65 L st μ Q ↔ RR 45 67 L (.int (nI 105) :: st) μ Q := rw_go p45_65 rfl
theorem r45_67 : RR 45 67 L st μ Q ↔ RR 45 134 L st μ Q := rw_go p45_67 rfl
theorem r45_70 : RR 45 70 (a0 :: .int x :: l) st μ Q ↔ RR 45 71 (a0 :: .int x :: l) (.int x :: st) μ Q := rw_go p45_70 rfl
theorem r45_71 : RR 45 71 L st μ Q ↔ RR 45 72 L (.int (nI 2) :: st) μ Q := rw_go p45_71 rfl
theorem r45_72 : RR 45 72 L (.int y :: .int x :: st) μ Q ↔ if ¬ x = y then RR 45 80 L st μ Q else RR 45 75 L st μ Q := rw_if p45_72 rfl
theorem r45_75 : RR 45 75 L st μ Q ↔ RR 45 77 L (.int (nI 110) :: st) μ Q := rw_go p45_75 rfl
theorem r45_77 : RR 45 77 L st μ Q ↔ RR 45 134 L st μ Q := rw_go p45_77 rfl
theorem r45_80 : RR 45 80 (a0 :: .int x :: l) st μ Q ↔ RR 45 81 (a0 :: .int x :: l) (.int x :: st) μ Q := rw_go p45_80 rfl
theorem r45_81 : RR 45 81 L st μ Q ↔ RR 45 82 L (.int (nI 3) :: st) μ Q := rw_go p45_81 rfl
theorem r45_82 : RR 45 82 L (.int y :: .int x :: st) μ Q ↔ if ¬ x = y then RR 45 90 L st μ Q else RR 45 85 L st μ Q := rw_if p45_82 rfl
theorem r45_85 : RR 45 85 L st μ Q ↔ RR 45 87 L (.int (nI 116) :: st) μ Q := rw_go p45_85 rfl
theorem r45_87 : RR 45 87 L st μ Q ↔ RR 45 134 L st μ Q := rw_go p45_87 rfl
theorem r45_90 : RR 45 90 (a0 :: .int x :: l) st μ Q ↔ RR 45 91 (a0 :: .int x :: l) (.int x :: st) μ Q := rw_go p45_90 rfl
theorem r45_91 : RR 45 91 L st μ Q ↔ RR 45 92 L (.int (nI 4) :: st) μ Q := rw_go p45_91 rfl
theorem r45_92 : RR 45 92 L (.int y :: .int x :: st) μ Q ↔ if ¬ x = y then RR 45 100 L st μ Q else RR 45 95 L st μ Q := rw_if p45_92 rfl
theorem r45_95 : RR 45 95 L st μ Q ↔ RR 45 97 L (.int (nI 44) :: st) μ Q := rw_go p45_95 rfl
theorem r45_97 : RR 45 97 L st μ Q ↔ RR 45 134 L st μ Q := rw_go p45_97 rfl
theorem r45_100 : RR 45 100 (a0 :: .int x :: l) st μ Q ↔ RR 45 101 (a0 :: .int x :: l) (.int x :: st) μ Q := rw_go p45_100 rfl
theorem r45_101 : RR 45 101 L st μ Q ↔ RR 45 102 L (.int (nI 5) :: st) μ Q := rw_go p45_101 rfl
theorem r45_102 : RR 45 102 L (.int y :: .int x :: st) μ Q ↔ if ¬ x = y then RR 45 110 L st μ Q else RR 45 105 L st μ Q := rw_if p45_102 rfl
theorem r45_105 : RR 45 105 L st μ Q ↔ RR 45 107 L (.int (nI 108) :: st) μ Q := rw_go p45_105 rfl
theorem r45_107 : RR 45 107 L st μ Q ↔ RR 45 134 L st μ Q := rw_go p45_107 rfl
theorem r45_110 : RR 45 110 (a0 :: .int x :: l) st μ Q ↔ RR 45 111 (a0 :: .int x :: l) (.int x :: st) μ Q := rw_go p45_110 rfl
theorem r45_111 : RR 45 111 L st μ Q ↔ RR 45 113 L (.int (nI 6) :: st) μ Q := rw_go p45_111 rfl
theorem r45_113 : RR 45 113 L (.int y :: .int x :: st) μ Q ↔ if ¬ x = y then RR 45 121 L st μ Q else RR 45 116 L st μ Q := rw_if p45_113 rfl
theorem r45_116 : RR 45 116 L st μ Q ↔ RR 45 118 L (.int (nI 111) :: st) μ Q := rw_go p45_116 rfl
theorem r45_118 : RR 45 118 L st μ Q ↔ RR 45 134 L st μ Q := rw_go p45_118 rfl
theorem r45_121 : RR 45 121 (a0 :: .int x :: l) st μ Q ↔ RR 45 122 (a0 :: .int x :: l) (.int x :: st) μ Q := rw_go p45_121 rfl
theorem r45_122 : RR 45 122 L st μ Q ↔ RR 45 124 L (.int (nI 7) :: st) μ Q := rw_go p45_122 rfl
theorem r45_124 : RR 45 124 L (.int y :: .int x :: st) μ Q ↔ if ¬ x = y then RR 45 132 L st μ Q else RR 45 127 L st μ Q := rw_if p45_124 rfl
theorem r45_127 : RR 45 127 L st μ Q ↔ RR 45 129 L (.int (nI 110) :: st) μ Q := rw_go p45_127 rfl
theorem r45_129 : RR 45 129 L st μ Q ↔ RR 45 134 L st μ Q := rw_go p45_129 rfl
theorem r45_132 : RR 45 132 L st μ Q ↔ RR 45 134 L (.int (nI 103) :: st) μ Q := rw_go p45_132 rfl
theorem r45_134 : RR 45 134 L [.int x] μ Q ↔ Q (some (.int x)) μ := rw_r p45_134 rfl
theorem r45_135 : RR 45 135 (a0 :: .int x :: l) st μ Q ↔ RR 45 136 (a0 :: .int x :: l) (.int x :: st) μ Q := rw_go p45_135 rfl
theorem r45_136 : RR 45 136 L (.int x :: st) μ Q ↔ if ¬ x = 0 then RR 45 142 L st μ Q else RR 45 139 L st μ Q := rw_if p45_136 rfl
theorem r45_139 : RR 45 139 L st μ Q ↔ RR 45 141 L (.int (nI 58) :: st) μ Q := rw_go p45_139 rfl
theorem r45_141 : RR 45 141 L [.int x] μ Q ↔ Q (some (.int x)) μ := rw_r p45_141 rfl
theorem r45_142 : RR 45 142 (a0 :: a1 :: .int x :: l) st μ Q ↔ RR 45 143 (a0 :: a1 :: .int x :: l) (.int x :: st) μ Q := rw_go p45_142 rfl
theorem r45_143 : RR 45 143 L (.int x :: st) μ Q ↔ if ¬ x = 0 then RR 45 178 L st μ Q else RR 45 146 L st μ Q := rw_if p45_143 rfl
theorem r45_146 : RR 45 146 (a0 :: .int x :: l) st μ Q ↔ RR 45 147 (a0 :: .int x :: l) (.int x :: st) μ Q := rw_go p45_146 rfl
theorem r45_147 : RR 45 147 L st μ Q ↔ RR 45 148 L (.int (nI 1) :: st) μ Q := rw_go p45_147 rfl
theorem r45_148 : RR 45 148 L (.int y :: .int x :: st) μ Q ↔ if ¬ x = y then RR 45 156 L st μ Q else RR 45 151 L st μ Q := rw_if p45_148 rfl
theorem r45_151 : RR 45 151 L st μ Q ↔ RR 45 153 L (.int (nI 105) :: st) μ Q := rw_go p45_151 rfl
theorem r45_153 : RR 45 153 L st μ Q ↔ RR 45 177 L st μ Q := rw_go p45_153 rfl
theorem r45_156 : RR 45 156 (a0 :: .int x :: l) st μ Q ↔ RR 45 157 (a0 :: .int x :: l) (.int x :: st) μ Q := rw_go p45_156 rfl
theorem r45_157 : RR 45 157 L st μ Q ↔ RR 45 158 L (.int (nI 2) :: st) μ Q := rw_go p45_157 rfl
theorem r45_158 : RR 45 158 L (.int y :: .int x :: st) μ Q ↔ if ¬ x = y then RR 45 166 L st μ Q else RR 45 161 L st μ Q := rw_if p45_158 rfl
theorem r45_161 : RR 45 161 L st μ Q ↔ RR 45 163 L (.int (nI 110) :: st) μ Q := rw_go p45_161 rfl
theorem r45_163 : RR 45 163 L st μ Q ↔ RR 45 177 L st μ Q := rw_go p45_163 rfl
theorem r45_166 : RR 45 166 (a0 :: .int x :: l) st μ Q ↔ RR 45 167 (a0 :: .int x :: l) (.int x :: st) μ Q := rw_go p45_166 rfl
theorem r45_167 : RR 45 167 L st μ Q ↔ RR 45 168 L (.int (nI 3) :: st) μ Q := rw_go p45_167 rfl
theorem r45_168 : RR 45 168 L (.int y :: .int x :: st) μ Q ↔ if ¬ x = y then RR 45 176 L st μ Q else RR 45 171 L st μ Q := rw_if p45_168 rfl
theorem r45_171 : RR 45 171 L st μ Q ↔ RR 45 173 L (.int (nI 116) :: st) μ Q := rw_go p45_171 rfl
theorem r45_173 : RR 45 173 L st μ Q ↔ RR 45 177 L st μ Q := rw_go p45_173 rfl
theorem r45_176 : RR 45 176 L st μ Q ↔ RR 45 177 L (.int ((-1)) :: st) μ Q := rw_go p45_176 rfl
theorem r45_177 : RR 45 177 L [.int x] μ Q ↔ Q (some (.int x)) μ := rw_r p45_177 rfl
theorem r45_178 : RR 45 178 (a0 :: a1 :: .int x :: l) st μ Q ↔ RR 45 179 (a0 :: a1 :: .int x :: l) (.int x :: st) μ Q := rw_go p45_178 rfl
theorem r45_179 : RR 45 179 L st μ Q ↔ RR 45 180 L (.int (nI 1) :: st) μ Q := rw_go p45_179 rfl
theorem r45_180 : RR 45 180 L (.int y :: .int x :: st) μ Q ↔ if ¬ x = y then RR 45 225 L st μ Q else RR 45 183 L st μ Q := rw_if p45_180 rfl
theorem r45_183 : RR 45 183 (a0 :: .int x :: l) st μ Q ↔ RR 45 184 (a0 :: .int x :: l) (.int x :: st) μ Q := rw_go p45_183 rfl
theorem r45_184 : RR 45 184 L st μ Q ↔ RR 45 185 L (.int (nI 1) :: st) μ Q := rw_go p45_184 rfl
theorem r45_185 : RR 45 185 L (.int y :: .int x :: st) μ Q ↔ if ¬ x = y then RR 45 193 L st μ Q else RR 45 188 L st μ Q := rw_if p45_185 rfl
theorem r45_188 : RR 45 188 L st μ Q ↔ RR 45 190 L (.int (nI 108) :: st) μ Q := rw_go p45_188 rfl
theorem r45_190 : RR 45 190 L st μ Q ↔ RR 45 224 L st μ Q := rw_go p45_190 rfl
theorem r45_193 : RR 45 193 (a0 :: .int x :: l) st μ Q ↔ RR 45 194 (a0 :: .int x :: l) (.int x :: st) μ Q := rw_go p45_193 rfl
theorem r45_194 : RR 45 194 L st μ Q ↔ RR 45 195 L (.int (nI 2) :: st) μ Q := rw_go p45_194 rfl
theorem r45_195 : RR 45 195 L (.int y :: .int x :: st) μ Q ↔ if ¬ x = y then RR 45 203 L st μ Q else RR 45 198 L st μ Q := rw_if p45_195 rfl
theorem r45_198 : RR 45 198 L st μ Q ↔ RR 45 200 L (.int (nI 111) :: st) μ Q := rw_go p45_198 rfl
theorem r45_200 : RR 45 200 L st μ Q ↔ RR 45 224 L st μ Q := rw_go p45_200 rfl
theorem r45_203 : RR 45 203 (a0 :: .int x :: l) st μ Q ↔ RR 45 204 (a0 :: .int x :: l) (.int x :: st) μ Q := rw_go p45_203 rfl
theorem r45_204 : RR 45 204 L st μ Q ↔ RR 45 205 L (.int (nI 3) :: st) μ Q := rw_go p45_204 rfl
theorem r45_205 : RR 45 205 L (.int y :: .int x :: st) μ Q ↔ if ¬ x = y then RR 45 213 L st μ Q else RR 45 208 L st μ Q := rw_if p45_205 rfl
theorem r45_208 : RR 45 208 L st μ Q ↔ RR 45 210 L (.int (nI 110) :: st) μ Q := rw_go p45_208 rfl
theorem r45_210 : RR 45 210 L st μ Q ↔ RR 45 224 L st μ Q := rw_go p45_210 rfl
theorem r45_213 : RR 45 213 (a0 :: .int x :: l) st μ Q ↔ RR 45 214 (a0 :: .int x :: l) (.int x :: st) μ Q := rw_go p45_213 rfl
theorem r45_214 : RR 45 214 L st μ Q ↔ RR 45 215 L (.int (nI 4) :: st) μ Q := rw_go p45_214 rfl
theorem r45_215 : RR 45 215 L (.int y :: .int x :: st) μ Q ↔ if ¬ x = y then RR 45 223 L st μ Q else RR 45 218 L st μ Q := rw_if p45_215 rfl
theorem r45_218 : RR 45 218 L st μ Q ↔ RR 45 220 L (.int (nI 103) :: st) μ Q := rw_go p45_218 rfl
theorem r45_220 : RR 45 220 L st μ Q ↔ RR 45 224 L st μ Q := rw_go p45_220 rfl
theorem r45_223 : RR 45 223 L st μ Q ↔ RR 45 224 L (.int ((-1)) :: st) μ Q := rw_go p45_223 rfl
theorem r45_224 : RR 45 224 L [.int x] μ Q ↔ Q (some (.int x)) μ := rw_r p45_224 rfl
theorem r45_225 : RR 45 225 (a0 :: .int x :: l) st μ Q ↔ RR 45 226 (a0 :: .int x :: l) (.int x :: st) μ Q := rw_go p45_225 rfl
theorem r45_226 : RR 45 226 L st μ Q ↔ RR 45 227 L (.int (nI 1) :: st) μ Q := rw_go p45_226 rfl
theorem r45_227 : RR 45 227 L (.int y :: .int x :: st) μ Q ↔ if ¬ x = y then RR 45 235 L st μ Q else RR 45 230 L st μ Q := rw_if p45_227 rfl
theorem r45_230 : RR 45 230 L st μ Q ↔ RR 45 232 L (.int (nI 100) :: st) μ Q := rw_go p45_230 rfl
theorem r45_232 : RR 45 232 L st μ Q ↔ RR 45 287 L st μ Q := rw_go p45_232 rfl
theorem r45_235 : RR 45 235 (a0 :: .int x :: l) st μ Q ↔ RR 45 236 (a0 :: .int x :: l) (.int x :: st) μ Q := rw_go p45_235 rfl
theorem r45_236 : RR 45 236 L st μ Q ↔ RR 45 237 L (.int (nI 2) :: st) μ Q := rw_go p45_236 rfl
theorem r45_237 : RR 45 237 L (.int y :: .int x :: st) μ Q ↔ if ¬ x = y then RR 45 245 L st μ Q else RR 45 240 L st μ Q := rw_if p45_237 rfl
theorem r45_240 : RR 45 240 L st μ Q ↔ RR 45 242 L (.int (nI 111) :: st) μ Q := rw_go p45_240 rfl
theorem r45_242 : RR 45 242 L st μ Q ↔ RR 45 287 L st μ Q := rw_go p45_242 rfl
theorem r45_245 : RR 45 245 (a0 :: .int x :: l) st μ Q ↔ RR 45 246 (a0 :: .int x :: l) (.int x :: st) μ Q := rw_go p45_245 rfl
theorem r45_246 : RR 45 246 L st μ Q ↔ RR 45 247 L (.int (nI 3) :: st) μ Q := rw_go p45_246 rfl
theorem r45_247 : RR 45 247 L (.int y :: .int x :: st) μ Q ↔ if ¬ x = y then RR 45 255 L st μ Q else RR 45 250 L st μ Q := rw_if p45_247 rfl
theorem r45_250 : RR 45 250 L st μ Q ↔ RR 45 252 L (.int (nI 117) :: st) μ Q := rw_go p45_250 rfl
theorem r45_252 : RR 45 252 L st μ Q ↔ RR 45 287 L st μ Q := rw_go p45_252 rfl
theorem r45_255 : RR 45 255 (a0 :: .int x :: l) st μ Q ↔ RR 45 256 (a0 :: .int x :: l) (.int x :: st) μ Q := rw_go p45_255 rfl
theorem r45_256 : RR 45 256 L st μ Q ↔ RR 45 257 L (.int (nI 4) :: st) μ Q := rw_go p45_256 rfl
theorem r45_257 : RR 45 257 L (.int y :: .int x :: st) μ Q ↔ if ¬ x = y then RR 45 265 L st μ Q else RR 45 260 L st μ Q := rw_if p45_257 rfl
theorem r45_260 : RR 45 260 L st μ Q ↔ RR 45 262 L (.int (nI 98) :: st) μ Q := rw_go p45_260 rfl
theorem r45_262 : RR 45 262 L st μ Q ↔ RR 45 287 L st μ Q := rw_go p45_262 rfl
theorem r45_265 : RR 45 265 (a0 :: .int x :: l) st μ Q ↔ RR 45 266 (a0 :: .int x :: l) (.int x :: st) μ Q := rw_go p45_265 rfl
theorem r45_266 : RR 45 266 L st μ Q ↔ RR 45 267 L (.int (nI 5) :: st) μ Q := rw_go p45_266 rfl
theorem r45_267 : RR 45 267 L (.int y :: .int x :: st) μ Q ↔ if ¬ x = y then RR 45 275 L st μ Q else RR 45 270 L st μ Q := rw_if p45_267 rfl
theorem r45_270 : RR 45 270 L st μ Q ↔ RR 45 272 L (.int (nI 108) :: st) μ Q := rw_go p45_270 rfl
theorem r45_272 : RR 45 272 L st μ Q ↔ RR 45 287 L st μ Q := rw_go p45_272 rfl
theorem r45_275 : RR 45 275 (a0 :: .int x :: l) st μ Q ↔ RR 45 276 (a0 :: .int x :: l) (.int x :: st) μ Q := rw_go p45_275 rfl
theorem r45_276 : RR 45 276 L st μ Q ↔ RR 45 278 L (.int (nI 6) :: st) μ Q := rw_go p45_276 rfl
theorem r45_278 : RR 45 278 L (.int y :: .int x :: st) μ Q ↔ if ¬ x = y then RR 45 286 L st μ Q else RR 45 281 L st μ Q := rw_if p45_278 rfl
theorem r45_281 : RR 45 281 L st μ Q ↔ RR 45 283 L (.int (nI 101) :: st) μ Q := rw_go p45_281 rfl
theorem r45_283 : RR 45 283 L st μ Q ↔ RR 45 287 L st μ Q := rw_go p45_283 rfl
theorem r45_286 : RR 45 286 L st μ Q ↔ RR 45 287 L (.int ((-1)) :: st) μ Q := rw_go p45_286 rfl
theorem r45_287 : RR 45 287 L [.int x] μ Q ↔ Q (some (.int x)) μ := rw_r p45_287 rfl
/-! ReleaseDeskModel.write -/
theorem r46_0 : RR 46 0 (.ref q :: l) st μ Q ↔ RR 46 1 (.ref q :: l) (.ref q :: st) μ Q := rw_go p46_0 rfl
theorem r46_1 : RR 46 1 L (.ref q :: st) (S, b, M, D, F) Q ↔ S[q]? = some (.inl 9) ∧ RR 46 4 L (va_rf (F q 23) :: st) (S, b, M, D, F) Q := rw_c p46_1 rfl
theorem r46_4 : RR 46 4 L st μ Q ↔ RR 46 5 L (.int (nI 0) :: st) μ Q := rw_go p46_4 rfl
theorem r46_5 : RR 46 5 L st μ Q ↔ RR 46 7 L (.int (nI 97) :: st) μ Q := rw_go p46_5 rfl
theorem r46_7 : RR 46 7 (.ref q :: l) st μ Q ↔ RR 46 8 (.ref q :: l) (.ref q :: st) μ Q := rw_go p46_7 rfl
theorem r46_8 : RR 46 8 L (.ref q :: st) (S, b, M, D, F) Q ↔ S[q]? = some (.inl 9) ∧ RR 46 11 L (va_rf (F q 3) :: st) (S, b, M, D, F) Q := rw_c p46_8 rfl
theorem r46_11 : RR 46 11 L st μ Q ↔ RR 46 13 L (.int (nI 8) :: st) μ Q := rw_go p46_11 rfl
theorem r46_13 : RR 46 13 (a0 :: .int x :: l) st μ Q ↔ RR 46 14 (a0 :: .int x :: l) (.int x :: st) μ Q := rw_go p46_13 rfl
theorem r46_14 : RR 46 14 L (.int y :: .int x :: st) μ Q ↔ RR 46 15 L (.int (x * y) :: st) μ Q := rw_go p46_14 rfl
theorem r46_15 : RR 46 15 (a0 :: a1 :: .int x :: l) st μ Q ↔ RR 46 16 (a0 :: a1 :: .int x :: l) (.int x :: st) μ Q := rw_go p46_15 rfl
theorem r46_16 : RR 46 16 L (.int y :: .int x :: st) μ Q ↔ RR 46 17 L (.int (x + y) :: st) μ Q := rw_go p46_16 rfl
theorem r46_17 : RR 46 17 L (.int x :: .ref q :: st) (S, b, M, D, F) Q ↔ am_bd S b.2.2 q 0 x ∧ RR 46 18 L (.int (M q x.toInt.toNat) :: st) (S, b, M, D, F) Q := rw_c p46_17 am_xld_eq
theorem r46_18 : RR 46 18 L (.int y :: .int x :: st) μ Q ↔ RR 46 19 L (.int (x + y) :: st) μ Q := rw_go p46_18 rfl
theorem r46_19 : RR 46 19 L (.int x :: .int y :: .ref q :: st) (S, b, M, D, F) Q ↔ am_bs S q 0 y ∧ RR 46 20 L st (S, b, am_up M q y.toInt.toNat x, D, F) Q := rw_c p46_19 (am_xst_eq (f := fun x => x))
theorem r46_20 : RR 46 20 (.ref q :: l) st μ Q ↔ RR 46 21 (.ref q :: l) (.ref q :: st) μ Q := rw_go p46_20 rfl
theorem r46_21 : RR 46 21 L (.ref q :: st) (S, b, M, D, F) Q ↔ S[q]? = some (.inl 9) ∧ RR 46 24 L (va_rf (F q 23) :: st) (S, b, M, D, F) Q := rw_c p46_21 rfl
theorem r46_24 : RR 46 24 L st μ Q ↔ RR 46 25 L (.int (nI 1) :: st) μ Q := rw_go p46_24 rfl
theorem r46_25 : RR 46 25 L st μ Q ↔ RR 46 27 L (.int (nI 46) :: st) μ Q := rw_go p46_25 rfl
theorem r46_27 : RR 46 27 L (.int x :: .int y :: .ref q :: st) (S, b, M, D, F) Q ↔ am_bs S q 0 y ∧ RR 46 28 L st (S, b, am_up M q y.toInt.toNat x, D, F) Q := rw_c p46_27 (am_xst_eq (f := fun x => x))
theorem r46_28 : RR 46 28 (.ref q :: l) st μ Q ↔ RR 46 29 (.ref q :: l) (.ref q :: st) μ Q := rw_go p46_28 rfl
theorem r46_29 : RR 46 29 L (.ref q :: st) (S, b, M, D, F) Q ↔ S[q]? = some (.inl 9) ∧ RR 46 32 L (va_rf (F q 23) :: st) (S, b, M, D, F) Q := rw_c p46_29 rfl
theorem r46_32 : RR 46 32 L st μ Q ↔ RR 46 33 L (.int (nI 2) :: st) μ Q := rw_go p46_32 rfl
theorem r46_33 : RR 46 33 L st μ Q ↔ RR 46 35 L (.int (nI 65) :: st) μ Q := rw_go p46_33 rfl
theorem r46_35 : RR 46 35 (a0 :: a1 :: .int x :: l) st μ Q ↔ RR 46 36 (a0 :: a1 :: .int x :: l) (.int x :: st) μ Q := rw_go p46_35 rfl
theorem r46_36 : RR 46 36 L (.int y :: .int x :: st) μ Q ↔ RR 46 37 L (.int (x + y) :: st) μ Q := rw_go p46_36 rfl
theorem r46_37 : RR 46 37 L (.int x :: .int y :: .ref q :: st) (S, b, M, D, F) Q ↔ am_bs S q 0 y ∧ RR 46 38 L st (S, b, am_up M q y.toInt.toNat x, D, F) Q := rw_c p46_37 (am_xst_eq (f := fun x => x))
theorem r46_38 : RR 46 38 (a0 :: a1 :: a2 :: .int x :: l) st μ Q ↔ RR 46 39 (a0 :: a1 :: a2 :: .int x :: l) (.int x :: st) μ Q := rw_go p46_38 rfl
theorem r46_39 : RR 46 39 L (.int x :: st) μ Q ↔ if ¬ x = 0 then RR 46 44 L st μ Q else RR 46 42 L st μ Q := rw_if p46_39 rfl
theorem r46_42 : RR 46 42 L st μ Q ↔ RR 46 43 L (.int (nI 3) :: st) μ Q := rw_go p46_42 rfl
theorem r46_43 : RR 46 43 L [.int x] μ Q ↔ Q (some (.int x)) μ := rw_r p46_43 rfl
theorem r46_44 : RR 46 44 (.ref q :: l) st μ Q ↔ RR 46 45 (.ref q :: l) (.ref q :: st) μ Q := rw_go p46_44 rfl
theorem r46_45 : RR 46 45 L (.ref q :: st) (S, b, M, D, F) Q ↔ S[q]? = some (.inl 9) ∧ RR 46 48 L (va_rf (F q 23) :: st) (S, b, M, D, F) Q := rw_c p46_45 rfl
theorem r46_48 : RR 46 48 L st μ Q ↔ RR 46 49 L (.int (nI 3) :: st) μ Q := rw_go p46_48 rfl
theorem r46_49 : RR 46 49 L st μ Q ↔ RR 46 51 L (.int (nI 46) :: st) μ Q := rw_go p46_49 rfl
theorem r46_51 : RR 46 51 L (.int x :: .int y :: .ref q :: st) (S, b, M, D, F) Q ↔ am_bs S q 0 y ∧ RR 46 52 L st (S, b, am_up M q y.toInt.toNat x, D, F) Q := rw_c p46_51 (am_xst_eq (f := fun x => x))
theorem r46_52 : RR 46 52 (.ref q :: l) st μ Q ↔ RR 46 53 (.ref q :: l) (.ref q :: st) μ Q := rw_go p46_52 rfl
theorem r46_53 : RR 46 53 L (.ref q :: st) (S, b, M, D, F) Q ↔ S[q]? = some (.inl 9) ∧ RR 46 56 L (va_rf (F q 23) :: st) (S, b, M, D, F) Q := rw_c p46_53 rfl
theorem r46_56 : RR 46 56 L st μ Q ↔ RR 46 57 L (.int (nI 4) :: st) μ Q := rw_go p46_56 rfl
theorem r46_57 : RR 46 57 L st μ Q ↔ RR 46 59 L (.int (nI 97) :: st) μ Q := rw_go p46_57 rfl
theorem r46_59 : RR 46 59 (a0 :: a1 :: a2 :: .int x :: l) st μ Q ↔ RR 46 60 (a0 :: a1 :: a2 :: .int x :: l) (.int x :: st) μ Q := rw_go p46_59 rfl
theorem r46_60 : RR 46 60 L st μ Q ↔ RR 46 61 L (.int (nI 1) :: st) μ Q := rw_go p46_60 rfl
theorem r46_61 : RR 46 61 L (.int y :: .int x :: st) μ Q ↔ RR 46 62 L (.int (x - y) :: st) μ Q := rw_go p46_61 rfl
theorem r46_62 : RR 46 62 L st μ Q ↔ RR 46 64 L (.int (nI 12) :: st) μ Q := rw_go p46_62 rfl
theorem r46_64 : RR 46 64 L (.int y :: .int x :: st) μ Q ↔ ¬ y = 0 ∧ RR 46 65 L (.int (x - x / y * y) :: st) μ Q := rw_n p46_64 rfl
theorem r46_65 : RR 46 65 L st μ Q ↔ RR 46 66 L (.int (nI 3) :: st) μ Q := rw_go p46_65 rfl
theorem r46_66 : RR 46 66 L (.int y :: .int x :: st) μ Q ↔ ¬ y = 0 ∧ RR 46 67 L (.int (x / y) :: st) μ Q := rw_n p46_66 rfl
theorem r46_67 : RR 46 67 L (.int y :: .int x :: st) μ Q ↔ RR 46 68 L (.int (x + y) :: st) μ Q := rw_go p46_67 rfl
theorem r46_68 : RR 46 68 L (.int x :: .int y :: .ref q :: st) (S, b, M, D, F) Q ↔ am_bs S q 0 y ∧ RR 46 69 L st (S, b, am_up M q y.toInt.toNat x, D, F) Q := rw_c p46_68 (am_xst_eq (f := fun x => x))
theorem r46_69 : RR 46 69 L st μ Q ↔ RR 46 70 L (.int (nI 0) :: st) μ Q := rw_go p46_69 rfl
theorem r46_70 : RR 46 70 (a0 :: a1 :: a2 :: a3 :: c0 :: l) (.int x :: st) μ Q ↔ RR 46 72 (a0 :: a1 :: a2 :: am_nd a3 :: .int x :: l) st μ Q := rw_ist p46_70 (by show 4 < _; simp only [List.length_cons]; omega)
theorem r46_72 : RR 46 72 (a0 :: a1 :: a2 :: .int x :: l) st μ Q ↔ RR 46 73 (a0 :: a1 :: a2 :: .int x :: l) (.int x :: st) μ Q := rw_go p46_72 rfl
theorem r46_73 : RR 46 73 (a0 :: a1 :: a2 :: a3 :: .int x :: l) st μ Q ↔ RR 46 75 (a0 :: a1 :: a2 :: a3 :: .int x :: l) (.int x :: st) μ Q := rw_go p46_73 rfl
theorem r46_75 : RR 46 75 L (.int x2 :: .int x1 :: st) (S, (0, 0, sl), M, D, F) Q ↔ (am_cat st ≤ 8 ∧ 2 = 2) ∧ RR 45 0 [.int x1, .int x2, .long 0, .long 0] [] (S, (0, 0, sl), M, D, F) (fun rv μ' => μ'.1.length = S.length ∧ RR 46 78 L (rv.toList ++ st) (μ'.1, (0, 0, sl), μ'.2.2) Q) := rw_call p46_75 rfl (ac45 x1 x2)
theorem r46_78 : RR 46 78 L (.int x :: st) μ Q ↔ if x < 0 then RR 46 102 L st μ Q else RR 46 81 L st μ Q := rw_if p46_78 rfl
theorem r46_81 : RR 46 81 (.ref q :: l) st μ Q ↔ RR 46 82 (.ref q :: l) (.ref q :: st) μ Q := rw_go p46_81 rfl
theorem r46_82 : RR 46 82 L (.ref q :: st) (S, b, M, D, F) Q ↔ S[q]? = some (.inl 9) ∧ RR 46 85 L (va_rf (F q 23) :: st) (S, b, M, D, F) Q := rw_c p46_82 rfl
theorem r46_85 : RR 46 85 L st μ Q ↔ RR 46 86 L (.int (nI 5) :: st) μ Q := rw_go p46_85 rfl
theorem r46_86 : RR 46 86 (a0 :: a1 :: a2 :: a3 :: .int x :: l) st μ Q ↔ RR 46 88 (a0 :: a1 :: a2 :: a3 :: .int x :: l) (.int x :: st) μ Q := rw_go p46_86 rfl
theorem r46_88 : RR 46 88 L (.int y :: .int x :: st) μ Q ↔ RR 46 89 L (.int (x + y) :: st) μ Q := rw_go p46_88 rfl
theorem r46_89 : RR 46 89 (a0 :: a1 :: a2 :: .int x :: l) st μ Q ↔ RR 46 90 (a0 :: a1 :: a2 :: .int x :: l) (.int x :: st) μ Q := rw_go p46_89 rfl
theorem r46_90 : RR 46 90 (a0 :: a1 :: a2 :: a3 :: .int x :: l) st μ Q ↔ RR 46 92 (a0 :: a1 :: a2 :: a3 :: .int x :: l) (.int x :: st) μ Q := rw_go p46_90 rfl
theorem r46_92 : RR 46 92 L (.int x2 :: .int x1 :: st) (S, (0, 0, sl), M, D, F) Q ↔ (am_cat st ≤ 8 ∧ 2 = 2) ∧ RR 45 0 [.int x1, .int x2, .long 0, .long 0] [] (S, (0, 0, sl), M, D, F) (fun rv μ' => μ'.1.length = S.length ∧ RR 46 95 L (rv.toList ++ st) (μ'.1, (0, 0, sl), μ'.2.2) Q) := rw_call p46_92 rfl (ac45 x1 x2)
theorem r46_95 : RR 46 95 L (.int x :: .int y :: .ref q :: st) (S, b, M, D, F) Q ↔ am_bs S q 0 y ∧ RR 46 96 L st (S, b, am_up M q y.toInt.toNat x, D, F) Q := rw_c p46_95 (am_xst_eq (f := fun x => x))
theorem r46_96 : RR 46 96 (a0 :: a1 :: a2 :: a3 :: .int x :: l) st μ Q ↔ RR 46 99 (a0 :: a1 :: a2 :: am_nd a3 :: .int (x + nI 1) :: l) st μ Q := rw_go p46_96 rfl
theorem r46_99 : RR 46 99 L st μ Q ↔ RR 46 72 L st μ Q := rw_go p46_99 rfl
theorem r46_102 : RR 46 102 L st μ Q ↔ RR 46 103 L (.int (nI 5) :: st) μ Q := rw_go p46_102 rfl
theorem r46_103 : RR 46 103 (a0 :: a1 :: a2 :: a3 :: .int x :: l) st μ Q ↔ RR 46 105 (a0 :: a1 :: a2 :: a3 :: .int x :: l) (.int x :: st) μ Q := rw_go p46_103 rfl
theorem r46_105 : RR 46 105 L (.int y :: .int x :: st) μ Q ↔ RR 46 106 L (.int (x + y) :: st) μ Q := rw_go p46_105 rfl
theorem r46_106 : RR 46 106 L [.int x] μ Q ↔ Q (some (.int x)) μ := rw_r p46_106 rfl
/-! ReleaseDeskModel.orderOf -/
theorem r47_0 : RR 47 0 (a0 :: a1 :: a2 :: .int x :: l) st μ Q ↔ RR 47 1 (a0 :: a1 :: a2 :: .int x :: l) (.int x :: st) μ Q := rw_go p47_0 rfl
theorem r47_1 : RR 47 1 L st μ Q ↔ RR 47 2 L (.int (nI 1) :: st) μ Q := rw_go p47_1 rfl
theorem r47_2 : RR 47 2 L (.int y :: .int x :: st) μ Q ↔ RR 47 3 L (.int (x - y) :: st) μ Q := rw_go p47_2 rfl
theorem r47_3 : RR 47 3 L st μ Q ↔ RR 47 4 L (.int (nI 3) :: st) μ Q := rw_go p47_3 rfl
theorem r47_4 : RR 47 4 L (.int y :: .int x :: st) μ Q ↔ ¬ y = 0 ∧ RR 47 5 L (.int (x - x / y * y) :: st) μ Q := rw_n p47_4 rfl
theorem r47_5 : RR 47 5 (a0 :: a1 :: a2 :: a3 :: c0 :: l) (.int x :: st) μ Q ↔ RR 47 7 (a0 :: a1 :: a2 :: am_nd a3 :: .int x :: l) st μ Q := rw_ist p47_5 (by show 4 < _; simp only [List.length_cons]; omega)
theorem r47_7 : RR 47 7 (a0 :: a1 :: a2 :: .int x :: l) st μ Q ↔ RR 47 8 (a0 :: a1 :: a2 :: .int x :: l) (.int x :: st) μ Q := rw_go p47_7 rfl
theorem r47_8 : RR 47 8 L (.int x :: st) μ Q ↔ if ¬ x = 0 then RR 47 15 L st μ Q else RR 47 11 L st μ Q := rw_if p47_8 rfl
theorem r47_11 : RR 47 11 L st μ Q ↔ RR 47 12 L (.int (nI 0) :: st) μ Q := rw_go p47_11 rfl
theorem r47_12 : RR 47 12 L st μ Q ↔ RR 47 54 L st μ Q := rw_go p47_12 rfl
theorem r47_15 : RR 47 15 L st μ Q ↔ RR 47 16 L (.int (nI 1) :: st) μ Q := rw_go p47_15 rfl
theorem r47_16 : RR 47 16 (a0 :: a1 :: a2 :: .int x :: l) st μ Q ↔ RR 47 17 (a0 :: a1 :: a2 :: .int x :: l) (.int x :: st) μ Q := rw_go p47_16 rfl
theorem r47_17 : RR 47 17 L st μ Q ↔ RR 47 18 L (.int (nI 1) :: st) μ Q := rw_go p47_17 rfl
theorem r47_18 : RR 47 18 L (.int y :: .int x :: st) μ Q ↔ RR 47 19 L (.int (x - y) :: st) μ Q := rw_go p47_18 rfl
theorem r47_19 : RR 47 19 L st μ Q ↔ RR 47 21 L (.int (nI 12) :: st) μ Q := rw_go p47_19 rfl
theorem r47_21 : RR 47 21 L (.int y :: .int x :: st) μ Q ↔ ¬ y = 0 ∧ RR 47 22 L (.int (x - x / y * y) :: st) μ Q := rw_n p47_21 rfl
theorem r47_22 : RR 47 22 L st μ Q ↔ RR 47 23 L (.int (nI 3) :: st) μ Q := rw_go p47_22 rfl
theorem r47_23 : RR 47 23 L (.int y :: .int x :: st) μ Q ↔ ¬ y = 0 ∧ RR 47 24 L (.int (x / y) :: st) μ Q := rw_n p47_23 rfl
theorem r47_24 : RR 47 24 L st μ Q ↔ RR 47 26 L (.int (nI 6) :: st) μ Q := rw_go p47_24 rfl
theorem r47_26 : RR 47 26 L (.int y :: .int x :: st) μ Q ↔ RR 47 27 L (.int (x * y) :: st) μ Q := rw_go p47_26 rfl
theorem r47_27 : RR 47 27 L (.int y :: .int x :: st) μ Q ↔ RR 47 28 L (.int (x + y) :: st) μ Q := rw_go p47_27 rfl
theorem r47_28 : RR 47 28 (a0 :: a1 :: a2 :: .int x :: l) st μ Q ↔ RR 47 29 (a0 :: a1 :: a2 :: .int x :: l) (.int x :: st) μ Q := rw_go p47_28 rfl
theorem r47_29 : RR 47 29 L st μ Q ↔ RR 47 31 L (.int (nI 12) :: st) μ Q := rw_go p47_29 rfl
theorem r47_31 : RR 47 31 L (.int y :: .int x :: st) μ Q ↔ if x ≤ y then RR 47 39 L st μ Q else RR 47 34 L st μ Q := rw_if p47_31 rfl
theorem r47_34 : RR 47 34 (a0 :: a1 :: a2 :: a3 :: .int x :: l) st μ Q ↔ RR 47 36 (a0 :: a1 :: a2 :: a3 :: .int x :: l) (.int x :: st) μ Q := rw_go p47_34 rfl
theorem r47_36 : RR 47 36 L st μ Q ↔ RR 47 53 L st μ Q := rw_go p47_36 rfl
theorem r47_39 : RR 47 39 (a0 :: a1 :: a2 :: a3 :: .int x :: l) st μ Q ↔ RR 47 41 (a0 :: a1 :: a2 :: a3 :: .int x :: l) (.int x :: st) μ Q := rw_go p47_39 rfl
theorem r47_41 : RR 47 41 L st μ Q ↔ RR 47 42 L (.int (nI 2) :: st) μ Q := rw_go p47_41 rfl
theorem r47_42 : RR 47 42 L (.int y :: .int x :: st) μ Q ↔ if ¬ x = y then RR 47 49 L st μ Q else RR 47 45 L st μ Q := rw_if p47_42 rfl
theorem r47_45 : RR 47 45 L st μ Q ↔ RR 47 46 L (.int (nI 3) :: st) μ Q := rw_go p47_45 rfl
theorem r47_46 : RR 47 46 L st μ Q ↔ RR 47 53 L st μ Q := rw_go p47_46 rfl
theorem r47_49 : RR 47 49 L st μ Q ↔ RR 47 50 L (.int (nI 4) :: st) μ Q := rw_go p47_49 rfl
theorem r47_50 : RR 47 50 (a0 :: a1 :: a2 :: a3 :: .int x :: l) st μ Q ↔ RR 47 52 (a0 :: a1 :: a2 :: a3 :: .int x :: l) (.int x :: st) μ Q := rw_go p47_50 rfl
theorem r47_52 : RR 47 52 L (.int y :: .int x :: st) μ Q ↔ RR 47 53 L (.int (x + y) :: st) μ Q := rw_go p47_52 rfl
theorem r47_53 : RR 47 53 L (.int y :: .int x :: st) μ Q ↔ RR 47 54 L (.int (x + y) :: st) μ Q := rw_go p47_53 rfl
theorem r47_54 : RR 47 54 (a0 :: a1 :: a2 :: a3 :: a4 :: c0 :: l) (.int x :: st) μ Q ↔ RR 47 56 (a0 :: a1 :: a2 :: a3 :: am_nd a4 :: .int x :: l) st μ Q := rw_ist p47_54 (by show 5 < _; simp only [List.length_cons]; omega)
theorem r47_56 : RR 47 56 (.ref q :: l) st μ Q ↔ RR 47 57 (.ref q :: l) (.ref q :: st) μ Q := rw_go p47_56 rfl
theorem r47_57 : RR 47 57 L (.ref q :: st) (S, b, M, D, F) Q ↔ S[q]? = some (.inl 9) ∧ RR 47 60 L (va_rf (F q 3) :: st) (S, b, M, D, F) Q := rw_c p47_57 rfl
theorem r47_60 : RR 47 60 L st μ Q ↔ RR 47 62 L (.int (nI 8) :: st) μ Q := rw_go p47_60 rfl
theorem r47_62 : RR 47 62 (a0 :: .int x :: l) st μ Q ↔ RR 47 63 (a0 :: .int x :: l) (.int x :: st) μ Q := rw_go p47_62 rfl
theorem r47_63 : RR 47 63 L (.int y :: .int x :: st) μ Q ↔ RR 47 64 L (.int (x * y) :: st) μ Q := rw_go p47_63 rfl
theorem r47_64 : RR 47 64 (a0 :: a1 :: .int x :: l) st μ Q ↔ RR 47 65 (a0 :: a1 :: .int x :: l) (.int x :: st) μ Q := rw_go p47_64 rfl
theorem r47_65 : RR 47 65 L (.int y :: .int x :: st) μ Q ↔ RR 47 66 L (.int (x + y) :: st) μ Q := rw_go p47_65 rfl
theorem r47_66 : RR 47 66 L (.int x :: .ref q :: st) (S, b, M, D, F) Q ↔ am_bd S b.2.2 q 0 x ∧ RR 47 67 L (.int (M q x.toInt.toNat) :: st) (S, b, M, D, F) Q := rw_c p47_66 am_xld_eq
theorem r47_67 : RR 47 67 L st μ Q ↔ RR 47 69 L (.int (nI 8) :: st) μ Q := rw_go p47_67 rfl
theorem r47_69 : RR 47 69 L (.int y :: .int x :: st) μ Q ↔ RR 47 70 L (.int (x * y) :: st) μ Q := rw_go p47_69 rfl
theorem r47_70 : RR 47 70 (a0 :: a1 :: .int x :: l) st μ Q ↔ RR 47 71 (a0 :: a1 :: .int x :: l) (.int x :: st) μ Q := rw_go p47_70 rfl
theorem r47_71 : RR 47 71 L (.int y :: .int x :: st) μ Q ↔ RR 47 72 L (.int (x + y) :: st) μ Q := rw_go p47_71 rfl
theorem r47_72 : RR 47 72 L st μ Q ↔ RR 47 74 L (.int (nI 32) :: st) μ Q := rw_go p47_72 rfl
theorem r47_74 : RR 47 74 L (.int y :: .int x :: st) μ Q ↔ RR 47 75 L (.int (x * y) :: st) μ Q := rw_go p47_74 rfl
theorem r47_75 : RR 47 75 (a0 :: a1 :: a2 :: a3 :: a4 :: .int x :: l) st μ Q ↔ RR 47 77 (a0 :: a1 :: a2 :: a3 :: a4 :: .int x :: l) (.int x :: st) μ Q := rw_go p47_75 rfl
theorem r47_77 : RR 47 77 L (.int y :: .int x :: st) μ Q ↔ RR 47 78 L (.int (x + y) :: st) μ Q := rw_go p47_77 rfl
theorem r47_78 : RR 47 78 L [.int x] μ Q ↔ Q (some (.int x)) μ := rw_r p47_78 rfl
/-! ReleaseDeskModel.isFit -/
theorem r48_0 : RR 48 0 (.ref q :: l) st μ Q ↔ RR 48 1 (.ref q :: l) (.ref q :: st) μ Q := rw_go p48_0 rfl
theorem r48_1 : RR 48 1 (a0 :: a1 :: a2 :: .int x :: l) st μ Q ↔ RR 48 2 (a0 :: a1 :: a2 :: .int x :: l) (.int x :: st) μ Q := rw_go p48_1 rfl
theorem r48_2 : RR 48 2 (a0 :: a1 :: a2 :: a3 :: .int x :: l) st μ Q ↔ RR 48 4 (a0 :: a1 :: a2 :: a3 :: .int x :: l) (.int x :: st) μ Q := rw_go p48_2 rfl
theorem r48_4 : RR 48 4 (a0 :: a1 :: a2 :: a3 :: a4 :: .int x :: l) st μ Q ↔ RR 48 6 (a0 :: a1 :: a2 :: a3 :: a4 :: .int x :: l) (.int x :: st) μ Q := rw_go p48_4 rfl
theorem r48_6 : RR 48 6 L (.int x3 :: .int x2 :: .int x1 :: .ref q :: st) (S, (0, 0, sl), M, D, F) Q ↔ (am_cat st ≤ 8 ∧ 4 = 4 ∧ S[q]? = some (.inl 9)) ∧ RR 46 0 [.ref q, .int x1, .int x2, .int x3, .long 0] [] (S, (0, 0, sl), M, D, F) (fun rv μ' => μ'.1.length = S.length ∧ RR 48 9 L (rv.toList ++ st) (μ'.1, (0, 0, sl), μ'.2.2) Q) := rw_call p48_6 rfl (ac46 q x1 x2 x3)
theorem r48_9 : RR 48 9 (a0 :: a1 :: a2 :: a3 :: a4 :: a5 :: c0 :: l) (.int x :: st) μ Q ↔ RR 48 11 (a0 :: a1 :: a2 :: a3 :: a4 :: am_nd a5 :: .int x :: l) st μ Q := rw_ist p48_9 (by show 6 < _; simp only [List.length_cons]; omega)
theorem r48_11 : RR 48 11 L st μ Q ↔ RR 48 12 L (.int (nI 0) :: st) μ Q := rw_go p48_11 rfl
theorem r48_12 : RR 48 12 (a0 :: a1 :: a2 :: a3 :: a4 :: a5 :: a6 :: c0 :: l) (.int x :: st) μ Q ↔ RR 48 14 (a0 :: a1 :: a2 :: a3 :: a4 :: a5 :: am_nd a6 :: .int x :: l) st μ Q := rw_ist p48_12 (by show 7 < _; simp only [List.length_cons]; omega)
theorem r48_14 : RR 48 14 (a0 :: a1 :: a2 :: a3 :: a4 :: a5 :: a6 :: .int x :: l) st μ Q ↔ RR 48 16 (a0 :: a1 :: a2 :: a3 :: a4 :: a5 :: a6 :: .int x :: l) (.int x :: st) μ Q := rw_go p48_14 rfl
theorem r48_16 : RR 48 16 (a0 :: a1 :: a2 :: a3 :: a4 :: a5 :: .int x :: l) st μ Q ↔ RR 48 18 (a0 :: a1 :: a2 :: a3 :: a4 :: a5 :: .int x :: l) (.int x :: st) μ Q := rw_go p48_16 rfl
theorem r48_18 : RR 48 18 L (.int y :: .int x :: st) μ Q ↔ if y < x then RR 48 44 L st μ Q else RR 48 21 L st μ Q := rw_if p48_18 rfl
theorem r48_21 : RR 48 21 (.ref q :: l) st μ Q ↔ RR 48 22 (.ref q :: l) (.ref q :: st) μ Q := rw_go p48_21 rfl
theorem r48_22 : RR 48 22 L (.ref q :: st) (S, b, M, D, F) Q ↔ S[q]? = some (.inl 9) ∧ RR 48 25 L (va_rf (F q 24) :: st) (S, b, M, D, F) Q := rw_c p48_22 rfl
theorem r48_25 : RR 48 25 (a0 :: a1 :: a2 :: a3 :: a4 :: a5 :: a6 :: .int x :: l) st μ Q ↔ RR 48 27 (a0 :: a1 :: a2 :: a3 :: a4 :: a5 :: a6 :: .int x :: l) (.int x :: st) μ Q := rw_go p48_25 rfl
theorem r48_27 : RR 48 27 (a0 :: a1 :: a2 :: a3 :: a4 :: a5 :: a6 :: .int x :: l) st μ Q ↔ RR 48 29 (a0 :: a1 :: a2 :: a3 :: a4 :: a5 :: a6 :: .int x :: l) (.int x :: st) μ Q := rw_go p48_27 rfl
theorem r48_29 : RR 48 29 L (.int x :: st) μ Q ↔ if ¬ x = 0 then RR 48 36 L st μ Q else RR 48 32 L st μ Q := rw_if p48_29 rfl
theorem r48_32 : RR 48 32 L st μ Q ↔ RR 48 33 L (.int (nI 1) :: st) μ Q := rw_go p48_32 rfl
theorem r48_33 : RR 48 33 L st μ Q ↔ RR 48 37 L st μ Q := rw_go p48_33 rfl
theorem r48_36 : RR 48 36 L st μ Q ↔ RR 48 37 L (.int (nI 0) :: st) μ Q := rw_go p48_36 rfl
theorem r48_37 : RR 48 37 L (.int x :: .int y :: .ref q :: st) (S, b, M, D, F) Q ↔ am_bs S q 2 y ∧ RR 48 38 L st (S, b, am_up M q y.toInt.toNat (vp_nar .boolean x), D, F) Q := rw_c p48_37 (am_xst_eq (f := fun x => (vp_nar .boolean x)))
theorem r48_38 : RR 48 38 (a0 :: a1 :: a2 :: a3 :: a4 :: a5 :: a6 :: .int x :: l) st μ Q ↔ RR 48 41 (a0 :: a1 :: a2 :: a3 :: a4 :: a5 :: am_nd a6 :: .int (x + nI 1) :: l) st μ Q := rw_go p48_38 rfl
theorem r48_41 : RR 48 41 L st μ Q ↔ RR 48 14 L st μ Q := rw_go p48_41 rfl
theorem r48_44 : RR 48 44 (a0 :: .int x :: l) st μ Q ↔ RR 48 45 (a0 :: .int x :: l) (.int x :: st) μ Q := rw_go p48_44 rfl
theorem r48_45 : RR 48 45 (a0 :: a1 :: a2 :: a3 :: a4 :: a5 :: a6 :: c0 :: l) (.int x :: st) μ Q ↔ RR 48 47 (a0 :: a1 :: a2 :: a3 :: a4 :: a5 :: am_nd a6 :: .int x :: l) st μ Q := rw_ist p48_45 (by show 7 < _; simp only [List.length_cons]; omega)
theorem r48_47 : RR 48 47 (a0 :: a1 :: a2 :: a3 :: a4 :: a5 :: a6 :: .int x :: l) st μ Q ↔ RR 48 49 (a0 :: a1 :: a2 :: a3 :: a4 :: a5 :: a6 :: .int x :: l) (.int x :: st) μ Q := rw_go p48_47 rfl
theorem r48_49 : RR 48 49 (a0 :: .int x :: l) st μ Q ↔ RR 48 50 (a0 :: .int x :: l) (.int x :: st) μ Q := rw_go p48_49 rfl
theorem r48_50 : RR 48 50 (a0 :: a1 :: .int x :: l) st μ Q ↔ RR 48 51 (a0 :: a1 :: .int x :: l) (.int x :: st) μ Q := rw_go p48_50 rfl
theorem r48_51 : RR 48 51 L (.int y :: .int x :: st) μ Q ↔ RR 48 52 L (.int (x + y) :: st) μ Q := rw_go p48_51 rfl
theorem r48_52 : RR 48 52 L (.int y :: .int x :: st) μ Q ↔ if y ≤ x then RR 48 202 L st μ Q else RR 48 55 L st μ Q := rw_if p48_52 rfl
theorem r48_55 : RR 48 55 (.ref q :: l) st μ Q ↔ RR 48 56 (.ref q :: l) (.ref q :: st) μ Q := rw_go p48_55 rfl
theorem r48_56 : RR 48 56 L (.ref q :: st) (S, b, M, D, F) Q ↔ S[q]? = some (.inl 9) ∧ RR 48 59 L (va_rf (F q 24) :: st) (S, b, M, D, F) Q := rw_c p48_56 rfl
theorem r48_59 : RR 48 59 L st μ Q ↔ RR 48 60 L (.int (nI 0) :: st) μ Q := rw_go p48_59 rfl
theorem r48_60 : RR 48 60 L (.int x :: .ref q :: st) (S, b, M, D, F) Q ↔ am_bd S b.2.2 q 2 x ∧ RR 48 61 L (.int (M q x.toInt.toNat) :: st) (S, b, M, D, F) Q := rw_c p48_60 am_xld_eq
theorem r48_61 : RR 48 61 (a0 :: a1 :: a2 :: a3 :: a4 :: a5 :: a6 :: a7 :: c0 :: l) (.int x :: st) μ Q ↔ RR 48 63 (a0 :: a1 :: a2 :: a3 :: a4 :: a5 :: a6 :: am_nd a7 :: .int x :: l) st μ Q := rw_ist p48_61 (by show 8 < _; simp only [List.length_cons]; omega)
theorem r48_63 : RR 48 63 (.ref q :: l) st μ Q ↔ RR 48 64 (.ref q :: l) (.ref q :: st) μ Q := rw_go p48_63 rfl
theorem r48_64 : RR 48 64 L (.ref q :: st) (S, b, M, D, F) Q ↔ S[q]? = some (.inl 9) ∧ RR 48 67 L (va_rf (F q 8) :: st) (S, b, M, D, F) Q := rw_c p48_64 rfl
theorem r48_67 : RR 48 67 (a0 :: a1 :: a2 :: a3 :: a4 :: a5 :: a6 :: .int x :: l) st μ Q ↔ RR 48 69 (a0 :: a1 :: a2 :: a3 :: a4 :: a5 :: a6 :: .int x :: l) (.int x :: st) μ Q := rw_go p48_67 rfl
theorem r48_69 : RR 48 69 L (.int x :: .ref q :: st) (S, b, M, D, F) Q ↔ am_bd S b.2.2 q 0 x ∧ RR 48 70 L (.int (M q x.toInt.toNat) :: st) (S, b, M, D, F) Q := rw_c p48_69 am_xld_eq
theorem r48_70 : RR 48 70 L st μ Q ↔ RR 48 72 L (.int (nI 42) :: st) μ Q := rw_go p48_70 rfl
theorem r48_72 : RR 48 72 L (.int y :: .int x :: st) μ Q ↔ if x = y then RR 48 82 L st μ Q else RR 48 75 L st μ Q := rw_if p48_72 rfl
theorem r48_75 : RR 48 75 (.ref q :: l) st μ Q ↔ RR 48 76 (.ref q :: l) (.ref q :: st) μ Q := rw_go p48_75 rfl
theorem r48_76 : RR 48 76 L (.ref q :: st) (S, b, M, D, F) Q ↔ S[q]? = some (.inl 9) ∧ RR 48 79 L (va_rf (F q 24) :: st) (S, b, M, D, F) Q := rw_c p48_76 rfl
theorem r48_79 : RR 48 79 L st μ Q ↔ RR 48 80 L (.int (nI 0) :: st) μ Q := rw_go p48_79 rfl
theorem r48_80 : RR 48 80 L st μ Q ↔ RR 48 81 L (.int (nI 0) :: st) μ Q := rw_go p48_80 rfl
theorem r48_81 : RR 48 81 L (.int x :: .int y :: .ref q :: st) (S, b, M, D, F) Q ↔ am_bs S q 2 y ∧ RR 48 82 L st (S, b, am_up M q y.toInt.toNat (vp_nar .boolean x), D, F) Q := rw_c p48_81 (am_xst_eq (f := fun x => (vp_nar .boolean x)))
theorem r48_82 : RR 48 82 L st μ Q ↔ RR 48 83 L (.int (nI 1) :: st) μ Q := rw_go p48_82 rfl
theorem r48_83 : RR 48 83 (a0 :: a1 :: a2 :: a3 :: a4 :: a5 :: a6 :: a7 :: a8 :: c0 :: l) (.int x :: st) μ Q ↔ RR 48 85 (a0 :: a1 :: a2 :: a3 :: a4 :: a5 :: a6 :: a7 :: am_nd a8 :: .int x :: l) st μ Q := rw_ist p48_83 (by show 9 < _; simp only [List.length_cons]; omega)
theorem r48_85 : RR 48 85 (a0 :: a1 :: a2 :: a3 :: a4 :: a5 :: a6 :: a7 :: a8 :: .int x :: l) st μ Q ↔ RR 48 87 (a0 :: a1 :: a2 :: a3 :: a4 :: a5 :: a6 :: a7 :: a8 :: .int x :: l) (.int x :: st) μ Q := rw_go p48_85 rfl
theorem r48_87 : RR 48 87 (a0 :: a1 :: a2 :: a3 :: a4 :: a5 :: .int x :: l) st μ Q ↔ RR 48 89 (a0 :: a1 :: a2 :: a3 :: a4 :: a5 :: .int x :: l) (.int x :: st) μ Q := rw_go p48_87 rfl
theorem r48_89 : RR 48 89 L (.int y :: .int x :: st) μ Q ↔ if y < x then RR 48 196 L st μ Q else RR 48 92 L st μ Q := rw_if p48_89 rfl
theorem r48_92 : RR 48 92 (.ref q :: l) st μ Q ↔ RR 48 93 (.ref q :: l) (.ref q :: st) μ Q := rw_go p48_92 rfl
theorem r48_93 : RR 48 93 L (.ref q :: st) (S, b, M, D, F) Q ↔ S[q]? = some (.inl 9) ∧ RR 48 96 L (va_rf (F q 24) :: st) (S, b, M, D, F) Q := rw_c p48_93 rfl
theorem r48_96 : RR 48 96 (a0 :: a1 :: a2 :: a3 :: a4 :: a5 :: a6 :: a7 :: a8 :: .int x :: l) st μ Q ↔ RR 48 98 (a0 :: a1 :: a2 :: a3 :: a4 :: a5 :: a6 :: a7 :: a8 :: .int x :: l) (.int x :: st) μ Q := rw_go p48_96 rfl
theorem r48_98 : RR 48 98 L (.int x :: .ref q :: st) (S, b, M, D, F) Q ↔ am_bd S b.2.2 q 2 x ∧ RR 48 99 L (.int (M q x.toInt.toNat) :: st) (S, b, M, D, F) Q := rw_c p48_98 am_xld_eq
theorem r48_99 : RR 48 99 (a0 :: a1 :: a2 :: a3 :: a4 :: a5 :: a6 :: a7 :: a8 :: a9 :: c0 :: l) (.int x :: st) μ Q ↔ RR 48 101 (a0 :: a1 :: a2 :: a3 :: a4 :: a5 :: a6 :: a7 :: a8 :: am_nd a9 :: .int x :: l) st μ Q := rw_ist p48_99 (by show 10 < _; simp only [List.length_cons]; omega)
theorem r48_101 : RR 48 101 (.ref q :: l) st μ Q ↔ RR 48 102 (.ref q :: l) (.ref q :: st) μ Q := rw_go p48_101 rfl
theorem r48_102 : RR 48 102 L (.ref q :: st) (S, b, M, D, F) Q ↔ S[q]? = some (.inl 9) ∧ RR 48 105 L (va_rf (F q 24) :: st) (S, b, M, D, F) Q := rw_c p48_102 rfl
theorem r48_105 : RR 48 105 (a0 :: a1 :: a2 :: a3 :: a4 :: a5 :: a6 :: a7 :: a8 :: .int x :: l) st μ Q ↔ RR 48 107 (a0 :: a1 :: a2 :: a3 :: a4 :: a5 :: a6 :: a7 :: a8 :: .int x :: l) (.int x :: st) μ Q := rw_go p48_105 rfl
theorem r48_107 : RR 48 107 (.ref q :: l) st μ Q ↔ RR 48 108 (.ref q :: l) (.ref q :: st) μ Q := rw_go p48_107 rfl
theorem r48_108 : RR 48 108 L (.ref q :: st) (S, b, M, D, F) Q ↔ S[q]? = some (.inl 9) ∧ RR 48 111 L (va_rf (F q 8) :: st) (S, b, M, D, F) Q := rw_c p48_108 rfl
theorem r48_111 : RR 48 111 (a0 :: a1 :: a2 :: a3 :: a4 :: a5 :: a6 :: .int x :: l) st μ Q ↔ RR 48 113 (a0 :: a1 :: a2 :: a3 :: a4 :: a5 :: a6 :: .int x :: l) (.int x :: st) μ Q := rw_go p48_111 rfl
theorem r48_113 : RR 48 113 L (.int x :: .ref q :: st) (S, b, M, D, F) Q ↔ am_bd S b.2.2 q 0 x ∧ RR 48 114 L (.int (M q x.toInt.toNat) :: st) (S, b, M, D, F) Q := rw_c p48_113 am_xld_eq
theorem r48_114 : RR 48 114 L st μ Q ↔ RR 48 116 L (.int (nI 42) :: st) μ Q := rw_go p48_114 rfl
theorem r48_116 : RR 48 116 L (.int y :: .int x :: st) μ Q ↔ if ¬ x = y then RR 48 144 L st μ Q else RR 48 119 L st μ Q := rw_if p48_116 rfl
theorem r48_119 : RR 48 119 (a0 :: a1 :: a2 :: a3 :: a4 :: a5 :: a6 :: a7 :: a8 :: a9 :: .int x :: l) st μ Q ↔ RR 48 121 (a0 :: a1 :: a2 :: a3 :: a4 :: a5 :: a6 :: a7 :: a8 :: a9 :: .int x :: l) (.int x :: st) μ Q := rw_go p48_119 rfl
theorem r48_121 : RR 48 121 L (.int x :: st) μ Q ↔ if ¬ x = 0 then RR 48 136 L st μ Q else RR 48 124 L st μ Q := rw_if p48_121 rfl
theorem r48_124 : RR 48 124 (.ref q :: l) st μ Q ↔ RR 48 125 (.ref q :: l) (.ref q :: st) μ Q := rw_go p48_124 rfl
theorem r48_125 : RR 48 125 L (.ref q :: st) (S, b, M, D, F) Q ↔ S[q]? = some (.inl 9) ∧ RR 48 128 L (va_rf (F q 24) :: st) (S, b, M, D, F) Q := rw_c p48_125 rfl
theorem r48_128 : RR 48 128 (a0 :: a1 :: a2 :: a3 :: a4 :: a5 :: a6 :: a7 :: a8 :: .int x :: l) st μ Q ↔ RR 48 130 (a0 :: a1 :: a2 :: a3 :: a4 :: a5 :: a6 :: a7 :: a8 :: .int x :: l) (.int x :: st) μ Q := rw_go p48_128 rfl
theorem r48_130 : RR 48 130 L st μ Q ↔ RR 48 131 L (.int (nI 1) :: st) μ Q := rw_go p48_130 rfl
theorem r48_131 : RR 48 131 L (.int y :: .int x :: st) μ Q ↔ RR 48 132 L (.int (x - y) :: st) μ Q := rw_go p48_131 rfl
theorem r48_132 : RR 48 132 L (.int x :: .ref q :: st) (S, b, M, D, F) Q ↔ am_bd S b.2.2 q 2 x ∧ RR 48 133 L (.int (M q x.toInt.toNat) :: st) (S, b, M, D, F) Q := rw_c p48_132 am_xld_eq
theorem r48_133 : RR 48 133 L (.int x :: st) μ Q ↔ if x = 0 then RR 48 140 L st μ Q else RR 48 136 L st μ Q := rw_if p48_133 rfl
theorem r48_136 : RR 48 136 L st μ Q ↔ RR 48 137 L (.int (nI 1) :: st) μ Q := rw_go p48_136 rfl
theorem r48_137 : RR 48 137 L st μ Q ↔ RR 48 185 L st μ Q := rw_go p48_137 rfl
theorem r48_140 : RR 48 140 L st μ Q ↔ RR 48 141 L (.int (nI 0) :: st) μ Q := rw_go p48_140 rfl
theorem r48_141 : RR 48 141 L st μ Q ↔ RR 48 185 L st μ Q := rw_go p48_141 rfl
theorem r48_144 : RR 48 144 (a0 :: a1 :: a2 :: a3 :: a4 :: a5 :: a6 :: a7 :: .int x :: l) st μ Q ↔ RR 48 146 (a0 :: a1 :: a2 :: a3 :: a4 :: a5 :: a6 :: a7 :: .int x :: l) (.int x :: st) μ Q := rw_go p48_144 rfl
theorem r48_146 : RR 48 146 L (.int x :: st) μ Q ↔ if x = 0 then RR 48 184 L st μ Q else RR 48 149 L st μ Q := rw_if p48_146 rfl
theorem r48_149 : RR 48 149 (.ref q :: l) st μ Q ↔ RR 48 150 (.ref q :: l) (.ref q :: st) μ Q := rw_go p48_149 rfl
theorem r48_150 : RR 48 150 L (.ref q :: st) (S, b, M, D, F) Q ↔ S[q]? = some (.inl 9) ∧ RR 48 153 L (va_rf (F q 8) :: st) (S, b, M, D, F) Q := rw_c p48_150 rfl
theorem r48_153 : RR 48 153 (a0 :: a1 :: a2 :: a3 :: a4 :: a5 :: a6 :: .int x :: l) st μ Q ↔ RR 48 155 (a0 :: a1 :: a2 :: a3 :: a4 :: a5 :: a6 :: .int x :: l) (.int x :: st) μ Q := rw_go p48_153 rfl
theorem r48_155 : RR 48 155 L (.int x :: .ref q :: st) (S, b, M, D, F) Q ↔ am_bd S b.2.2 q 0 x ∧ RR 48 156 L (.int (M q x.toInt.toNat) :: st) (S, b, M, D, F) Q := rw_c p48_155 am_xld_eq
theorem r48_156 : RR 48 156 L st μ Q ↔ RR 48 158 L (.int (nI 63) :: st) μ Q := rw_go p48_156 rfl
theorem r48_158 : RR 48 158 L (.int y :: .int x :: st) μ Q ↔ if x = y then RR 48 180 L st μ Q else RR 48 161 L st μ Q := rw_if p48_158 rfl
theorem r48_161 : RR 48 161 (.ref q :: l) st μ Q ↔ RR 48 162 (.ref q :: l) (.ref q :: st) μ Q := rw_go p48_161 rfl
theorem r48_162 : RR 48 162 L (.ref q :: st) (S, b, M, D, F) Q ↔ S[q]? = some (.inl 9) ∧ RR 48 165 L (va_rf (F q 8) :: st) (S, b, M, D, F) Q := rw_c p48_162 rfl
theorem r48_165 : RR 48 165 (a0 :: a1 :: a2 :: a3 :: a4 :: a5 :: a6 :: .int x :: l) st μ Q ↔ RR 48 167 (a0 :: a1 :: a2 :: a3 :: a4 :: a5 :: a6 :: .int x :: l) (.int x :: st) μ Q := rw_go p48_165 rfl
theorem r48_167 : RR 48 167 L (.int x :: .ref q :: st) (S, b, M, D, F) Q ↔ am_bd S b.2.2 q 0 x ∧ RR 48 168 L (.int (M q x.toInt.toNat) :: st) (S, b, M, D, F) Q := rw_c p48_167 am_xld_eq
theorem r48_168 : RR 48 168 (.ref q :: l) st μ Q ↔ RR 48 169 (.ref q :: l) (.ref q :: st) μ Q := rw_go p48_168 rfl
theorem r48_169 : RR 48 169 L (.ref q :: st) (S, b, M, D, F) Q ↔ S[q]? = some (.inl 9) ∧ RR 48 172 L (va_rf (F q 23) :: st) (S, b, M, D, F) Q := rw_c p48_169 rfl
theorem r48_172 : RR 48 172 (a0 :: a1 :: a2 :: a3 :: a4 :: a5 :: a6 :: a7 :: a8 :: .int x :: l) st μ Q ↔ RR 48 174 (a0 :: a1 :: a2 :: a3 :: a4 :: a5 :: a6 :: a7 :: a8 :: .int x :: l) (.int x :: st) μ Q := rw_go p48_172 rfl
theorem r48_174 : RR 48 174 L st μ Q ↔ RR 48 175 L (.int (nI 1) :: st) μ Q := rw_go p48_174 rfl
theorem r48_175 : RR 48 175 L (.int y :: .int x :: st) μ Q ↔ RR 48 176 L (.int (x - y) :: st) μ Q := rw_go p48_175 rfl
theorem r48_176 : RR 48 176 L (.int x :: .ref q :: st) (S, b, M, D, F) Q ↔ am_bd S b.2.2 q 0 x ∧ RR 48 177 L (.int (M q x.toInt.toNat) :: st) (S, b, M, D, F) Q := rw_c p48_176 am_xld_eq
theorem r48_177 : RR 48 177 L (.int y :: .int x :: st) μ Q ↔ if ¬ x = y then RR 48 184 L st μ Q else RR 48 180 L st μ Q := rw_if p48_177 rfl
theorem r48_180 : RR 48 180 L st μ Q ↔ RR 48 181 L (.int (nI 1) :: st) μ Q := rw_go p48_180 rfl
theorem r48_181 : RR 48 181 L st μ Q ↔ RR 48 185 L st μ Q := rw_go p48_181 rfl
theorem r48_184 : RR 48 184 L st μ Q ↔ RR 48 185 L (.int (nI 0) :: st) μ Q := rw_go p48_184 rfl
theorem r48_185 : RR 48 185 L (.int x :: .int y :: .ref q :: st) (S, b, M, D, F) Q ↔ am_bs S q 2 y ∧ RR 48 186 L st (S, b, am_up M q y.toInt.toNat (vp_nar .boolean x), D, F) Q := rw_c p48_185 (am_xst_eq (f := fun x => (vp_nar .boolean x)))
theorem r48_186 : RR 48 186 (a0 :: a1 :: a2 :: a3 :: a4 :: a5 :: a6 :: a7 :: a8 :: a9 :: .int x :: l) st μ Q ↔ RR 48 188 (a0 :: a1 :: a2 :: a3 :: a4 :: a5 :: a6 :: a7 :: a8 :: a9 :: .int x :: l) (.int x :: st) μ Q := rw_go p48_186 rfl
theorem r48_188 : RR 48 188 (a0 :: a1 :: a2 :: a3 :: a4 :: a5 :: a6 :: a7 :: c0 :: l) (.int x :: st) μ Q ↔ RR 48 190 (a0 :: a1 :: a2 :: a3 :: a4 :: a5 :: a6 :: am_nd a7 :: .int x :: l) st μ Q := rw_ist p48_188 (by show 8 < _; simp only [List.length_cons]; omega)
theorem r48_190 : RR 48 190 (a0 :: a1 :: a2 :: a3 :: a4 :: a5 :: a6 :: a7 :: a8 :: .int x :: l) st μ Q ↔ RR 48 193 (a0 :: a1 :: a2 :: a3 :: a4 :: a5 :: a6 :: a7 :: am_nd a8 :: .int (x + nI 1) :: l) st μ Q := rw_go p48_190 rfl
theorem r48_193 : RR 48 193 L st μ Q ↔ RR 48 85 L st μ Q := rw_go p48_193 rfl
theorem r48_196 : RR 48 196 (a0 :: a1 :: a2 :: a3 :: a4 :: a5 :: a6 :: .int x :: l) st μ Q ↔ RR 48 199 (a0 :: a1 :: a2 :: a3 :: a4 :: a5 :: am_nd a6 :: .int (x + nI 1) :: l) st μ Q := rw_go p48_196 rfl
theorem r48_199 : RR 48 199 L st μ Q ↔ RR 48 47 L st μ Q := rw_go p48_199 rfl
theorem r48_202 : RR 48 202 (.ref q :: l) st μ Q ↔ RR 48 203 (.ref q :: l) (.ref q :: st) μ Q := rw_go p48_202 rfl
theorem r48_203 : RR 48 203 L (.ref q :: st) (S, b, M, D, F) Q ↔ S[q]? = some (.inl 9) ∧ RR 48 206 L (va_rf (F q 24) :: st) (S, b, M, D, F) Q := rw_c p48_203 rfl
theorem r48_206 : RR 48 206 (a0 :: a1 :: a2 :: a3 :: a4 :: a5 :: .int x :: l) st μ Q ↔ RR 48 208 (a0 :: a1 :: a2 :: a3 :: a4 :: a5 :: .int x :: l) (.int x :: st) μ Q := rw_go p48_206 rfl
theorem r48_208 : RR 48 208 L (.int x :: .ref q :: st) (S, b, M, D, F) Q ↔ am_bd S b.2.2 q 2 x ∧ RR 48 209 L (.int (M q x.toInt.toNat) :: st) (S, b, M, D, F) Q := rw_c p48_208 am_xld_eq
theorem r48_209 : RR 48 209 L [.int x] μ Q ↔ (x = 0 ∨ x = 1) ∧ Q (some (.int x)) μ := rw_rc p48_209 rfl
/-! ReleaseDeskModel.isSeen -/
theorem r49_0 : RR 49 0 (.ref q :: l) st μ Q ↔ RR 49 1 (.ref q :: l) (.ref q :: st) μ Q := rw_go p49_0 rfl
theorem r49_1 : RR 49 1 L (.ref q :: st) (S, b, M, D, F) Q ↔ S[q]? = some (.inl 9) ∧ RR 49 4 L (va_rf (F q 0) :: st) (S, b, M, D, F) Q := rw_c p49_1 rfl
theorem r49_4 : RR 49 4 L st μ Q ↔ RR 49 6 L (.int (nI 8) :: st) μ Q := rw_go p49_4 rfl
theorem r49_6 : RR 49 6 (a0 :: .int x :: l) st μ Q ↔ RR 49 7 (a0 :: .int x :: l) (.int x :: st) μ Q := rw_go p49_6 rfl
theorem r49_7 : RR 49 7 L (.int y :: .int x :: st) μ Q ↔ RR 49 8 L (.int (x * y) :: st) μ Q := rw_go p49_7 rfl
theorem r49_8 : RR 49 8 (a0 :: a1 :: .int x :: l) st μ Q ↔ RR 49 9 (a0 :: a1 :: .int x :: l) (.int x :: st) μ Q := rw_go p49_8 rfl
theorem r49_9 : RR 49 9 L (.int y :: .int x :: st) μ Q ↔ RR 49 10 L (.int (x + y) :: st) μ Q := rw_go p49_9 rfl
theorem r49_10 : RR 49 10 L (.int x :: .ref q :: st) (S, b, M, D, F) Q ↔ am_bd S b.2.2 q 2 x ∧ RR 49 11 L (.int (M q x.toInt.toNat) :: st) (S, b, M, D, F) Q := rw_c p49_10 am_xld_eq
theorem r49_11 : RR 49 11 L (.int x :: st) μ Q ↔ if x = 0 then RR 49 34 L st μ Q else RR 49 14 L st μ Q := rw_if p49_11 rfl
theorem r49_14 : RR 49 14 (.ref q :: l) st μ Q ↔ RR 49 15 (.ref q :: l) (.ref q :: st) μ Q := rw_go p49_14 rfl
theorem r49_15 : RR 49 15 L (.ref q :: st) (S, b, M, D, F) Q ↔ S[q]? = some (.inl 9) ∧ RR 49 18 L (va_rf (F q 2) :: st) (S, b, M, D, F) Q := rw_c p49_15 rfl
theorem r49_18 : RR 49 18 L st μ Q ↔ RR 49 20 L (.int (nI 8) :: st) μ Q := rw_go p49_18 rfl
theorem r49_20 : RR 49 20 (a0 :: .int x :: l) st μ Q ↔ RR 49 21 (a0 :: .int x :: l) (.int x :: st) μ Q := rw_go p49_20 rfl
theorem r49_21 : RR 49 21 L (.int y :: .int x :: st) μ Q ↔ RR 49 22 L (.int (x * y) :: st) μ Q := rw_go p49_21 rfl
theorem r49_22 : RR 49 22 (a0 :: a1 :: .int x :: l) st μ Q ↔ RR 49 23 (a0 :: a1 :: .int x :: l) (.int x :: st) μ Q := rw_go p49_22 rfl
theorem r49_23 : RR 49 23 L (.int y :: .int x :: st) μ Q ↔ RR 49 24 L (.int (x + y) :: st) μ Q := rw_go p49_23 rfl
theorem r49_24 : RR 49 24 L (.int x :: .ref q :: st) (S, b, M, D, F) Q ↔ am_bd S b.2.2 q 0 x ∧ RR 49 25 L (.int (M q x.toInt.toNat) :: st) (S, b, M, D, F) Q := rw_c p49_24 am_xld_eq
theorem r49_25 : RR 49 25 L st μ Q ↔ RR 49 26 L (.int (nI 1) :: st) μ Q := rw_go p49_25 rfl
theorem r49_26 : RR 49 26 L (.int y :: .int x :: st) μ Q ↔ RR 49 27 L (.int (x &&& y) :: st) μ Q := rw_go p49_26 rfl
theorem r49_27 : RR 49 27 L (.int x :: st) μ Q ↔ if x = 0 then RR 49 34 L st μ Q else RR 49 30 L st μ Q := rw_if p49_27 rfl
theorem r49_30 : RR 49 30 L st μ Q ↔ RR 49 31 L (.int (nI 1) :: st) μ Q := rw_go p49_30 rfl
theorem r49_31 : RR 49 31 L st μ Q ↔ RR 49 35 L st μ Q := rw_go p49_31 rfl
theorem r49_34 : RR 49 34 L st μ Q ↔ RR 49 35 L (.int (nI 0) :: st) μ Q := rw_go p49_34 rfl
theorem r49_35 : RR 49 35 L [.int x] μ Q ↔ (x = 0 ∨ x = 1) ∧ Q (some (.int x)) μ := rw_rc p49_35 rfl
/-! ReleaseDeskModel.shows -/
theorem r50_0 : RR 50 0 (.ref q :: l) st μ Q ↔ RR 50 1 (.ref q :: l) (.ref q :: st) μ Q := rw_go p50_0 rfl
theorem r50_1 : RR 50 1 L (.ref q :: st) (S, b, M, D, F) Q ↔ S[q]? = some (.inl 9) ∧ RR 50 4 L (va_rf (F q 6) :: st) (S, b, M, D, F) Q := rw_c p50_1 rfl
theorem r50_4 : RR 50 4 (a0 :: .int x :: l) st μ Q ↔ RR 50 5 (a0 :: .int x :: l) (.int x :: st) μ Q := rw_go p50_4 rfl
theorem r50_5 : RR 50 5 (a0 :: a1 :: .int x :: l) st μ Q ↔ RR 50 6 (a0 :: a1 :: .int x :: l) (.int x :: st) μ Q := rw_go p50_5 rfl
theorem r50_6 : RR 50 6 (a0 :: a1 :: a2 :: .int x :: l) st μ Q ↔ RR 50 7 (a0 :: a1 :: a2 :: .int x :: l) (.int x :: st) μ Q := rw_go p50_6 rfl
theorem r50_7 : RR 50 7 L (.int x3 :: .int x2 :: .int x1 :: st) (S, (0, 0, sl), M, D, F) Q ↔ (am_cat st ≤ 8 ∧ 3 = 3) ∧ RR 36 0 [.int x1, .int x2, .int x3] [] (S, (0, 0, sl), M, D, F) (fun rv μ' => μ'.1.length = S.length ∧ RR 50 10 L (rv.toList ++ st) (μ'.1, (0, 0, sl), μ'.2.2) Q) := rw_call p50_7 rfl (ac36 x1 x2 x3)
theorem r50_10 : RR 50 10 L (.int x :: .ref q :: st) (S, b, M, D, F) Q ↔ am_bd S b.2.2 q 0 x ∧ RR 50 11 L (.int (M q x.toInt.toNat) :: st) (S, b, M, D, F) Q := rw_c p50_10 am_xld_eq
theorem r50_11 : RR 50 11 L st μ Q ↔ RR 50 13 L (.int (nI 8) :: st) μ Q := rw_go p50_11 rfl
theorem r50_13 : RR 50 13 L (.int y :: .int x :: st) μ Q ↔ ¬ y = 0 ∧ RR 50 14 L (.int (x / y) :: st) μ Q := rw_n p50_13 rfl
theorem r50_14 : RR 50 14 (a0 :: a1 :: a2 :: a3 :: c0 :: l) (.int x :: st) μ Q ↔ RR 50 16 (a0 :: a1 :: a2 :: am_nd a3 :: .int x :: l) st μ Q := rw_ist p50_14 (by show 4 < _; simp only [List.length_cons]; omega)
theorem r50_16 : RR 50 16 (.ref q :: l) st μ Q ↔ RR 50 17 (.ref q :: l) (.ref q :: st) μ Q := rw_go p50_16 rfl
theorem r50_17 : RR 50 17 L (.ref q :: st) (S, b, M, D, F) Q ↔ S[q]? = some (.inl 9) ∧ RR 50 20 L (va_rf (F q 6) :: st) (S, b, M, D, F) Q := rw_c p50_17 rfl
theorem r50_20 : RR 50 20 (a0 :: .int x :: l) st μ Q ↔ RR 50 21 (a0 :: .int x :: l) (.int x :: st) μ Q := rw_go p50_20 rfl
theorem r50_21 : RR 50 21 (a0 :: a1 :: .int x :: l) st μ Q ↔ RR 50 22 (a0 :: a1 :: .int x :: l) (.int x :: st) μ Q := rw_go p50_21 rfl
theorem r50_22 : RR 50 22 (a0 :: a1 :: a2 :: .int x :: l) st μ Q ↔ RR 50 23 (a0 :: a1 :: a2 :: .int x :: l) (.int x :: st) μ Q := rw_go p50_22 rfl
theorem r50_23 : RR 50 23 L (.int x3 :: .int x2 :: .int x1 :: st) (S, (0, 0, sl), M, D, F) Q ↔ (am_cat st ≤ 8 ∧ 3 = 3) ∧ RR 36 0 [.int x1, .int x2, .int x3] [] (S, (0, 0, sl), M, D, F) (fun rv μ' => μ'.1.length = S.length ∧ RR 50 26 L (rv.toList ++ st) (μ'.1, (0, 0, sl), μ'.2.2) Q) := rw_call p50_23 rfl (ac36 x1 x2 x3)
theorem r50_26 : RR 50 26 L (.int x :: .ref q :: st) (S, b, M, D, F) Q ↔ am_bd S b.2.2 q 0 x ∧ RR 50 27 L (.int (M q x.toInt.toNat) :: st) (S, b, M, D, F) Q := rw_c p50_26 am_xld_eq
theorem r50_27 : RR 50 27 L (.int x :: st) μ Q ↔ if x < 0 then RR 50 39 L st μ Q else RR 50 30 L st μ Q := rw_if p50_27 rfl
theorem r50_30 : RR 50 30 (.ref q :: l) st μ Q ↔ RR 50 31 (.ref q :: l) (.ref q :: st) μ Q := rw_go p50_30 rfl
theorem r50_31 : RR 50 31 (a0 :: .int x :: l) st μ Q ↔ RR 50 32 (a0 :: .int x :: l) (.int x :: st) μ Q := rw_go p50_31 rfl
theorem r50_32 : RR 50 32 (a0 :: a1 :: .int x :: l) st μ Q ↔ RR 50 33 (a0 :: a1 :: .int x :: l) (.int x :: st) μ Q := rw_go p50_32 rfl
theorem r50_33 : RR 50 33 L (.int x2 :: .int x1 :: .ref q :: st) (S, (0, 0, sl), M, D, F) Q ↔ (am_cat st ≤ 8 ∧ 3 = 3 ∧ S[q]? = some (.inl 9)) ∧ RR 49 0 [.ref q, .int x1, .int x2] [] (S, (0, 0, sl), M, D, F) (fun rv μ' => μ'.1.length = S.length ∧ RR 50 36 L (rv.toList ++ st) (μ'.1, (0, 0, sl), μ'.2.2) Q) := rw_call p50_33 rfl (ac49 q x1 x2)
theorem r50_36 : RR 50 36 L (.int x :: st) μ Q ↔ if ¬ x = 0 then RR 50 41 L st μ Q else RR 50 39 L st μ Q := rw_if p50_36 rfl
theorem r50_39 : RR 50 39 L st μ Q ↔ RR 50 40 L (.int (nI 0) :: st) μ Q := rw_go p50_39 rfl
theorem r50_40 : RR 50 40 L [.int x] μ Q ↔ (x = 0 ∨ x = 1) ∧ Q (some (.int x)) μ := rw_rc p50_40 rfl
theorem r50_41 : RR 50 41 (a0 :: a1 :: a2 :: a3 :: .int x :: l) st μ Q ↔ RR 50 43 (a0 :: a1 :: a2 :: a3 :: .int x :: l) (.int x :: st) μ Q := rw_go p50_41 rfl
theorem r50_43 : RR 50 43 L st μ Q ↔ RR 50 44 L (.int (nI 3) :: st) μ Q := rw_go p50_43 rfl
theorem r50_44 : RR 50 44 L (.int y :: .int x :: st) μ Q ↔ if x = y then RR 50 70 L st μ Q else RR 50 47 L st μ Q := rw_if p50_44 rfl
theorem r50_47 : RR 50 47 (a0 :: a1 :: a2 :: a3 :: .int x :: l) st μ Q ↔ RR 50 49 (a0 :: a1 :: a2 :: a3 :: .int x :: l) (.int x :: st) μ Q := rw_go p50_47 rfl
theorem r50_49 : RR 50 49 L st μ Q ↔ RR 50 50 L (.int (nI 2) :: st) μ Q := rw_go p50_49 rfl
theorem r50_50 : RR 50 50 L (.int y :: .int x :: st) μ Q ↔ if ¬ x = y then RR 50 74 L st μ Q else RR 50 53 L st μ Q := rw_if p50_50 rfl
theorem r50_53 : RR 50 53 (.ref q :: l) st μ Q ↔ RR 50 54 (.ref q :: l) (.ref q :: st) μ Q := rw_go p50_53 rfl
theorem r50_54 : RR 50 54 L (.ref q :: st) (S, b, M, D, F) Q ↔ S[q]? = some (.inl 9) ∧ RR 50 57 L (va_rf (F q 2) :: st) (S, b, M, D, F) Q := rw_c p50_54 rfl
theorem r50_57 : RR 50 57 L st μ Q ↔ RR 50 59 L (.int (nI 8) :: st) μ Q := rw_go p50_57 rfl
theorem r50_59 : RR 50 59 (a0 :: .int x :: l) st μ Q ↔ RR 50 60 (a0 :: .int x :: l) (.int x :: st) μ Q := rw_go p50_59 rfl
theorem r50_60 : RR 50 60 L (.int y :: .int x :: st) μ Q ↔ RR 50 61 L (.int (x * y) :: st) μ Q := rw_go p50_60 rfl
theorem r50_61 : RR 50 61 (a0 :: a1 :: .int x :: l) st μ Q ↔ RR 50 62 (a0 :: a1 :: .int x :: l) (.int x :: st) μ Q := rw_go p50_61 rfl
theorem r50_62 : RR 50 62 L (.int y :: .int x :: st) μ Q ↔ RR 50 63 L (.int (x + y) :: st) μ Q := rw_go p50_62 rfl
theorem r50_63 : RR 50 63 L (.int x :: .ref q :: st) (S, b, M, D, F) Q ↔ am_bd S b.2.2 q 0 x ∧ RR 50 64 L (.int (M q x.toInt.toNat) :: st) (S, b, M, D, F) Q := rw_c p50_63 am_xld_eq
theorem r50_64 : RR 50 64 L st μ Q ↔ RR 50 66 L (.int (nI 8) :: st) μ Q := rw_go p50_64 rfl
theorem r50_66 : RR 50 66 L (.int y :: .int x :: st) μ Q ↔ RR 50 67 L (.int (x &&& y) :: st) μ Q := rw_go p50_66 rfl
theorem r50_67 : RR 50 67 L (.int x :: st) μ Q ↔ if ¬ x = 0 then RR 50 74 L st μ Q else RR 50 70 L st μ Q := rw_if p50_67 rfl
theorem r50_70 : RR 50 70 L st μ Q ↔ RR 50 71 L (.int (nI 1) :: st) μ Q := rw_go p50_70 rfl
theorem r50_71 : RR 50 71 L st μ Q ↔ RR 50 75 L st μ Q := rw_go p50_71 rfl
theorem r50_74 : RR 50 74 L st μ Q ↔ RR 50 75 L (.int (nI 0) :: st) μ Q := rw_go p50_74 rfl
theorem r50_75 : RR 50 75 L [.int x] μ Q ↔ (x = 0 ∨ x = 1) ∧ Q (some (.int x)) μ := rw_rc p50_75 rfl
/-! ReleaseDeskModel.aboveOf -/
theorem r51_0 : RR 51 0 L st μ Q ↔ RR 51 1 L (.int (nI 0) :: st) μ Q := rw_go p51_0 rfl
theorem r51_1 : RR 51 1 (a0 :: a1 :: a2 :: c0 :: l) (.int x :: st) μ Q ↔ RR 51 2 (a0 :: a1 :: am_nd a2 :: .int x :: l) st μ Q := rw_istn p51_1 (by show 3 < _; simp only [List.length_cons]; omega)
theorem r51_2 : RR 51 2 L st μ Q ↔ RR 51 3 L (.int (nI 1) :: st) μ Q := rw_go p51_2 rfl
theorem r51_3 : RR 51 3 (a0 :: a1 :: .int x :: l) st μ Q ↔ RR 51 4 (a0 :: a1 :: .int x :: l) (.int x :: st) μ Q := rw_go p51_3 rfl
theorem r51_4 : RR 51 4 L (.int y :: .int x :: st) μ Q ↔ RR 51 5 L (.int (x <<< (y &&& 31)) :: st) μ Q := rw_go p51_4 rfl
theorem r51_5 : RR 51 5 (a0 :: a1 :: a2 :: a3 :: c0 :: l) (.int x :: st) μ Q ↔ RR 51 7 (a0 :: a1 :: a2 :: am_nd a3 :: .int x :: l) st μ Q := rw_ist p51_5 (by show 4 < _; simp only [List.length_cons]; omega)
theorem r51_7 : RR 51 7 (a0 :: a1 :: a2 :: a3 :: .int x :: l) st μ Q ↔ RR 51 9 (a0 :: a1 :: a2 :: a3 :: .int x :: l) (.int x :: st) μ Q := rw_go p51_7 rfl
theorem r51_9 : RR 51 9 L (.int x :: st) μ Q ↔ if x = 0 then RR 51 176 L st μ Q else RR 51 12 L st μ Q := rw_if p51_9 rfl
theorem r51_12 : RR 51 12 L st μ Q ↔ RR 51 13 L (.int (nI 0) :: st) μ Q := rw_go p51_12 rfl
theorem r51_13 : RR 51 13 (a0 :: a1 :: a2 :: a3 :: a4 :: c0 :: l) (.int x :: st) μ Q ↔ RR 51 15 (a0 :: a1 :: a2 :: a3 :: am_nd a4 :: .int x :: l) st μ Q := rw_ist p51_13 (by show 5 < _; simp only [List.length_cons]; omega)
theorem r51_15 : RR 51 15 L st μ Q ↔ RR 51 16 L (.int (nI 0) :: st) μ Q := rw_go p51_15 rfl
theorem r51_16 : RR 51 16 (a0 :: a1 :: a2 :: a3 :: a4 :: a5 :: c0 :: l) (.int x :: st) μ Q ↔ RR 51 18 (a0 :: a1 :: a2 :: a3 :: a4 :: am_nd a5 :: .int x :: l) st μ Q := rw_ist p51_16 (by show 6 < _; simp only [List.length_cons]; omega)
theorem r51_18 : RR 51 18 (a0 :: a1 :: a2 :: a3 :: a4 :: a5 :: .int x :: l) st μ Q ↔ RR 51 20 (a0 :: a1 :: a2 :: a3 :: a4 :: a5 :: .int x :: l) (.int x :: st) μ Q := rw_go p51_18 rfl
theorem r51_20 : RR 51 20 L st μ Q ↔ RR 51 22 L (.int (nI 8) :: st) μ Q := rw_go p51_20 rfl
theorem r51_22 : RR 51 22 L (.int y :: .int x :: st) μ Q ↔ if y ≤ x then RR 51 95 L st μ Q else RR 51 25 L st μ Q := rw_if p51_22 rfl
theorem r51_25 : RR 51 25 (a0 :: a1 :: a2 :: a3 :: .int x :: l) st μ Q ↔ RR 51 27 (a0 :: a1 :: a2 :: a3 :: .int x :: l) (.int x :: st) μ Q := rw_go p51_25 rfl
theorem r51_27 : RR 51 27 (a0 :: a1 :: a2 :: a3 :: a4 :: a5 :: .int x :: l) st μ Q ↔ RR 51 29 (a0 :: a1 :: a2 :: a3 :: a4 :: a5 :: .int x :: l) (.int x :: st) μ Q := rw_go p51_27 rfl
theorem r51_29 : RR 51 29 L (.int y :: .int x :: st) μ Q ↔ RR 51 30 L (.int (x >>> (y &&& 31)) :: st) μ Q := rw_go p51_29 rfl
theorem r51_30 : RR 51 30 L st μ Q ↔ RR 51 31 L (.int (nI 1) :: st) μ Q := rw_go p51_30 rfl
theorem r51_31 : RR 51 31 L (.int y :: .int x :: st) μ Q ↔ RR 51 32 L (.int (x &&& y) :: st) μ Q := rw_go p51_31 rfl
theorem r51_32 : RR 51 32 L (.int x :: st) μ Q ↔ if ¬ x = 0 then RR 51 38 L st μ Q else RR 51 35 L st μ Q := rw_if p51_32 rfl
theorem r51_35 : RR 51 35 L st μ Q ↔ RR 51 89 L st μ Q := rw_go p51_35 rfl
theorem r51_38 : RR 51 38 (a0 :: a1 :: a2 :: a3 :: a4 :: .int x :: l) st μ Q ↔ RR 51 40 (a0 :: a1 :: a2 :: a3 :: a4 :: .int x :: l) (.int x :: st) μ Q := rw_go p51_38 rfl
theorem r51_40 : RR 51 40 (.ref q :: l) st μ Q ↔ RR 51 41 (.ref q :: l) (.ref q :: st) μ Q := rw_go p51_40 rfl
theorem r51_41 : RR 51 41 L (.ref q :: st) (S, b, M, D, F) Q ↔ S[q]? = some (.inl 9) ∧ RR 51 44 L (va_rf (F q 5) :: st) (S, b, M, D, F) Q := rw_c p51_41 rfl
theorem r51_44 : RR 51 44 L st μ Q ↔ RR 51 46 L (.int (nI 8) :: st) μ Q := rw_go p51_44 rfl
theorem r51_46 : RR 51 46 (a0 :: .int x :: l) st μ Q ↔ RR 51 47 (a0 :: .int x :: l) (.int x :: st) μ Q := rw_go p51_46 rfl
theorem r51_47 : RR 51 47 L (.int y :: .int x :: st) μ Q ↔ RR 51 48 L (.int (x * y) :: st) μ Q := rw_go p51_47 rfl
theorem r51_48 : RR 51 48 (a0 :: a1 :: a2 :: a3 :: a4 :: a5 :: .int x :: l) st μ Q ↔ RR 51 50 (a0 :: a1 :: a2 :: a3 :: a4 :: a5 :: .int x :: l) (.int x :: st) μ Q := rw_go p51_48 rfl
theorem r51_50 : RR 51 50 L (.int y :: .int x :: st) μ Q ↔ RR 51 51 L (.int (x + y) :: st) μ Q := rw_go p51_50 rfl
theorem r51_51 : RR 51 51 L (.int x :: .ref q :: st) (S, b, M, D, F) Q ↔ am_bd S b.2.2 q 0 x ∧ RR 51 52 L (.int (M q x.toInt.toNat) :: st) (S, b, M, D, F) Q := rw_c p51_51 am_xld_eq
theorem r51_52 : RR 51 52 L (.int y :: .int x :: st) μ Q ↔ RR 51 53 L (.int (x ||| y) :: st) μ Q := rw_go p51_52 rfl
theorem r51_53 : RR 51 53 (a0 :: a1 :: a2 :: a3 :: a4 :: c0 :: l) (.int x :: st) μ Q ↔ RR 51 55 (a0 :: a1 :: a2 :: a3 :: am_nd a4 :: .int x :: l) st μ Q := rw_ist p51_53 (by show 5 < _; simp only [List.length_cons]; omega)
theorem r51_55 : RR 51 55 (.ref q :: l) st μ Q ↔ RR 51 56 (.ref q :: l) (.ref q :: st) μ Q := rw_go p51_55 rfl
theorem r51_56 : RR 51 56 L (.ref q :: st) (S, b, M, D, F) Q ↔ S[q]? = some (.inl 9) ∧ RR 51 59 L (va_rf (F q 4) :: st) (S, b, M, D, F) Q := rw_c p51_56 rfl
theorem r51_59 : RR 51 59 L st μ Q ↔ RR 51 61 L (.int (nI 8) :: st) μ Q := rw_go p51_59 rfl
theorem r51_61 : RR 51 61 (a0 :: .int x :: l) st μ Q ↔ RR 51 62 (a0 :: .int x :: l) (.int x :: st) μ Q := rw_go p51_61 rfl
theorem r51_62 : RR 51 62 L (.int y :: .int x :: st) μ Q ↔ RR 51 63 L (.int (x * y) :: st) μ Q := rw_go p51_62 rfl
theorem r51_63 : RR 51 63 (a0 :: a1 :: a2 :: a3 :: a4 :: a5 :: .int x :: l) st μ Q ↔ RR 51 65 (a0 :: a1 :: a2 :: a3 :: a4 :: a5 :: .int x :: l) (.int x :: st) μ Q := rw_go p51_63 rfl
theorem r51_65 : RR 51 65 L (.int y :: .int x :: st) μ Q ↔ RR 51 66 L (.int (x + y) :: st) μ Q := rw_go p51_65 rfl
theorem r51_66 : RR 51 66 L (.int x :: .ref q :: st) (S, b, M, D, F) Q ↔ am_bd S b.2.2 q 0 x ∧ RR 51 67 L (.int (M q x.toInt.toNat) :: st) (S, b, M, D, F) Q := rw_c p51_66 am_xld_eq
theorem r51_67 : RR 51 67 L (.int x :: st) μ Q ↔ if x < 0 then RR 51 89 L st μ Q else RR 51 70 L st μ Q := rw_if p51_67 rfl
theorem r51_70 : RR 51 70 (a0 :: a1 :: a2 :: a3 :: a4 :: .int x :: l) st μ Q ↔ RR 51 72 (a0 :: a1 :: a2 :: a3 :: a4 :: .int x :: l) (.int x :: st) μ Q := rw_go p51_70 rfl
theorem r51_72 : RR 51 72 L st μ Q ↔ RR 51 73 L (.int (nI 1) :: st) μ Q := rw_go p51_72 rfl
theorem r51_73 : RR 51 73 (.ref q :: l) st μ Q ↔ RR 51 74 (.ref q :: l) (.ref q :: st) μ Q := rw_go p51_73 rfl
theorem r51_74 : RR 51 74 L (.ref q :: st) (S, b, M, D, F) Q ↔ S[q]? = some (.inl 9) ∧ RR 51 77 L (va_rf (F q 4) :: st) (S, b, M, D, F) Q := rw_c p51_74 rfl
theorem r51_77 : RR 51 77 L st μ Q ↔ RR 51 79 L (.int (nI 8) :: st) μ Q := rw_go p51_77 rfl
theorem r51_79 : RR 51 79 (a0 :: .int x :: l) st μ Q ↔ RR 51 80 (a0 :: .int x :: l) (.int x :: st) μ Q := rw_go p51_79 rfl
theorem r51_80 : RR 51 80 L (.int y :: .int x :: st) μ Q ↔ RR 51 81 L (.int (x * y) :: st) μ Q := rw_go p51_80 rfl
theorem r51_81 : RR 51 81 (a0 :: a1 :: a2 :: a3 :: a4 :: a5 :: .int x :: l) st μ Q ↔ RR 51 83 (a0 :: a1 :: a2 :: a3 :: a4 :: a5 :: .int x :: l) (.int x :: st) μ Q := rw_go p51_81 rfl
theorem r51_83 : RR 51 83 L (.int y :: .int x :: st) μ Q ↔ RR 51 84 L (.int (x + y) :: st) μ Q := rw_go p51_83 rfl
theorem r51_84 : RR 51 84 L (.int x :: .ref q :: st) (S, b, M, D, F) Q ↔ am_bd S b.2.2 q 0 x ∧ RR 51 85 L (.int (M q x.toInt.toNat) :: st) (S, b, M, D, F) Q := rw_c p51_84 am_xld_eq
theorem r51_85 : RR 51 85 L (.int y :: .int x :: st) μ Q ↔ RR 51 86 L (.int (x <<< (y &&& 31)) :: st) μ Q := rw_go p51_85 rfl
theorem r51_86 : RR 51 86 L (.int y :: .int x :: st) μ Q ↔ RR 51 87 L (.int (x ||| y) :: st) μ Q := rw_go p51_86 rfl
theorem r51_87 : RR 51 87 (a0 :: a1 :: a2 :: a3 :: a4 :: c0 :: l) (.int x :: st) μ Q ↔ RR 51 89 (a0 :: a1 :: a2 :: a3 :: am_nd a4 :: .int x :: l) st μ Q := rw_ist p51_87 (by show 5 < _; simp only [List.length_cons]; omega)
theorem r51_89 : RR 51 89 (a0 :: a1 :: a2 :: a3 :: a4 :: a5 :: .int x :: l) st μ Q ↔ RR 51 92 (a0 :: a1 :: a2 :: a3 :: a4 :: am_nd a5 :: .int (x + nI 1) :: l) st μ Q := rw_go p51_89 rfl
theorem r51_92 : RR 51 92 L st μ Q ↔ RR 51 18 L st μ Q := rw_go p51_92 rfl
theorem r51_95 : RR 51 95 L st μ Q ↔ RR 51 96 L (.int (nI 0) :: st) μ Q := rw_go p51_95 rfl
theorem r51_96 : RR 51 96 (a0 :: a1 :: a2 :: a3 :: a4 :: a5 :: c0 :: l) (.int x :: st) μ Q ↔ RR 51 98 (a0 :: a1 :: a2 :: a3 :: a4 :: am_nd a5 :: .int x :: l) st μ Q := rw_ist p51_96 (by show 6 < _; simp only [List.length_cons]; omega)
theorem r51_98 : RR 51 98 L st μ Q ↔ RR 51 99 L (.int (nI 0) :: st) μ Q := rw_go p51_98 rfl
theorem r51_99 : RR 51 99 (a0 :: a1 :: a2 :: a3 :: a4 :: a5 :: a6 :: c0 :: l) (.int x :: st) μ Q ↔ RR 51 101 (a0 :: a1 :: a2 :: a3 :: a4 :: a5 :: am_nd a6 :: .int x :: l) st μ Q := rw_ist p51_99 (by show 7 < _; simp only [List.length_cons]; omega)
theorem r51_101 : RR 51 101 (a0 :: a1 :: a2 :: a3 :: a4 :: a5 :: a6 :: .int x :: l) st μ Q ↔ RR 51 103 (a0 :: a1 :: a2 :: a3 :: a4 :: a5 :: a6 :: .int x :: l) (.int x :: st) μ Q := rw_go p51_101 rfl
theorem r51_103 : RR 51 103 L st μ Q ↔ RR 51 105 L (.int (nI 8) :: st) μ Q := rw_go p51_103 rfl
theorem r51_105 : RR 51 105 L (.int y :: .int x :: st) μ Q ↔ if y ≤ x then RR 51 164 L st μ Q else RR 51 108 L st μ Q := rw_if p51_105 rfl
theorem r51_108 : RR 51 108 (a0 :: a1 :: a2 :: a3 :: a4 :: .int x :: l) st μ Q ↔ RR 51 110 (a0 :: a1 :: a2 :: a3 :: a4 :: .int x :: l) (.int x :: st) μ Q := rw_go p51_108 rfl
theorem r51_110 : RR 51 110 (a0 :: a1 :: a2 :: a3 :: a4 :: a5 :: a6 :: .int x :: l) st μ Q ↔ RR 51 112 (a0 :: a1 :: a2 :: a3 :: a4 :: a5 :: a6 :: .int x :: l) (.int x :: st) μ Q := rw_go p51_110 rfl
theorem r51_112 : RR 51 112 L (.int y :: .int x :: st) μ Q ↔ RR 51 113 L (.int (x >>> (y &&& 31)) :: st) μ Q := rw_go p51_112 rfl
theorem r51_113 : RR 51 113 L st μ Q ↔ RR 51 114 L (.int (nI 1) :: st) μ Q := rw_go p51_113 rfl
theorem r51_114 : RR 51 114 L (.int y :: .int x :: st) μ Q ↔ RR 51 115 L (.int (x &&& y) :: st) μ Q := rw_go p51_114 rfl
theorem r51_115 : RR 51 115 L st μ Q ↔ RR 51 116 L (.int (nI 1) :: st) μ Q := rw_go p51_115 rfl
theorem r51_116 : RR 51 116 L (.int y :: .int x :: st) μ Q ↔ if ¬ x = y then RR 51 158 L st μ Q else RR 51 119 L st μ Q := rw_if p51_116 rfl
theorem r51_119 : RR 51 119 (a0 :: a1 :: a2 :: a3 :: a4 :: a5 :: a6 :: .int x :: l) st μ Q ↔ RR 51 121 (a0 :: a1 :: a2 :: a3 :: a4 :: a5 :: a6 :: .int x :: l) (.int x :: st) μ Q := rw_go p51_119 rfl
theorem r51_121 : RR 51 121 (a0 :: a1 :: .int x :: l) st μ Q ↔ RR 51 122 (a0 :: a1 :: .int x :: l) (.int x :: st) μ Q := rw_go p51_121 rfl
theorem r51_122 : RR 51 122 L (.int y :: .int x :: st) μ Q ↔ if x = y then RR 51 158 L st μ Q else RR 51 125 L st μ Q := rw_if p51_122 rfl
theorem r51_125 : RR 51 125 (.ref q :: l) st μ Q ↔ RR 51 126 (.ref q :: l) (.ref q :: st) μ Q := rw_go p51_125 rfl
theorem r51_126 : RR 51 126 L (.ref q :: st) (S, b, M, D, F) Q ↔ S[q]? = some (.inl 9) ∧ RR 51 129 L (va_rf (F q 0) :: st) (S, b, M, D, F) Q := rw_c p51_126 rfl
theorem r51_129 : RR 51 129 L st μ Q ↔ RR 51 131 L (.int (nI 8) :: st) μ Q := rw_go p51_129 rfl
theorem r51_131 : RR 51 131 (a0 :: .int x :: l) st μ Q ↔ RR 51 132 (a0 :: .int x :: l) (.int x :: st) μ Q := rw_go p51_131 rfl
theorem r51_132 : RR 51 132 L (.int y :: .int x :: st) μ Q ↔ RR 51 133 L (.int (x * y) :: st) μ Q := rw_go p51_132 rfl
theorem r51_133 : RR 51 133 (a0 :: a1 :: a2 :: a3 :: a4 :: a5 :: a6 :: .int x :: l) st μ Q ↔ RR 51 135 (a0 :: a1 :: a2 :: a3 :: a4 :: a5 :: a6 :: .int x :: l) (.int x :: st) μ Q := rw_go p51_133 rfl
theorem r51_135 : RR 51 135 L (.int y :: .int x :: st) μ Q ↔ RR 51 136 L (.int (x + y) :: st) μ Q := rw_go p51_135 rfl
theorem r51_136 : RR 51 136 L (.int x :: .ref q :: st) (S, b, M, D, F) Q ↔ am_bd S b.2.2 q 2 x ∧ RR 51 137 L (.int (M q x.toInt.toNat) :: st) (S, b, M, D, F) Q := rw_c p51_136 am_xld_eq
theorem r51_137 : RR 51 137 L (.int x :: st) μ Q ↔ if x = 0 then RR 51 158 L st μ Q else RR 51 140 L st μ Q := rw_if p51_137 rfl
theorem r51_140 : RR 51 140 (a0 :: a1 :: a2 :: .int x :: l) st μ Q ↔ RR 51 141 (a0 :: a1 :: a2 :: .int x :: l) (.int x :: st) μ Q := rw_go p51_140 rfl
theorem r51_141 : RR 51 141 (a0 :: a1 :: a2 :: a3 :: a4 :: a5 :: a6 :: .int x :: l) st μ Q ↔ RR 51 143 (a0 :: a1 :: a2 :: a3 :: a4 :: a5 :: a6 :: .int x :: l) (.int x :: st) μ Q := rw_go p51_141 rfl
theorem r51_143 : RR 51 143 L (.int y :: .int x :: st) μ Q ↔ RR 51 144 L (.int (x >>> (y &&& 31)) :: st) μ Q := rw_go p51_143 rfl
theorem r51_144 : RR 51 144 L st μ Q ↔ RR 51 145 L (.int (nI 1) :: st) μ Q := rw_go p51_144 rfl
theorem r51_145 : RR 51 145 L (.int y :: .int x :: st) μ Q ↔ RR 51 146 L (.int (x &&& y) :: st) μ Q := rw_go p51_145 rfl
theorem r51_146 : RR 51 146 L (.int x :: st) μ Q ↔ if ¬ x = 0 then RR 51 158 L st μ Q else RR 51 149 L st μ Q := rw_if p51_146 rfl
theorem r51_149 : RR 51 149 (a0 :: a1 :: a2 :: a3 :: a4 :: a5 :: .int x :: l) st μ Q ↔ RR 51 151 (a0 :: a1 :: a2 :: a3 :: a4 :: a5 :: .int x :: l) (.int x :: st) μ Q := rw_go p51_149 rfl
theorem r51_151 : RR 51 151 L st μ Q ↔ RR 51 152 L (.int (nI 1) :: st) μ Q := rw_go p51_151 rfl
theorem r51_152 : RR 51 152 (a0 :: a1 :: a2 :: a3 :: a4 :: a5 :: a6 :: .int x :: l) st μ Q ↔ RR 51 154 (a0 :: a1 :: a2 :: a3 :: a4 :: a5 :: a6 :: .int x :: l) (.int x :: st) μ Q := rw_go p51_152 rfl
theorem r51_154 : RR 51 154 L (.int y :: .int x :: st) μ Q ↔ RR 51 155 L (.int (x <<< (y &&& 31)) :: st) μ Q := rw_go p51_154 rfl
theorem r51_155 : RR 51 155 L (.int y :: .int x :: st) μ Q ↔ RR 51 156 L (.int (x ||| y) :: st) μ Q := rw_go p51_155 rfl
theorem r51_156 : RR 51 156 (a0 :: a1 :: a2 :: a3 :: a4 :: a5 :: c0 :: l) (.int x :: st) μ Q ↔ RR 51 158 (a0 :: a1 :: a2 :: a3 :: a4 :: am_nd a5 :: .int x :: l) st μ Q := rw_ist p51_156 (by show 6 < _; simp only [List.length_cons]; omega)
theorem r51_158 : RR 51 158 (a0 :: a1 :: a2 :: a3 :: a4 :: a5 :: a6 :: .int x :: l) st μ Q ↔ RR 51 161 (a0 :: a1 :: a2 :: a3 :: a4 :: a5 :: am_nd a6 :: .int (x + nI 1) :: l) st μ Q := rw_go p51_158 rfl
theorem r51_161 : RR 51 161 L st μ Q ↔ RR 51 101 L st μ Q := rw_go p51_161 rfl
theorem r51_164 : RR 51 164 (a0 :: a1 :: a2 :: .int x :: l) st μ Q ↔ RR 51 165 (a0 :: a1 :: a2 :: .int x :: l) (.int x :: st) μ Q := rw_go p51_164 rfl
theorem r51_165 : RR 51 165 (a0 :: a1 :: a2 :: a3 :: a4 :: a5 :: .int x :: l) st μ Q ↔ RR 51 167 (a0 :: a1 :: a2 :: a3 :: a4 :: a5 :: .int x :: l) (.int x :: st) μ Q := rw_go p51_165 rfl
theorem r51_167 : RR 51 167 L (.int y :: .int x :: st) μ Q ↔ RR 51 168 L (.int (x ||| y) :: st) μ Q := rw_go p51_167 rfl
theorem r51_168 : RR 51 168 (a0 :: a1 :: a2 :: c0 :: l) (.int x :: st) μ Q ↔ RR 51 169 (a0 :: a1 :: am_nd a2 :: .int x :: l) st μ Q := rw_istn p51_168 (by show 3 < _; simp only [List.length_cons]; omega)
theorem r51_169 : RR 51 169 (a0 :: a1 :: a2 :: a3 :: a4 :: a5 :: .int x :: l) st μ Q ↔ RR 51 171 (a0 :: a1 :: a2 :: a3 :: a4 :: a5 :: .int x :: l) (.int x :: st) μ Q := rw_go p51_169 rfl
theorem r51_171 : RR 51 171 (a0 :: a1 :: a2 :: a3 :: c0 :: l) (.int x :: st) μ Q ↔ RR 51 173 (a0 :: a1 :: a2 :: am_nd a3 :: .int x :: l) st μ Q := rw_ist p51_171 (by show 4 < _; simp only [List.length_cons]; omega)
theorem r51_173 : RR 51 173 L st μ Q ↔ RR 51 7 L st μ Q := rw_go p51_173 rfl
theorem r51_176 : RR 51 176 (a0 :: a1 :: a2 :: .int x :: l) st μ Q ↔ RR 51 177 (a0 :: a1 :: a2 :: .int x :: l) (.int x :: st) μ Q := rw_go p51_176 rfl
theorem r51_177 : RR 51 177 L [.int x] μ Q ↔ Q (some (.int x)) μ := rw_r p51_177 rfl
/-! ReleaseDeskModel.ownWeight -/
theorem r52_0 : RR 52 0 (.int x :: l) st μ Q ↔ RR 52 1 (.int x :: l) (.int x :: st) μ Q := rw_go p52_0 rfl
theorem r52_1 : RR 52 1 L st μ Q ↔ RR 52 3 L (.int (nI 24) :: st) μ Q := rw_go p52_1 rfl
theorem r52_3 : RR 52 3 L (.int y :: .int x :: st) μ Q ↔ if x = y then RR 52 18 L st μ Q else RR 52 6 L st μ Q := rw_if p52_3 rfl
theorem r52_6 : RR 52 6 (.int x :: l) st μ Q ↔ RR 52 7 (.int x :: l) (.int x :: st) μ Q := rw_go p52_6 rfl
theorem r52_7 : RR 52 7 L st μ Q ↔ RR 52 9 L (.int (nI 31) :: st) μ Q := rw_go p52_7 rfl
theorem r52_9 : RR 52 9 L (.int y :: .int x :: st) μ Q ↔ if x = y then RR 52 18 L st μ Q else RR 52 12 L st μ Q := rw_if p52_9 rfl
theorem r52_12 : RR 52 12 (.int x :: l) st μ Q ↔ RR 52 13 (.int x :: l) (.int x :: st) μ Q := rw_go p52_12 rfl
theorem r52_13 : RR 52 13 L st μ Q ↔ RR 52 15 L (.int (nI 32) :: st) μ Q := rw_go p52_13 rfl
theorem r52_15 : RR 52 15 L (.int y :: .int x :: st) μ Q ↔ if ¬ x = y then RR 52 20 L st μ Q else RR 52 18 L st μ Q := rw_if p52_15 rfl
theorem r52_18 : RR 52 18 L st μ Q ↔ RR 52 19 L (.int (nI 2) :: st) μ Q := rw_go p52_18 rfl
theorem r52_19 : RR 52 19 L [.int x] μ Q ↔ Q (some (.int x)) μ := rw_r p52_19 rfl
theorem r52_20 : RR 52 20 (.int x :: l) st μ Q ↔ RR 52 21 (.int x :: l) (.int x :: st) μ Q := rw_go p52_20 rfl
theorem r52_21 : RR 52 21 L st μ Q ↔ RR 52 22 L (.int (nI 3) :: st) μ Q := rw_go p52_21 rfl
theorem r52_22 : RR 52 22 L (.int y :: .int x :: st) μ Q ↔ if x = y then RR 52 49 L st μ Q else RR 52 25 L st μ Q := rw_if p52_22 rfl
theorem r52_25 : RR 52 25 (.int x :: l) st μ Q ↔ RR 52 26 (.int x :: l) (.int x :: st) μ Q := rw_go p52_25 rfl
theorem r52_26 : RR 52 26 L st μ Q ↔ RR 52 28 L (.int (nI 11) :: st) μ Q := rw_go p52_26 rfl
theorem r52_28 : RR 52 28 L (.int y :: .int x :: st) μ Q ↔ if x = y then RR 52 49 L st μ Q else RR 52 31 L st μ Q := rw_if p52_28 rfl
theorem r52_31 : RR 52 31 (.int x :: l) st μ Q ↔ RR 52 32 (.int x :: l) (.int x :: st) μ Q := rw_go p52_31 rfl
theorem r52_32 : RR 52 32 L st μ Q ↔ RR 52 34 L (.int (nI 23) :: st) μ Q := rw_go p52_32 rfl
theorem r52_34 : RR 52 34 L (.int y :: .int x :: st) μ Q ↔ if x = y then RR 52 49 L st μ Q else RR 52 37 L st μ Q := rw_if p52_34 rfl
theorem r52_37 : RR 52 37 (.int x :: l) st μ Q ↔ RR 52 38 (.int x :: l) (.int x :: st) μ Q := rw_go p52_37 rfl
theorem r52_38 : RR 52 38 L st μ Q ↔ RR 52 40 L (.int (nI 25) :: st) μ Q := rw_go p52_38 rfl
theorem r52_40 : RR 52 40 L (.int y :: .int x :: st) μ Q ↔ if x = y then RR 52 49 L st μ Q else RR 52 43 L st μ Q := rw_if p52_40 rfl
theorem r52_43 : RR 52 43 (.int x :: l) st μ Q ↔ RR 52 44 (.int x :: l) (.int x :: st) μ Q := rw_go p52_43 rfl
theorem r52_44 : RR 52 44 L st μ Q ↔ RR 52 46 L (.int (nI 33) :: st) μ Q := rw_go p52_44 rfl
theorem r52_46 : RR 52 46 L (.int y :: .int x :: st) μ Q ↔ if ¬ x = y then RR 52 51 L st μ Q else RR 52 49 L st μ Q := rw_if p52_46 rfl
theorem r52_49 : RR 52 49 L st μ Q ↔ RR 52 50 L (.int (nI 1) :: st) μ Q := rw_go p52_49 rfl
theorem r52_50 : RR 52 50 L [.int x] μ Q ↔ Q (some (.int x)) μ := rw_r p52_50 rfl
theorem r52_51 : RR 52 51 (.int x :: l) st μ Q ↔ RR 52 52 (.int x :: l) (.int x :: st) μ Q := rw_go p52_51 rfl
theorem r52_52 : RR 52 52 L st μ Q ↔ RR 52 54 L (.int (nI 7) :: st) μ Q := rw_go p52_52 rfl
theorem r52_54 : RR 52 54 L (.int y :: .int x :: st) μ Q ↔ if x = y then RR 52 81 L st μ Q else RR 52 57 L st μ Q := rw_if p52_54 rfl
theorem r52_57 : RR 52 57 (.int x :: l) st μ Q ↔ RR 52 58 (.int x :: l) (.int x :: st) μ Q := rw_go p52_57 rfl
theorem r52_58 : RR 52 58 L st μ Q ↔ RR 52 60 L (.int (nI 9) :: st) μ Q := rw_go p52_58 rfl
theorem r52_60 : RR 52 60 L (.int y :: .int x :: st) μ Q ↔ if x = y then RR 52 81 L st μ Q else RR 52 63 L st μ Q := rw_if p52_60 rfl
theorem r52_63 : RR 52 63 (.int x :: l) st μ Q ↔ RR 52 64 (.int x :: l) (.int x :: st) μ Q := rw_go p52_63 rfl
theorem r52_64 : RR 52 64 L st μ Q ↔ RR 52 66 L (.int (nI 21) :: st) μ Q := rw_go p52_64 rfl
theorem r52_66 : RR 52 66 L (.int y :: .int x :: st) μ Q ↔ if x = y then RR 52 81 L st μ Q else RR 52 69 L st μ Q := rw_if p52_66 rfl
theorem r52_69 : RR 52 69 (.int x :: l) st μ Q ↔ RR 52 70 (.int x :: l) (.int x :: st) μ Q := rw_go p52_69 rfl
theorem r52_70 : RR 52 70 L st μ Q ↔ RR 52 72 L (.int (nI 28) :: st) μ Q := rw_go p52_70 rfl
theorem r52_72 : RR 52 72 L (.int y :: .int x :: st) μ Q ↔ if x = y then RR 52 81 L st μ Q else RR 52 75 L st μ Q := rw_if p52_72 rfl
theorem r52_75 : RR 52 75 (.int x :: l) st μ Q ↔ RR 52 76 (.int x :: l) (.int x :: st) μ Q := rw_go p52_75 rfl
theorem r52_76 : RR 52 76 L st μ Q ↔ RR 52 78 L (.int (nI 30) :: st) μ Q := rw_go p52_76 rfl
theorem r52_78 : RR 52 78 L (.int y :: .int x :: st) μ Q ↔ if ¬ x = y then RR 52 85 L st μ Q else RR 52 81 L st μ Q := rw_if p52_78 rfl
theorem r52_81 : RR 52 81 L st μ Q ↔ RR 52 82 L (.int (nI 0) :: st) μ Q := rw_go p52_81 rfl
theorem r52_82 : RR 52 82 L st μ Q ↔ RR 52 86 L st μ Q := rw_go p52_82 rfl
theorem r52_85 : RR 52 85 L st μ Q ↔ RR 52 86 L (.int (nI 3) :: st) μ Q := rw_go p52_85 rfl
theorem r52_86 : RR 52 86 L [.int x] μ Q ↔ Q (some (.int x)) μ := rw_r p52_86 rfl
/-! ReleaseDeskModel.comes -/
theorem r53_0 : RR 53 0 (a0 :: .int x :: l) st μ Q ↔ RR 53 1 (a0 :: .int x :: l) (.int x :: st) μ Q := rw_go p53_0 rfl
theorem r53_1 : RR 53 1 L st μ Q ↔ RR 53 2 L (.int (nI 3) :: st) μ Q := rw_go p53_1 rfl
theorem r53_2 : RR 53 2 L (.int y :: .int x :: st) μ Q ↔ if ¬ x = y then RR 53 9 L st μ Q else RR 53 5 L st μ Q := rw_if p53_2 rfl
theorem r53_5 : RR 53 5 L st μ Q ↔ RR 53 6 L (.int (nI 1) :: st) μ Q := rw_go p53_5 rfl
theorem r53_6 : RR 53 6 L st μ Q ↔ RR 53 10 L st μ Q := rw_go p53_6 rfl
theorem r53_9 : RR 53 9 L st μ Q ↔ RR 53 10 L (.int (nI 0) :: st) μ Q := rw_go p53_9 rfl
theorem r53_10 : RR 53 10 (a0 :: a1 :: a2 :: a3 :: c0 :: l) (.int x :: st) μ Q ↔ RR 53 12 (a0 :: a1 :: a2 :: am_nd a3 :: .int x :: l) st μ Q := rw_ist p53_10 (by show 4 < _; simp only [List.length_cons]; omega)
theorem r53_12 : RR 53 12 (a0 :: .int x :: l) st μ Q ↔ RR 53 13 (a0 :: .int x :: l) (.int x :: st) μ Q := rw_go p53_12 rfl
theorem r53_13 : RR 53 13 L (.int x1 :: st) (S, (0, 0, sl), M, D, F) Q ↔ (am_cat st ≤ 8 ∧ 1 = 1) ∧ RR 52 0 [.int x1] [] (S, (0, 0, sl), M, D, F) (fun rv μ' => μ'.1.length = S.length ∧ RR 53 16 L (rv.toList ++ st) (μ'.1, (0, 0, sl), μ'.2.2) Q) := rw_call p53_13 rfl (ac52 x1)
theorem r53_16 : RR 53 16 (a0 :: a1 :: a2 :: a3 :: a4 :: c0 :: l) (.int x :: st) μ Q ↔ RR 53 18 (a0 :: a1 :: a2 :: a3 :: am_nd a4 :: .int x :: l) st μ Q := rw_ist p53_16 (by show 5 < _; simp only [List.length_cons]; omega)
theorem r53_18 : RR 53 18 L st μ Q ↔ RR 53 19 L (.int (nI 0) :: st) μ Q := rw_go p53_18 rfl
theorem r53_19 : RR 53 19 (a0 :: a1 :: a2 :: a3 :: a4 :: a5 :: c0 :: l) (.int x :: st) μ Q ↔ RR 53 21 (a0 :: a1 :: a2 :: a3 :: a4 :: am_nd a5 :: .int x :: l) st μ Q := rw_ist p53_19 (by show 6 < _; simp only [List.length_cons]; omega)
theorem r53_21 : RR 53 21 (a0 :: a1 :: a2 :: a3 :: a4 :: a5 :: .int x :: l) st μ Q ↔ RR 53 23 (a0 :: a1 :: a2 :: a3 :: a4 :: a5 :: .int x :: l) (.int x :: st) μ Q := rw_go p53_21 rfl
theorem r53_23 : RR 53 23 (.ref q :: l) st μ Q ↔ RR 53 24 (.ref q :: l) (.ref q :: st) μ Q := rw_go p53_23 rfl
theorem r53_24 : RR 53 24 L (.ref q :: st) (S, b, M, D, F) Q ↔ S[q]? = some (.inl 9) ∧ RR 53 27 L (.int (M q 13) :: st) (S, b, M, D, F) Q := rw_c p53_24 rfl
theorem r53_27 : RR 53 27 L (.int y :: .int x :: st) μ Q ↔ if y ≤ x then RR 53 90 L st μ Q else RR 53 30 L st μ Q := rw_if p53_27 rfl
theorem r53_30 : RR 53 30 (.ref q :: l) st μ Q ↔ RR 53 31 (.ref q :: l) (.ref q :: st) μ Q := rw_go p53_30 rfl
theorem r53_31 : RR 53 31 L (.ref q :: st) (S, b, M, D, F) Q ↔ S[q]? = some (.inl 9) ∧ RR 53 34 L (va_rf (F q 10) :: st) (S, b, M, D, F) Q := rw_c p53_31 rfl
theorem r53_34 : RR 53 34 (a0 :: a1 :: a2 :: a3 :: a4 :: a5 :: .int x :: l) st μ Q ↔ RR 53 36 (a0 :: a1 :: a2 :: a3 :: a4 :: a5 :: .int x :: l) (.int x :: st) μ Q := rw_go p53_34 rfl
theorem r53_36 : RR 53 36 L (.int x :: .ref q :: st) (S, b, M, D, F) Q ↔ am_bd S b.2.2 q 0 x ∧ RR 53 37 L (.int (M q x.toInt.toNat) :: st) (S, b, M, D, F) Q := rw_c p53_36 am_xld_eq
theorem r53_37 : RR 53 37 (a0 :: .int x :: l) st μ Q ↔ RR 53 38 (a0 :: .int x :: l) (.int x :: st) μ Q := rw_go p53_37 rfl
theorem r53_38 : RR 53 38 L (.int y :: .int x :: st) μ Q ↔ if y < x then RR 53 84 L st μ Q else RR 53 41 L st μ Q := rw_if p53_38 rfl
theorem r53_41 : RR 53 41 (a0 :: .int x :: l) st μ Q ↔ RR 53 42 (a0 :: .int x :: l) (.int x :: st) μ Q := rw_go p53_41 rfl
theorem r53_42 : RR 53 42 (.ref q :: l) st μ Q ↔ RR 53 43 (.ref q :: l) (.ref q :: st) μ Q := rw_go p53_42 rfl
theorem r53_43 : RR 53 43 L (.ref q :: st) (S, b, M, D, F) Q ↔ S[q]? = some (.inl 9) ∧ RR 53 46 L (va_rf (F q 11) :: st) (S, b, M, D, F) Q := rw_c p53_43 rfl
theorem r53_46 : RR 53 46 (a0 :: a1 :: a2 :: a3 :: a4 :: a5 :: .int x :: l) st μ Q ↔ RR 53 48 (a0 :: a1 :: a2 :: a3 :: a4 :: a5 :: .int x :: l) (.int x :: st) μ Q := rw_go p53_46 rfl
theorem r53_48 : RR 53 48 L (.int x :: .ref q :: st) (S, b, M, D, F) Q ↔ am_bd S b.2.2 q 0 x ∧ RR 53 49 L (.int (M q x.toInt.toNat) :: st) (S, b, M, D, F) Q := rw_c p53_48 am_xld_eq
theorem r53_49 : RR 53 49 L (.int y :: .int x :: st) μ Q ↔ if y < x then RR 53 84 L st μ Q else RR 53 52 L st μ Q := rw_if p53_49 rfl
theorem r53_52 : RR 53 52 (.ref q :: l) st μ Q ↔ RR 53 53 (.ref q :: l) (.ref q :: st) μ Q := rw_go p53_52 rfl
theorem r53_53 : RR 53 53 L st μ Q ↔ RR 53 55 L (.int (nI 12) :: st) μ Q := rw_go p53_53 rfl
theorem r53_55 : RR 53 55 (a0 :: a1 :: a2 :: a3 :: a4 :: a5 :: .int x :: l) st μ Q ↔ RR 53 57 (a0 :: a1 :: a2 :: a3 :: a4 :: a5 :: .int x :: l) (.int x :: st) μ Q := rw_go p53_55 rfl
theorem r53_57 : RR 53 57 L (.int y :: .int x :: st) μ Q ↔ RR 53 58 L (.int (x * y) :: st) μ Q := rw_go p53_57 rfl
theorem r53_58 : RR 53 58 (.ref q :: l) st μ Q ↔ RR 53 59 (.ref q :: l) (.ref q :: st) μ Q := rw_go p53_58 rfl
theorem r53_59 : RR 53 59 L (.ref q :: st) (S, b, M, D, F) Q ↔ S[q]? = some (.inl 9) ∧ RR 53 62 L (va_rf (F q 9) :: st) (S, b, M, D, F) Q := rw_c p53_59 rfl
theorem r53_62 : RR 53 62 (a0 :: a1 :: a2 :: a3 :: a4 :: a5 :: .int x :: l) st μ Q ↔ RR 53 64 (a0 :: a1 :: a2 :: a3 :: a4 :: a5 :: .int x :: l) (.int x :: st) μ Q := rw_go p53_62 rfl
theorem r53_64 : RR 53 64 L (.int x :: .ref q :: st) (S, b, M, D, F) Q ↔ am_bd S b.2.2 q 0 x ∧ RR 53 65 L (.int (M q x.toInt.toNat) :: st) (S, b, M, D, F) Q := rw_c p53_64 am_xld_eq
theorem r53_65 : RR 53 65 (a0 :: a1 :: a2 :: a3 :: .int x :: l) st μ Q ↔ RR 53 67 (a0 :: a1 :: a2 :: a3 :: .int x :: l) (.int x :: st) μ Q := rw_go p53_65 rfl
theorem r53_67 : RR 53 67 (a0 :: a1 :: .int x :: l) st μ Q ↔ RR 53 68 (a0 :: a1 :: .int x :: l) (.int x :: st) μ Q := rw_go p53_67 rfl
theorem r53_68 : RR 53 68 (a0 :: a1 :: a2 :: .int x :: l) st μ Q ↔ RR 53 69 (a0 :: a1 :: a2 :: .int x :: l) (.int x :: st) μ Q := rw_go p53_68 rfl
theorem r53_69 : RR 53 69 L (.int x5 :: .int x4 :: .int x3 :: .int x2 :: .int x1 :: .ref q :: st) (S, (0, 0, sl), M, D, F) Q ↔ (am_cat st ≤ 8 ∧ 6 = 6 ∧ S[q]? = some (.inl 9)) ∧ RR 48 0 [.ref q, .int x1, .int x2, .int x3, .int x4, .int x5, .long 0, .long 0, .long 0, .long 0, .long 0] [] (S, (0, 0, sl), M, D, F) (fun rv μ' => μ'.1.length = S.length ∧ RR 53 72 L (rv.toList ++ st) (μ'.1, (0, 0, sl), μ'.2.2) Q) := rw_call p53_69 rfl (ac48 q x1 x2 x3 x4 x5)
theorem r53_72 : RR 53 72 L (.int x :: st) μ Q ↔ if x = 0 then RR 53 84 L st μ Q else RR 53 75 L st μ Q := rw_if p53_72 rfl
theorem r53_75 : RR 53 75 (.ref q :: l) st μ Q ↔ RR 53 76 (.ref q :: l) (.ref q :: st) μ Q := rw_go p53_75 rfl
theorem r53_76 : RR 53 76 L (.ref q :: st) (S, b, M, D, F) Q ↔ S[q]? = some (.inl 9) ∧ RR 53 79 L (va_rf (F q 12) :: st) (S, b, M, D, F) Q := rw_c p53_76 rfl
theorem r53_79 : RR 53 79 (a0 :: a1 :: a2 :: a3 :: a4 :: a5 :: .int x :: l) st μ Q ↔ RR 53 81 (a0 :: a1 :: a2 :: a3 :: a4 :: a5 :: .int x :: l) (.int x :: st) μ Q := rw_go p53_79 rfl
theorem r53_81 : RR 53 81 L (.int x :: .ref q :: st) (S, b, M, D, F) Q ↔ am_bd S b.2.2 q 0 x ∧ RR 53 82 L (.int (M q x.toInt.toNat) :: st) (S, b, M, D, F) Q := rw_c p53_81 am_xld_eq
theorem r53_82 : RR 53 82 (a0 :: a1 :: a2 :: a3 :: a4 :: c0 :: l) (.int x :: st) μ Q ↔ RR 53 84 (a0 :: a1 :: a2 :: a3 :: am_nd a4 :: .int x :: l) st μ Q := rw_ist p53_82 (by show 5 < _; simp only [List.length_cons]; omega)
theorem r53_84 : RR 53 84 (a0 :: a1 :: a2 :: a3 :: a4 :: a5 :: .int x :: l) st μ Q ↔ RR 53 87 (a0 :: a1 :: a2 :: a3 :: a4 :: am_nd a5 :: .int (x + nI 1) :: l) st μ Q := rw_go p53_84 rfl
theorem r53_87 : RR 53 87 L st μ Q ↔ RR 53 21 L st μ Q := rw_go p53_87 rfl
theorem r53_90 : RR 53 90 (a0 :: a1 :: a2 :: a3 :: a4 :: .int x :: l) st μ Q ↔ RR 53 92 (a0 :: a1 :: a2 :: a3 :: a4 :: .int x :: l) (.int x :: st) μ Q := rw_go p53_90 rfl
theorem r53_92 : RR 53 92 L (.int x :: st) μ Q ↔ if ¬ x = 0 then RR 53 96 L st μ Q else RR 53 95 L st μ Q := rw_if p53_92 rfl
theorem r53_95 : RR 53 95 L [] μ Q ↔ Q none μ := rw_r p53_95 rfl
theorem r53_96 : RR 53 96 (.ref q :: l) st μ Q ↔ RR 53 97 (.ref q :: l) (.ref q :: st) μ Q := rw_go p53_96 rfl
theorem r53_97 : RR 53 97 L (.ref q :: st) (S, b, M, D, F) Q ↔ S[q]? = some (.inl 9) ∧ RR 53 100 L (.int (M q 22) :: st) (S, b, M, D, F) Q := rw_c p53_97 rfl
theorem r53_100 : RR 53 100 (a0 :: a1 :: a2 :: a3 :: a4 :: a5 :: c0 :: l) (.int x :: st) μ Q ↔ RR 53 102 (a0 :: a1 :: a2 :: a3 :: a4 :: am_nd a5 :: .int x :: l) st μ Q := rw_ist p53_100 (by show 6 < _; simp only [List.length_cons]; omega)
theorem r53_102 : RR 53 102 (.ref q :: l) st μ Q ↔ RR 53 103 (.ref q :: l) (.ref q :: st) μ Q := rw_go p53_102 rfl
theorem r53_103 : RR 53 103 (a0 :: a1 :: a2 :: a3 :: .int x :: l) st μ Q ↔ RR 53 105 (a0 :: a1 :: a2 :: a3 :: .int x :: l) (.int x :: st) μ Q := rw_go p53_103 rfl
theorem r53_105 : RR 53 105 (a0 :: a1 :: .int x :: l) st μ Q ↔ RR 53 106 (a0 :: a1 :: .int x :: l) (.int x :: st) μ Q := rw_go p53_105 rfl
theorem r53_106 : RR 53 106 (a0 :: a1 :: a2 :: .int x :: l) st μ Q ↔ RR 53 107 (a0 :: a1 :: a2 :: .int x :: l) (.int x :: st) μ Q := rw_go p53_106 rfl
theorem r53_107 : RR 53 107 L (.int x3 :: .int x2 :: .int x1 :: .ref q :: st) (S, (0, 0, sl), M, D, F) Q ↔ (am_cat st ≤ 8 ∧ 4 = 4 ∧ S[q]? = some (.inl 9)) ∧ RR 47 0 [.ref q, .int x1, .int x2, .int x3, .long 0, .long 0] [] (S, (0, 0, sl), M, D, F) (fun rv μ' => μ'.1.length = S.length ∧ RR 53 110 L (rv.toList ++ st) (μ'.1, (0, 0, sl), μ'.2.2) Q) := rw_call p53_107 rfl (ac47 q x1 x2 x3)
theorem r53_110 : RR 53 110 (a0 :: a1 :: a2 :: a3 :: a4 :: a5 :: a6 :: c0 :: l) (.int x :: st) μ Q ↔ RR 53 112 (a0 :: a1 :: a2 :: a3 :: a4 :: a5 :: am_nd a6 :: .int x :: l) st μ Q := rw_ist p53_110 (by show 7 < _; simp only [List.length_cons]; omega)
theorem r53_112 : RR 53 112 (a0 :: a1 :: a2 :: a3 :: a4 :: a5 :: .int x :: l) st μ Q ↔ RR 53 114 (a0 :: a1 :: a2 :: a3 :: a4 :: a5 :: .int x :: l) (.int x :: st) μ Q := rw_go p53_112 rfl
theorem r53_114 : RR 53 114 L (.int x :: st) μ Q ↔ if x ≤ 0 then RR 53 245 L st μ Q else RR 53 117 L st μ Q := rw_if p53_114 rfl
theorem r53_117 : RR 53 117 (.ref q :: l) st μ Q ↔ RR 53 118 (.ref q :: l) (.ref q :: st) μ Q := rw_go p53_117 rfl
theorem r53_118 : RR 53 118 L (.ref q :: st) (S, b, M, D, F) Q ↔ S[q]? = some (.inl 9) ∧ RR 53 121 L (va_rf (F q 20) :: st) (S, b, M, D, F) Q := rw_c p53_118 rfl
theorem r53_121 : RR 53 121 (a0 :: a1 :: a2 :: a3 :: a4 :: a5 :: .int x :: l) st μ Q ↔ RR 53 123 (a0 :: a1 :: a2 :: a3 :: a4 :: a5 :: .int x :: l) (.int x :: st) μ Q := rw_go p53_121 rfl
theorem r53_123 : RR 53 123 L st μ Q ↔ RR 53 124 L (.int (nI 1) :: st) μ Q := rw_go p53_123 rfl
theorem r53_124 : RR 53 124 L (.int y :: .int x :: st) μ Q ↔ RR 53 125 L (.int (x - y) :: st) μ Q := rw_go p53_124 rfl
theorem r53_125 : RR 53 125 L (.int x :: .ref q :: st) (S, b, M, D, F) Q ↔ am_bd S b.2.2 q 0 x ∧ RR 53 126 L (.int (M q x.toInt.toNat) :: st) (S, b, M, D, F) Q := rw_c p53_125 am_xld_eq
theorem r53_126 : RR 53 126 (a0 :: a1 :: a2 :: a3 :: a4 :: .int x :: l) st μ Q ↔ RR 53 128 (a0 :: a1 :: a2 :: a3 :: a4 :: .int x :: l) (.int x :: st) μ Q := rw_go p53_126 rfl
theorem r53_128 : RR 53 128 L (.int y :: .int x :: st) μ Q ↔ if x < y then RR 53 159 L st μ Q else RR 53 131 L st μ Q := rw_if p53_128 rfl
theorem r53_131 : RR 53 131 (.ref q :: l) st μ Q ↔ RR 53 132 (.ref q :: l) (.ref q :: st) μ Q := rw_go p53_131 rfl
theorem r53_132 : RR 53 132 L (.ref q :: st) (S, b, M, D, F) Q ↔ S[q]? = some (.inl 9) ∧ RR 53 135 L (va_rf (F q 20) :: st) (S, b, M, D, F) Q := rw_c p53_132 rfl
theorem r53_135 : RR 53 135 (a0 :: a1 :: a2 :: a3 :: a4 :: a5 :: .int x :: l) st μ Q ↔ RR 53 137 (a0 :: a1 :: a2 :: a3 :: a4 :: a5 :: .int x :: l) (.int x :: st) μ Q := rw_go p53_135 rfl
theorem r53_137 : RR 53 137 L st μ Q ↔ RR 53 138 L (.int (nI 1) :: st) μ Q := rw_go p53_137 rfl
theorem r53_138 : RR 53 138 L (.int y :: .int x :: st) μ Q ↔ RR 53 139 L (.int (x - y) :: st) μ Q := rw_go p53_138 rfl
theorem r53_139 : RR 53 139 L (.int x :: .ref q :: st) (S, b, M, D, F) Q ↔ am_bd S b.2.2 q 0 x ∧ RR 53 140 L (.int (M q x.toInt.toNat) :: st) (S, b, M, D, F) Q := rw_c p53_139 am_xld_eq
theorem r53_140 : RR 53 140 (a0 :: a1 :: a2 :: a3 :: a4 :: .int x :: l) st μ Q ↔ RR 53 142 (a0 :: a1 :: a2 :: a3 :: a4 :: .int x :: l) (.int x :: st) μ Q := rw_go p53_140 rfl
theorem r53_142 : RR 53 142 L (.int y :: .int x :: st) μ Q ↔ if ¬ x = y then RR 53 245 L st μ Q else RR 53 145 L st μ Q := rw_if p53_142 rfl
theorem r53_145 : RR 53 145 (.ref q :: l) st μ Q ↔ RR 53 146 (.ref q :: l) (.ref q :: st) μ Q := rw_go p53_145 rfl
theorem r53_146 : RR 53 146 L (.ref q :: st) (S, b, M, D, F) Q ↔ S[q]? = some (.inl 9) ∧ RR 53 149 L (va_rf (F q 21) :: st) (S, b, M, D, F) Q := rw_c p53_146 rfl
theorem r53_149 : RR 53 149 (a0 :: a1 :: a2 :: a3 :: a4 :: a5 :: .int x :: l) st μ Q ↔ RR 53 151 (a0 :: a1 :: a2 :: a3 :: a4 :: a5 :: .int x :: l) (.int x :: st) μ Q := rw_go p53_149 rfl
theorem r53_151 : RR 53 151 L st μ Q ↔ RR 53 152 L (.int (nI 1) :: st) μ Q := rw_go p53_151 rfl
theorem r53_152 : RR 53 152 L (.int y :: .int x :: st) μ Q ↔ RR 53 153 L (.int (x - y) :: st) μ Q := rw_go p53_152 rfl
theorem r53_153 : RR 53 153 L (.int x :: .ref q :: st) (S, b, M, D, F) Q ↔ am_bd S b.2.2 q 0 x ∧ RR 53 154 L (.int (M q x.toInt.toNat) :: st) (S, b, M, D, F) Q := rw_c p53_153 am_xld_eq
theorem r53_154 : RR 53 154 (a0 :: a1 :: a2 :: a3 :: a4 :: a5 :: a6 :: .int x :: l) st μ Q ↔ RR 53 156 (a0 :: a1 :: a2 :: a3 :: a4 :: a5 :: a6 :: .int x :: l) (.int x :: st) μ Q := rw_go p53_154 rfl
theorem r53_156 : RR 53 156 L (.int y :: .int x :: st) μ Q ↔ if x ≤ y then RR 53 245 L st μ Q else RR 53 159 L st μ Q := rw_if p53_156 rfl
theorem r53_159 : RR 53 159 (.ref q :: l) st μ Q ↔ RR 53 160 (.ref q :: l) (.ref q :: st) μ Q := rw_go p53_159 rfl
theorem r53_160 : RR 53 160 L (.ref q :: st) (S, b, M, D, F) Q ↔ S[q]? = some (.inl 9) ∧ RR 53 163 L (va_rf (F q 17) :: st) (S, b, M, D, F) Q := rw_c p53_160 rfl
theorem r53_163 : RR 53 163 (a0 :: a1 :: a2 :: a3 :: a4 :: a5 :: .int x :: l) st μ Q ↔ RR 53 165 (a0 :: a1 :: a2 :: a3 :: a4 :: a5 :: .int x :: l) (.int x :: st) μ Q := rw_go p53_163 rfl
theorem r53_165 : RR 53 165 (.ref q :: l) st μ Q ↔ RR 53 166 (.ref q :: l) (.ref q :: st) μ Q := rw_go p53_165 rfl
theorem r53_166 : RR 53 166 L (.ref q :: st) (S, b, M, D, F) Q ↔ S[q]? = some (.inl 9) ∧ RR 53 169 L (va_rf (F q 17) :: st) (S, b, M, D, F) Q := rw_c p53_166 rfl
theorem r53_169 : RR 53 169 (a0 :: a1 :: a2 :: a3 :: a4 :: a5 :: .int x :: l) st μ Q ↔ RR 53 171 (a0 :: a1 :: a2 :: a3 :: a4 :: a5 :: .int x :: l) (.int x :: st) μ Q := rw_go p53_169 rfl
theorem r53_171 : RR 53 171 L st μ Q ↔ RR 53 172 L (.int (nI 1) :: st) μ Q := rw_go p53_171 rfl
theorem r53_172 : RR 53 172 L (.int y :: .int x :: st) μ Q ↔ RR 53 173 L (.int (x - y) :: st) μ Q := rw_go p53_172 rfl
theorem r53_173 : RR 53 173 L (.int x :: .ref q :: st) (S, b, M, D, F) Q ↔ am_bd S b.2.2 q 0 x ∧ RR 53 174 L (.int (M q x.toInt.toNat) :: st) (S, b, M, D, F) Q := rw_c p53_173 am_xld_eq
theorem r53_174 : RR 53 174 L (.int x :: .int y :: .ref q :: st) (S, b, M, D, F) Q ↔ am_bs S q 0 y ∧ RR 53 175 L st (S, b, am_up M q y.toInt.toNat x, D, F) Q := rw_c p53_174 (am_xst_eq (f := fun x => x))
theorem r53_175 : RR 53 175 (.ref q :: l) st μ Q ↔ RR 53 176 (.ref q :: l) (.ref q :: st) μ Q := rw_go p53_175 rfl
theorem r53_176 : RR 53 176 L (.ref q :: st) (S, b, M, D, F) Q ↔ S[q]? = some (.inl 9) ∧ RR 53 179 L (va_rf (F q 18) :: st) (S, b, M, D, F) Q := rw_c p53_176 rfl
theorem r53_179 : RR 53 179 (a0 :: a1 :: a2 :: a3 :: a4 :: a5 :: .int x :: l) st μ Q ↔ RR 53 181 (a0 :: a1 :: a2 :: a3 :: a4 :: a5 :: .int x :: l) (.int x :: st) μ Q := rw_go p53_179 rfl
theorem r53_181 : RR 53 181 (.ref q :: l) st μ Q ↔ RR 53 182 (.ref q :: l) (.ref q :: st) μ Q := rw_go p53_181 rfl
theorem r53_182 : RR 53 182 L (.ref q :: st) (S, b, M, D, F) Q ↔ S[q]? = some (.inl 9) ∧ RR 53 185 L (va_rf (F q 18) :: st) (S, b, M, D, F) Q := rw_c p53_182 rfl
theorem r53_185 : RR 53 185 (a0 :: a1 :: a2 :: a3 :: a4 :: a5 :: .int x :: l) st μ Q ↔ RR 53 187 (a0 :: a1 :: a2 :: a3 :: a4 :: a5 :: .int x :: l) (.int x :: st) μ Q := rw_go p53_185 rfl
theorem r53_187 : RR 53 187 L st μ Q ↔ RR 53 188 L (.int (nI 1) :: st) μ Q := rw_go p53_187 rfl
theorem r53_188 : RR 53 188 L (.int y :: .int x :: st) μ Q ↔ RR 53 189 L (.int (x - y) :: st) μ Q := rw_go p53_188 rfl
theorem r53_189 : RR 53 189 L (.int x :: .ref q :: st) (S, b, M, D, F) Q ↔ am_bd S b.2.2 q 0 x ∧ RR 53 190 L (.int (M q x.toInt.toNat) :: st) (S, b, M, D, F) Q := rw_c p53_189 am_xld_eq
theorem r53_190 : RR 53 190 L (.int x :: .int y :: .ref q :: st) (S, b, M, D, F) Q ↔ am_bs S q 0 y ∧ RR 53 191 L st (S, b, am_up M q y.toInt.toNat x, D, F) Q := rw_c p53_190 (am_xst_eq (f := fun x => x))
theorem r53_191 : RR 53 191 (.ref q :: l) st μ Q ↔ RR 53 192 (.ref q :: l) (.ref q :: st) μ Q := rw_go p53_191 rfl
theorem r53_192 : RR 53 192 L (.ref q :: st) (S, b, M, D, F) Q ↔ S[q]? = some (.inl 9) ∧ RR 53 195 L (va_rf (F q 19) :: st) (S, b, M, D, F) Q := rw_c p53_192 rfl
theorem r53_195 : RR 53 195 (a0 :: a1 :: a2 :: a3 :: a4 :: a5 :: .int x :: l) st μ Q ↔ RR 53 197 (a0 :: a1 :: a2 :: a3 :: a4 :: a5 :: .int x :: l) (.int x :: st) μ Q := rw_go p53_195 rfl
theorem r53_197 : RR 53 197 (.ref q :: l) st μ Q ↔ RR 53 198 (.ref q :: l) (.ref q :: st) μ Q := rw_go p53_197 rfl
theorem r53_198 : RR 53 198 L (.ref q :: st) (S, b, M, D, F) Q ↔ S[q]? = some (.inl 9) ∧ RR 53 201 L (va_rf (F q 19) :: st) (S, b, M, D, F) Q := rw_c p53_198 rfl
theorem r53_201 : RR 53 201 (a0 :: a1 :: a2 :: a3 :: a4 :: a5 :: .int x :: l) st μ Q ↔ RR 53 203 (a0 :: a1 :: a2 :: a3 :: a4 :: a5 :: .int x :: l) (.int x :: st) μ Q := rw_go p53_201 rfl
theorem r53_203 : RR 53 203 L st μ Q ↔ RR 53 204 L (.int (nI 1) :: st) μ Q := rw_go p53_203 rfl
theorem r53_204 : RR 53 204 L (.int y :: .int x :: st) μ Q ↔ RR 53 205 L (.int (x - y) :: st) μ Q := rw_go p53_204 rfl
theorem r53_205 : RR 53 205 L (.int x :: .ref q :: st) (S, b, M, D, F) Q ↔ am_bd S b.2.2 q 0 x ∧ RR 53 206 L (.int (M q x.toInt.toNat) :: st) (S, b, M, D, F) Q := rw_c p53_205 am_xld_eq
theorem r53_206 : RR 53 206 L (.int x :: .int y :: .ref q :: st) (S, b, M, D, F) Q ↔ am_bs S q 0 y ∧ RR 53 207 L st (S, b, am_up M q y.toInt.toNat x, D, F) Q := rw_c p53_206 (am_xst_eq (f := fun x => x))
theorem r53_207 : RR 53 207 (.ref q :: l) st μ Q ↔ RR 53 208 (.ref q :: l) (.ref q :: st) μ Q := rw_go p53_207 rfl
theorem r53_208 : RR 53 208 L (.ref q :: st) (S, b, M, D, F) Q ↔ S[q]? = some (.inl 9) ∧ RR 53 211 L (va_rf (F q 20) :: st) (S, b, M, D, F) Q := rw_c p53_208 rfl
theorem r53_211 : RR 53 211 (a0 :: a1 :: a2 :: a3 :: a4 :: a5 :: .int x :: l) st μ Q ↔ RR 53 213 (a0 :: a1 :: a2 :: a3 :: a4 :: a5 :: .int x :: l) (.int x :: st) μ Q := rw_go p53_211 rfl
theorem r53_213 : RR 53 213 (.ref q :: l) st μ Q ↔ RR 53 214 (.ref q :: l) (.ref q :: st) μ Q := rw_go p53_213 rfl
theorem r53_214 : RR 53 214 L (.ref q :: st) (S, b, M, D, F) Q ↔ S[q]? = some (.inl 9) ∧ RR 53 217 L (va_rf (F q 20) :: st) (S, b, M, D, F) Q := rw_c p53_214 rfl
theorem r53_217 : RR 53 217 (a0 :: a1 :: a2 :: a3 :: a4 :: a5 :: .int x :: l) st μ Q ↔ RR 53 219 (a0 :: a1 :: a2 :: a3 :: a4 :: a5 :: .int x :: l) (.int x :: st) μ Q := rw_go p53_217 rfl
theorem r53_219 : RR 53 219 L st μ Q ↔ RR 53 220 L (.int (nI 1) :: st) μ Q := rw_go p53_219 rfl
theorem r53_220 : RR 53 220 L (.int y :: .int x :: st) μ Q ↔ RR 53 221 L (.int (x - y) :: st) μ Q := rw_go p53_220 rfl
theorem r53_221 : RR 53 221 L (.int x :: .ref q :: st) (S, b, M, D, F) Q ↔ am_bd S b.2.2 q 0 x ∧ RR 53 222 L (.int (M q x.toInt.toNat) :: st) (S, b, M, D, F) Q := rw_c p53_221 am_xld_eq
theorem r53_222 : RR 53 222 L (.int x :: .int y :: .ref q :: st) (S, b, M, D, F) Q ↔ am_bs S q 0 y ∧ RR 53 223 L st (S, b, am_up M q y.toInt.toNat x, D, F) Q := rw_c p53_222 (am_xst_eq (f := fun x => x))
theorem r53_223 : RR 53 223 (.ref q :: l) st μ Q ↔ RR 53 224 (.ref q :: l) (.ref q :: st) μ Q := rw_go p53_223 rfl
theorem r53_224 : RR 53 224 L (.ref q :: st) (S, b, M, D, F) Q ↔ S[q]? = some (.inl 9) ∧ RR 53 227 L (va_rf (F q 21) :: st) (S, b, M, D, F) Q := rw_c p53_224 rfl
theorem r53_227 : RR 53 227 (a0 :: a1 :: a2 :: a3 :: a4 :: a5 :: .int x :: l) st μ Q ↔ RR 53 229 (a0 :: a1 :: a2 :: a3 :: a4 :: a5 :: .int x :: l) (.int x :: st) μ Q := rw_go p53_227 rfl
theorem r53_229 : RR 53 229 (.ref q :: l) st μ Q ↔ RR 53 230 (.ref q :: l) (.ref q :: st) μ Q := rw_go p53_229 rfl
theorem r53_230 : RR 53 230 L (.ref q :: st) (S, b, M, D, F) Q ↔ S[q]? = some (.inl 9) ∧ RR 53 233 L (va_rf (F q 21) :: st) (S, b, M, D, F) Q := rw_c p53_230 rfl
theorem r53_233 : RR 53 233 (a0 :: a1 :: a2 :: a3 :: a4 :: a5 :: .int x :: l) st μ Q ↔ RR 53 235 (a0 :: a1 :: a2 :: a3 :: a4 :: a5 :: .int x :: l) (.int x :: st) μ Q := rw_go p53_233 rfl
theorem r53_235 : RR 53 235 L st μ Q ↔ RR 53 236 L (.int (nI 1) :: st) μ Q := rw_go p53_235 rfl
theorem r53_236 : RR 53 236 L (.int y :: .int x :: st) μ Q ↔ RR 53 237 L (.int (x - y) :: st) μ Q := rw_go p53_236 rfl
theorem r53_237 : RR 53 237 L (.int x :: .ref q :: st) (S, b, M, D, F) Q ↔ am_bd S b.2.2 q 0 x ∧ RR 53 238 L (.int (M q x.toInt.toNat) :: st) (S, b, M, D, F) Q := rw_c p53_237 am_xld_eq
theorem r53_238 : RR 53 238 L (.int x :: .int y :: .ref q :: st) (S, b, M, D, F) Q ↔ am_bs S q 0 y ∧ RR 53 239 L st (S, b, am_up M q y.toInt.toNat x, D, F) Q := rw_c p53_238 (am_xst_eq (f := fun x => x))
theorem r53_239 : RR 53 239 (a0 :: a1 :: a2 :: a3 :: a4 :: a5 :: .int x :: l) st μ Q ↔ RR 53 242 (a0 :: a1 :: a2 :: a3 :: a4 :: am_nd a5 :: .int (x + (-1)) :: l) st μ Q := rw_go p53_239 rfl
theorem r53_242 : RR 53 242 L st μ Q ↔ RR 53 112 L st μ Q := rw_go p53_242 rfl
theorem r53_245 : RR 53 245 (.ref q :: l) st μ Q ↔ RR 53 246 (.ref q :: l) (.ref q :: st) μ Q := rw_go p53_245 rfl
theorem r53_246 : RR 53 246 L (.ref q :: st) (S, b, M, D, F) Q ↔ S[q]? = some (.inl 9) ∧ RR 53 249 L (va_rf (F q 17) :: st) (S, b, M, D, F) Q := rw_c p53_246 rfl
theorem r53_249 : RR 53 249 (a0 :: a1 :: a2 :: a3 :: a4 :: a5 :: .int x :: l) st μ Q ↔ RR 53 251 (a0 :: a1 :: a2 :: a3 :: a4 :: a5 :: .int x :: l) (.int x :: st) μ Q := rw_go p53_249 rfl
theorem r53_251 : RR 53 251 (a0 :: .int x :: l) st μ Q ↔ RR 53 252 (a0 :: .int x :: l) (.int x :: st) μ Q := rw_go p53_251 rfl
theorem r53_252 : RR 53 252 L (.int x :: .int y :: .ref q :: st) (S, b, M, D, F) Q ↔ am_bs S q 0 y ∧ RR 53 253 L st (S, b, am_up M q y.toInt.toNat x, D, F) Q := rw_c p53_252 (am_xst_eq (f := fun x => x))
theorem r53_253 : RR 53 253 (.ref q :: l) st μ Q ↔ RR 53 254 (.ref q :: l) (.ref q :: st) μ Q := rw_go p53_253 rfl
theorem r53_254 : RR 53 254 L (.ref q :: st) (S, b, M, D, F) Q ↔ S[q]? = some (.inl 9) ∧ RR 53 257 L (va_rf (F q 18) :: st) (S, b, M, D, F) Q := rw_c p53_254 rfl
theorem r53_257 : RR 53 257 (a0 :: a1 :: a2 :: a3 :: a4 :: a5 :: .int x :: l) st μ Q ↔ RR 53 259 (a0 :: a1 :: a2 :: a3 :: a4 :: a5 :: .int x :: l) (.int x :: st) μ Q := rw_go p53_257 rfl
theorem r53_259 : RR 53 259 (a0 :: a1 :: .int x :: l) st μ Q ↔ RR 53 260 (a0 :: a1 :: .int x :: l) (.int x :: st) μ Q := rw_go p53_259 rfl
theorem r53_260 : RR 53 260 L (.int x :: .int y :: .ref q :: st) (S, b, M, D, F) Q ↔ am_bs S q 0 y ∧ RR 53 261 L st (S, b, am_up M q y.toInt.toNat x, D, F) Q := rw_c p53_260 (am_xst_eq (f := fun x => x))
theorem r53_261 : RR 53 261 (.ref q :: l) st μ Q ↔ RR 53 262 (.ref q :: l) (.ref q :: st) μ Q := rw_go p53_261 rfl
theorem r53_262 : RR 53 262 L (.ref q :: st) (S, b, M, D, F) Q ↔ S[q]? = some (.inl 9) ∧ RR 53 265 L (va_rf (F q 19) :: st) (S, b, M, D, F) Q := rw_c p53_262 rfl
theorem r53_265 : RR 53 265 (a0 :: a1 :: a2 :: a3 :: a4 :: a5 :: .int x :: l) st μ Q ↔ RR 53 267 (a0 :: a1 :: a2 :: a3 :: a4 :: a5 :: .int x :: l) (.int x :: st) μ Q := rw_go p53_265 rfl
theorem r53_267 : RR 53 267 (a0 :: a1 :: a2 :: .int x :: l) st μ Q ↔ RR 53 268 (a0 :: a1 :: a2 :: .int x :: l) (.int x :: st) μ Q := rw_go p53_267 rfl
theorem r53_268 : RR 53 268 L (.int x :: .int y :: .ref q :: st) (S, b, M, D, F) Q ↔ am_bs S q 0 y ∧ RR 53 269 L st (S, b, am_up M q y.toInt.toNat x, D, F) Q := rw_c p53_268 (am_xst_eq (f := fun x => x))
theorem r53_269 : RR 53 269 (.ref q :: l) st μ Q ↔ RR 53 270 (.ref q :: l) (.ref q :: st) μ Q := rw_go p53_269 rfl
theorem r53_270 : RR 53 270 L (.ref q :: st) (S, b, M, D, F) Q ↔ S[q]? = some (.inl 9) ∧ RR 53 273 L (va_rf (F q 20) :: st) (S, b, M, D, F) Q := rw_c p53_270 rfl
theorem r53_273 : RR 53 273 (a0 :: a1 :: a2 :: a3 :: a4 :: a5 :: .int x :: l) st μ Q ↔ RR 53 275 (a0 :: a1 :: a2 :: a3 :: a4 :: a5 :: .int x :: l) (.int x :: st) μ Q := rw_go p53_273 rfl
theorem r53_275 : RR 53 275 (a0 :: a1 :: a2 :: a3 :: a4 :: .int x :: l) st μ Q ↔ RR 53 277 (a0 :: a1 :: a2 :: a3 :: a4 :: .int x :: l) (.int x :: st) μ Q := rw_go p53_275 rfl
theorem r53_277 : RR 53 277 L (.int x :: .int y :: .ref q :: st) (S, b, M, D, F) Q ↔ am_bs S q 0 y ∧ RR 53 278 L st (S, b, am_up M q y.toInt.toNat x, D, F) Q := rw_c p53_277 (am_xst_eq (f := fun x => x))
theorem r53_278 : RR 53 278 (.ref q :: l) st μ Q ↔ RR 53 279 (.ref q :: l) (.ref q :: st) μ Q := rw_go p53_278 rfl
theorem r53_279 : RR 53 279 L (.ref q :: st) (S, b, M, D, F) Q ↔ S[q]? = some (.inl 9) ∧ RR 53 282 L (va_rf (F q 21) :: st) (S, b, M, D, F) Q := rw_c p53_279 rfl
theorem r53_282 : RR 53 282 (a0 :: a1 :: a2 :: a3 :: a4 :: a5 :: .int x :: l) st μ Q ↔ RR 53 284 (a0 :: a1 :: a2 :: a3 :: a4 :: a5 :: .int x :: l) (.int x :: st) μ Q := rw_go p53_282 rfl
theorem r53_284 : RR 53 284 (a0 :: a1 :: a2 :: a3 :: a4 :: a5 :: a6 :: .int x :: l) st μ Q ↔ RR 53 286 (a0 :: a1 :: a2 :: a3 :: a4 :: a5 :: a6 :: .int x :: l) (.int x :: st) μ Q := rw_go p53_284 rfl
theorem r53_286 : RR 53 286 L (.int x :: .int y :: .ref q :: st) (S, b, M, D, F) Q ↔ am_bs S q 0 y ∧ RR 53 287 L st (S, b, am_up M q y.toInt.toNat x, D, F) Q := rw_c p53_286 (am_xst_eq (f := fun x => x))
theorem r53_287 : RR 53 287 (.ref q :: l) st μ Q ↔ RR 53 288 (.ref q :: l) (.ref q :: st) μ Q := rw_go p53_287 rfl
theorem r53_288 : RR 53 288 L (.ref q :: st) μ Q ↔ RR 53 289 L (.ref q :: .ref q :: st) μ Q := rw_go p53_288 rfl
theorem r53_288i : RR 53 288 L (.int x :: st) μ Q ↔ RR 53 289 L (.int x :: .int x :: st) μ Q := rw_go p53_288 rfl
theorem r53_289 : RR 53 289 L (.ref q :: st) (S, b, M, D, F) Q ↔ S[q]? = some (.inl 9) ∧ RR 53 292 L (.int (M q 22) :: st) (S, b, M, D, F) Q := rw_c p53_289 rfl
theorem r53_292 : RR 53 292 L st μ Q ↔ RR 53 293 L (.int (nI 1) :: st) μ Q := rw_go p53_292 rfl
theorem r53_293 : RR 53 293 L (.int y :: .int x :: st) μ Q ↔ RR 53 294 L (.int (x + y) :: st) μ Q := rw_go p53_293 rfl
theorem r53_294 : RR 53 294 L (.int x :: .ref q :: st) (S, b, M, D, F) Q ↔ S[q]? = some (.inl 9) ∧ RR 53 297 L st (S, b, am_up M q 22 x, D, F) Q := rw_c p53_294 rfl
theorem r53_297 : RR 53 297 L [] μ Q ↔ Q none μ := rw_r p53_297 rfl
/-! ReleaseDeskModel.flips -/
theorem r54_0 : RR 54 0 (a0 :: .int x :: l) st μ Q ↔ RR 54 1 (a0 :: .int x :: l) (.int x :: st) μ Q := rw_go p54_0 rfl
theorem r54_1 : RR 54 1 (a0 :: a1 :: a2 :: .int x :: l) st μ Q ↔ RR 54 2 (a0 :: a1 :: a2 :: .int x :: l) (.int x :: st) μ Q := rw_go p54_1 rfl
theorem r54_2 : RR 54 2 L (.int y :: .int x :: st) μ Q ↔ RR 54 3 L (.int (x &&& y) :: st) μ Q := rw_go p54_2 rfl
theorem r54_3 : RR 54 3 L (.int x :: st) μ Q ↔ if ¬ x = 0 then RR 54 22 L st μ Q else RR 54 6 L st μ Q := rw_if p54_3 rfl
theorem r54_6 : RR 54 6 (a0 :: a1 :: .int x :: l) st μ Q ↔ RR 54 7 (a0 :: a1 :: .int x :: l) (.int x :: st) μ Q := rw_go p54_6 rfl
theorem r54_7 : RR 54 7 (a0 :: a1 :: a2 :: .int x :: l) st μ Q ↔ RR 54 8 (a0 :: a1 :: a2 :: .int x :: l) (.int x :: st) μ Q := rw_go p54_7 rfl
theorem r54_8 : RR 54 8 L (.int y :: .int x :: st) μ Q ↔ RR 54 9 L (.int (x &&& y) :: st) μ Q := rw_go p54_8 rfl
theorem r54_9 : RR 54 9 L (.int x :: st) μ Q ↔ if x = 0 then RR 54 22 L st μ Q else RR 54 12 L st μ Q := rw_if p54_9 rfl
theorem r54_12 : RR 54 12 (.ref q :: l) st μ Q ↔ RR 54 13 (.ref q :: l) (.ref q :: st) μ Q := rw_go p54_12 rfl
theorem r54_13 : RR 54 13 (a0 :: a1 :: a2 :: a3 :: .int x :: l) st μ Q ↔ RR 54 15 (a0 :: a1 :: a2 :: a3 :: .int x :: l) (.int x :: st) μ Q := rw_go p54_13 rfl
theorem r54_15 : RR 54 15 (a0 :: a1 :: a2 :: a3 :: a4 :: .int x :: l) st μ Q ↔ RR 54 17 (a0 :: a1 :: a2 :: a3 :: a4 :: .int x :: l) (.int x :: st) μ Q := rw_go p54_15 rfl
theorem r54_17 : RR 54 17 (a0 :: a1 :: a2 :: a3 :: a4 :: a5 :: .int x :: l) st μ Q ↔ RR 54 19 (a0 :: a1 :: a2 :: a3 :: a4 :: a5 :: .int x :: l) (.int x :: st) μ Q := rw_go p54_17 rfl
theorem r54_19 : RR 54 19 L (.int x3 :: .int x2 :: .int x1 :: .ref q :: st) (S, (0, 0, sl), M, D, F) Q ↔ (am_cat st ≤ 8 ∧ 4 = 4 ∧ S[q]? = some (.inl 9)) ∧ RR 53 0 [.ref q, .int x1, .int x2, .int x3, .long 0, .long 0, .long 0, .long 0] [] (S, (0, 0, sl), M, D, F) (fun rv μ' => μ'.1.length = S.length ∧ RR 54 22 L (rv.toList ++ st) (μ'.1, (0, 0, sl), μ'.2.2) Q) := rw_call p54_19 rfl (ac53 q x1 x2 x3)
theorem r54_22 : RR 54 22 (a0 :: .int x :: l) st μ Q ↔ RR 54 23 (a0 :: .int x :: l) (.int x :: st) μ Q := rw_go p54_22 rfl
theorem r54_23 : RR 54 23 (a0 :: a1 :: a2 :: .int x :: l) st μ Q ↔ RR 54 24 (a0 :: a1 :: a2 :: .int x :: l) (.int x :: st) μ Q := rw_go p54_23 rfl
theorem r54_24 : RR 54 24 L (.int y :: .int x :: st) μ Q ↔ RR 54 25 L (.int (x &&& y) :: st) μ Q := rw_go p54_24 rfl
theorem r54_25 : RR 54 25 L (.int x :: st) μ Q ↔ if x = 0 then RR 54 46 L st μ Q else RR 54 28 L st μ Q := rw_if p54_25 rfl
theorem r54_28 : RR 54 28 (a0 :: a1 :: .int x :: l) st μ Q ↔ RR 54 29 (a0 :: a1 :: .int x :: l) (.int x :: st) μ Q := rw_go p54_28 rfl
theorem r54_29 : RR 54 29 (a0 :: a1 :: a2 :: .int x :: l) st μ Q ↔ RR 54 30 (a0 :: a1 :: a2 :: .int x :: l) (.int x :: st) μ Q := rw_go p54_29 rfl
theorem r54_30 : RR 54 30 L (.int y :: .int x :: st) μ Q ↔ RR 54 31 L (.int (x &&& y) :: st) μ Q := rw_go p54_30 rfl
theorem r54_31 : RR 54 31 L (.int x :: st) μ Q ↔ if ¬ x = 0 then RR 54 46 L st μ Q else RR 54 34 L st μ Q := rw_if p54_31 rfl
theorem r54_34 : RR 54 34 (.ref q :: l) st μ Q ↔ RR 54 35 (.ref q :: l) (.ref q :: st) μ Q := rw_go p54_34 rfl
theorem r54_35 : RR 54 35 (a0 :: a1 :: a2 :: a3 :: .int x :: l) st μ Q ↔ RR 54 37 (a0 :: a1 :: a2 :: a3 :: .int x :: l) (.int x :: st) μ Q := rw_go p54_35 rfl
theorem r54_37 : RR 54 37 L st μ Q ↔ RR 54 38 L (.int (nI 1) :: st) μ Q := rw_go p54_37 rfl
theorem r54_38 : RR 54 38 L (.int y :: .int x :: st) μ Q ↔ RR 54 39 L (.int (x + y) :: st) μ Q := rw_go p54_38 rfl
theorem r54_39 : RR 54 39 (a0 :: a1 :: a2 :: a3 :: a4 :: .int x :: l) st μ Q ↔ RR 54 41 (a0 :: a1 :: a2 :: a3 :: a4 :: .int x :: l) (.int x :: st) μ Q := rw_go p54_39 rfl
theorem r54_41 : RR 54 41 (a0 :: a1 :: a2 :: a3 :: a4 :: a5 :: .int x :: l) st μ Q ↔ RR 54 43 (a0 :: a1 :: a2 :: a3 :: a4 :: a5 :: .int x :: l) (.int x :: st) μ Q := rw_go p54_41 rfl
theorem r54_43 : RR 54 43 L (.int x3 :: .int x2 :: .int x1 :: .ref q :: st) (S, (0, 0, sl), M, D, F) Q ↔ (am_cat st ≤ 8 ∧ 4 = 4 ∧ S[q]? = some (.inl 9)) ∧ RR 53 0 [.ref q, .int x1, .int x2, .int x3, .long 0, .long 0, .long 0, .long 0] [] (S, (0, 0, sl), M, D, F) (fun rv μ' => μ'.1.length = S.length ∧ RR 54 46 L (rv.toList ++ st) (μ'.1, (0, 0, sl), μ'.2.2) Q) := rw_call p54_43 rfl (ac53 q x1 x2 x3)
theorem r54_46 : RR 54 46 L [] μ Q ↔ Q none μ := rw_r p54_46 rfl
/-! ReleaseDeskModel.seenOf -/
theorem r55_0 : RR 55 0 L st μ Q ↔ RR 55 1 L (.int (nI 0) :: st) μ Q := rw_go p55_0 rfl
theorem r55_1 : RR 55 1 (a0 :: a1 :: a2 :: c0 :: l) (.int x :: st) μ Q ↔ RR 55 2 (a0 :: a1 :: am_nd a2 :: .int x :: l) st μ Q := rw_istn p55_1 (by show 3 < _; simp only [List.length_cons]; omega)
theorem r55_2 : RR 55 2 L st μ Q ↔ RR 55 3 L (.int (nI 0) :: st) μ Q := rw_go p55_2 rfl
theorem r55_3 : RR 55 3 (a0 :: a1 :: a2 :: a3 :: c0 :: l) (.int x :: st) μ Q ↔ RR 55 5 (a0 :: a1 :: a2 :: am_nd a3 :: .int x :: l) st μ Q := rw_ist p55_3 (by show 4 < _; simp only [List.length_cons]; omega)
theorem r55_5 : RR 55 5 (a0 :: a1 :: a2 :: a3 :: .int x :: l) st μ Q ↔ RR 55 7 (a0 :: a1 :: a2 :: a3 :: .int x :: l) (.int x :: st) μ Q := rw_go p55_5 rfl
theorem r55_7 : RR 55 7 L st μ Q ↔ RR 55 9 L (.int (nI 8) :: st) μ Q := rw_go p55_7 rfl
theorem r55_9 : RR 55 9 L (.int y :: .int x :: st) μ Q ↔ if y ≤ x then RR 55 45 L st μ Q else RR 55 12 L st μ Q := rw_if p55_9 rfl
theorem r55_12 : RR 55 12 (a0 :: a1 :: .int x :: l) st μ Q ↔ RR 55 13 (a0 :: a1 :: .int x :: l) (.int x :: st) μ Q := rw_go p55_12 rfl
theorem r55_13 : RR 55 13 (a0 :: a1 :: a2 :: a3 :: .int x :: l) st μ Q ↔ RR 55 15 (a0 :: a1 :: a2 :: a3 :: .int x :: l) (.int x :: st) μ Q := rw_go p55_13 rfl
theorem r55_15 : RR 55 15 L (.int y :: .int x :: st) μ Q ↔ RR 55 16 L (.int (x >>> (y &&& 31)) :: st) μ Q := rw_go p55_15 rfl
theorem r55_16 : RR 55 16 L st μ Q ↔ RR 55 17 L (.int (nI 1) :: st) μ Q := rw_go p55_16 rfl
theorem r55_17 : RR 55 17 L (.int y :: .int x :: st) μ Q ↔ RR 55 18 L (.int (x &&& y) :: st) μ Q := rw_go p55_17 rfl
theorem r55_18 : RR 55 18 L st μ Q ↔ RR 55 19 L (.int (nI 1) :: st) μ Q := rw_go p55_18 rfl
theorem r55_19 : RR 55 19 L (.int y :: .int x :: st) μ Q ↔ if ¬ x = y then RR 55 39 L st μ Q else RR 55 22 L st μ Q := rw_if p55_19 rfl
theorem r55_22 : RR 55 22 (.ref q :: l) st μ Q ↔ RR 55 23 (.ref q :: l) (.ref q :: st) μ Q := rw_go p55_22 rfl
theorem r55_23 : RR 55 23 (a0 :: .int x :: l) st μ Q ↔ RR 55 24 (a0 :: .int x :: l) (.int x :: st) μ Q := rw_go p55_23 rfl
theorem r55_24 : RR 55 24 (a0 :: a1 :: a2 :: a3 :: .int x :: l) st μ Q ↔ RR 55 26 (a0 :: a1 :: a2 :: a3 :: .int x :: l) (.int x :: st) μ Q := rw_go p55_24 rfl
theorem r55_26 : RR 55 26 L (.int x2 :: .int x1 :: .ref q :: st) (S, (0, 0, sl), M, D, F) Q ↔ (am_cat st ≤ 8 ∧ 3 = 3 ∧ S[q]? = some (.inl 9)) ∧ RR 49 0 [.ref q, .int x1, .int x2] [] (S, (0, 0, sl), M, D, F) (fun rv μ' => μ'.1.length = S.length ∧ RR 55 29 L (rv.toList ++ st) (μ'.1, (0, 0, sl), μ'.2.2) Q) := rw_call p55_26 rfl (ac49 q x1 x2)
theorem r55_29 : RR 55 29 L (.int x :: st) μ Q ↔ if x = 0 then RR 55 39 L st μ Q else RR 55 32 L st μ Q := rw_if p55_29 rfl
theorem r55_32 : RR 55 32 (a0 :: a1 :: a2 :: .int x :: l) st μ Q ↔ RR 55 33 (a0 :: a1 :: a2 :: .int x :: l) (.int x :: st) μ Q := rw_go p55_32 rfl
theorem r55_33 : RR 55 33 L st μ Q ↔ RR 55 34 L (.int (nI 1) :: st) μ Q := rw_go p55_33 rfl
theorem r55_34 : RR 55 34 (a0 :: a1 :: a2 :: a3 :: .int x :: l) st μ Q ↔ RR 55 36 (a0 :: a1 :: a2 :: a3 :: .int x :: l) (.int x :: st) μ Q := rw_go p55_34 rfl
theorem r55_36 : RR 55 36 L (.int y :: .int x :: st) μ Q ↔ RR 55 37 L (.int (x <<< (y &&& 31)) :: st) μ Q := rw_go p55_36 rfl
theorem r55_37 : RR 55 37 L (.int y :: .int x :: st) μ Q ↔ RR 55 38 L (.int (x ||| y) :: st) μ Q := rw_go p55_37 rfl
theorem r55_38 : RR 55 38 (a0 :: a1 :: a2 :: c0 :: l) (.int x :: st) μ Q ↔ RR 55 39 (a0 :: a1 :: am_nd a2 :: .int x :: l) st μ Q := rw_istn p55_38 (by show 3 < _; simp only [List.length_cons]; omega)
theorem r55_39 : RR 55 39 (a0 :: a1 :: a2 :: a3 :: .int x :: l) st μ Q ↔ RR 55 42 (a0 :: a1 :: a2 :: am_nd a3 :: .int (x + nI 1) :: l) st μ Q := rw_go p55_39 rfl
theorem r55_42 : RR 55 42 L st μ Q ↔ RR 55 5 L st μ Q := rw_go p55_42 rfl
theorem r55_45 : RR 55 45 (a0 :: a1 :: a2 :: .int x :: l) st μ Q ↔ RR 55 46 (a0 :: a1 :: a2 :: .int x :: l) (.int x :: st) μ Q := rw_go p55_45 rfl
theorem r55_46 : RR 55 46 L [.int x] μ Q ↔ Q (some (.int x)) μ := rw_r p55_46 rfl
/-! ReleaseDeskModel.compare -/
theorem r56_0 : RR 56 0 (.ref q :: l) st μ Q ↔ RR 56 1 (.ref q :: l) (.ref q :: st) μ Q := rw_go p56_0 rfl
theorem r56_1 : RR 56 1 L st μ Q ↔ RR 56 2 L (.int (nI 0) :: st) μ Q := rw_go p56_1 rfl
theorem r56_2 : RR 56 2 (a0 :: .int x :: l) st μ Q ↔ RR 56 3 (a0 :: .int x :: l) (.int x :: st) μ Q := rw_go p56_2 rfl
theorem r56_3 : RR 56 3 L (.int x2 :: .int x1 :: .ref q :: st) (S, (0, 0, sl), M, D, F) Q ↔ (am_cat st ≤ 8 ∧ 3 = 3 ∧ S[q]? = some (.inl 9)) ∧ RR 49 0 [.ref q, .int x1, .int x2] [] (S, (0, 0, sl), M, D, F) (fun rv μ' => μ'.1.length = S.length ∧ RR 56 6 L (rv.toList ++ st) (μ'.1, (0, 0, sl), μ'.2.2) Q) := rw_call p56_3 rfl (ac49 q x1 x2)
theorem r56_6 : RR 56 6 (a0 :: a1 :: c0 :: l) (.int x :: st) μ Q ↔ RR 56 7 (a0 :: am_nd a1 :: .int x :: l) st μ Q := rw_istn p56_6 (by show 2 < _; simp only [List.length_cons]; omega)
theorem r56_7 : RR 56 7 (.ref q :: l) st μ Q ↔ RR 56 8 (.ref q :: l) (.ref q :: st) μ Q := rw_go p56_7 rfl
theorem r56_8 : RR 56 8 L st μ Q ↔ RR 56 9 L (.int (nI 1) :: st) μ Q := rw_go p56_8 rfl
theorem r56_9 : RR 56 9 (a0 :: .int x :: l) st μ Q ↔ RR 56 10 (a0 :: .int x :: l) (.int x :: st) μ Q := rw_go p56_9 rfl
theorem r56_10 : RR 56 10 L (.int x2 :: .int x1 :: .ref q :: st) (S, (0, 0, sl), M, D, F) Q ↔ (am_cat st ≤ 8 ∧ 3 = 3 ∧ S[q]? = some (.inl 9)) ∧ RR 49 0 [.ref q, .int x1, .int x2] [] (S, (0, 0, sl), M, D, F) (fun rv μ' => μ'.1.length = S.length ∧ RR 56 13 L (rv.toList ++ st) (μ'.1, (0, 0, sl), μ'.2.2) Q) := rw_call p56_10 rfl (ac49 q x1 x2)
theorem r56_13 : RR 56 13 (a0 :: a1 :: a2 :: c0 :: l) (.int x :: st) μ Q ↔ RR 56 14 (a0 :: a1 :: am_nd a2 :: .int x :: l) st μ Q := rw_istn p56_13 (by show 3 < _; simp only [List.length_cons]; omega)
theorem r56_14 : RR 56 14 (a0 :: a1 :: .int x :: l) st μ Q ↔ RR 56 15 (a0 :: a1 :: .int x :: l) (.int x :: st) μ Q := rw_go p56_14 rfl
theorem r56_15 : RR 56 15 L (.int x :: st) μ Q ↔ if x = 0 then RR 56 45 L st μ Q else RR 56 18 L st μ Q := rw_if p56_15 rfl
theorem r56_18 : RR 56 18 (a0 :: a1 :: a2 :: .int x :: l) st μ Q ↔ RR 56 19 (a0 :: a1 :: a2 :: .int x :: l) (.int x :: st) μ Q := rw_go p56_18 rfl
theorem r56_19 : RR 56 19 L (.int x :: st) μ Q ↔ if ¬ x = 0 then RR 56 45 L st μ Q else RR 56 22 L st μ Q := rw_if p56_19 rfl
theorem r56_22 : RR 56 22 (.ref q :: l) st μ Q ↔ RR 56 23 (.ref q :: l) (.ref q :: st) μ Q := rw_go p56_22 rfl
theorem r56_23 : RR 56 23 (.ref q :: l) st μ Q ↔ RR 56 24 (.ref q :: l) (.ref q :: st) μ Q := rw_go p56_23 rfl
theorem r56_24 : RR 56 24 L (.ref q :: st) (S, b, M, D, F) Q ↔ S[q]? = some (.inl 9) ∧ RR 56 27 L (va_rf (F q 0) :: st) (S, b, M, D, F) Q := rw_c p56_24 rfl
theorem r56_27 : RR 56 27 L st μ Q ↔ RR 56 29 L (.int (nI 8) :: st) μ Q := rw_go p56_27 rfl
theorem r56_29 : RR 56 29 (a0 :: .int x :: l) st μ Q ↔ RR 56 30 (a0 :: .int x :: l) (.int x :: st) μ Q := rw_go p56_29 rfl
theorem r56_30 : RR 56 30 L (.int y :: .int x :: st) μ Q ↔ RR 56 31 L (.int (x + y) :: st) μ Q := rw_go p56_30 rfl
theorem r56_31 : RR 56 31 L (.int x :: .ref q :: st) (S, b, M, D, F) Q ↔ am_bd S b.2.2 q 2 x ∧ RR 56 32 L (.int (M q x.toInt.toNat) :: st) (S, b, M, D, F) Q := rw_c p56_31 am_xld_eq
theorem r56_32 : RR 56 32 L (.int x :: st) μ Q ↔ if x = 0 then RR 56 39 L st μ Q else RR 56 35 L st μ Q := rw_if p56_32 rfl
theorem r56_35 : RR 56 35 L st μ Q ↔ RR 56 36 L (.int (nI 2) :: st) μ Q := rw_go p56_35 rfl
theorem r56_36 : RR 56 36 L st μ Q ↔ RR 56 40 L st μ Q := rw_go p56_36 rfl
theorem r56_39 : RR 56 39 L st μ Q ↔ RR 56 40 L (.int (nI 1) :: st) μ Q := rw_go p56_39 rfl
theorem r56_40 : RR 56 40 (a0 :: .int x :: l) st μ Q ↔ RR 56 41 (a0 :: .int x :: l) (.int x :: st) μ Q := rw_go p56_40 rfl
theorem r56_41 : RR 56 41 L st μ Q ↔ RR 56 42 L (.int (nI 0) :: st) μ Q := rw_go p56_41 rfl
theorem r56_42 : RR 56 42 L (.int x3 :: .int x2 :: .int x1 :: .ref q :: st) (S, (0, 0, sl), M, D, F) Q ↔ (am_cat st ≤ 8 ∧ 4 = 4 ∧ S[q]? = some (.inl 9)) ∧ RR 53 0 [.ref q, .int x1, .int x2, .int x3, .long 0, .long 0, .long 0, .long 0] [] (S, (0, 0, sl), M, D, F) (fun rv μ' => μ'.1.length = S.length ∧ RR 56 45 L (rv.toList ++ st) (μ'.1, (0, 0, sl), μ'.2.2) Q) := rw_call p56_42 rfl (ac53 q x1 x2 x3)
theorem r56_45 : RR 56 45 (a0 :: a1 :: .int x :: l) st μ Q ↔ RR 56 46 (a0 :: a1 :: .int x :: l) (.int x :: st) μ Q := rw_go p56_45 rfl
theorem r56_46 : RR 56 46 L (.int x :: st) μ Q ↔ if ¬ x = 0 then RR 56 60 L st μ Q else RR 56 49 L st μ Q := rw_if p56_46 rfl
theorem r56_49 : RR 56 49 (a0 :: a1 :: a2 :: .int x :: l) st μ Q ↔ RR 56 50 (a0 :: a1 :: a2 :: .int x :: l) (.int x :: st) μ Q := rw_go p56_49 rfl
theorem r56_50 : RR 56 50 L (.int x :: st) μ Q ↔ if x = 0 then RR 56 60 L st μ Q else RR 56 53 L st μ Q := rw_if p56_50 rfl
theorem r56_53 : RR 56 53 (.ref q :: l) st μ Q ↔ RR 56 54 (.ref q :: l) (.ref q :: st) μ Q := rw_go p56_53 rfl
theorem r56_54 : RR 56 54 L st μ Q ↔ RR 56 55 L (.int (nI 3) :: st) μ Q := rw_go p56_54 rfl
theorem r56_55 : RR 56 55 (a0 :: .int x :: l) st μ Q ↔ RR 56 56 (a0 :: .int x :: l) (.int x :: st) μ Q := rw_go p56_55 rfl
theorem r56_56 : RR 56 56 L st μ Q ↔ RR 56 57 L (.int (nI 0) :: st) μ Q := rw_go p56_56 rfl
theorem r56_57 : RR 56 57 L (.int x3 :: .int x2 :: .int x1 :: .ref q :: st) (S, (0, 0, sl), M, D, F) Q ↔ (am_cat st ≤ 8 ∧ 4 = 4 ∧ S[q]? = some (.inl 9)) ∧ RR 53 0 [.ref q, .int x1, .int x2, .int x3, .long 0, .long 0, .long 0, .long 0] [] (S, (0, 0, sl), M, D, F) (fun rv μ' => μ'.1.length = S.length ∧ RR 56 60 L (rv.toList ++ st) (μ'.1, (0, 0, sl), μ'.2.2) Q) := rw_call p56_57 rfl (ac53 q x1 x2 x3)
theorem r56_60 : RR 56 60 (a0 :: a1 :: .int x :: l) st μ Q ↔ RR 56 61 (a0 :: a1 :: .int x :: l) (.int x :: st) μ Q := rw_go p56_60 rfl
theorem r56_61 : RR 56 61 L (.int x :: st) μ Q ↔ if x = 0 then RR 56 68 L st μ Q else RR 56 64 L st μ Q := rw_if p56_61 rfl
theorem r56_64 : RR 56 64 (a0 :: a1 :: a2 :: .int x :: l) st μ Q ↔ RR 56 65 (a0 :: a1 :: a2 :: .int x :: l) (.int x :: st) μ Q := rw_go p56_64 rfl
theorem r56_65 : RR 56 65 L (.int x :: st) μ Q ↔ if ¬ x = 0 then RR 56 69 L st μ Q else RR 56 68 L st μ Q := rw_if p56_65 rfl
theorem r56_68 : RR 56 68 L [] μ Q ↔ Q none μ := rw_r p56_68 rfl
theorem r56_69 : RR 56 69 (.ref q :: l) st μ Q ↔ RR 56 70 (.ref q :: l) (.ref q :: st) μ Q := rw_go p56_69 rfl
theorem r56_70 : RR 56 70 L (.ref q :: st) (S, b, M, D, F) Q ↔ S[q]? = some (.inl 9) ∧ RR 56 73 L (va_rf (F q 3) :: st) (S, b, M, D, F) Q := rw_c p56_70 rfl
theorem r56_73 : RR 56 73 (a0 :: .int x :: l) st μ Q ↔ RR 56 74 (a0 :: .int x :: l) (.int x :: st) μ Q := rw_go p56_73 rfl
theorem r56_74 : RR 56 74 L (.int x :: .ref q :: st) (S, b, M, D, F) Q ↔ am_bd S b.2.2 q 0 x ∧ RR 56 75 L (.int (M q x.toInt.toNat) :: st) (S, b, M, D, F) Q := rw_c p56_74 am_xld_eq
theorem r56_75 : RR 56 75 (.ref q :: l) st μ Q ↔ RR 56 76 (.ref q :: l) (.ref q :: st) μ Q := rw_go p56_75 rfl
theorem r56_76 : RR 56 76 L (.ref q :: st) (S, b, M, D, F) Q ↔ S[q]? = some (.inl 9) ∧ RR 56 79 L (va_rf (F q 3) :: st) (S, b, M, D, F) Q := rw_c p56_76 rfl
theorem r56_79 : RR 56 79 L st μ Q ↔ RR 56 81 L (.int (nI 8) :: st) μ Q := rw_go p56_79 rfl
theorem r56_81 : RR 56 81 (a0 :: .int x :: l) st μ Q ↔ RR 56 82 (a0 :: .int x :: l) (.int x :: st) μ Q := rw_go p56_81 rfl
theorem r56_82 : RR 56 82 L (.int y :: .int x :: st) μ Q ↔ RR 56 83 L (.int (x + y) :: st) μ Q := rw_go p56_82 rfl
theorem r56_83 : RR 56 83 L (.int x :: .ref q :: st) (S, b, M, D, F) Q ↔ am_bd S b.2.2 q 0 x ∧ RR 56 84 L (.int (M q x.toInt.toNat) :: st) (S, b, M, D, F) Q := rw_c p56_83 am_xld_eq
theorem r56_84 : RR 56 84 L (.int y :: .int x :: st) μ Q ↔ if x = y then RR 56 94 L st μ Q else RR 56 87 L st μ Q := rw_if p56_84 rfl
theorem r56_87 : RR 56 87 (.ref q :: l) st μ Q ↔ RR 56 88 (.ref q :: l) (.ref q :: st) μ Q := rw_go p56_87 rfl
theorem r56_88 : RR 56 88 L st μ Q ↔ RR 56 89 L (.int (nI 4) :: st) μ Q := rw_go p56_88 rfl
theorem r56_89 : RR 56 89 (a0 :: .int x :: l) st μ Q ↔ RR 56 90 (a0 :: .int x :: l) (.int x :: st) μ Q := rw_go p56_89 rfl
theorem r56_90 : RR 56 90 L st μ Q ↔ RR 56 91 L (.int (nI 0) :: st) μ Q := rw_go p56_90 rfl
theorem r56_91 : RR 56 91 L (.int x3 :: .int x2 :: .int x1 :: .ref q :: st) (S, (0, 0, sl), M, D, F) Q ↔ (am_cat st ≤ 8 ∧ 4 = 4 ∧ S[q]? = some (.inl 9)) ∧ RR 53 0 [.ref q, .int x1, .int x2, .int x3, .long 0, .long 0, .long 0, .long 0] [] (S, (0, 0, sl), M, D, F) (fun rv μ' => μ'.1.length = S.length ∧ RR 56 94 L (rv.toList ++ st) (μ'.1, (0, 0, sl), μ'.2.2) Q) := rw_call p56_91 rfl (ac53 q x1 x2 x3)
theorem r56_94 : RR 56 94 (.ref q :: l) st μ Q ↔ RR 56 95 (.ref q :: l) (.ref q :: st) μ Q := rw_go p56_94 rfl
theorem r56_95 : RR 56 95 L (.ref q :: st) (S, b, M, D, F) Q ↔ S[q]? = some (.inl 9) ∧ RR 56 98 L (va_rf (F q 2) :: st) (S, b, M, D, F) Q := rw_c p56_95 rfl
theorem r56_98 : RR 56 98 (a0 :: .int x :: l) st μ Q ↔ RR 56 99 (a0 :: .int x :: l) (.int x :: st) μ Q := rw_go p56_98 rfl
theorem r56_99 : RR 56 99 L (.int x :: .ref q :: st) (S, b, M, D, F) Q ↔ am_bd S b.2.2 q 0 x ∧ RR 56 100 L (.int (M q x.toInt.toNat) :: st) (S, b, M, D, F) Q := rw_c p56_99 am_xld_eq
theorem r56_100 : RR 56 100 (.ref q :: l) st μ Q ↔ RR 56 101 (.ref q :: l) (.ref q :: st) μ Q := rw_go p56_100 rfl
theorem r56_101 : RR 56 101 L (.ref q :: st) (S, b, M, D, F) Q ↔ S[q]? = some (.inl 9) ∧ RR 56 104 L (va_rf (F q 2) :: st) (S, b, M, D, F) Q := rw_c p56_101 rfl
theorem r56_104 : RR 56 104 L st μ Q ↔ RR 56 106 L (.int (nI 8) :: st) μ Q := rw_go p56_104 rfl
theorem r56_106 : RR 56 106 (a0 :: .int x :: l) st μ Q ↔ RR 56 107 (a0 :: .int x :: l) (.int x :: st) μ Q := rw_go p56_106 rfl
theorem r56_107 : RR 56 107 L (.int y :: .int x :: st) μ Q ↔ RR 56 108 L (.int (x + y) :: st) μ Q := rw_go p56_107 rfl
theorem r56_108 : RR 56 108 L (.int x :: .ref q :: st) (S, b, M, D, F) Q ↔ am_bd S b.2.2 q 0 x ∧ RR 56 109 L (.int (M q x.toInt.toNat) :: st) (S, b, M, D, F) Q := rw_c p56_108 am_xld_eq
theorem r56_109 : RR 56 109 L (.int y :: .int x :: st) μ Q ↔ RR 56 110 L (.int (x ^^^ y) :: st) μ Q := rw_go p56_109 rfl
theorem r56_110 : RR 56 110 L st μ Q ↔ RR 56 111 L (.int (nI 2) :: st) μ Q := rw_go p56_110 rfl
theorem r56_111 : RR 56 111 L (.int y :: .int x :: st) μ Q ↔ RR 56 112 L (.int (x &&& y) :: st) μ Q := rw_go p56_111 rfl
theorem r56_112 : RR 56 112 L (.int x :: st) μ Q ↔ if x = 0 then RR 56 122 L st μ Q else RR 56 115 L st μ Q := rw_if p56_112 rfl
theorem r56_115 : RR 56 115 (.ref q :: l) st μ Q ↔ RR 56 116 (.ref q :: l) (.ref q :: st) μ Q := rw_go p56_115 rfl
theorem r56_116 : RR 56 116 L st μ Q ↔ RR 56 117 L (.int (nI 5) :: st) μ Q := rw_go p56_116 rfl
theorem r56_117 : RR 56 117 (a0 :: .int x :: l) st μ Q ↔ RR 56 118 (a0 :: .int x :: l) (.int x :: st) μ Q := rw_go p56_117 rfl
theorem r56_118 : RR 56 118 L st μ Q ↔ RR 56 119 L (.int (nI 0) :: st) μ Q := rw_go p56_118 rfl
theorem r56_119 : RR 56 119 L (.int x3 :: .int x2 :: .int x1 :: .ref q :: st) (S, (0, 0, sl), M, D, F) Q ↔ (am_cat st ≤ 8 ∧ 4 = 4 ∧ S[q]? = some (.inl 9)) ∧ RR 53 0 [.ref q, .int x1, .int x2, .int x3, .long 0, .long 0, .long 0, .long 0] [] (S, (0, 0, sl), M, D, F) (fun rv μ' => μ'.1.length = S.length ∧ RR 56 122 L (rv.toList ++ st) (μ'.1, (0, 0, sl), μ'.2.2) Q) := rw_call p56_119 rfl (ac53 q x1 x2 x3)
theorem r56_122 : RR 56 122 (.ref q :: l) st μ Q ↔ RR 56 123 (.ref q :: l) (.ref q :: st) μ Q := rw_go p56_122 rfl
theorem r56_123 : RR 56 123 (.ref q :: l) st μ Q ↔ RR 56 124 (.ref q :: l) (.ref q :: st) μ Q := rw_go p56_123 rfl
theorem r56_124 : RR 56 124 L (.ref q :: st) (S, b, M, D, F) Q ↔ S[q]? = some (.inl 9) ∧ RR 56 127 L (va_rf (F q 2) :: st) (S, b, M, D, F) Q := rw_c p56_124 rfl
theorem r56_127 : RR 56 127 (a0 :: .int x :: l) st μ Q ↔ RR 56 128 (a0 :: .int x :: l) (.int x :: st) μ Q := rw_go p56_127 rfl
theorem r56_128 : RR 56 128 L (.int x :: .ref q :: st) (S, b, M, D, F) Q ↔ am_bd S b.2.2 q 0 x ∧ RR 56 129 L (.int (M q x.toInt.toNat) :: st) (S, b, M, D, F) Q := rw_c p56_128 am_xld_eq
theorem r56_129 : RR 56 129 (.ref q :: l) st μ Q ↔ RR 56 130 (.ref q :: l) (.ref q :: st) μ Q := rw_go p56_129 rfl
theorem r56_130 : RR 56 130 L (.ref q :: st) (S, b, M, D, F) Q ↔ S[q]? = some (.inl 9) ∧ RR 56 133 L (va_rf (F q 2) :: st) (S, b, M, D, F) Q := rw_c p56_130 rfl
theorem r56_133 : RR 56 133 L st μ Q ↔ RR 56 135 L (.int (nI 8) :: st) μ Q := rw_go p56_133 rfl
theorem r56_135 : RR 56 135 (a0 :: .int x :: l) st μ Q ↔ RR 56 136 (a0 :: .int x :: l) (.int x :: st) μ Q := rw_go p56_135 rfl
theorem r56_136 : RR 56 136 L (.int y :: .int x :: st) μ Q ↔ RR 56 137 L (.int (x + y) :: st) μ Q := rw_go p56_136 rfl
theorem r56_137 : RR 56 137 L (.int x :: .ref q :: st) (S, b, M, D, F) Q ↔ am_bd S b.2.2 q 0 x ∧ RR 56 138 L (.int (M q x.toInt.toNat) :: st) (S, b, M, D, F) Q := rw_c p56_137 am_xld_eq
theorem r56_138 : RR 56 138 L st μ Q ↔ RR 56 139 L (.int (nI 4) :: st) μ Q := rw_go p56_138 rfl
theorem r56_139 : RR 56 139 L st μ Q ↔ RR 56 141 L (.int (nI 6) :: st) μ Q := rw_go p56_139 rfl
theorem r56_141 : RR 56 141 (a0 :: .int x :: l) st μ Q ↔ RR 56 142 (a0 :: .int x :: l) (.int x :: st) μ Q := rw_go p56_141 rfl
theorem r56_142 : RR 56 142 L st μ Q ↔ RR 56 143 L (.int (nI 0) :: st) μ Q := rw_go p56_142 rfl
theorem r56_143 : RR 56 143 L (.int x6 :: .int x5 :: .int x4 :: .int x3 :: .int x2 :: .int x1 :: .ref q :: st) (S, (0, 0, sl), M, D, F) Q ↔ (am_cat st ≤ 8 ∧ 7 = 7 ∧ S[q]? = some (.inl 9)) ∧ RR 54 0 [.ref q, .int x1, .int x2, .int x3, .int x4, .int x5, .int x6] [] (S, (0, 0, sl), M, D, F) (fun rv μ' => μ'.1.length = S.length ∧ RR 56 146 L (rv.toList ++ st) (μ'.1, (0, 0, sl), μ'.2.2) Q) := rw_call p56_143 rfl (ac54 q x1 x2 x3 x4 x5 x6)
theorem r56_146 : RR 56 146 (.ref q :: l) st μ Q ↔ RR 56 147 (.ref q :: l) (.ref q :: st) μ Q := rw_go p56_146 rfl
theorem r56_147 : RR 56 147 (.ref q :: l) st μ Q ↔ RR 56 148 (.ref q :: l) (.ref q :: st) μ Q := rw_go p56_147 rfl
theorem r56_148 : RR 56 148 L (.ref q :: st) (S, b, M, D, F) Q ↔ S[q]? = some (.inl 9) ∧ RR 56 151 L (va_rf (F q 2) :: st) (S, b, M, D, F) Q := rw_c p56_148 rfl
theorem r56_151 : RR 56 151 (a0 :: .int x :: l) st μ Q ↔ RR 56 152 (a0 :: .int x :: l) (.int x :: st) μ Q := rw_go p56_151 rfl
theorem r56_152 : RR 56 152 L (.int x :: .ref q :: st) (S, b, M, D, F) Q ↔ am_bd S b.2.2 q 0 x ∧ RR 56 153 L (.int (M q x.toInt.toNat) :: st) (S, b, M, D, F) Q := rw_c p56_152 am_xld_eq
theorem r56_153 : RR 56 153 (.ref q :: l) st μ Q ↔ RR 56 154 (.ref q :: l) (.ref q :: st) μ Q := rw_go p56_153 rfl
theorem r56_154 : RR 56 154 L (.ref q :: st) (S, b, M, D, F) Q ↔ S[q]? = some (.inl 9) ∧ RR 56 157 L (va_rf (F q 2) :: st) (S, b, M, D, F) Q := rw_c p56_154 rfl
theorem r56_157 : RR 56 157 L st μ Q ↔ RR 56 159 L (.int (nI 8) :: st) μ Q := rw_go p56_157 rfl
theorem r56_159 : RR 56 159 (a0 :: .int x :: l) st μ Q ↔ RR 56 160 (a0 :: .int x :: l) (.int x :: st) μ Q := rw_go p56_159 rfl
theorem r56_160 : RR 56 160 L (.int y :: .int x :: st) μ Q ↔ RR 56 161 L (.int (x + y) :: st) μ Q := rw_go p56_160 rfl
theorem r56_161 : RR 56 161 L (.int x :: .ref q :: st) (S, b, M, D, F) Q ↔ am_bd S b.2.2 q 0 x ∧ RR 56 162 L (.int (M q x.toInt.toNat) :: st) (S, b, M, D, F) Q := rw_c p56_161 am_xld_eq
theorem r56_162 : RR 56 162 L st μ Q ↔ RR 56 164 L (.int (nI 8) :: st) μ Q := rw_go p56_162 rfl
theorem r56_164 : RR 56 164 L st μ Q ↔ RR 56 166 L (.int (nI 8) :: st) μ Q := rw_go p56_164 rfl
theorem r56_166 : RR 56 166 (a0 :: .int x :: l) st μ Q ↔ RR 56 167 (a0 :: .int x :: l) (.int x :: st) μ Q := rw_go p56_166 rfl
theorem r56_167 : RR 56 167 L st μ Q ↔ RR 56 168 L (.int (nI 0) :: st) μ Q := rw_go p56_167 rfl
theorem r56_168 : RR 56 168 L (.int x6 :: .int x5 :: .int x4 :: .int x3 :: .int x2 :: .int x1 :: .ref q :: st) (S, (0, 0, sl), M, D, F) Q ↔ (am_cat st ≤ 8 ∧ 7 = 7 ∧ S[q]? = some (.inl 9)) ∧ RR 54 0 [.ref q, .int x1, .int x2, .int x3, .int x4, .int x5, .int x6] [] (S, (0, 0, sl), M, D, F) (fun rv μ' => μ'.1.length = S.length ∧ RR 56 171 L (rv.toList ++ st) (μ'.1, (0, 0, sl), μ'.2.2) Q) := rw_call p56_168 rfl (ac54 q x1 x2 x3 x4 x5 x6)
theorem r56_171 : RR 56 171 (.ref q :: l) st μ Q ↔ RR 56 172 (.ref q :: l) (.ref q :: st) μ Q := rw_go p56_171 rfl
theorem r56_172 : RR 56 172 L st μ Q ↔ RR 56 173 L (.int (nI 0) :: st) μ Q := rw_go p56_172 rfl
theorem r56_173 : RR 56 173 (a0 :: .int x :: l) st μ Q ↔ RR 56 174 (a0 :: .int x :: l) (.int x :: st) μ Q := rw_go p56_173 rfl
theorem r56_174 : RR 56 174 L (.int x2 :: .int x1 :: .ref q :: st) (S, (0, 0, sl), M, D, F) Q ↔ (am_cat st ≤ 8 ∧ 3 = 3 ∧ S[q]? = some (.inl 9)) ∧ RR 51 0 [.ref q, .int x1, .int x2, .long 0, .long 0, .long 0, .long 0, .long 0] [] (S, (0, 0, sl), M, D, F) (fun rv μ' => μ'.1.length = S.length ∧ RR 56 177 L (rv.toList ++ st) (μ'.1, (0, 0, sl), μ'.2.2) Q) := rw_call p56_174 rfl (ac51 q x1 x2)
theorem r56_177 : RR 56 177 (a0 :: a1 :: a2 :: a3 :: c0 :: l) (.int x :: st) μ Q ↔ RR 56 179 (a0 :: a1 :: a2 :: am_nd a3 :: .int x :: l) st μ Q := rw_ist p56_177 (by show 4 < _; simp only [List.length_cons]; omega)
theorem r56_179 : RR 56 179 (.ref q :: l) st μ Q ↔ RR 56 180 (.ref q :: l) (.ref q :: st) μ Q := rw_go p56_179 rfl
theorem r56_180 : RR 56 180 L st μ Q ↔ RR 56 181 L (.int (nI 1) :: st) μ Q := rw_go p56_180 rfl
theorem r56_181 : RR 56 181 (a0 :: .int x :: l) st μ Q ↔ RR 56 182 (a0 :: .int x :: l) (.int x :: st) μ Q := rw_go p56_181 rfl
theorem r56_182 : RR 56 182 L (.int x2 :: .int x1 :: .ref q :: st) (S, (0, 0, sl), M, D, F) Q ↔ (am_cat st ≤ 8 ∧ 3 = 3 ∧ S[q]? = some (.inl 9)) ∧ RR 51 0 [.ref q, .int x1, .int x2, .long 0, .long 0, .long 0, .long 0, .long 0] [] (S, (0, 0, sl), M, D, F) (fun rv μ' => μ'.1.length = S.length ∧ RR 56 185 L (rv.toList ++ st) (μ'.1, (0, 0, sl), μ'.2.2) Q) := rw_call p56_182 rfl (ac51 q x1 x2)
theorem r56_185 : RR 56 185 (a0 :: a1 :: a2 :: a3 :: a4 :: c0 :: l) (.int x :: st) μ Q ↔ RR 56 187 (a0 :: a1 :: a2 :: a3 :: am_nd a4 :: .int x :: l) st μ Q := rw_ist p56_185 (by show 5 < _; simp only [List.length_cons]; omega)
theorem r56_187 : RR 56 187 (.ref q :: l) st μ Q ↔ RR 56 188 (.ref q :: l) (.ref q :: st) μ Q := rw_go p56_187 rfl
theorem r56_188 : RR 56 188 L st μ Q ↔ RR 56 189 L (.int (nI 0) :: st) μ Q := rw_go p56_188 rfl
theorem r56_189 : RR 56 189 (a0 :: a1 :: a2 :: a3 :: .int x :: l) st μ Q ↔ RR 56 191 (a0 :: a1 :: a2 :: a3 :: .int x :: l) (.int x :: st) μ Q := rw_go p56_189 rfl
theorem r56_191 : RR 56 191 L (.int x2 :: .int x1 :: .ref q :: st) (S, (0, 0, sl), M, D, F) Q ↔ (am_cat st ≤ 8 ∧ 3 = 3 ∧ S[q]? = some (.inl 9)) ∧ RR 55 0 [.ref q, .int x1, .int x2, .long 0, .long 0] [] (S, (0, 0, sl), M, D, F) (fun rv μ' => μ'.1.length = S.length ∧ RR 56 194 L (rv.toList ++ st) (μ'.1, (0, 0, sl), μ'.2.2) Q) := rw_call p56_191 rfl (ac55 q x1 x2)
theorem r56_194 : RR 56 194 (a0 :: a1 :: a2 :: a3 :: a4 :: .int x :: l) st μ Q ↔ RR 56 196 (a0 :: a1 :: a2 :: a3 :: a4 :: .int x :: l) (.int x :: st) μ Q := rw_go p56_194 rfl
theorem r56_196 : RR 56 196 L st μ Q ↔ RR 56 197 L (.int ((-1)) :: st) μ Q := rw_go p56_196 rfl
theorem r56_197 : RR 56 197 L (.int y :: .int x :: st) μ Q ↔ RR 56 198 L (.int (x ^^^ y) :: st) μ Q := rw_go p56_197 rfl
theorem r56_198 : RR 56 198 L (.int y :: .int x :: st) μ Q ↔ RR 56 199 L (.int (x &&& y) :: st) μ Q := rw_go p56_198 rfl
theorem r56_199 : RR 56 199 L (.int x :: st) μ Q ↔ if x = 0 then RR 56 210 L st μ Q else RR 56 202 L st μ Q := rw_if p56_199 rfl
theorem r56_202 : RR 56 202 (.ref q :: l) st μ Q ↔ RR 56 203 (.ref q :: l) (.ref q :: st) μ Q := rw_go p56_202 rfl
theorem r56_203 : RR 56 203 L st μ Q ↔ RR 56 205 L (.int (nI 10) :: st) μ Q := rw_go p56_203 rfl
theorem r56_205 : RR 56 205 (a0 :: .int x :: l) st μ Q ↔ RR 56 206 (a0 :: .int x :: l) (.int x :: st) μ Q := rw_go p56_205 rfl
theorem r56_206 : RR 56 206 L st μ Q ↔ RR 56 207 L (.int (nI 0) :: st) μ Q := rw_go p56_206 rfl
theorem r56_207 : RR 56 207 L (.int x3 :: .int x2 :: .int x1 :: .ref q :: st) (S, (0, 0, sl), M, D, F) Q ↔ (am_cat st ≤ 8 ∧ 4 = 4 ∧ S[q]? = some (.inl 9)) ∧ RR 53 0 [.ref q, .int x1, .int x2, .int x3, .long 0, .long 0, .long 0, .long 0] [] (S, (0, 0, sl), M, D, F) (fun rv μ' => μ'.1.length = S.length ∧ RR 56 210 L (rv.toList ++ st) (μ'.1, (0, 0, sl), μ'.2.2) Q) := rw_call p56_207 rfl (ac53 q x1 x2 x3)
theorem r56_210 : RR 56 210 (.ref q :: l) st μ Q ↔ RR 56 211 (.ref q :: l) (.ref q :: st) μ Q := rw_go p56_210 rfl
theorem r56_211 : RR 56 211 L st μ Q ↔ RR 56 212 L (.int (nI 1) :: st) μ Q := rw_go p56_211 rfl
theorem r56_212 : RR 56 212 (a0 :: a1 :: a2 :: a3 :: a4 :: .int x :: l) st μ Q ↔ RR 56 214 (a0 :: a1 :: a2 :: a3 :: a4 :: .int x :: l) (.int x :: st) μ Q := rw_go p56_212 rfl
theorem r56_214 : RR 56 214 L (.int x2 :: .int x1 :: .ref q :: st) (S, (0, 0, sl), M, D, F) Q ↔ (am_cat st ≤ 8 ∧ 3 = 3 ∧ S[q]? = some (.inl 9)) ∧ RR 55 0 [.ref q, .int x1, .int x2, .long 0, .long 0] [] (S, (0, 0, sl), M, D, F) (fun rv μ' => μ'.1.length = S.length ∧ RR 56 217 L (rv.toList ++ st) (μ'.1, (0, 0, sl), μ'.2.2) Q) := rw_call p56_214 rfl (ac55 q x1 x2)
theorem r56_217 : RR 56 217 (a0 :: a1 :: a2 :: a3 :: .int x :: l) st μ Q ↔ RR 56 219 (a0 :: a1 :: a2 :: a3 :: .int x :: l) (.int x :: st) μ Q := rw_go p56_217 rfl
theorem r56_219 : RR 56 219 L st μ Q ↔ RR 56 220 L (.int ((-1)) :: st) μ Q := rw_go p56_219 rfl
theorem r56_220 : RR 56 220 L (.int y :: .int x :: st) μ Q ↔ RR 56 221 L (.int (x ^^^ y) :: st) μ Q := rw_go p56_220 rfl
theorem r56_221 : RR 56 221 L (.int y :: .int x :: st) μ Q ↔ RR 56 222 L (.int (x &&& y) :: st) μ Q := rw_go p56_221 rfl
theorem r56_222 : RR 56 222 L (.int x :: st) μ Q ↔ if x = 0 then RR 56 233 L st μ Q else RR 56 225 L st μ Q := rw_if p56_222 rfl
theorem r56_225 : RR 56 225 (.ref q :: l) st μ Q ↔ RR 56 226 (.ref q :: l) (.ref q :: st) μ Q := rw_go p56_225 rfl
theorem r56_226 : RR 56 226 L st μ Q ↔ RR 56 228 L (.int (nI 11) :: st) μ Q := rw_go p56_226 rfl
theorem r56_228 : RR 56 228 (a0 :: .int x :: l) st μ Q ↔ RR 56 229 (a0 :: .int x :: l) (.int x :: st) μ Q := rw_go p56_228 rfl
theorem r56_229 : RR 56 229 L st μ Q ↔ RR 56 230 L (.int (nI 0) :: st) μ Q := rw_go p56_229 rfl
theorem r56_230 : RR 56 230 L (.int x3 :: .int x2 :: .int x1 :: .ref q :: st) (S, (0, 0, sl), M, D, F) Q ↔ (am_cat st ≤ 8 ∧ 4 = 4 ∧ S[q]? = some (.inl 9)) ∧ RR 53 0 [.ref q, .int x1, .int x2, .int x3, .long 0, .long 0, .long 0, .long 0] [] (S, (0, 0, sl), M, D, F) (fun rv μ' => μ'.1.length = S.length ∧ RR 56 233 L (rv.toList ++ st) (μ'.1, (0, 0, sl), μ'.2.2) Q) := rw_call p56_230 rfl (ac53 q x1 x2 x3)
theorem r56_233 : RR 56 233 L st μ Q ↔ RR 56 234 L (.int (nI 1) :: st) μ Q := rw_go p56_233 rfl
theorem r56_234 : RR 56 234 (a0 :: a1 :: a2 :: a3 :: a4 :: a5 :: c0 :: l) (.int x :: st) μ Q ↔ RR 56 236 (a0 :: a1 :: a2 :: a3 :: a4 :: am_nd a5 :: .int x :: l) st μ Q := rw_ist p56_234 (by show 6 < _; simp only [List.length_cons]; omega)
theorem r56_236 : RR 56 236 (a0 :: a1 :: a2 :: a3 :: a4 :: a5 :: .int x :: l) st μ Q ↔ RR 56 238 (a0 :: a1 :: a2 :: a3 :: a4 :: a5 :: .int x :: l) (.int x :: st) μ Q := rw_go p56_236 rfl
theorem r56_238 : RR 56 238 L st μ Q ↔ RR 56 240 L (.int (nI 25) :: st) μ Q := rw_go p56_238 rfl
theorem r56_240 : RR 56 240 L (.int y :: .int x :: st) μ Q ↔ if y ≤ x then RR 56 256 L st μ Q else RR 56 243 L st μ Q := rw_if p56_240 rfl
theorem r56_243 : RR 56 243 (.ref q :: l) st μ Q ↔ RR 56 244 (.ref q :: l) (.ref q :: st) μ Q := rw_go p56_243 rfl
theorem r56_244 : RR 56 244 (a0 :: .int x :: l) st μ Q ↔ RR 56 245 (a0 :: .int x :: l) (.int x :: st) μ Q := rw_go p56_244 rfl
theorem r56_245 : RR 56 245 (a0 :: a1 :: a2 :: a3 :: a4 :: a5 :: .int x :: l) st μ Q ↔ RR 56 247 (a0 :: a1 :: a2 :: a3 :: a4 :: a5 :: .int x :: l) (.int x :: st) μ Q := rw_go p56_245 rfl
theorem r56_247 : RR 56 247 L (.int x2 :: .int x1 :: .ref q :: st) (S, (0, 0, sl), M, D, F) Q ↔ (am_cat st ≤ 8 ∧ 3 = 3 ∧ S[q]? = some (.inl 9)) ∧ RR 57 0 [.ref q, .int x1, .int x2, .long 0, .long 0, .long 0, .long 0, .long 0, .long 0, .long 0] [] (S, (0, 0, sl), M, D, F) (fun rv μ' => μ'.1.length = S.length ∧ RR 56 250 L (rv.toList ++ st) (μ'.1, (0, 0, sl), μ'.2.2) Q) := rw_call p56_247 rfl (ac57 q x1 x2)
theorem r56_250 : RR 56 250 (a0 :: a1 :: a2 :: a3 :: a4 :: a5 :: .int x :: l) st μ Q ↔ RR 56 253 (a0 :: a1 :: a2 :: a3 :: a4 :: am_nd a5 :: .int (x + nI 1) :: l) st μ Q := rw_go p56_250 rfl
theorem r56_253 : RR 56 253 L st μ Q ↔ RR 56 236 L st μ Q := rw_go p56_253 rfl
theorem r56_256 : RR 56 256 L [] μ Q ↔ Q none μ := rw_r p56_256 rfl
/-! ReleaseDeskModel.weigh -/
theorem r57_0 : RR 57 0 (.ref q :: l) st μ Q ↔ RR 57 1 (.ref q :: l) (.ref q :: st) μ Q := rw_go p57_0 rfl
theorem r57_1 : RR 57 1 L (.ref q :: st) (S, b, M, D, F) Q ↔ S[q]? = some (.inl 9) ∧ RR 57 4 L (va_rf (F q 6) :: st) (S, b, M, D, F) Q := rw_c p57_1 rfl
theorem r57_4 : RR 57 4 L st μ Q ↔ RR 57 5 L (.int (nI 0) :: st) μ Q := rw_go p57_4 rfl
theorem r57_5 : RR 57 5 (a0 :: .int x :: l) st μ Q ↔ RR 57 6 (a0 :: .int x :: l) (.int x :: st) μ Q := rw_go p57_5 rfl
theorem r57_6 : RR 57 6 (a0 :: a1 :: .int x :: l) st μ Q ↔ RR 57 7 (a0 :: a1 :: .int x :: l) (.int x :: st) μ Q := rw_go p57_6 rfl
theorem r57_7 : RR 57 7 L (.int x3 :: .int x2 :: .int x1 :: st) (S, (0, 0, sl), M, D, F) Q ↔ (am_cat st ≤ 8 ∧ 3 = 3) ∧ RR 36 0 [.int x1, .int x2, .int x3] [] (S, (0, 0, sl), M, D, F) (fun rv μ' => μ'.1.length = S.length ∧ RR 57 10 L (rv.toList ++ st) (μ'.1, (0, 0, sl), μ'.2.2) Q) := rw_call p57_7 rfl (ac36 x1 x2 x3)
theorem r57_10 : RR 57 10 L (.int x :: .ref q :: st) (S, b, M, D, F) Q ↔ am_bd S b.2.2 q 0 x ∧ RR 57 11 L (.int (M q x.toInt.toNat) :: st) (S, b, M, D, F) Q := rw_c p57_10 am_xld_eq
theorem r57_11 : RR 57 11 (a0 :: a1 :: a2 :: c0 :: l) (.int x :: st) μ Q ↔ RR 57 12 (a0 :: a1 :: am_nd a2 :: .int x :: l) st μ Q := rw_istn p57_11 (by show 3 < _; simp only [List.length_cons]; omega)
theorem r57_12 : RR 57 12 (.ref q :: l) st μ Q ↔ RR 57 13 (.ref q :: l) (.ref q :: st) μ Q := rw_go p57_12 rfl
theorem r57_13 : RR 57 13 L (.ref q :: st) (S, b, M, D, F) Q ↔ S[q]? = some (.inl 9) ∧ RR 57 16 L (va_rf (F q 6) :: st) (S, b, M, D, F) Q := rw_c p57_13 rfl
theorem r57_16 : RR 57 16 L st μ Q ↔ RR 57 17 L (.int (nI 1) :: st) μ Q := rw_go p57_16 rfl
theorem r57_17 : RR 57 17 (a0 :: .int x :: l) st μ Q ↔ RR 57 18 (a0 :: .int x :: l) (.int x :: st) μ Q := rw_go p57_17 rfl
theorem r57_18 : RR 57 18 (a0 :: a1 :: .int x :: l) st μ Q ↔ RR 57 19 (a0 :: a1 :: .int x :: l) (.int x :: st) μ Q := rw_go p57_18 rfl
theorem r57_19 : RR 57 19 L (.int x3 :: .int x2 :: .int x1 :: st) (S, (0, 0, sl), M, D, F) Q ↔ (am_cat st ≤ 8 ∧ 3 = 3) ∧ RR 36 0 [.int x1, .int x2, .int x3] [] (S, (0, 0, sl), M, D, F) (fun rv μ' => μ'.1.length = S.length ∧ RR 57 22 L (rv.toList ++ st) (μ'.1, (0, 0, sl), μ'.2.2) Q) := rw_call p57_19 rfl (ac36 x1 x2 x3)
theorem r57_22 : RR 57 22 L (.int x :: .ref q :: st) (S, b, M, D, F) Q ↔ am_bd S b.2.2 q 0 x ∧ RR 57 23 L (.int (M q x.toInt.toNat) :: st) (S, b, M, D, F) Q := rw_c p57_22 am_xld_eq
theorem r57_23 : RR 57 23 (a0 :: a1 :: a2 :: a3 :: c0 :: l) (.int x :: st) μ Q ↔ RR 57 25 (a0 :: a1 :: a2 :: am_nd a3 :: .int x :: l) st μ Q := rw_ist p57_23 (by show 4 < _; simp only [List.length_cons]; omega)
theorem r57_25 : RR 57 25 (.ref q :: l) st μ Q ↔ RR 57 26 (.ref q :: l) (.ref q :: st) μ Q := rw_go p57_25 rfl
theorem r57_26 : RR 57 26 L st μ Q ↔ RR 57 27 L (.int (nI 0) :: st) μ Q := rw_go p57_26 rfl
theorem r57_27 : RR 57 27 (a0 :: .int x :: l) st μ Q ↔ RR 57 28 (a0 :: .int x :: l) (.int x :: st) μ Q := rw_go p57_27 rfl
theorem r57_28 : RR 57 28 (a0 :: a1 :: .int x :: l) st μ Q ↔ RR 57 29 (a0 :: a1 :: .int x :: l) (.int x :: st) μ Q := rw_go p57_28 rfl
theorem r57_29 : RR 57 29 L (.int x3 :: .int x2 :: .int x1 :: .ref q :: st) (S, (0, 0, sl), M, D, F) Q ↔ (am_cat st ≤ 8 ∧ 4 = 4 ∧ S[q]? = some (.inl 9)) ∧ RR 50 0 [.ref q, .int x1, .int x2, .int x3, .long 0] [] (S, (0, 0, sl), M, D, F) (fun rv μ' => μ'.1.length = S.length ∧ RR 57 32 L (rv.toList ++ st) (μ'.1, (0, 0, sl), μ'.2.2) Q) := rw_call p57_29 rfl (ac50 q x1 x2 x3)
theorem r57_32 : RR 57 32 (a0 :: a1 :: a2 :: a3 :: a4 :: c0 :: l) (.int x :: st) μ Q ↔ RR 57 34 (a0 :: a1 :: a2 :: a3 :: am_nd a4 :: .int x :: l) st μ Q := rw_ist p57_32 (by show 5 < _; simp only [List.length_cons]; omega)
theorem r57_34 : RR 57 34 (.ref q :: l) st μ Q ↔ RR 57 35 (.ref q :: l) (.ref q :: st) μ Q := rw_go p57_34 rfl
theorem r57_35 : RR 57 35 L st μ Q ↔ RR 57 36 L (.int (nI 1) :: st) μ Q := rw_go p57_35 rfl
theorem r57_36 : RR 57 36 (a0 :: .int x :: l) st μ Q ↔ RR 57 37 (a0 :: .int x :: l) (.int x :: st) μ Q := rw_go p57_36 rfl
theorem r57_37 : RR 57 37 (a0 :: a1 :: .int x :: l) st μ Q ↔ RR 57 38 (a0 :: a1 :: .int x :: l) (.int x :: st) μ Q := rw_go p57_37 rfl
theorem r57_38 : RR 57 38 L (.int x3 :: .int x2 :: .int x1 :: .ref q :: st) (S, (0, 0, sl), M, D, F) Q ↔ (am_cat st ≤ 8 ∧ 4 = 4 ∧ S[q]? = some (.inl 9)) ∧ RR 50 0 [.ref q, .int x1, .int x2, .int x3, .long 0] [] (S, (0, 0, sl), M, D, F) (fun rv μ' => μ'.1.length = S.length ∧ RR 57 41 L (rv.toList ++ st) (μ'.1, (0, 0, sl), μ'.2.2) Q) := rw_call p57_38 rfl (ac50 q x1 x2 x3)
theorem r57_41 : RR 57 41 (a0 :: a1 :: a2 :: a3 :: a4 :: a5 :: c0 :: l) (.int x :: st) μ Q ↔ RR 57 43 (a0 :: a1 :: a2 :: a3 :: a4 :: am_nd a5 :: .int x :: l) st μ Q := rw_ist p57_41 (by show 6 < _; simp only [List.length_cons]; omega)
theorem r57_43 : RR 57 43 (a0 :: a1 :: .int x :: l) st μ Q ↔ RR 57 44 (a0 :: a1 :: .int x :: l) (.int x :: st) μ Q := rw_go p57_43 rfl
theorem r57_44 : RR 57 44 L st μ Q ↔ RR 57 46 L (.int (nI 12) :: st) μ Q := rw_go p57_44 rfl
theorem r57_46 : RR 57 46 L (.int y :: .int x :: st) μ Q ↔ if x ≤ y then RR 57 53 L st μ Q else RR 57 49 L st μ Q := rw_if p57_46 rfl
theorem r57_49 : RR 57 49 L st μ Q ↔ RR 57 50 L (.int (nI 1) :: st) μ Q := rw_go p57_49 rfl
theorem r57_50 : RR 57 50 L st μ Q ↔ RR 57 54 L st μ Q := rw_go p57_50 rfl
theorem r57_53 : RR 57 53 L st μ Q ↔ RR 57 54 L (.int (nI 0) :: st) μ Q := rw_go p57_53 rfl
theorem r57_54 : RR 57 54 (a0 :: a1 :: a2 :: a3 :: a4 :: a5 :: a6 :: c0 :: l) (.int x :: st) μ Q ↔ RR 57 56 (a0 :: a1 :: a2 :: a3 :: a4 :: a5 :: am_nd a6 :: .int x :: l) st μ Q := rw_ist p57_54 (by show 7 < _; simp only [List.length_cons]; omega)
theorem r57_56 : RR 57 56 (a0 :: a1 :: a2 :: a3 :: a4 :: .int x :: l) st μ Q ↔ RR 57 58 (a0 :: a1 :: a2 :: a3 :: a4 :: .int x :: l) (.int x :: st) μ Q := rw_go p57_56 rfl
theorem r57_58 : RR 57 58 L (.int x :: st) μ Q ↔ if x = 0 then RR 57 102 L st μ Q else RR 57 61 L st μ Q := rw_if p57_58 rfl
theorem r57_61 : RR 57 61 (a0 :: a1 :: a2 :: a3 :: a4 :: a5 :: .int x :: l) st μ Q ↔ RR 57 63 (a0 :: a1 :: a2 :: a3 :: a4 :: a5 :: .int x :: l) (.int x :: st) μ Q := rw_go p57_61 rfl
theorem r57_63 : RR 57 63 L (.int x :: st) μ Q ↔ if ¬ x = 0 then RR 57 102 L st μ Q else RR 57 66 L st μ Q := rw_if p57_63 rfl
theorem r57_66 : RR 57 66 (.ref q :: l) st μ Q ↔ RR 57 67 (.ref q :: l) (.ref q :: st) μ Q := rw_go p57_66 rfl
theorem r57_67 : RR 57 67 (a0 :: a1 :: a2 :: a3 :: .int x :: l) st μ Q ↔ RR 57 69 (a0 :: a1 :: a2 :: a3 :: .int x :: l) (.int x :: st) μ Q := rw_go p57_67 rfl
theorem r57_69 : RR 57 69 L (.int x :: st) μ Q ↔ if x < 0 then RR 57 77 L st μ Q else RR 57 72 L st μ Q := rw_if p57_69 rfl
theorem r57_72 : RR 57 72 L st μ Q ↔ RR 57 74 L (.int (nI 22) :: st) μ Q := rw_go p57_72 rfl
theorem r57_74 : RR 57 74 L st μ Q ↔ RR 57 97 L st μ Q := rw_go p57_74 rfl
theorem r57_77 : RR 57 77 (.ref q :: l) st μ Q ↔ RR 57 78 (.ref q :: l) (.ref q :: st) μ Q := rw_go p57_77 rfl
theorem r57_78 : RR 57 78 (a0 :: .int x :: l) st μ Q ↔ RR 57 79 (a0 :: .int x :: l) (.int x :: st) μ Q := rw_go p57_78 rfl
theorem r57_79 : RR 57 79 (a0 :: a1 :: .int x :: l) st μ Q ↔ RR 57 80 (a0 :: a1 :: .int x :: l) (.int x :: st) μ Q := rw_go p57_79 rfl
theorem r57_80 : RR 57 80 (a0 :: a1 :: a2 :: .int x :: l) st μ Q ↔ RR 57 81 (a0 :: a1 :: a2 :: .int x :: l) (.int x :: st) μ Q := rw_go p57_80 rfl
theorem r57_81 : RR 57 81 L st μ Q ↔ RR 57 83 L (.int (nI 8) :: st) μ Q := rw_go p57_81 rfl
theorem r57_83 : RR 57 83 L (.int y :: .int x :: st) μ Q ↔ ¬ y = 0 ∧ RR 57 84 L (.int (x / y) :: st) μ Q := rw_n p57_83 rfl
theorem r57_84 : RR 57 84 L (.int x3 :: .int x2 :: .int x1 :: .ref q :: st) (S, (0, 0, sl), M, D, F) Q ↔ (am_cat st ≤ 8 ∧ 4 = 4 ∧ S[q]? = some (.inl 9)) ∧ RR 58 0 [.ref q, .int x1, .int x2, .int x3, .long 0, .long 0] [] (S, (0, 0, sl), M, D, F) (fun rv μ' => μ'.1.length = S.length ∧ RR 57 87 L (rv.toList ++ st) (μ'.1, (0, 0, sl), μ'.2.2) Q) := rw_call p57_84 rfl (ac58 q x1 x2 x3)
theorem r57_87 : RR 57 87 L (.int x :: st) μ Q ↔ if x = 0 then RR 57 95 L st μ Q else RR 57 90 L st μ Q := rw_if p57_87 rfl
theorem r57_90 : RR 57 90 L st μ Q ↔ RR 57 92 L (.int (nI 21) :: st) μ Q := rw_go p57_90 rfl
theorem r57_92 : RR 57 92 L st μ Q ↔ RR 57 97 L st μ Q := rw_go p57_92 rfl
theorem r57_95 : RR 57 95 L st μ Q ↔ RR 57 97 L (.int (nI 20) :: st) μ Q := rw_go p57_95 rfl
theorem r57_97 : RR 57 97 (a0 :: .int x :: l) st μ Q ↔ RR 57 98 (a0 :: .int x :: l) (.int x :: st) μ Q := rw_go p57_97 rfl
theorem r57_98 : RR 57 98 (a0 :: a1 :: .int x :: l) st μ Q ↔ RR 57 99 (a0 :: a1 :: .int x :: l) (.int x :: st) μ Q := rw_go p57_98 rfl
theorem r57_99 : RR 57 99 L (.int x3 :: .int x2 :: .int x1 :: .ref q :: st) (S, (0, 0, sl), M, D, F) Q ↔ (am_cat st ≤ 8 ∧ 4 = 4 ∧ S[q]? = some (.inl 9)) ∧ RR 53 0 [.ref q, .int x1, .int x2, .int x3, .long 0, .long 0, .long 0, .long 0] [] (S, (0, 0, sl), M, D, F) (fun rv μ' => μ'.1.length = S.length ∧ RR 57 102 L (rv.toList ++ st) (μ'.1, (0, 0, sl), μ'.2.2) Q) := rw_call p57_99 rfl (ac53 q x1 x2 x3)
theorem r57_102 : RR 57 102 (a0 :: a1 :: a2 :: a3 :: a4 :: .int x :: l) st μ Q ↔ RR 57 104 (a0 :: a1 :: a2 :: a3 :: a4 :: .int x :: l) (.int x :: st) μ Q := rw_go p57_102 rfl
theorem r57_104 : RR 57 104 L (.int x :: st) μ Q ↔ if ¬ x = 0 then RR 57 137 L st μ Q else RR 57 107 L st μ Q := rw_if p57_104 rfl
theorem r57_107 : RR 57 107 (a0 :: a1 :: a2 :: a3 :: a4 :: a5 :: .int x :: l) st μ Q ↔ RR 57 109 (a0 :: a1 :: a2 :: a3 :: a4 :: a5 :: .int x :: l) (.int x :: st) μ Q := rw_go p57_107 rfl
theorem r57_109 : RR 57 109 L (.int x :: st) μ Q ↔ if x = 0 then RR 57 137 L st μ Q else RR 57 112 L st μ Q := rw_if p57_109 rfl
theorem r57_112 : RR 57 112 (.ref q :: l) st μ Q ↔ RR 57 113 (.ref q :: l) (.ref q :: st) μ Q := rw_go p57_112 rfl
theorem r57_113 : RR 57 113 (a0 :: a1 :: a2 :: a3 :: a4 :: a5 :: a6 :: .int x :: l) st μ Q ↔ RR 57 115 (a0 :: a1 :: a2 :: a3 :: a4 :: a5 :: a6 :: .int x :: l) (.int x :: st) μ Q := rw_go p57_113 rfl
theorem r57_115 : RR 57 115 L (.int x :: st) μ Q ↔ if x = 0 then RR 57 130 L st μ Q else RR 57 118 L st μ Q := rw_if p57_115 rfl
theorem r57_118 : RR 57 118 (a0 :: a1 :: a2 :: a3 :: .int x :: l) st μ Q ↔ RR 57 120 (a0 :: a1 :: a2 :: a3 :: .int x :: l) (.int x :: st) μ Q := rw_go p57_118 rfl
theorem r57_120 : RR 57 120 L st μ Q ↔ RR 57 121 L (.int (nI 2) :: st) μ Q := rw_go p57_120 rfl
theorem r57_121 : RR 57 121 L (.int y :: .int x :: st) μ Q ↔ RR 57 122 L (.int (x &&& y) :: st) μ Q := rw_go p57_121 rfl
theorem r57_122 : RR 57 122 L (.int x :: st) μ Q ↔ if x = 0 then RR 57 130 L st μ Q else RR 57 125 L st μ Q := rw_if p57_122 rfl
theorem r57_125 : RR 57 125 L st μ Q ↔ RR 57 127 L (.int (nI 24) :: st) μ Q := rw_go p57_125 rfl
theorem r57_127 : RR 57 127 L st μ Q ↔ RR 57 132 L st μ Q := rw_go p57_127 rfl
theorem r57_130 : RR 57 130 L st μ Q ↔ RR 57 132 L (.int (nI 23) :: st) μ Q := rw_go p57_130 rfl
theorem r57_132 : RR 57 132 (a0 :: .int x :: l) st μ Q ↔ RR 57 133 (a0 :: .int x :: l) (.int x :: st) μ Q := rw_go p57_132 rfl
theorem r57_133 : RR 57 133 (a0 :: a1 :: .int x :: l) st μ Q ↔ RR 57 134 (a0 :: a1 :: .int x :: l) (.int x :: st) μ Q := rw_go p57_133 rfl
theorem r57_134 : RR 57 134 L (.int x3 :: .int x2 :: .int x1 :: .ref q :: st) (S, (0, 0, sl), M, D, F) Q ↔ (am_cat st ≤ 8 ∧ 4 = 4 ∧ S[q]? = some (.inl 9)) ∧ RR 53 0 [.ref q, .int x1, .int x2, .int x3, .long 0, .long 0, .long 0, .long 0] [] (S, (0, 0, sl), M, D, F) (fun rv μ' => μ'.1.length = S.length ∧ RR 57 137 L (rv.toList ++ st) (μ'.1, (0, 0, sl), μ'.2.2) Q) := rw_call p57_134 rfl (ac53 q x1 x2 x3)
theorem r57_137 : RR 57 137 (a0 :: a1 :: a2 :: a3 :: a4 :: .int x :: l) st μ Q ↔ RR 57 139 (a0 :: a1 :: a2 :: a3 :: a4 :: .int x :: l) (.int x :: st) μ Q := rw_go p57_137 rfl
theorem r57_139 : RR 57 139 L (.int x :: st) μ Q ↔ if x = 0 then RR 57 147 L st μ Q else RR 57 142 L st μ Q := rw_if p57_139 rfl
theorem r57_142 : RR 57 142 (a0 :: a1 :: a2 :: a3 :: a4 :: a5 :: .int x :: l) st μ Q ↔ RR 57 144 (a0 :: a1 :: a2 :: a3 :: a4 :: a5 :: .int x :: l) (.int x :: st) μ Q := rw_go p57_142 rfl
theorem r57_144 : RR 57 144 L (.int x :: st) μ Q ↔ if ¬ x = 0 then RR 57 148 L st μ Q else RR 57 147 L st μ Q := rw_if p57_144 rfl
theorem r57_147 : RR 57 147 L [] μ Q ↔ Q none μ := rw_r p57_147 rfl
theorem r57_148 : RR 57 148 (a0 :: a1 :: a2 :: a3 :: .int x :: l) st μ Q ↔ RR 57 150 (a0 :: a1 :: a2 :: a3 :: .int x :: l) (.int x :: st) μ Q := rw_go p57_148 rfl
theorem r57_150 : RR 57 150 L st μ Q ↔ RR 57 152 L (.int (nI 8) :: st) μ Q := rw_go p57_150 rfl
theorem r57_152 : RR 57 152 L (.int y :: .int x :: st) μ Q ↔ ¬ y = 0 ∧ RR 57 153 L (.int (x / y) :: st) μ Q := rw_n p57_152 rfl
theorem r57_153 : RR 57 153 (a0 :: a1 :: a2 :: .int x :: l) st μ Q ↔ RR 57 154 (a0 :: a1 :: a2 :: .int x :: l) (.int x :: st) μ Q := rw_go p57_153 rfl
theorem r57_154 : RR 57 154 L st μ Q ↔ RR 57 156 L (.int (nI 8) :: st) μ Q := rw_go p57_154 rfl
theorem r57_156 : RR 57 156 L (.int y :: .int x :: st) μ Q ↔ ¬ y = 0 ∧ RR 57 157 L (.int (x / y) :: st) μ Q := rw_n p57_156 rfl
theorem r57_157 : RR 57 157 L (.int y :: .int x :: st) μ Q ↔ if y ≤ x then RR 57 168 L st μ Q else RR 57 160 L st μ Q := rw_if p57_157 rfl
theorem r57_160 : RR 57 160 (.ref q :: l) st μ Q ↔ RR 57 161 (.ref q :: l) (.ref q :: st) μ Q := rw_go p57_160 rfl
theorem r57_161 : RR 57 161 L st μ Q ↔ RR 57 163 L (.int (nI 22) :: st) μ Q := rw_go p57_161 rfl
theorem r57_163 : RR 57 163 (a0 :: .int x :: l) st μ Q ↔ RR 57 164 (a0 :: .int x :: l) (.int x :: st) μ Q := rw_go p57_163 rfl
theorem r57_164 : RR 57 164 (a0 :: a1 :: .int x :: l) st μ Q ↔ RR 57 165 (a0 :: a1 :: .int x :: l) (.int x :: st) μ Q := rw_go p57_164 rfl
theorem r57_165 : RR 57 165 L (.int x3 :: .int x2 :: .int x1 :: .ref q :: st) (S, (0, 0, sl), M, D, F) Q ↔ (am_cat st ≤ 8 ∧ 4 = 4 ∧ S[q]? = some (.inl 9)) ∧ RR 53 0 [.ref q, .int x1, .int x2, .int x3, .long 0, .long 0, .long 0, .long 0] [] (S, (0, 0, sl), M, D, F) (fun rv μ' => μ'.1.length = S.length ∧ RR 57 168 L (rv.toList ++ st) (μ'.1, (0, 0, sl), μ'.2.2) Q) := rw_call p57_165 rfl (ac53 q x1 x2 x3)
theorem r57_168 : RR 57 168 (a0 :: a1 :: a2 :: a3 :: .int x :: l) st μ Q ↔ RR 57 170 (a0 :: a1 :: a2 :: a3 :: .int x :: l) (.int x :: st) μ Q := rw_go p57_168 rfl
theorem r57_170 : RR 57 170 L st μ Q ↔ RR 57 172 L (.int (nI 8) :: st) μ Q := rw_go p57_170 rfl
theorem r57_172 : RR 57 172 L (.int y :: .int x :: st) μ Q ↔ ¬ y = 0 ∧ RR 57 173 L (.int (x / y) :: st) μ Q := rw_n p57_172 rfl
theorem r57_173 : RR 57 173 (a0 :: a1 :: a2 :: .int x :: l) st μ Q ↔ RR 57 174 (a0 :: a1 :: a2 :: .int x :: l) (.int x :: st) μ Q := rw_go p57_173 rfl
theorem r57_174 : RR 57 174 L st μ Q ↔ RR 57 176 L (.int (nI 8) :: st) μ Q := rw_go p57_174 rfl
theorem r57_176 : RR 57 176 L (.int y :: .int x :: st) μ Q ↔ ¬ y = 0 ∧ RR 57 177 L (.int (x / y) :: st) μ Q := rw_n p57_176 rfl
theorem r57_177 : RR 57 177 L (.int y :: .int x :: st) μ Q ↔ if x ≤ y then RR 57 188 L st μ Q else RR 57 180 L st μ Q := rw_if p57_177 rfl
theorem r57_180 : RR 57 180 (.ref q :: l) st μ Q ↔ RR 57 181 (.ref q :: l) (.ref q :: st) μ Q := rw_go p57_180 rfl
theorem r57_181 : RR 57 181 L st μ Q ↔ RR 57 183 L (.int (nI 25) :: st) μ Q := rw_go p57_181 rfl
theorem r57_183 : RR 57 183 (a0 :: .int x :: l) st μ Q ↔ RR 57 184 (a0 :: .int x :: l) (.int x :: st) μ Q := rw_go p57_183 rfl
theorem r57_184 : RR 57 184 (a0 :: a1 :: .int x :: l) st μ Q ↔ RR 57 185 (a0 :: a1 :: .int x :: l) (.int x :: st) μ Q := rw_go p57_184 rfl
theorem r57_185 : RR 57 185 L (.int x3 :: .int x2 :: .int x1 :: .ref q :: st) (S, (0, 0, sl), M, D, F) Q ↔ (am_cat st ≤ 8 ∧ 4 = 4 ∧ S[q]? = some (.inl 9)) ∧ RR 53 0 [.ref q, .int x1, .int x2, .int x3, .long 0, .long 0, .long 0, .long 0] [] (S, (0, 0, sl), M, D, F) (fun rv μ' => μ'.1.length = S.length ∧ RR 57 188 L (rv.toList ++ st) (μ'.1, (0, 0, sl), μ'.2.2) Q) := rw_call p57_185 rfl (ac53 q x1 x2 x3)
theorem r57_188 : RR 57 188 (a0 :: a1 :: a2 :: .int x :: l) st μ Q ↔ RR 57 189 (a0 :: a1 :: a2 :: .int x :: l) (.int x :: st) μ Q := rw_go p57_188 rfl
theorem r57_189 : RR 57 189 (a0 :: a1 :: a2 :: a3 :: .int x :: l) st μ Q ↔ RR 57 191 (a0 :: a1 :: a2 :: a3 :: .int x :: l) (.int x :: st) μ Q := rw_go p57_189 rfl
theorem r57_191 : RR 57 191 L (.int y :: .int x :: st) μ Q ↔ RR 57 192 L (.int (x ^^^ y) :: st) μ Q := rw_go p57_191 rfl
theorem r57_192 : RR 57 192 L st μ Q ↔ RR 57 193 L (.int (nI 1) :: st) μ Q := rw_go p57_192 rfl
theorem r57_193 : RR 57 193 L (.int y :: .int x :: st) μ Q ↔ RR 57 194 L (.int (x &&& y) :: st) μ Q := rw_go p57_193 rfl
theorem r57_194 : RR 57 194 L (.int x :: st) μ Q ↔ if x = 0 then RR 57 205 L st μ Q else RR 57 197 L st μ Q := rw_if p57_194 rfl
theorem r57_197 : RR 57 197 (.ref q :: l) st μ Q ↔ RR 57 198 (.ref q :: l) (.ref q :: st) μ Q := rw_go p57_197 rfl
theorem r57_198 : RR 57 198 L st μ Q ↔ RR 57 200 L (.int (nI 26) :: st) μ Q := rw_go p57_198 rfl
theorem r57_200 : RR 57 200 (a0 :: .int x :: l) st μ Q ↔ RR 57 201 (a0 :: .int x :: l) (.int x :: st) μ Q := rw_go p57_200 rfl
theorem r57_201 : RR 57 201 (a0 :: a1 :: .int x :: l) st μ Q ↔ RR 57 202 (a0 :: a1 :: .int x :: l) (.int x :: st) μ Q := rw_go p57_201 rfl
theorem r57_202 : RR 57 202 L (.int x3 :: .int x2 :: .int x1 :: .ref q :: st) (S, (0, 0, sl), M, D, F) Q ↔ (am_cat st ≤ 8 ∧ 4 = 4 ∧ S[q]? = some (.inl 9)) ∧ RR 53 0 [.ref q, .int x1, .int x2, .int x3, .long 0, .long 0, .long 0, .long 0] [] (S, (0, 0, sl), M, D, F) (fun rv μ' => μ'.1.length = S.length ∧ RR 57 205 L (rv.toList ++ st) (μ'.1, (0, 0, sl), μ'.2.2) Q) := rw_call p57_202 rfl (ac53 q x1 x2 x3)
theorem r57_205 : RR 57 205 (.ref q :: l) st μ Q ↔ RR 57 206 (.ref q :: l) (.ref q :: st) μ Q := rw_go p57_205 rfl
theorem r57_206 : RR 57 206 (a0 :: a1 :: a2 :: .int x :: l) st μ Q ↔ RR 57 207 (a0 :: a1 :: a2 :: .int x :: l) (.int x :: st) μ Q := rw_go p57_206 rfl
theorem r57_207 : RR 57 207 (a0 :: a1 :: a2 :: a3 :: .int x :: l) st μ Q ↔ RR 57 209 (a0 :: a1 :: a2 :: a3 :: .int x :: l) (.int x :: st) μ Q := rw_go p57_207 rfl
theorem r57_209 : RR 57 209 L st μ Q ↔ RR 57 210 L (.int (nI 4) :: st) μ Q := rw_go p57_209 rfl
theorem r57_210 : RR 57 210 L st μ Q ↔ RR 57 212 L (.int (nI 27) :: st) μ Q := rw_go p57_210 rfl
theorem r57_212 : RR 57 212 (a0 :: .int x :: l) st μ Q ↔ RR 57 213 (a0 :: .int x :: l) (.int x :: st) μ Q := rw_go p57_212 rfl
theorem r57_213 : RR 57 213 (a0 :: a1 :: .int x :: l) st μ Q ↔ RR 57 214 (a0 :: a1 :: .int x :: l) (.int x :: st) μ Q := rw_go p57_213 rfl
theorem r57_214 : RR 57 214 L (.int x6 :: .int x5 :: .int x4 :: .int x3 :: .int x2 :: .int x1 :: .ref q :: st) (S, (0, 0, sl), M, D, F) Q ↔ (am_cat st ≤ 8 ∧ 7 = 7 ∧ S[q]? = some (.inl 9)) ∧ RR 54 0 [.ref q, .int x1, .int x2, .int x3, .int x4, .int x5, .int x6] [] (S, (0, 0, sl), M, D, F) (fun rv μ' => μ'.1.length = S.length ∧ RR 57 217 L (rv.toList ++ st) (μ'.1, (0, 0, sl), μ'.2.2) Q) := rw_call p57_214 rfl (ac54 q x1 x2 x3 x4 x5 x6)
theorem r57_217 : RR 57 217 (a0 :: a1 :: a2 :: a3 :: a4 :: a5 :: a6 :: .int x :: l) st μ Q ↔ RR 57 219 (a0 :: a1 :: a2 :: a3 :: a4 :: a5 :: a6 :: .int x :: l) (.int x :: st) μ Q := rw_go p57_217 rfl
theorem r57_219 : RR 57 219 L (.int x :: st) μ Q ↔ if x = 0 then RR 57 235 L st μ Q else RR 57 222 L st μ Q := rw_if p57_219 rfl
theorem r57_222 : RR 57 222 (.ref q :: l) st μ Q ↔ RR 57 223 (.ref q :: l) (.ref q :: st) μ Q := rw_go p57_222 rfl
theorem r57_223 : RR 57 223 (a0 :: a1 :: a2 :: .int x :: l) st μ Q ↔ RR 57 224 (a0 :: a1 :: a2 :: .int x :: l) (.int x :: st) μ Q := rw_go p57_223 rfl
theorem r57_224 : RR 57 224 (a0 :: a1 :: a2 :: a3 :: .int x :: l) st μ Q ↔ RR 57 226 (a0 :: a1 :: a2 :: a3 :: .int x :: l) (.int x :: st) μ Q := rw_go p57_224 rfl
theorem r57_226 : RR 57 226 L st μ Q ↔ RR 57 227 L (.int (nI 2) :: st) μ Q := rw_go p57_226 rfl
theorem r57_227 : RR 57 227 L st μ Q ↔ RR 57 229 L (.int (nI 29) :: st) μ Q := rw_go p57_227 rfl
theorem r57_229 : RR 57 229 (a0 :: .int x :: l) st μ Q ↔ RR 57 230 (a0 :: .int x :: l) (.int x :: st) μ Q := rw_go p57_229 rfl
theorem r57_230 : RR 57 230 (a0 :: a1 :: .int x :: l) st μ Q ↔ RR 57 231 (a0 :: a1 :: .int x :: l) (.int x :: st) μ Q := rw_go p57_230 rfl
theorem r57_231 : RR 57 231 L (.int x6 :: .int x5 :: .int x4 :: .int x3 :: .int x2 :: .int x1 :: .ref q :: st) (S, (0, 0, sl), M, D, F) Q ↔ (am_cat st ≤ 8 ∧ 7 = 7 ∧ S[q]? = some (.inl 9)) ∧ RR 54 0 [.ref q, .int x1, .int x2, .int x3, .int x4, .int x5, .int x6] [] (S, (0, 0, sl), M, D, F) (fun rv μ' => μ'.1.length = S.length ∧ RR 57 234 L (rv.toList ++ st) (μ'.1, (0, 0, sl), μ'.2.2) Q) := rw_call p57_231 rfl (ac54 q x1 x2 x3 x4 x5 x6)
theorem r57_234 : RR 57 234 L [] μ Q ↔ Q none μ := rw_r p57_234 rfl
theorem r57_235 : RR 57 235 L st μ Q ↔ RR 57 237 L (.int (nI 12) :: st) μ Q := rw_go p57_235 rfl
theorem r57_237 : RR 57 237 (a0 :: .int x :: l) st μ Q ↔ RR 57 238 (a0 :: .int x :: l) (.int x :: st) μ Q := rw_go p57_237 rfl
theorem r57_238 : RR 57 238 L (.int y :: .int x :: st) μ Q ↔ RR 57 239 L (.int (x * y) :: st) μ Q := rw_go p57_238 rfl
theorem r57_239 : RR 57 239 (a0 :: a1 :: .int x :: l) st μ Q ↔ RR 57 240 (a0 :: a1 :: .int x :: l) (.int x :: st) μ Q := rw_go p57_239 rfl
theorem r57_240 : RR 57 240 L (.int y :: .int x :: st) μ Q ↔ RR 57 241 L (.int (x + y) :: st) μ Q := rw_go p57_240 rfl
theorem r57_241 : RR 57 241 L st μ Q ↔ RR 57 242 L (.int (nI 1) :: st) μ Q := rw_go p57_241 rfl
theorem r57_242 : RR 57 242 L (.int y :: .int x :: st) μ Q ↔ RR 57 243 L (.int (x - y) :: st) μ Q := rw_go p57_242 rfl
theorem r57_243 : RR 57 243 (a0 :: a1 :: a2 :: a3 :: a4 :: a5 :: a6 :: a7 :: c0 :: l) (.int x :: st) μ Q ↔ RR 57 245 (a0 :: a1 :: a2 :: a3 :: a4 :: a5 :: a6 :: am_nd a7 :: .int x :: l) st μ Q := rw_ist p57_243 (by show 8 < _; simp only [List.length_cons]; omega)
theorem r57_245 : RR 57 245 L st μ Q ↔ RR 57 247 L (.int (nI 96) :: st) μ Q := rw_go p57_245 rfl
theorem r57_247 : RR 57 247 (a0 :: a1 :: a2 :: a3 :: a4 :: a5 :: a6 :: a7 :: .int x :: l) st μ Q ↔ RR 57 249 (a0 :: a1 :: a2 :: a3 :: a4 :: a5 :: a6 :: a7 :: .int x :: l) (.int x :: st) μ Q := rw_go p57_247 rfl
theorem r57_249 : RR 57 249 L (.int y :: .int x :: st) μ Q ↔ RR 57 250 L (.int (x + y) :: st) μ Q := rw_go p57_249 rfl
theorem r57_250 : RR 57 250 (a0 :: a1 :: a2 :: a3 :: a4 :: a5 :: a6 :: a7 :: a8 :: c0 :: l) (.int x :: st) μ Q ↔ RR 57 252 (a0 :: a1 :: a2 :: a3 :: a4 :: a5 :: a6 :: a7 :: am_nd a8 :: .int x :: l) st μ Q := rw_ist p57_250 (by show 9 < _; simp only [List.length_cons]; omega)
theorem r57_252 : RR 57 252 (.ref q :: l) st μ Q ↔ RR 57 253 (.ref q :: l) (.ref q :: st) μ Q := rw_go p57_252 rfl
theorem r57_253 : RR 57 253 L (.ref q :: st) (S, b, M, D, F) Q ↔ S[q]? = some (.inl 9) ∧ RR 57 256 L (va_rf (F q 1) :: st) (S, b, M, D, F) Q := rw_c p57_253 rfl
theorem r57_256 : RR 57 256 (a0 :: a1 :: a2 :: a3 :: a4 :: a5 :: a6 :: a7 :: .int x :: l) st μ Q ↔ RR 57 258 (a0 :: a1 :: a2 :: a3 :: a4 :: a5 :: a6 :: a7 :: .int x :: l) (.int x :: st) μ Q := rw_go p57_256 rfl
theorem r57_258 : RR 57 258 L (.int x :: .ref q :: st) (S, b, M, D, F) Q ↔ am_bd S b.2.2 q 2 x ∧ RR 57 259 L (.int (M q x.toInt.toNat) :: st) (S, b, M, D, F) Q := rw_c p57_258 am_xld_eq
theorem r57_259 : RR 57 259 L (.int x :: st) μ Q ↔ if x = 0 then RR 57 298 L st μ Q else RR 57 262 L st μ Q := rw_if p57_259 rfl
theorem r57_262 : RR 57 262 (.ref q :: l) st μ Q ↔ RR 57 263 (.ref q :: l) (.ref q :: st) μ Q := rw_go p57_262 rfl
theorem r57_263 : RR 57 263 L (.ref q :: st) (S, b, M, D, F) Q ↔ S[q]? = some (.inl 9) ∧ RR 57 266 L (va_rf (F q 1) :: st) (S, b, M, D, F) Q := rw_c p57_263 rfl
theorem r57_266 : RR 57 266 (a0 :: a1 :: a2 :: a3 :: a4 :: a5 :: a6 :: a7 :: a8 :: .int x :: l) st μ Q ↔ RR 57 268 (a0 :: a1 :: a2 :: a3 :: a4 :: a5 :: a6 :: a7 :: a8 :: .int x :: l) (.int x :: st) μ Q := rw_go p57_266 rfl
theorem r57_268 : RR 57 268 L (.int x :: .ref q :: st) (S, b, M, D, F) Q ↔ am_bd S b.2.2 q 2 x ∧ RR 57 269 L (.int (M q x.toInt.toNat) :: st) (S, b, M, D, F) Q := rw_c p57_268 am_xld_eq
theorem r57_269 : RR 57 269 L (.int x :: st) μ Q ↔ if x = 0 then RR 57 298 L st μ Q else RR 57 272 L st μ Q := rw_if p57_269 rfl
theorem r57_272 : RR 57 272 (.ref q :: l) st μ Q ↔ RR 57 273 (.ref q :: l) (.ref q :: st) μ Q := rw_go p57_272 rfl
theorem r57_273 : RR 57 273 L (.ref q :: st) (S, b, M, D, F) Q ↔ S[q]? = some (.inl 9) ∧ RR 57 276 L (va_rf (F q 7) :: st) (S, b, M, D, F) Q := rw_c p57_273 rfl
theorem r57_276 : RR 57 276 (a0 :: a1 :: a2 :: a3 :: a4 :: a5 :: a6 :: a7 :: .int x :: l) st μ Q ↔ RR 57 278 (a0 :: a1 :: a2 :: a3 :: a4 :: a5 :: a6 :: a7 :: .int x :: l) (.int x :: st) μ Q := rw_go p57_276 rfl
theorem r57_278 : RR 57 278 L (.int x :: .ref q :: st) (S, b, M, D, F) Q ↔ am_bs S q 3 x ∧ RR 57 279 L (.double (D q x.toInt.toNat) :: st) (S, b, M, D, F) Q := rw_c p57_278 am_dxld_eq
theorem r57_279 : RR 57 279 (.ref q :: l) st μ Q ↔ RR 57 280 (.ref q :: l) (.ref q :: st) μ Q := rw_go p57_279 rfl
theorem r57_280 : RR 57 280 L (.ref q :: st) (S, b, M, D, F) Q ↔ S[q]? = some (.inl 9) ∧ RR 57 283 L (va_rf (F q 7) :: st) (S, b, M, D, F) Q := rw_c p57_280 rfl
theorem r57_283 : RR 57 283 (a0 :: a1 :: a2 :: a3 :: a4 :: a5 :: a6 :: a7 :: a8 :: .int x :: l) st μ Q ↔ RR 57 285 (a0 :: a1 :: a2 :: a3 :: a4 :: a5 :: a6 :: a7 :: a8 :: .int x :: l) (.int x :: st) μ Q := rw_go p57_283 rfl
theorem r57_285 : RR 57 285 L (.int x :: .ref q :: st) (S, b, M, D, F) Q ↔ am_bs S q 3 x ∧ RR 57 286 L (.double (D q x.toInt.toNat) :: st) (S, b, M, D, F) Q := rw_c p57_285 am_dxld_eq
theorem r57_286 : RR 57 286 L (.double d2 :: .double d :: st) μ Q ↔ RR 57 287 L (.int (Op.cmpValue (FP.dcmp d d2) .l) :: st) μ Q := rw_go p57_286 rfl
theorem r57_287 : RR 57 287 L (.int x :: st) μ Q ↔ if x = 0 then RR 57 298 L st μ Q else RR 57 290 L st μ Q := rw_if p57_287 rfl
theorem r57_290 : RR 57 290 (.ref q :: l) st μ Q ↔ RR 57 291 (.ref q :: l) (.ref q :: st) μ Q := rw_go p57_290 rfl
theorem r57_291 : RR 57 291 L st μ Q ↔ RR 57 293 L (.int (nI 31) :: st) μ Q := rw_go p57_291 rfl
theorem r57_293 : RR 57 293 (a0 :: .int x :: l) st μ Q ↔ RR 57 294 (a0 :: .int x :: l) (.int x :: st) μ Q := rw_go p57_293 rfl
theorem r57_294 : RR 57 294 (a0 :: a1 :: .int x :: l) st μ Q ↔ RR 57 295 (a0 :: a1 :: .int x :: l) (.int x :: st) μ Q := rw_go p57_294 rfl
theorem r57_295 : RR 57 295 L (.int x3 :: .int x2 :: .int x1 :: .ref q :: st) (S, (0, 0, sl), M, D, F) Q ↔ (am_cat st ≤ 8 ∧ 4 = 4 ∧ S[q]? = some (.inl 9)) ∧ RR 53 0 [.ref q, .int x1, .int x2, .int x3, .long 0, .long 0, .long 0, .long 0] [] (S, (0, 0, sl), M, D, F) (fun rv μ' => μ'.1.length = S.length ∧ RR 57 298 L (rv.toList ++ st) (μ'.1, (0, 0, sl), μ'.2.2) Q) := rw_call p57_295 rfl (ac53 q x1 x2 x3)
theorem r57_298 : RR 57 298 (.ref q :: l) st μ Q ↔ RR 57 299 (.ref q :: l) (.ref q :: st) μ Q := rw_go p57_298 rfl
theorem r57_299 : RR 57 299 L (.ref q :: st) (S, b, M, D, F) Q ↔ S[q]? = some (.inl 9) ∧ RR 57 302 L (va_rf (F q 1) :: st) (S, b, M, D, F) Q := rw_c p57_299 rfl
theorem r57_302 : RR 57 302 (a0 :: a1 :: a2 :: a3 :: a4 :: a5 :: a6 :: a7 :: .int x :: l) st μ Q ↔ RR 57 304 (a0 :: a1 :: a2 :: a3 :: a4 :: a5 :: a6 :: a7 :: .int x :: l) (.int x :: st) μ Q := rw_go p57_302 rfl
theorem r57_304 : RR 57 304 L (.int x :: .ref q :: st) (S, b, M, D, F) Q ↔ am_bd S b.2.2 q 2 x ∧ RR 57 305 L (.int (M q x.toInt.toNat) :: st) (S, b, M, D, F) Q := rw_c p57_304 am_xld_eq
theorem r57_305 : RR 57 305 L (.int x :: st) μ Q ↔ if x = 0 then RR 57 326 L st μ Q else RR 57 308 L st μ Q := rw_if p57_305 rfl
theorem r57_308 : RR 57 308 (.ref q :: l) st μ Q ↔ RR 57 309 (.ref q :: l) (.ref q :: st) μ Q := rw_go p57_308 rfl
theorem r57_309 : RR 57 309 L (.ref q :: st) (S, b, M, D, F) Q ↔ S[q]? = some (.inl 9) ∧ RR 57 312 L (va_rf (F q 1) :: st) (S, b, M, D, F) Q := rw_c p57_309 rfl
theorem r57_312 : RR 57 312 (a0 :: a1 :: a2 :: a3 :: a4 :: a5 :: a6 :: a7 :: a8 :: .int x :: l) st μ Q ↔ RR 57 314 (a0 :: a1 :: a2 :: a3 :: a4 :: a5 :: a6 :: a7 :: a8 :: .int x :: l) (.int x :: st) μ Q := rw_go p57_312 rfl
theorem r57_314 : RR 57 314 L (.int x :: .ref q :: st) (S, b, M, D, F) Q ↔ am_bd S b.2.2 q 2 x ∧ RR 57 315 L (.int (M q x.toInt.toNat) :: st) (S, b, M, D, F) Q := rw_c p57_314 am_xld_eq
theorem r57_315 : RR 57 315 L (.int x :: st) μ Q ↔ if ¬ x = 0 then RR 57 326 L st μ Q else RR 57 318 L st μ Q := rw_if p57_315 rfl
theorem r57_318 : RR 57 318 (.ref q :: l) st μ Q ↔ RR 57 319 (.ref q :: l) (.ref q :: st) μ Q := rw_go p57_318 rfl
theorem r57_319 : RR 57 319 L st μ Q ↔ RR 57 321 L (.int (nI 32) :: st) μ Q := rw_go p57_319 rfl
theorem r57_321 : RR 57 321 (a0 :: .int x :: l) st μ Q ↔ RR 57 322 (a0 :: .int x :: l) (.int x :: st) μ Q := rw_go p57_321 rfl
theorem r57_322 : RR 57 322 (a0 :: a1 :: .int x :: l) st μ Q ↔ RR 57 323 (a0 :: a1 :: .int x :: l) (.int x :: st) μ Q := rw_go p57_322 rfl
theorem r57_323 : RR 57 323 L (.int x3 :: .int x2 :: .int x1 :: .ref q :: st) (S, (0, 0, sl), M, D, F) Q ↔ (am_cat st ≤ 8 ∧ 4 = 4 ∧ S[q]? = some (.inl 9)) ∧ RR 53 0 [.ref q, .int x1, .int x2, .int x3, .long 0, .long 0, .long 0, .long 0] [] (S, (0, 0, sl), M, D, F) (fun rv μ' => μ'.1.length = S.length ∧ RR 57 326 L (rv.toList ++ st) (μ'.1, (0, 0, sl), μ'.2.2) Q) := rw_call p57_323 rfl (ac53 q x1 x2 x3)
theorem r57_326 : RR 57 326 (.ref q :: l) st μ Q ↔ RR 57 327 (.ref q :: l) (.ref q :: st) μ Q := rw_go p57_326 rfl
theorem r57_327 : RR 57 327 L (.ref q :: st) (S, b, M, D, F) Q ↔ S[q]? = some (.inl 9) ∧ RR 57 330 L (va_rf (F q 1) :: st) (S, b, M, D, F) Q := rw_c p57_327 rfl
theorem r57_330 : RR 57 330 (a0 :: a1 :: a2 :: a3 :: a4 :: a5 :: a6 :: a7 :: .int x :: l) st μ Q ↔ RR 57 332 (a0 :: a1 :: a2 :: a3 :: a4 :: a5 :: a6 :: a7 :: .int x :: l) (.int x :: st) μ Q := rw_go p57_330 rfl
theorem r57_332 : RR 57 332 L (.int x :: .ref q :: st) (S, b, M, D, F) Q ↔ am_bd S b.2.2 q 2 x ∧ RR 57 333 L (.int (M q x.toInt.toNat) :: st) (S, b, M, D, F) Q := rw_c p57_332 am_xld_eq
theorem r57_333 : RR 57 333 L (.int x :: st) μ Q ↔ if ¬ x = 0 then RR 57 354 L st μ Q else RR 57 336 L st μ Q := rw_if p57_333 rfl
theorem r57_336 : RR 57 336 (.ref q :: l) st μ Q ↔ RR 57 337 (.ref q :: l) (.ref q :: st) μ Q := rw_go p57_336 rfl
theorem r57_337 : RR 57 337 L (.ref q :: st) (S, b, M, D, F) Q ↔ S[q]? = some (.inl 9) ∧ RR 57 340 L (va_rf (F q 1) :: st) (S, b, M, D, F) Q := rw_c p57_337 rfl
theorem r57_340 : RR 57 340 (a0 :: a1 :: a2 :: a3 :: a4 :: a5 :: a6 :: a7 :: a8 :: .int x :: l) st μ Q ↔ RR 57 342 (a0 :: a1 :: a2 :: a3 :: a4 :: a5 :: a6 :: a7 :: a8 :: .int x :: l) (.int x :: st) μ Q := rw_go p57_340 rfl
theorem r57_342 : RR 57 342 L (.int x :: .ref q :: st) (S, b, M, D, F) Q ↔ am_bd S b.2.2 q 2 x ∧ RR 57 343 L (.int (M q x.toInt.toNat) :: st) (S, b, M, D, F) Q := rw_c p57_342 am_xld_eq
theorem r57_343 : RR 57 343 L (.int x :: st) μ Q ↔ if x = 0 then RR 57 354 L st μ Q else RR 57 346 L st μ Q := rw_if p57_343 rfl
theorem r57_346 : RR 57 346 (.ref q :: l) st μ Q ↔ RR 57 347 (.ref q :: l) (.ref q :: st) μ Q := rw_go p57_346 rfl
theorem r57_347 : RR 57 347 L st μ Q ↔ RR 57 349 L (.int (nI 33) :: st) μ Q := rw_go p57_347 rfl
theorem r57_349 : RR 57 349 (a0 :: .int x :: l) st μ Q ↔ RR 57 350 (a0 :: .int x :: l) (.int x :: st) μ Q := rw_go p57_349 rfl
theorem r57_350 : RR 57 350 (a0 :: a1 :: .int x :: l) st μ Q ↔ RR 57 351 (a0 :: a1 :: .int x :: l) (.int x :: st) μ Q := rw_go p57_350 rfl
theorem r57_351 : RR 57 351 L (.int x3 :: .int x2 :: .int x1 :: .ref q :: st) (S, (0, 0, sl), M, D, F) Q ↔ (am_cat st ≤ 8 ∧ 4 = 4 ∧ S[q]? = some (.inl 9)) ∧ RR 53 0 [.ref q, .int x1, .int x2, .int x3, .long 0, .long 0, .long 0, .long 0] [] (S, (0, 0, sl), M, D, F) (fun rv μ' => μ'.1.length = S.length ∧ RR 57 354 L (rv.toList ++ st) (μ'.1, (0, 0, sl), μ'.2.2) Q) := rw_call p57_351 rfl (ac53 q x1 x2 x3)
theorem r57_354 : RR 57 354 L [] μ Q ↔ Q none μ := rw_r p57_354 rfl
/-! ReleaseDeskModel.isInherited -/
theorem r58_0 : RR 58 0 (.ref q :: l) st μ Q ↔ RR 58 1 (.ref q :: l) (.ref q :: st) μ Q := rw_go p58_0 rfl
theorem r58_1 : RR 58 1 L st μ Q ↔ RR 58 2 L (.int (nI 1) :: st) μ Q := rw_go p58_1 rfl
theorem r58_2 : RR 58 2 (a0 :: .int x :: l) st μ Q ↔ RR 58 3 (a0 :: .int x :: l) (.int x :: st) μ Q := rw_go p58_2 rfl
theorem r58_3 : RR 58 3 L (.int x2 :: .int x1 :: .ref q :: st) (S, (0, 0, sl), M, D, F) Q ↔ (am_cat st ≤ 8 ∧ 3 = 3 ∧ S[q]? = some (.inl 9)) ∧ RR 51 0 [.ref q, .int x1, .int x2, .long 0, .long 0, .long 0, .long 0, .long 0] [] (S, (0, 0, sl), M, D, F) (fun rv μ' => μ'.1.length = S.length ∧ RR 58 6 L (rv.toList ++ st) (μ'.1, (0, 0, sl), μ'.2.2) Q) := rw_call p58_3 rfl (ac51 q x1 x2)
theorem r58_6 : RR 58 6 (a0 :: a1 :: a2 :: a3 :: c0 :: l) (.int x :: st) μ Q ↔ RR 58 8 (a0 :: a1 :: a2 :: am_nd a3 :: .int x :: l) st μ Q := rw_ist p58_6 (by show 4 < _; simp only [List.length_cons]; omega)
theorem r58_8 : RR 58 8 L st μ Q ↔ RR 58 9 L (.int (nI 0) :: st) μ Q := rw_go p58_8 rfl
theorem r58_9 : RR 58 9 (a0 :: a1 :: a2 :: a3 :: a4 :: c0 :: l) (.int x :: st) μ Q ↔ RR 58 11 (a0 :: a1 :: a2 :: a3 :: am_nd a4 :: .int x :: l) st μ Q := rw_ist p58_9 (by show 5 < _; simp only [List.length_cons]; omega)
theorem r58_11 : RR 58 11 (a0 :: a1 :: a2 :: a3 :: a4 :: .int x :: l) st μ Q ↔ RR 58 13 (a0 :: a1 :: a2 :: a3 :: a4 :: .int x :: l) (.int x :: st) μ Q := rw_go p58_11 rfl
theorem r58_13 : RR 58 13 L st μ Q ↔ RR 58 15 L (.int (nI 8) :: st) μ Q := rw_go p58_13 rfl
theorem r58_15 : RR 58 15 L (.int y :: .int x :: st) μ Q ↔ if y ≤ x then RR 58 67 L st μ Q else RR 58 18 L st μ Q := rw_if p58_15 rfl
theorem r58_18 : RR 58 18 (a0 :: a1 :: a2 :: a3 :: .int x :: l) st μ Q ↔ RR 58 20 (a0 :: a1 :: a2 :: a3 :: .int x :: l) (.int x :: st) μ Q := rw_go p58_18 rfl
theorem r58_20 : RR 58 20 (a0 :: a1 :: a2 :: a3 :: a4 :: .int x :: l) st μ Q ↔ RR 58 22 (a0 :: a1 :: a2 :: a3 :: a4 :: .int x :: l) (.int x :: st) μ Q := rw_go p58_20 rfl
theorem r58_22 : RR 58 22 L (.int y :: .int x :: st) μ Q ↔ RR 58 23 L (.int (x >>> (y &&& 31)) :: st) μ Q := rw_go p58_22 rfl
theorem r58_23 : RR 58 23 L st μ Q ↔ RR 58 24 L (.int (nI 1) :: st) μ Q := rw_go p58_23 rfl
theorem r58_24 : RR 58 24 L (.int y :: .int x :: st) μ Q ↔ RR 58 25 L (.int (x &&& y) :: st) μ Q := rw_go p58_24 rfl
theorem r58_25 : RR 58 25 L st μ Q ↔ RR 58 26 L (.int (nI 1) :: st) μ Q := rw_go p58_25 rfl
theorem r58_26 : RR 58 26 L (.int y :: .int x :: st) μ Q ↔ if ¬ x = y then RR 58 61 L st μ Q else RR 58 29 L st μ Q := rw_if p58_26 rfl
theorem r58_29 : RR 58 29 (.ref q :: l) st μ Q ↔ RR 58 30 (.ref q :: l) (.ref q :: st) μ Q := rw_go p58_29 rfl
theorem r58_30 : RR 58 30 L st μ Q ↔ RR 58 31 L (.int (nI 1) :: st) μ Q := rw_go p58_30 rfl
theorem r58_31 : RR 58 31 (a0 :: a1 :: a2 :: a3 :: a4 :: .int x :: l) st μ Q ↔ RR 58 33 (a0 :: a1 :: a2 :: a3 :: a4 :: .int x :: l) (.int x :: st) μ Q := rw_go p58_31 rfl
theorem r58_33 : RR 58 33 (a0 :: a1 :: .int x :: l) st μ Q ↔ RR 58 34 (a0 :: a1 :: .int x :: l) (.int x :: st) μ Q := rw_go p58_33 rfl
theorem r58_34 : RR 58 34 L (.int x3 :: .int x2 :: .int x1 :: .ref q :: st) (S, (0, 0, sl), M, D, F) Q ↔ (am_cat st ≤ 8 ∧ 4 = 4 ∧ S[q]? = some (.inl 9)) ∧ RR 50 0 [.ref q, .int x1, .int x2, .int x3, .long 0] [] (S, (0, 0, sl), M, D, F) (fun rv μ' => μ'.1.length = S.length ∧ RR 58 37 L (rv.toList ++ st) (μ'.1, (0, 0, sl), μ'.2.2) Q) := rw_call p58_34 rfl (ac50 q x1 x2 x3)
theorem r58_37 : RR 58 37 L (.int x :: st) μ Q ↔ if x = 0 then RR 58 61 L st μ Q else RR 58 40 L st μ Q := rw_if p58_37 rfl
theorem r58_40 : RR 58 40 (.ref q :: l) st μ Q ↔ RR 58 41 (.ref q :: l) (.ref q :: st) μ Q := rw_go p58_40 rfl
theorem r58_41 : RR 58 41 L (.ref q :: st) (S, b, M, D, F) Q ↔ S[q]? = some (.inl 9) ∧ RR 58 44 L (va_rf (F q 6) :: st) (S, b, M, D, F) Q := rw_c p58_41 rfl
theorem r58_44 : RR 58 44 L st μ Q ↔ RR 58 45 L (.int (nI 1) :: st) μ Q := rw_go p58_44 rfl
theorem r58_45 : RR 58 45 (a0 :: a1 :: a2 :: a3 :: a4 :: .int x :: l) st μ Q ↔ RR 58 47 (a0 :: a1 :: a2 :: a3 :: a4 :: .int x :: l) (.int x :: st) μ Q := rw_go p58_45 rfl
theorem r58_47 : RR 58 47 (a0 :: a1 :: .int x :: l) st μ Q ↔ RR 58 48 (a0 :: a1 :: .int x :: l) (.int x :: st) μ Q := rw_go p58_47 rfl
theorem r58_48 : RR 58 48 L (.int x3 :: .int x2 :: .int x1 :: st) (S, (0, 0, sl), M, D, F) Q ↔ (am_cat st ≤ 8 ∧ 3 = 3) ∧ RR 36 0 [.int x1, .int x2, .int x3] [] (S, (0, 0, sl), M, D, F) (fun rv μ' => μ'.1.length = S.length ∧ RR 58 51 L (rv.toList ++ st) (μ'.1, (0, 0, sl), μ'.2.2) Q) := rw_call p58_48 rfl (ac36 x1 x2 x3)
theorem r58_51 : RR 58 51 L (.int x :: .ref q :: st) (S, b, M, D, F) Q ↔ am_bd S b.2.2 q 0 x ∧ RR 58 52 L (.int (M q x.toInt.toNat) :: st) (S, b, M, D, F) Q := rw_c p58_51 am_xld_eq
theorem r58_52 : RR 58 52 L st μ Q ↔ RR 58 54 L (.int (nI 8) :: st) μ Q := rw_go p58_52 rfl
theorem r58_54 : RR 58 54 L (.int y :: .int x :: st) μ Q ↔ ¬ y = 0 ∧ RR 58 55 L (.int (x / y) :: st) μ Q := rw_n p58_54 rfl
theorem r58_55 : RR 58 55 (a0 :: a1 :: a2 :: .int x :: l) st μ Q ↔ RR 58 56 (a0 :: a1 :: a2 :: .int x :: l) (.int x :: st) μ Q := rw_go p58_55 rfl
theorem r58_56 : RR 58 56 L (.int y :: .int x :: st) μ Q ↔ if x < y then RR 58 61 L st μ Q else RR 58 59 L st μ Q := rw_if p58_56 rfl
theorem r58_59 : RR 58 59 L st μ Q ↔ RR 58 60 L (.int (nI 1) :: st) μ Q := rw_go p58_59 rfl
theorem r58_60 : RR 58 60 L [.int x] μ Q ↔ (x = 0 ∨ x = 1) ∧ Q (some (.int x)) μ := rw_rc p58_60 rfl
theorem r58_61 : RR 58 61 (a0 :: a1 :: a2 :: a3 :: a4 :: .int x :: l) st μ Q ↔ RR 58 64 (a0 :: a1 :: a2 :: a3 :: am_nd a4 :: .int (x + nI 1) :: l) st μ Q := rw_go p58_61 rfl
theorem r58_64 : RR 58 64 L st μ Q ↔ RR 58 11 L st μ Q := rw_go p58_64 rfl
theorem r58_67 : RR 58 67 L st μ Q ↔ RR 58 68 L (.int (nI 0) :: st) μ Q := rw_go p58_67 rfl
theorem r58_68 : RR 58 68 L [.int x] μ Q ↔ (x = 0 ∨ x = 1) ∧ Q (some (.int x)) μ := rw_rc p58_68 rfl
/-! ReleaseDeskModel.make -/
theorem r59_0 : RR 59 0 (.ref q :: l) st μ Q ↔ RR 59 1 (.ref q :: l) (.ref q :: st) μ Q := rw_go p59_0 rfl
theorem r59_1 : RR 59 1 L st μ Q ↔ RR 59 2 L (.int (nI 0) :: st) μ Q := rw_go p59_1 rfl
theorem r59_2 : RR 59 2 L (.int x :: .ref q :: st) (S, b, M, D, F) Q ↔ S[q]? = some (.inl 9) ∧ RR 59 5 L st (S, b, am_up M q 22 x, D, F) Q := rw_c p59_2 rfl
theorem r59_5 : RR 59 5 L st μ Q ↔ RR 59 6 L (.int (nI 0) :: st) μ Q := rw_go p59_5 rfl
theorem r59_6 : RR 59 6 (a0 :: c0 :: l) (.int x :: st) μ Q ↔ RR 59 7 (am_nd a0 :: .int x :: l) st μ Q := rw_istn p59_6 (by show 1 < _; simp only [List.length_cons]; omega)
theorem r59_7 : RR 59 7 (a0 :: .int x :: l) st μ Q ↔ RR 59 8 (a0 :: .int x :: l) (.int x :: st) μ Q := rw_go p59_7 rfl
theorem r59_8 : RR 59 8 L st μ Q ↔ RR 59 10 L (.int (nI 8) :: st) μ Q := rw_go p59_8 rfl
theorem r59_10 : RR 59 10 L (.int y :: .int x :: st) μ Q ↔ if y ≤ x then RR 59 24 L st μ Q else RR 59 13 L st μ Q := rw_if p59_10 rfl
theorem r59_13 : RR 59 13 (.ref q :: l) st μ Q ↔ RR 59 14 (.ref q :: l) (.ref q :: st) μ Q := rw_go p59_13 rfl
theorem r59_14 : RR 59 14 (a0 :: .int x :: l) st μ Q ↔ RR 59 15 (a0 :: .int x :: l) (.int x :: st) μ Q := rw_go p59_14 rfl
theorem r59_15 : RR 59 15 L (.int x1 :: .ref q :: st) (S, (0, 0, sl), M, D, F) Q ↔ (am_cat st ≤ 8 ∧ 2 = 2 ∧ S[q]? = some (.inl 9)) ∧ RR 56 0 [.ref q, .int x1, .long 0, .long 0, .long 0, .long 0, .long 0] [] (S, (0, 0, sl), M, D, F) (fun rv μ' => μ'.1.length = S.length ∧ RR 59 18 L (rv.toList ++ st) (μ'.1, (0, 0, sl), μ'.2.2) Q) := rw_call p59_15 rfl (ac56 q x1)
theorem r59_18 : RR 59 18 (a0 :: .int x :: l) st μ Q ↔ RR 59 21 (am_nd a0 :: .int (x + nI 1) :: l) st μ Q := rw_go p59_18 rfl
theorem r59_21 : RR 59 21 L st μ Q ↔ RR 59 7 L st μ Q := rw_go p59_21 rfl
theorem r59_24 : RR 59 24 L [] μ Q ↔ Q none μ := rw_r p59_24 rfl
/-! ReleaseDeskModel.list -/
theorem r60_0 : RR 60 0 (.ref q :: l) st μ Q ↔ RR 60 1 (.ref q :: l) (.ref q :: st) μ Q := rw_go p60_0 rfl
theorem r60_1 : RR 60 1 L (.ref q :: st) (S, (0, 0, sl), M, D, F) Q ↔ (am_cat st ≤ 8 ∧ 1 = 1 ∧ S[q]? = some (.inl 9)) ∧ RR 59 0 [.ref q, .long 0] [] (S, (0, 0, sl), M, D, F) (fun rv μ' => μ'.1.length = S.length ∧ RR 60 4 L (rv.toList ++ st) (μ'.1, (0, 0, sl), μ'.2.2) Q) := rw_call p60_1 rfl (ac59 q)
theorem r60_4 : RR 60 4 (.ref q :: l) st μ Q ↔ RR 60 5 (.ref q :: l) (.ref q :: st) μ Q := rw_go p60_4 rfl
theorem r60_5 : RR 60 5 L (.ref q :: st) (S, b, M, D, F) Q ↔ S[q]? = some (.inl 9) ∧ RR 60 8 L (.int (M q 22) :: st) (S, b, M, D, F) Q := rw_c p60_5 rfl
theorem r60_8 : RR 60 8 L [.int x] μ Q ↔ Q (some (.int x)) μ := rw_r p60_8 rfl
/-! ReleaseDeskModel.change -/
theorem r61_0 : RR 61 0 (a0 :: a1 :: .int x :: l) st μ Q ↔ RR 61 1 (a0 :: a1 :: .int x :: l) (.int x :: st) μ Q := rw_go p61_0 rfl
theorem r61_1 : RR 61 1 L st μ Q ↔ RR 61 2 L (.int (nI 0) :: st) μ Q := rw_go p61_1 rfl
theorem r61_2 : RR 61 2 L st μ Q ↔ RR 61 3 L (.int (nI 4) :: st) μ Q := rw_go p61_2 rfl
theorem r61_3 : RR 61 3 L (.int x3 :: .int x2 :: .int x1 :: st) (S, (0, 0, sl), M, D, F) Q ↔ (am_cat st ≤ 8 ∧ 3 = 3) ∧ RR 32 0 [.int x1, .int x2, .int x3] [] (S, (0, 0, sl), M, D, F) (fun rv μ' => μ'.1.length = S.length ∧ RR 61 6 L (rv.toList ++ st) (μ'.1, (0, 0, sl), μ'.2.2) Q) := rw_call p61_3 rfl (ac32 x1 x2 x3)
theorem r61_6 : RR 61 6 L (.int x :: st) μ Q ↔ if ¬ x = 0 then RR 61 11 L st μ Q else RR 61 9 L st μ Q := rw_if p61_6 rfl
theorem r61_9 : RR 61 9 L st μ Q ↔ RR 61 10 L (.int ((-1)) :: st) μ Q := rw_go p61_9 rfl
theorem r61_10 : RR 61 10 L [.int x] μ Q ↔ Q (some (.int x)) μ := rw_r p61_10 rfl
theorem r61_11 : RR 61 11 (.ref q :: l) st μ Q ↔ RR 61 12 (.ref q :: l) (.ref q :: st) μ Q := rw_go p61_11 rfl
theorem r61_12 : RR 61 12 L (.ref q :: st) (S, (0, 0, sl), M, D, F) Q ↔ (am_cat st ≤ 8 ∧ 1 = 1 ∧ S[q]? = some (.inl 9)) ∧ RR 59 0 [.ref q, .long 0] [] (S, (0, 0, sl), M, D, F) (fun rv μ' => μ'.1.length = S.length ∧ RR 61 15 L (rv.toList ++ st) (μ'.1, (0, 0, sl), μ'.2.2) Q) := rw_call p61_12 rfl (ac59 q)
theorem r61_15 : RR 61 15 (a0 :: .int x :: l) st μ Q ↔ RR 61 16 (a0 :: .int x :: l) (.int x :: st) μ Q := rw_go p61_15 rfl
theorem r61_16 : RR 61 16 L st μ Q ↔ RR 61 17 L (.int (nI 0) :: st) μ Q := rw_go p61_16 rfl
theorem r61_17 : RR 61 17 (.ref q :: l) st μ Q ↔ RR 61 18 (.ref q :: l) (.ref q :: st) μ Q := rw_go p61_17 rfl
theorem r61_18 : RR 61 18 L (.ref q :: st) (S, b, M, D, F) Q ↔ S[q]? = some (.inl 9) ∧ RR 61 21 L (.int (M q 22) :: st) (S, b, M, D, F) Q := rw_c p61_18 rfl
theorem r61_21 : RR 61 21 L st μ Q ↔ RR 61 22 L (.int (nI 1) :: st) μ Q := rw_go p61_21 rfl
theorem r61_22 : RR 61 22 L (.int y :: .int x :: st) μ Q ↔ RR 61 23 L (.int (x - y) :: st) μ Q := rw_go p61_22 rfl
theorem r61_23 : RR 61 23 L (.int x3 :: .int x2 :: .int x1 :: st) (S, (0, 0, sl), M, D, F) Q ↔ (am_cat st ≤ 8 ∧ 3 = 3) ∧ RR 32 0 [.int x1, .int x2, .int x3] [] (S, (0, 0, sl), M, D, F) (fun rv μ' => μ'.1.length = S.length ∧ RR 61 26 L (rv.toList ++ st) (μ'.1, (0, 0, sl), μ'.2.2) Q) := rw_call p61_23 rfl (ac32 x1 x2 x3)
theorem r61_26 : RR 61 26 L (.int x :: st) μ Q ↔ if ¬ x = 0 then RR 61 32 L st μ Q else RR 61 29 L st μ Q := rw_if p61_26 rfl
theorem r61_29 : RR 61 29 L st μ Q ↔ RR 61 31 L (.int ((-2)) :: st) μ Q := rw_go p61_29 rfl
theorem r61_31 : RR 61 31 L [.int x] μ Q ↔ Q (some (.int x)) μ := rw_r p61_31 rfl
theorem r61_32 : RR 61 32 (.ref q :: l) st μ Q ↔ RR 61 33 (.ref q :: l) (.ref q :: st) μ Q := rw_go p61_32 rfl
theorem r61_33 : RR 61 33 L (.ref q :: st) (S, b, M, D, F) Q ↔ S[q]? = some (.inl 9) ∧ RR 61 36 L (va_rf (F q 19) :: st) (S, b, M, D, F) Q := rw_c p61_33 rfl
theorem r61_36 : RR 61 36 (a0 :: .int x :: l) st μ Q ↔ RR 61 37 (a0 :: .int x :: l) (.int x :: st) μ Q := rw_go p61_36 rfl
theorem r61_37 : RR 61 37 L (.int x :: .ref q :: st) (S, b, M, D, F) Q ↔ am_bd S b.2.2 q 0 x ∧ RR 61 38 L (.int (M q x.toInt.toNat) :: st) (S, b, M, D, F) Q := rw_c p61_37 am_xld_eq
theorem r61_38 : RR 61 38 (a0 :: a1 :: a2 :: c0 :: l) (.int x :: st) μ Q ↔ RR 61 39 (a0 :: a1 :: am_nd a2 :: .int x :: l) st μ Q := rw_istn p61_38 (by show 3 < _; simp only [List.length_cons]; omega)
theorem r61_39 : RR 61 39 (a0 :: a1 :: .int x :: l) st μ Q ↔ RR 61 40 (a0 :: a1 :: .int x :: l) (.int x :: st) μ Q := rw_go p61_39 rfl
theorem r61_40 : RR 61 40 L (.int x :: st) μ Q ↔ if x.toInt < 0 ∨ 3 < x.toInt then RR 61 113 L st μ Q else RR 61 ([72, 79, 86, 93].getD (x.toInt - 0).toNat 0) L st μ Q := rw_tsw p61_40 rfl
theorem r61_72 : RR 61 72 (.ref q :: l) st μ Q ↔ RR 61 73 (.ref q :: l) (.ref q :: st) μ Q := rw_go p61_72 rfl
theorem r61_73 : RR 61 73 L (.ref q :: st) (S, b, M, D, F) Q ↔ S[q]? = some (.inl 9) ∧ RR 61 76 L (va_rf (F q 17) :: st) (S, b, M, D, F) Q := rw_c p61_73 rfl
theorem r61_76 : RR 61 76 (a0 :: .int x :: l) st μ Q ↔ RR 61 77 (a0 :: .int x :: l) (.int x :: st) μ Q := rw_go p61_76 rfl
theorem r61_77 : RR 61 77 L (.int x :: .ref q :: st) (S, b, M, D, F) Q ↔ am_bd S b.2.2 q 0 x ∧ RR 61 78 L (.int (M q x.toInt.toNat) :: st) (S, b, M, D, F) Q := rw_c p61_77 am_xld_eq
theorem r61_78 : RR 61 78 L [.int x] μ Q ↔ Q (some (.int x)) μ := rw_r p61_78 rfl
theorem r61_79 : RR 61 79 (.ref q :: l) st μ Q ↔ RR 61 80 (.ref q :: l) (.ref q :: st) μ Q := rw_go p61_79 rfl
theorem r61_80 : RR 61 80 L (.ref q :: st) (S, b, M, D, F) Q ↔ S[q]? = some (.inl 9) ∧ RR 61 83 L (va_rf (F q 20) :: st) (S, b, M, D, F) Q := rw_c p61_80 rfl
theorem r61_83 : RR 61 83 (a0 :: .int x :: l) st μ Q ↔ RR 61 84 (a0 :: .int x :: l) (.int x :: st) μ Q := rw_go p61_83 rfl
theorem r61_84 : RR 61 84 L (.int x :: .ref q :: st) (S, b, M, D, F) Q ↔ am_bd S b.2.2 q 0 x ∧ RR 61 85 L (.int (M q x.toInt.toNat) :: st) (S, b, M, D, F) Q := rw_c p61_84 am_xld_eq
theorem r61_85 : RR 61 85 L [.int x] μ Q ↔ Q (some (.int x)) μ := rw_r p61_85 rfl
theorem r61_86 : RR 61 86 (.ref q :: l) st μ Q ↔ RR 61 87 (.ref q :: l) (.ref q :: st) μ Q := rw_go p61_86 rfl
theorem r61_87 : RR 61 87 L (.ref q :: st) (S, b, M, D, F) Q ↔ S[q]? = some (.inl 9) ∧ RR 61 90 L (va_rf (F q 18) :: st) (S, b, M, D, F) Q := rw_c p61_87 rfl
theorem r61_90 : RR 61 90 (a0 :: .int x :: l) st μ Q ↔ RR 61 91 (a0 :: .int x :: l) (.int x :: st) μ Q := rw_go p61_90 rfl
theorem r61_91 : RR 61 91 L (.int x :: .ref q :: st) (S, b, M, D, F) Q ↔ am_bd S b.2.2 q 0 x ∧ RR 61 92 L (.int (M q x.toInt.toNat) :: st) (S, b, M, D, F) Q := rw_c p61_91 am_xld_eq
theorem r61_92 : RR 61 92 L [.int x] μ Q ↔ Q (some (.int x)) μ := rw_r p61_92 rfl
theorem r61_93 : RR 61 93 (a0 :: a1 :: a2 :: .int x :: l) st μ Q ↔ RR 61 94 (a0 :: a1 :: a2 :: .int x :: l) (.int x :: st) μ Q := rw_go p61_93 rfl
theorem r61_94 : RR 61 94 L (.int x :: st) μ Q ↔ if ¬ x = 0 then RR 61 101 L st μ Q else RR 61 97 L st μ Q := rw_if p61_94 rfl
theorem r61_97 : RR 61 97 L st μ Q ↔ RR 61 98 L (.int (nI 0) :: st) μ Q := rw_go p61_97 rfl
theorem r61_98 : RR 61 98 L st μ Q ↔ RR 61 112 L st μ Q := rw_go p61_98 rfl
theorem r61_101 : RR 61 101 (a0 :: a1 :: a2 :: .int x :: l) st μ Q ↔ RR 61 102 (a0 :: a1 :: a2 :: .int x :: l) (.int x :: st) μ Q := rw_go p61_101 rfl
theorem r61_102 : RR 61 102 L st μ Q ↔ RR 61 104 L (.int (nI 13) :: st) μ Q := rw_go p61_102 rfl
theorem r61_104 : RR 61 104 L (.int y :: .int x :: st) μ Q ↔ if y ≤ x then RR 61 111 L st μ Q else RR 61 107 L st μ Q := rw_if p61_104 rfl
theorem r61_107 : RR 61 107 L st μ Q ↔ RR 61 108 L (.int (nI 1) :: st) μ Q := rw_go p61_107 rfl
theorem r61_108 : RR 61 108 L st μ Q ↔ RR 61 112 L st μ Q := rw_go p61_108 rfl
theorem r61_111 : RR 61 111 L st μ Q ↔ RR 61 112 L (.int (nI 2) :: st) μ Q := rw_go p61_111 rfl
theorem r61_112 : RR 61 112 L [.int x] μ Q ↔ Q (some (.int x)) μ := rw_r p61_112 rfl
theorem r61_113 : RR 61 113 (a0 :: a1 :: a2 :: .int x :: l) st μ Q ↔ RR 61 114 (a0 :: a1 :: a2 :: .int x :: l) (.int x :: st) μ Q := rw_go p61_113 rfl
theorem r61_114 : RR 61 114 L (.int x :: st) μ Q ↔ if ¬ x = 0 then RR 61 122 L st μ Q else RR 61 117 L st μ Q := rw_if p61_114 rfl
theorem r61_117 : RR 61 117 L st μ Q ↔ RR 61 119 L (.int ((-2)) :: st) μ Q := rw_go p61_117 rfl
theorem r61_119 : RR 61 119 L st μ Q ↔ RR 61 128 L st μ Q := rw_go p61_119 rfl
theorem r61_122 : RR 61 122 (a0 :: a1 :: a2 :: .int x :: l) st μ Q ↔ RR 61 123 (a0 :: a1 :: a2 :: .int x :: l) (.int x :: st) μ Q := rw_go p61_122 rfl
theorem r61_123 : RR 61 123 L st μ Q ↔ RR 61 124 L (.int (nI 1) :: st) μ Q := rw_go p61_123 rfl
theorem r61_124 : RR 61 124 L (.int y :: .int x :: st) μ Q ↔ RR 61 125 L (.int (x - y) :: st) μ Q := rw_go p61_124 rfl
theorem r61_125 : RR 61 125 L st μ Q ↔ RR 61 127 L (.int (nI 12) :: st) μ Q := rw_go p61_125 rfl
theorem r61_127 : RR 61 127 L (.int y :: .int x :: st) μ Q ↔ ¬ y = 0 ∧ RR 61 128 L (.int (x - x / y * y) :: st) μ Q := rw_n p61_127 rfl
theorem r61_128 : RR 61 128 L [.int x] μ Q ↔ Q (some (.int x)) μ := rw_r p61_128 rfl
/-! ReleaseDeskModel.shift -/
theorem r62_0 : RR 62 0 (.ref q :: l) st μ Q ↔ RR 62 1 (.ref q :: l) (.ref q :: st) μ Q := rw_go p62_0 rfl
theorem r62_1 : RR 62 1 L (.ref q :: st) (S, (0, 0, sl), M, D, F) Q ↔ (am_cat st ≤ 8 ∧ 1 = 1 ∧ S[q]? = some (.inl 9)) ∧ RR 59 0 [.ref q, .long 0] [] (S, (0, 0, sl), M, D, F) (fun rv μ' => μ'.1.length = S.length ∧ RR 62 4 L (rv.toList ++ st) (μ'.1, (0, 0, sl), μ'.2.2) Q) := rw_call p62_1 rfl (ac59 q)
theorem r62_4 : RR 62 4 (a0 :: .int x :: l) st μ Q ↔ RR 62 5 (a0 :: .int x :: l) (.int x :: st) μ Q := rw_go p62_4 rfl
theorem r62_5 : RR 62 5 L st μ Q ↔ RR 62 6 L (.int (nI 0) :: st) μ Q := rw_go p62_5 rfl
theorem r62_6 : RR 62 6 (.ref q :: l) st μ Q ↔ RR 62 7 (.ref q :: l) (.ref q :: st) μ Q := rw_go p62_6 rfl
theorem r62_7 : RR 62 7 L (.ref q :: st) (S, b, M, D, F) Q ↔ S[q]? = some (.inl 9) ∧ RR 62 10 L (.int (M q 22) :: st) (S, b, M, D, F) Q := rw_c p62_7 rfl
theorem r62_10 : RR 62 10 L st μ Q ↔ RR 62 11 L (.int (nI 1) :: st) μ Q := rw_go p62_10 rfl
theorem r62_11 : RR 62 11 L (.int y :: .int x :: st) μ Q ↔ RR 62 12 L (.int (x - y) :: st) μ Q := rw_go p62_11 rfl
theorem r62_12 : RR 62 12 L (.int x3 :: .int x2 :: .int x1 :: st) (S, (0, 0, sl), M, D, F) Q ↔ (am_cat st ≤ 8 ∧ 3 = 3) ∧ RR 32 0 [.int x1, .int x2, .int x3] [] (S, (0, 0, sl), M, D, F) (fun rv μ' => μ'.1.length = S.length ∧ RR 62 15 L (rv.toList ++ st) (μ'.1, (0, 0, sl), μ'.2.2) Q) := rw_call p62_12 rfl (ac32 x1 x2 x3)
theorem r62_15 : RR 62 15 L (.int x :: st) μ Q ↔ if x = 0 then RR 62 29 L st μ Q else RR 62 18 L st μ Q := rw_if p62_15 rfl
theorem r62_18 : RR 62 18 (.ref q :: l) st μ Q ↔ RR 62 19 (.ref q :: l) (.ref q :: st) μ Q := rw_go p62_18 rfl
theorem r62_19 : RR 62 19 L (.ref q :: st) (S, b, M, D, F) Q ↔ S[q]? = some (.inl 9) ∧ RR 62 22 L (va_rf (F q 17) :: st) (S, b, M, D, F) Q := rw_c p62_19 rfl
theorem r62_22 : RR 62 22 (a0 :: .int x :: l) st μ Q ↔ RR 62 23 (a0 :: .int x :: l) (.int x :: st) μ Q := rw_go p62_22 rfl
theorem r62_23 : RR 62 23 L (.int x :: .ref q :: st) (S, b, M, D, F) Q ↔ am_bd S b.2.2 q 0 x ∧ RR 62 24 L (.int (M q x.toInt.toNat) :: st) (S, b, M, D, F) Q := rw_c p62_23 am_xld_eq
theorem r62_24 : RR 62 24 L st μ Q ↔ RR 62 26 L (.int (nI 31) :: st) μ Q := rw_go p62_24 rfl
theorem r62_26 : RR 62 26 L (.int y :: .int x :: st) μ Q ↔ if x = y then RR 62 31 L st μ Q else RR 62 29 L st μ Q := rw_if p62_26 rfl
theorem r62_29 : RR 62 29 L st μ Q ↔ RR 62 30 L (.double FP.dconst0 :: st) μ Q := rw_go p62_29 rfl
theorem r62_30 : RR 62 30 L [.double d] μ Q ↔ Q (some (.double d)) μ := rw_r p62_30 rfl
theorem r62_31 : RR 62 31 L st μ Q ↔ RR 62 33 L (.int (nI 12) :: st) μ Q := rw_go p62_31 rfl
theorem r62_33 : RR 62 33 (.ref q :: l) st μ Q ↔ RR 62 34 (.ref q :: l) (.ref q :: st) μ Q := rw_go p62_33 rfl
theorem r62_34 : RR 62 34 L (.ref q :: st) (S, b, M, D, F) Q ↔ S[q]? = some (.inl 9) ∧ RR 62 37 L (va_rf (F q 18) :: st) (S, b, M, D, F) Q := rw_c p62_34 rfl
theorem r62_37 : RR 62 37 (a0 :: .int x :: l) st μ Q ↔ RR 62 38 (a0 :: .int x :: l) (.int x :: st) μ Q := rw_go p62_37 rfl
theorem r62_38 : RR 62 38 L (.int x :: .ref q :: st) (S, b, M, D, F) Q ↔ am_bd S b.2.2 q 0 x ∧ RR 62 39 L (.int (M q x.toInt.toNat) :: st) (S, b, M, D, F) Q := rw_c p62_38 am_xld_eq
theorem r62_39 : RR 62 39 L (.int y :: .int x :: st) μ Q ↔ RR 62 40 L (.int (x * y) :: st) μ Q := rw_go p62_39 rfl
theorem r62_40 : RR 62 40 (.ref q :: l) st μ Q ↔ RR 62 41 (.ref q :: l) (.ref q :: st) μ Q := rw_go p62_40 rfl
theorem r62_41 : RR 62 41 L (.ref q :: st) (S, b, M, D, F) Q ↔ S[q]? = some (.inl 9) ∧ RR 62 44 L (va_rf (F q 19) :: st) (S, b, M, D, F) Q := rw_c p62_41 rfl
theorem r62_44 : RR 62 44 (a0 :: .int x :: l) st μ Q ↔ RR 62 45 (a0 :: .int x :: l) (.int x :: st) μ Q := rw_go p62_44 rfl
theorem r62_45 : RR 62 45 L (.int x :: .ref q :: st) (S, b, M, D, F) Q ↔ am_bd S b.2.2 q 0 x ∧ RR 62 46 L (.int (M q x.toInt.toNat) :: st) (S, b, M, D, F) Q := rw_c p62_45 am_xld_eq
theorem r62_46 : RR 62 46 L (.int y :: .int x :: st) μ Q ↔ RR 62 47 L (.int (x + y) :: st) μ Q := rw_go p62_46 rfl
theorem r62_47 : RR 62 47 L st μ Q ↔ RR 62 48 L (.int (nI 1) :: st) μ Q := rw_go p62_47 rfl
theorem r62_48 : RR 62 48 L (.int y :: .int x :: st) μ Q ↔ RR 62 49 L (.int (x - y) :: st) μ Q := rw_go p62_48 rfl
theorem r62_49 : RR 62 49 (a0 :: a1 :: c0 :: l) (.int x :: st) μ Q ↔ RR 62 50 (a0 :: am_nd a1 :: .int x :: l) st μ Q := rw_istn p62_49 (by show 2 < _; simp only [List.length_cons]; omega)
theorem r62_50 : RR 62 50 (.ref q :: l) st μ Q ↔ RR 62 51 (.ref q :: l) (.ref q :: st) μ Q := rw_go p62_50 rfl
theorem r62_51 : RR 62 51 L (.ref q :: st) (S, b, M, D, F) Q ↔ S[q]? = some (.inl 9) ∧ RR 62 54 L (va_rf (F q 7) :: st) (S, b, M, D, F) Q := rw_c p62_51 rfl
theorem r62_54 : RR 62 54 L st μ Q ↔ RR 62 56 L (.int (nI 96) :: st) μ Q := rw_go p62_54 rfl
theorem r62_56 : RR 62 56 (a0 :: a1 :: .int x :: l) st μ Q ↔ RR 62 57 (a0 :: a1 :: .int x :: l) (.int x :: st) μ Q := rw_go p62_56 rfl
theorem r62_57 : RR 62 57 L (.int y :: .int x :: st) μ Q ↔ RR 62 58 L (.int (x + y) :: st) μ Q := rw_go p62_57 rfl
theorem r62_58 : RR 62 58 L (.int x :: .ref q :: st) (S, b, M, D, F) Q ↔ am_bs S q 3 x ∧ RR 62 59 L (.double (D q x.toInt.toNat) :: st) (S, b, M, D, F) Q := rw_c p62_58 am_dxld_eq
theorem r62_59 : RR 62 59 (.ref q :: l) st μ Q ↔ RR 62 60 (.ref q :: l) (.ref q :: st) μ Q := rw_go p62_59 rfl
theorem r62_60 : RR 62 60 L (.ref q :: st) (S, b, M, D, F) Q ↔ S[q]? = some (.inl 9) ∧ RR 62 63 L (va_rf (F q 7) :: st) (S, b, M, D, F) Q := rw_c p62_60 rfl
theorem r62_63 : RR 62 63 (a0 :: a1 :: .int x :: l) st μ Q ↔ RR 62 64 (a0 :: a1 :: .int x :: l) (.int x :: st) μ Q := rw_go p62_63 rfl
theorem r62_64 : RR 62 64 L (.int x :: .ref q :: st) (S, b, M, D, F) Q ↔ am_bs S q 3 x ∧ RR 62 65 L (.double (D q x.toInt.toNat) :: st) (S, b, M, D, F) Q := rw_c p62_64 am_dxld_eq
theorem r62_65 : RR 62 65 L (.double d2 :: .double d :: st) μ Q ↔ vf_n64 (FP.dsub d d2) ∧ RR 62 66 L (.double (FP.dsub d d2) :: st) μ Q := rw_c (p := FP.dsub d d2 &&& 0x7fffffffffffffff ≤ 0x7ff0000000000000) p62_65 rfl
theorem r62_66 : RR 62 66 L [.double d] μ Q ↔ Q (some (.double d)) μ := rw_r p62_66 rfl
/-! ReleaseDeskModel.tell -/
theorem r63_0 : RR 63 0 (.ref q :: l) st μ Q ↔ RR 63 1 (.ref q :: l) (.ref q :: st) μ Q := rw_go p63_0 rfl
theorem r63_1 : RR 63 1 L (.ref q :: st) (S, b, M, D, F) Q ↔ S[q]? = some (.inl 9) ∧ RR 63 4 L (.int (M q 26) :: st) (S, b, M, D, F) Q := rw_c p63_1 rfl
theorem r63_4 : RR 63 4 (.ref q :: l) st μ Q ↔ RR 63 5 (.ref q :: l) (.ref q :: st) μ Q := rw_go p63_4 rfl
theorem r63_5 : RR 63 5 L (.ref q :: st) (S, b, M, D, F) Q ↔ S[q]? = some (.inl 9) ∧ RR 63 8 L (.int (M q 25) :: st) (S, b, M, D, F) Q := rw_c p63_5 rfl
theorem r63_8 : RR 63 8 L (.int y :: .int x :: st) μ Q ↔ if ¬ x = y then RR 63 16 L st μ Q else RR 63 11 L st μ Q := rw_if p63_8 rfl
theorem r63_11 : RR 63 11 (.ref q :: l) st μ Q ↔ RR 63 12 (.ref q :: l) (.ref q :: st) μ Q := rw_go p63_11 rfl
theorem r63_12 : RR 63 12 (a0 :: .int x :: l) st μ Q ↔ RR 63 13 (a0 :: .int x :: l) (.int x :: st) μ Q := rw_go p63_12 rfl
theorem r63_13 : RR 63 13 L (.int x :: .ref q :: st) (S, b, M, D, F) Q ↔ S[q]? = some (.inl 9) ∧ RR 63 16 L st (S, b, am_up M q 27 x, D, F) Q := rw_c p63_13 rfl
theorem r63_16 : RR 63 16 (.ref q :: l) st μ Q ↔ RR 63 17 (.ref q :: l) (.ref q :: st) μ Q := rw_go p63_16 rfl
theorem r63_17 : RR 63 17 L (.ref q :: st) μ Q ↔ RR 63 18 L (.ref q :: .ref q :: st) μ Q := rw_go p63_17 rfl
theorem r63_17i : RR 63 17 L (.int x :: st) μ Q ↔ RR 63 18 L (.int x :: .int x :: st) μ Q := rw_go p63_17 rfl
theorem r63_18 : RR 63 18 L (.ref q :: st) (S, b, M, D, F) Q ↔ S[q]? = some (.inl 9) ∧ RR 63 21 L (.int (M q 26) :: st) (S, b, M, D, F) Q := rw_c p63_18 rfl
theorem r63_21 : RR 63 21 L st μ Q ↔ RR 63 22 L (.int (nI 1) :: st) μ Q := rw_go p63_21 rfl
theorem r63_22 : RR 63 22 L (.int y :: .int x :: st) μ Q ↔ RR 63 23 L (.int (x + y) :: st) μ Q := rw_go p63_22 rfl
theorem r63_23 : RR 63 23 L (.int x :: .ref q :: st) (S, b, M, D, F) Q ↔ S[q]? = some (.inl 9) ∧ RR 63 26 L st (S, b, am_up M q 26 x, D, F) Q := rw_c p63_23 rfl
theorem r63_26 : RR 63 26 L [] μ Q ↔ Q none μ := rw_r p63_26 rfl
/-! ReleaseDeskModel.tellNumber -/
theorem r64_0 : RR 64 0 L st μ Q ↔ RR 64 1 L (.int (nI 1) :: st) μ Q := rw_go p64_0 rfl
theorem r64_1 : RR 64 1 (a0 :: a1 :: c0 :: l) (.int x :: st) μ Q ↔ RR 64 2 (a0 :: am_nd a1 :: .int x :: l) st μ Q := rw_istn p64_1 (by show 2 < _; simp only [List.length_cons]; omega)
theorem r64_2 : RR 64 2 (a0 :: .int x :: l) st μ Q ↔ RR 64 3 (a0 :: .int x :: l) (.int x :: st) μ Q := rw_go p64_2 rfl
theorem r64_3 : RR 64 3 (a0 :: a1 :: .int x :: l) st μ Q ↔ RR 64 4 (a0 :: a1 :: .int x :: l) (.int x :: st) μ Q := rw_go p64_3 rfl
theorem r64_4 : RR 64 4 L (.int y :: .int x :: st) μ Q ↔ ¬ y = 0 ∧ RR 64 5 L (.int (x / y) :: st) μ Q := rw_n p64_4 rfl
theorem r64_5 : RR 64 5 L st μ Q ↔ RR 64 7 L (.int (nI 9) :: st) μ Q := rw_go p64_5 rfl
theorem r64_7 : RR 64 7 L (.int y :: .int x :: st) μ Q ↔ if x ≤ y then RR 64 18 L st μ Q else RR 64 10 L st μ Q := rw_if p64_7 rfl
theorem r64_10 : RR 64 10 (a0 :: a1 :: .int x :: l) st μ Q ↔ RR 64 11 (a0 :: a1 :: .int x :: l) (.int x :: st) μ Q := rw_go p64_10 rfl
theorem r64_11 : RR 64 11 L st μ Q ↔ RR 64 13 L (.int (nI 10) :: st) μ Q := rw_go p64_11 rfl
theorem r64_13 : RR 64 13 L (.int y :: .int x :: st) μ Q ↔ RR 64 14 L (.int (x * y) :: st) μ Q := rw_go p64_13 rfl
theorem r64_14 : RR 64 14 (a0 :: a1 :: c0 :: l) (.int x :: st) μ Q ↔ RR 64 15 (a0 :: am_nd a1 :: .int x :: l) st μ Q := rw_istn p64_14 (by show 2 < _; simp only [List.length_cons]; omega)
theorem r64_15 : RR 64 15 L st μ Q ↔ RR 64 2 L st μ Q := rw_go p64_15 rfl
theorem r64_18 : RR 64 18 (a0 :: a1 :: .int x :: l) st μ Q ↔ RR 64 19 (a0 :: a1 :: .int x :: l) (.int x :: st) μ Q := rw_go p64_18 rfl
theorem r64_19 : RR 64 19 L (.int x :: st) μ Q ↔ if x ≤ 0 then RR 64 43 L st μ Q else RR 64 22 L st μ Q := rw_if p64_19 rfl
theorem r64_22 : RR 64 22 (.ref q :: l) st μ Q ↔ RR 64 23 (.ref q :: l) (.ref q :: st) μ Q := rw_go p64_22 rfl
theorem r64_23 : RR 64 23 L st μ Q ↔ RR 64 25 L (.int (nI 48) :: st) μ Q := rw_go p64_23 rfl
theorem r64_25 : RR 64 25 (a0 :: .int x :: l) st μ Q ↔ RR 64 26 (a0 :: .int x :: l) (.int x :: st) μ Q := rw_go p64_25 rfl
theorem r64_26 : RR 64 26 (a0 :: a1 :: .int x :: l) st μ Q ↔ RR 64 27 (a0 :: a1 :: .int x :: l) (.int x :: st) μ Q := rw_go p64_26 rfl
theorem r64_27 : RR 64 27 L (.int y :: .int x :: st) μ Q ↔ ¬ y = 0 ∧ RR 64 28 L (.int (x / y) :: st) μ Q := rw_n p64_27 rfl
theorem r64_28 : RR 64 28 L st μ Q ↔ RR 64 30 L (.int (nI 10) :: st) μ Q := rw_go p64_28 rfl
theorem r64_30 : RR 64 30 L (.int y :: .int x :: st) μ Q ↔ ¬ y = 0 ∧ RR 64 31 L (.int (x - x / y * y) :: st) μ Q := rw_n p64_30 rfl
theorem r64_31 : RR 64 31 L (.int y :: .int x :: st) μ Q ↔ RR 64 32 L (.int (x + y) :: st) μ Q := rw_go p64_31 rfl
theorem r64_32 : RR 64 32 L (.int x1 :: .ref q :: st) (S, (0, 0, sl), M, D, F) Q ↔ (am_cat st ≤ 8 ∧ 2 = 2 ∧ S[q]? = some (.inl 9)) ∧ RR 63 0 [.ref q, .int x1] [] (S, (0, 0, sl), M, D, F) (fun rv μ' => μ'.1.length = S.length ∧ RR 64 35 L (rv.toList ++ st) (μ'.1, (0, 0, sl), μ'.2.2) Q) := rw_call p64_32 rfl (ac63 q x1)
theorem r64_35 : RR 64 35 (a0 :: a1 :: .int x :: l) st μ Q ↔ RR 64 36 (a0 :: a1 :: .int x :: l) (.int x :: st) μ Q := rw_go p64_35 rfl
theorem r64_36 : RR 64 36 L st μ Q ↔ RR 64 38 L (.int (nI 10) :: st) μ Q := rw_go p64_36 rfl
theorem r64_38 : RR 64 38 L (.int y :: .int x :: st) μ Q ↔ ¬ y = 0 ∧ RR 64 39 L (.int (x / y) :: st) μ Q := rw_n p64_38 rfl
theorem r64_39 : RR 64 39 (a0 :: a1 :: c0 :: l) (.int x :: st) μ Q ↔ RR 64 40 (a0 :: am_nd a1 :: .int x :: l) st μ Q := rw_istn p64_39 (by show 2 < _; simp only [List.length_cons]; omega)
theorem r64_40 : RR 64 40 L st μ Q ↔ RR 64 18 L st μ Q := rw_go p64_40 rfl
theorem r64_43 : RR 64 43 L [] μ Q ↔ Q none μ := rw_r p64_43 rfl
/-! ReleaseDeskModel.tellName -/
theorem r65_0 : RR 65 0 (.ref q :: l) st μ Q ↔ RR 65 1 (.ref q :: l) (.ref q :: st) μ Q := rw_go p65_0 rfl
theorem r65_1 : RR 65 1 (.ref q :: l) st μ Q ↔ RR 65 2 (.ref q :: l) (.ref q :: st) μ Q := rw_go p65_1 rfl
theorem r65_2 : RR 65 2 L (.ref q :: st) (S, b, M, D, F) Q ↔ S[q]? = some (.inl 9) ∧ RR 65 5 L (va_rf (F q 17) :: st) (S, b, M, D, F) Q := rw_c p65_2 rfl
theorem r65_5 : RR 65 5 (a0 :: .int x :: l) st μ Q ↔ RR 65 6 (a0 :: .int x :: l) (.int x :: st) μ Q := rw_go p65_5 rfl
theorem r65_6 : RR 65 6 L (.int x :: .ref q :: st) (S, b, M, D, F) Q ↔ am_bd S b.2.2 q 0 x ∧ RR 65 7 L (.int (M q x.toInt.toNat) :: st) (S, b, M, D, F) Q := rw_c p65_6 am_xld_eq
theorem r65_7 : RR 65 7 L st μ Q ↔ RR 65 8 L (.int (nI 3) :: st) μ Q := rw_go p65_7 rfl
theorem r65_8 : RR 65 8 L (.int y :: .int x :: st) μ Q ↔ if ¬ x = y then RR 65 15 L st μ Q else RR 65 11 L st μ Q := rw_if p65_8 rfl
theorem r65_11 : RR 65 11 L st μ Q ↔ RR 65 12 L (.int (nI 1) :: st) μ Q := rw_go p65_11 rfl
theorem r65_12 : RR 65 12 L st μ Q ↔ RR 65 16 L st μ Q := rw_go p65_12 rfl
theorem r65_15 : RR 65 15 L st μ Q ↔ RR 65 16 L (.int (nI 0) :: st) μ Q := rw_go p65_15 rfl
theorem r65_16 : RR 65 16 (.ref q :: l) st μ Q ↔ RR 65 17 (.ref q :: l) (.ref q :: st) μ Q := rw_go p65_16 rfl
theorem r65_17 : RR 65 17 L (.ref q :: st) (S, b, M, D, F) Q ↔ S[q]? = some (.inl 9) ∧ RR 65 20 L (va_rf (F q 18) :: st) (S, b, M, D, F) Q := rw_c p65_17 rfl
theorem r65_20 : RR 65 20 (a0 :: .int x :: l) st μ Q ↔ RR 65 21 (a0 :: .int x :: l) (.int x :: st) μ Q := rw_go p65_20 rfl
theorem r65_21 : RR 65 21 L (.int x :: .ref q :: st) (S, b, M, D, F) Q ↔ am_bd S b.2.2 q 0 x ∧ RR 65 22 L (.int (M q x.toInt.toNat) :: st) (S, b, M, D, F) Q := rw_c p65_21 am_xld_eq
theorem r65_22 : RR 65 22 (.ref q :: l) st μ Q ↔ RR 65 23 (.ref q :: l) (.ref q :: st) μ Q := rw_go p65_22 rfl
theorem r65_23 : RR 65 23 L (.ref q :: st) (S, b, M, D, F) Q ↔ S[q]? = some (.inl 9) ∧ RR 65 26 L (va_rf (F q 19) :: st) (S, b, M, D, F) Q := rw_c p65_23 rfl
theorem r65_26 : RR 65 26 (a0 :: .int x :: l) st μ Q ↔ RR 65 27 (a0 :: .int x :: l) (.int x :: st) μ Q := rw_go p65_26 rfl
theorem r65_27 : RR 65 27 L (.int x :: .ref q :: st) (S, b, M, D, F) Q ↔ am_bd S b.2.2 q 0 x ∧ RR 65 28 L (.int (M q x.toInt.toNat) :: st) (S, b, M, D, F) Q := rw_c p65_27 am_xld_eq
theorem r65_28 : RR 65 28 L (.int x3 :: .int x2 :: .int x1 :: .ref q :: st) (S, (0, 0, sl), M, D, F) Q ↔ (am_cat st ≤ 8 ∧ 4 = 4 ∧ S[q]? = some (.inl 9)) ∧ RR 46 0 [.ref q, .int x1, .int x2, .int x3, .long 0] [] (S, (0, 0, sl), M, D, F) (fun rv μ' => μ'.1.length = S.length ∧ RR 65 31 L (rv.toList ++ st) (μ'.1, (0, 0, sl), μ'.2.2) Q) := rw_call p65_28 rfl (ac46 q x1 x2 x3)
theorem r65_31 : RR 65 31 (a0 :: a1 :: c0 :: l) (.int x :: st) μ Q ↔ RR 65 32 (a0 :: am_nd a1 :: .int x :: l) st μ Q := rw_istn p65_31 (by show 2 < _; simp only [List.length_cons]; omega)
theorem r65_32 : RR 65 32 L st μ Q ↔ RR 65 33 L (.int (nI 0) :: st) μ Q := rw_go p65_32 rfl
theorem r65_33 : RR 65 33 (a0 :: a1 :: a2 :: c0 :: l) (.int x :: st) μ Q ↔ RR 65 34 (a0 :: a1 :: am_nd a2 :: .int x :: l) st μ Q := rw_istn p65_33 (by show 3 < _; simp only [List.length_cons]; omega)
theorem r65_34 : RR 65 34 (a0 :: a1 :: a2 :: .int x :: l) st μ Q ↔ RR 65 35 (a0 :: a1 :: a2 :: .int x :: l) (.int x :: st) μ Q := rw_go p65_34 rfl
theorem r65_35 : RR 65 35 (a0 :: a1 :: .int x :: l) st μ Q ↔ RR 65 36 (a0 :: a1 :: .int x :: l) (.int x :: st) μ Q := rw_go p65_35 rfl
theorem r65_36 : RR 65 36 L (.int y :: .int x :: st) μ Q ↔ if y ≤ x then RR 65 55 L st μ Q else RR 65 39 L st μ Q := rw_if p65_36 rfl
theorem r65_39 : RR 65 39 (.ref q :: l) st μ Q ↔ RR 65 40 (.ref q :: l) (.ref q :: st) μ Q := rw_go p65_39 rfl
theorem r65_40 : RR 65 40 (.ref q :: l) st μ Q ↔ RR 65 41 (.ref q :: l) (.ref q :: st) μ Q := rw_go p65_40 rfl
theorem r65_41 : RR 65 41 L (.ref q :: st) (S, b, M, D, F) Q ↔ S[q]? = some (.inl 9) ∧ RR 65 44 L (va_rf (F q 23) :: st) (S, b, M, D, F) Q := rw_c p65_41 rfl
theorem r65_44 : RR 65 44 (a0 :: a1 :: a2 :: .int x :: l) st μ Q ↔ RR 65 45 (a0 :: a1 :: a2 :: .int x :: l) (.int x :: st) μ Q := rw_go p65_44 rfl
theorem r65_45 : RR 65 45 L (.int x :: .ref q :: st) (S, b, M, D, F) Q ↔ am_bd S b.2.2 q 0 x ∧ RR 65 46 L (.int (M q x.toInt.toNat) :: st) (S, b, M, D, F) Q := rw_c p65_45 am_xld_eq
theorem r65_46 : RR 65 46 L (.int x1 :: .ref q :: st) (S, (0, 0, sl), M, D, F) Q ↔ (am_cat st ≤ 8 ∧ 2 = 2 ∧ S[q]? = some (.inl 9)) ∧ RR 63 0 [.ref q, .int x1] [] (S, (0, 0, sl), M, D, F) (fun rv μ' => μ'.1.length = S.length ∧ RR 65 49 L (rv.toList ++ st) (μ'.1, (0, 0, sl), μ'.2.2) Q) := rw_call p65_46 rfl (ac63 q x1)
theorem r65_49 : RR 65 49 (a0 :: a1 :: a2 :: .int x :: l) st μ Q ↔ RR 65 52 (a0 :: a1 :: am_nd a2 :: .int (x + nI 1) :: l) st μ Q := rw_go p65_49 rfl
theorem r65_52 : RR 65 52 L st μ Q ↔ RR 65 34 L st μ Q := rw_go p65_52 rfl
theorem r65_55 : RR 65 55 L [] μ Q ↔ Q none μ := rw_r p65_55 rfl
/-! ReleaseDeskModel.tally -/
theorem r66_0 : RR 66 0 L st μ Q ↔ RR 66 1 L (.int (nI 0) :: st) μ Q := rw_go p66_0 rfl
theorem r66_1 : RR 66 1 (a0 :: a1 :: c0 :: l) (.int x :: st) μ Q ↔ RR 66 2 (a0 :: am_nd a1 :: .int x :: l) st μ Q := rw_istn p66_1 (by show 2 < _; simp only [List.length_cons]; omega)
theorem r66_2 : RR 66 2 L st μ Q ↔ RR 66 3 L (.int (nI 0) :: st) μ Q := rw_go p66_2 rfl
theorem r66_3 : RR 66 3 (a0 :: a1 :: a2 :: c0 :: l) (.int x :: st) μ Q ↔ RR 66 4 (a0 :: a1 :: am_nd a2 :: .int x :: l) st μ Q := rw_istn p66_3 (by show 3 < _; simp only [List.length_cons]; omega)
theorem r66_4 : RR 66 4 (a0 :: a1 :: a2 :: .int x :: l) st μ Q ↔ RR 66 5 (a0 :: a1 :: a2 :: .int x :: l) (.int x :: st) μ Q := rw_go p66_4 rfl
theorem r66_5 : RR 66 5 (.ref q :: l) st μ Q ↔ RR 66 6 (.ref q :: l) (.ref q :: st) μ Q := rw_go p66_5 rfl
theorem r66_6 : RR 66 6 L (.ref q :: st) (S, b, M, D, F) Q ↔ S[q]? = some (.inl 9) ∧ RR 66 9 L (.int (M q 22) :: st) (S, b, M, D, F) Q := rw_c p66_6 rfl
theorem r66_9 : RR 66 9 L (.int y :: .int x :: st) μ Q ↔ if y ≤ x then RR 66 31 L st μ Q else RR 66 12 L st μ Q := rw_if p66_9 rfl
theorem r66_12 : RR 66 12 (.ref q :: l) st μ Q ↔ RR 66 13 (.ref q :: l) (.ref q :: st) μ Q := rw_go p66_12 rfl
theorem r66_13 : RR 66 13 L (.ref q :: st) (S, b, M, D, F) Q ↔ S[q]? = some (.inl 9) ∧ RR 66 16 L (va_rf (F q 20) :: st) (S, b, M, D, F) Q := rw_c p66_13 rfl
theorem r66_16 : RR 66 16 (a0 :: a1 :: a2 :: .int x :: l) st μ Q ↔ RR 66 17 (a0 :: a1 :: a2 :: .int x :: l) (.int x :: st) μ Q := rw_go p66_16 rfl
theorem r66_17 : RR 66 17 L (.int x :: .ref q :: st) (S, b, M, D, F) Q ↔ am_bd S b.2.2 q 0 x ∧ RR 66 18 L (.int (M q x.toInt.toNat) :: st) (S, b, M, D, F) Q := rw_c p66_17 am_xld_eq
theorem r66_18 : RR 66 18 (a0 :: .int x :: l) st μ Q ↔ RR 66 19 (a0 :: .int x :: l) (.int x :: st) μ Q := rw_go p66_18 rfl
theorem r66_19 : RR 66 19 L (.int y :: .int x :: st) μ Q ↔ if ¬ x = y then RR 66 25 L st μ Q else RR 66 22 L st μ Q := rw_if p66_19 rfl
theorem r66_22 : RR 66 22 (a0 :: a1 :: .int x :: l) st μ Q ↔ RR 66 25 (a0 :: am_nd a1 :: .int (x + nI 1) :: l) st μ Q := rw_go p66_22 rfl
theorem r66_25 : RR 66 25 (a0 :: a1 :: a2 :: .int x :: l) st μ Q ↔ RR 66 28 (a0 :: a1 :: am_nd a2 :: .int (x + nI 1) :: l) st μ Q := rw_go p66_25 rfl
theorem r66_28 : RR 66 28 L st μ Q ↔ RR 66 4 L st μ Q := rw_go p66_28 rfl
theorem r66_31 : RR 66 31 (a0 :: a1 :: .int x :: l) st μ Q ↔ RR 66 32 (a0 :: a1 :: .int x :: l) (.int x :: st) μ Q := rw_go p66_31 rfl
theorem r66_32 : RR 66 32 L [.int x] μ Q ↔ Q (some (.int x)) μ := rw_r p66_32 rfl
/-! ReleaseDeskModel.lines -/
theorem r67_0 : RR 67 0 L st μ Q ↔ RR 67 1 L (.int (nI 0) :: st) μ Q := rw_go p67_0 rfl
theorem r67_1 : RR 67 1 (a0 :: c0 :: l) (.int x :: st) μ Q ↔ RR 67 2 (am_nd a0 :: .int x :: l) st μ Q := rw_istn p67_1 (by show 1 < _; simp only [List.length_cons]; omega)
theorem r67_2 : RR 67 2 (a0 :: .int x :: l) st μ Q ↔ RR 67 3 (a0 :: .int x :: l) (.int x :: st) μ Q := rw_go p67_2 rfl
theorem r67_3 : RR 67 3 (.ref q :: l) st μ Q ↔ RR 67 4 (.ref q :: l) (.ref q :: st) μ Q := rw_go p67_3 rfl
theorem r67_4 : RR 67 4 L (.ref q :: st) (S, b, M, D, F) Q ↔ S[q]? = some (.inl 9) ∧ RR 67 7 L (.int (M q 22) :: st) (S, b, M, D, F) Q := rw_c p67_4 rfl
theorem r67_7 : RR 67 7 L (.int y :: .int x :: st) μ Q ↔ if y ≤ x then RR 67 85 L st μ Q else RR 67 10 L st μ Q := rw_if p67_7 rfl
theorem r67_10 : RR 67 10 (.ref q :: l) st μ Q ↔ RR 67 11 (.ref q :: l) (.ref q :: st) μ Q := rw_go p67_10 rfl
theorem r67_11 : RR 67 11 (.ref q :: l) st μ Q ↔ RR 67 12 (.ref q :: l) (.ref q :: st) μ Q := rw_go p67_11 rfl
theorem r67_12 : RR 67 12 L (.ref q :: st) (S, b, M, D, F) Q ↔ S[q]? = some (.inl 9) ∧ RR 67 15 L (va_rf (F q 20) :: st) (S, b, M, D, F) Q := rw_c p67_12 rfl
theorem r67_15 : RR 67 15 (a0 :: .int x :: l) st μ Q ↔ RR 67 16 (a0 :: .int x :: l) (.int x :: st) μ Q := rw_go p67_15 rfl
theorem r67_16 : RR 67 16 L (.int x :: .ref q :: st) (S, b, M, D, F) Q ↔ am_bd S b.2.2 q 0 x ∧ RR 67 17 L (.int (M q x.toInt.toNat) :: st) (S, b, M, D, F) Q := rw_c p67_16 am_xld_eq
theorem r67_17 : RR 67 17 L st μ Q ↔ RR 67 18 L (.int (nI 3) :: st) μ Q := rw_go p67_17 rfl
theorem r67_18 : RR 67 18 L (.int y :: .int x :: st) μ Q ↔ if ¬ x = y then RR 67 26 L st μ Q else RR 67 21 L st μ Q := rw_if p67_18 rfl
theorem r67_21 : RR 67 21 L st μ Q ↔ RR 67 23 L (.int (nI 66) :: st) μ Q := rw_go p67_21 rfl
theorem r67_23 : RR 67 23 L st μ Q ↔ RR 67 43 L st μ Q := rw_go p67_23 rfl
theorem r67_26 : RR 67 26 (.ref q :: l) st μ Q ↔ RR 67 27 (.ref q :: l) (.ref q :: st) μ Q := rw_go p67_26 rfl
theorem r67_27 : RR 67 27 L (.ref q :: st) (S, b, M, D, F) Q ↔ S[q]? = some (.inl 9) ∧ RR 67 30 L (va_rf (F q 20) :: st) (S, b, M, D, F) Q := rw_c p67_27 rfl
theorem r67_30 : RR 67 30 (a0 :: .int x :: l) st μ Q ↔ RR 67 31 (a0 :: .int x :: l) (.int x :: st) μ Q := rw_go p67_30 rfl
theorem r67_31 : RR 67 31 L (.int x :: .ref q :: st) (S, b, M, D, F) Q ↔ am_bd S b.2.2 q 0 x ∧ RR 67 32 L (.int (M q x.toInt.toNat) :: st) (S, b, M, D, F) Q := rw_c p67_31 am_xld_eq
theorem r67_32 : RR 67 32 L st μ Q ↔ RR 67 33 L (.int (nI 2) :: st) μ Q := rw_go p67_32 rfl
theorem r67_33 : RR 67 33 L (.int y :: .int x :: st) μ Q ↔ if ¬ x = y then RR 67 41 L st μ Q else RR 67 36 L st μ Q := rw_if p67_33 rfl
theorem r67_36 : RR 67 36 L st μ Q ↔ RR 67 38 L (.int (nI 87) :: st) μ Q := rw_go p67_36 rfl
theorem r67_38 : RR 67 38 L st μ Q ↔ RR 67 43 L st μ Q := rw_go p67_38 rfl
theorem r67_41 : RR 67 41 L st μ Q ↔ RR 67 43 L (.int (nI 78) :: st) μ Q := rw_go p67_41 rfl
theorem r67_43 : RR 67 43 L (.int x1 :: .ref q :: st) (S, (0, 0, sl), M, D, F) Q ↔ (am_cat st ≤ 8 ∧ 2 = 2 ∧ S[q]? = some (.inl 9)) ∧ RR 63 0 [.ref q, .int x1] [] (S, (0, 0, sl), M, D, F) (fun rv μ' => μ'.1.length = S.length ∧ RR 67 46 L (rv.toList ++ st) (μ'.1, (0, 0, sl), μ'.2.2) Q) := rw_call p67_43 rfl (ac63 q x1)
theorem r67_46 : RR 67 46 (.ref q :: l) st μ Q ↔ RR 67 47 (.ref q :: l) (.ref q :: st) μ Q := rw_go p67_46 rfl
theorem r67_47 : RR 67 47 L st μ Q ↔ RR 67 49 L (.int (nI 32) :: st) μ Q := rw_go p67_47 rfl
theorem r67_49 : RR 67 49 L (.int x1 :: .ref q :: st) (S, (0, 0, sl), M, D, F) Q ↔ (am_cat st ≤ 8 ∧ 2 = 2 ∧ S[q]? = some (.inl 9)) ∧ RR 63 0 [.ref q, .int x1] [] (S, (0, 0, sl), M, D, F) (fun rv μ' => μ'.1.length = S.length ∧ RR 67 52 L (rv.toList ++ st) (μ'.1, (0, 0, sl), μ'.2.2) Q) := rw_call p67_49 rfl (ac63 q x1)
theorem r67_52 : RR 67 52 (.ref q :: l) st μ Q ↔ RR 67 53 (.ref q :: l) (.ref q :: st) μ Q := rw_go p67_52 rfl
theorem r67_53 : RR 67 53 (a0 :: .int x :: l) st μ Q ↔ RR 67 54 (a0 :: .int x :: l) (.int x :: st) μ Q := rw_go p67_53 rfl
theorem r67_54 : RR 67 54 L (.int x1 :: .ref q :: st) (S, (0, 0, sl), M, D, F) Q ↔ (am_cat st ≤ 8 ∧ 2 = 2 ∧ S[q]? = some (.inl 9)) ∧ RR 65 0 [.ref q, .int x1, .long 0, .long 0] [] (S, (0, 0, sl), M, D, F) (fun rv μ' => μ'.1.length = S.length ∧ RR 67 57 L (rv.toList ++ st) (μ'.1, (0, 0, sl), μ'.2.2) Q) := rw_call p67_54 rfl (ac65 q x1)
theorem r67_57 : RR 67 57 (.ref q :: l) st μ Q ↔ RR 67 58 (.ref q :: l) (.ref q :: st) μ Q := rw_go p67_57 rfl
theorem r67_58 : RR 67 58 L st μ Q ↔ RR 67 60 L (.int (nI 32) :: st) μ Q := rw_go p67_58 rfl
theorem r67_60 : RR 67 60 L (.int x1 :: .ref q :: st) (S, (0, 0, sl), M, D, F) Q ↔ (am_cat st ≤ 8 ∧ 2 = 2 ∧ S[q]? = some (.inl 9)) ∧ RR 63 0 [.ref q, .int x1] [] (S, (0, 0, sl), M, D, F) (fun rv μ' => μ'.1.length = S.length ∧ RR 67 63 L (rv.toList ++ st) (μ'.1, (0, 0, sl), μ'.2.2) Q) := rw_call p67_60 rfl (ac63 q x1)
theorem r67_63 : RR 67 63 (.ref q :: l) st μ Q ↔ RR 67 64 (.ref q :: l) (.ref q :: st) μ Q := rw_go p67_63 rfl
theorem r67_64 : RR 67 64 (.ref q :: l) st μ Q ↔ RR 67 65 (.ref q :: l) (.ref q :: st) μ Q := rw_go p67_64 rfl
theorem r67_65 : RR 67 65 L (.ref q :: st) (S, b, M, D, F) Q ↔ S[q]? = some (.inl 9) ∧ RR 67 68 L (va_rf (F q 17) :: st) (S, b, M, D, F) Q := rw_c p67_65 rfl
theorem r67_68 : RR 67 68 (a0 :: .int x :: l) st μ Q ↔ RR 67 69 (a0 :: .int x :: l) (.int x :: st) μ Q := rw_go p67_68 rfl
theorem r67_69 : RR 67 69 L (.int x :: .ref q :: st) (S, b, M, D, F) Q ↔ am_bd S b.2.2 q 0 x ∧ RR 67 70 L (.int (M q x.toInt.toNat) :: st) (S, b, M, D, F) Q := rw_c p67_69 am_xld_eq
theorem r67_70 : RR 67 70 L (.int x1 :: .ref q :: st) (S, (0, 0, sl), M, D, F) Q ↔ (am_cat st ≤ 8 ∧ 2 = 2 ∧ S[q]? = some (.inl 9)) ∧ RR 64 0 [.ref q, .int x1, .long 0] [] (S, (0, 0, sl), M, D, F) (fun rv μ' => μ'.1.length = S.length ∧ RR 67 73 L (rv.toList ++ st) (μ'.1, (0, 0, sl), μ'.2.2) Q) := rw_call p67_70 rfl (ac64 q x1)
theorem r67_73 : RR 67 73 (.ref q :: l) st μ Q ↔ RR 67 74 (.ref q :: l) (.ref q :: st) μ Q := rw_go p67_73 rfl
theorem r67_74 : RR 67 74 L st μ Q ↔ RR 67 76 L (.int (nI 10) :: st) μ Q := rw_go p67_74 rfl
theorem r67_76 : RR 67 76 L (.int x1 :: .ref q :: st) (S, (0, 0, sl), M, D, F) Q ↔ (am_cat st ≤ 8 ∧ 2 = 2 ∧ S[q]? = some (.inl 9)) ∧ RR 63 0 [.ref q, .int x1] [] (S, (0, 0, sl), M, D, F) (fun rv μ' => μ'.1.length = S.length ∧ RR 67 79 L (rv.toList ++ st) (μ'.1, (0, 0, sl), μ'.2.2) Q) := rw_call p67_76 rfl (ac63 q x1)
theorem r67_79 : RR 67 79 (a0 :: .int x :: l) st μ Q ↔ RR 67 82 (am_nd a0 :: .int (x + nI 1) :: l) st μ Q := rw_go p67_79 rfl
theorem r67_82 : RR 67 82 L st μ Q ↔ RR 67 2 L st μ Q := rw_go p67_82 rfl
theorem r67_85 : RR 67 85 (.ref q :: l) st μ Q ↔ RR 67 86 (.ref q :: l) (.ref q :: st) μ Q := rw_go p67_85 rfl
theorem r67_86 : RR 67 86 L st μ Q ↔ RR 67 87 L (.int (nI 3) :: st) μ Q := rw_go p67_86 rfl
theorem r67_87 : RR 67 87 L (.int x1 :: .ref q :: st) (S, (0, 0, sl), M, D, F) Q ↔ (am_cat st ≤ 8 ∧ 2 = 2 ∧ S[q]? = some (.inl 9)) ∧ RR 66 0 [.ref q, .int x1, .long 0, .long 0] [] (S, (0, 0, sl), M, D, F) (fun rv μ' => μ'.1.length = S.length ∧ RR 67 90 L (rv.toList ++ st) (μ'.1, (0, 0, sl), μ'.2.2) Q) := rw_call p67_87 rfl (ac66 q x1)
theorem r67_90 : RR 67 90 (a0 :: c0 :: l) (.int x :: st) μ Q ↔ RR 67 91 (am_nd a0 :: .int x :: l) st μ Q := rw_istn p67_90 (by show 1 < _; simp only [List.length_cons]; omega)
theorem r67_91 : RR 67 91 (.ref q :: l) st μ Q ↔ RR 67 92 (.ref q :: l) (.ref q :: st) μ Q := rw_go p67_91 rfl
theorem r67_92 : RR 67 92 (a0 :: .int x :: l) st μ Q ↔ RR 67 93 (a0 :: .int x :: l) (.int x :: st) μ Q := rw_go p67_92 rfl
theorem r67_93 : RR 67 93 L (.int x1 :: .ref q :: st) (S, (0, 0, sl), M, D, F) Q ↔ (am_cat st ≤ 8 ∧ 2 = 2 ∧ S[q]? = some (.inl 9)) ∧ RR 64 0 [.ref q, .int x1, .long 0] [] (S, (0, 0, sl), M, D, F) (fun rv μ' => μ'.1.length = S.length ∧ RR 67 96 L (rv.toList ++ st) (μ'.1, (0, 0, sl), μ'.2.2) Q) := rw_call p67_93 rfl (ac64 q x1)
theorem r67_96 : RR 67 96 (.ref q :: l) st μ Q ↔ RR 67 97 (.ref q :: l) (.ref q :: st) μ Q := rw_go p67_96 rfl
theorem r67_97 : RR 67 97 L st μ Q ↔ RR 67 99 L (.int (nI 32) :: st) μ Q := rw_go p67_97 rfl
theorem r67_99 : RR 67 99 L (.int x1 :: .ref q :: st) (S, (0, 0, sl), M, D, F) Q ↔ (am_cat st ≤ 8 ∧ 2 = 2 ∧ S[q]? = some (.inl 9)) ∧ RR 63 0 [.ref q, .int x1] [] (S, (0, 0, sl), M, D, F) (fun rv μ' => μ'.1.length = S.length ∧ RR 67 102 L (rv.toList ++ st) (μ'.1, (0, 0, sl), μ'.2.2) Q) := rw_call p67_99 rfl (ac63 q x1)
theorem r67_102 : RR 67 102 (.ref q :: l) st μ Q ↔ RR 67 103 (.ref q :: l) (.ref q :: st) μ Q := rw_go p67_102 rfl
theorem r67_103 : RR 67 103 L st μ Q ↔ RR 67 104 L (.int (nI 2) :: st) μ Q := rw_go p67_103 rfl
theorem r67_104 : RR 67 104 L (.int x1 :: .ref q :: st) (S, (0, 0, sl), M, D, F) Q ↔ (am_cat st ≤ 8 ∧ 2 = 2 ∧ S[q]? = some (.inl 9)) ∧ RR 66 0 [.ref q, .int x1, .long 0, .long 0] [] (S, (0, 0, sl), M, D, F) (fun rv μ' => μ'.1.length = S.length ∧ RR 67 107 L (rv.toList ++ st) (μ'.1, (0, 0, sl), μ'.2.2) Q) := rw_call p67_104 rfl (ac66 q x1)
theorem r67_107 : RR 67 107 (a0 :: c0 :: l) (.int x :: st) μ Q ↔ RR 67 108 (am_nd a0 :: .int x :: l) st μ Q := rw_istn p67_107 (by show 1 < _; simp only [List.length_cons]; omega)
theorem r67_108 : RR 67 108 (.ref q :: l) st μ Q ↔ RR 67 109 (.ref q :: l) (.ref q :: st) μ Q := rw_go p67_108 rfl
theorem r67_109 : RR 67 109 (a0 :: .int x :: l) st μ Q ↔ RR 67 110 (a0 :: .int x :: l) (.int x :: st) μ Q := rw_go p67_109 rfl
theorem r67_110 : RR 67 110 L (.int x1 :: .ref q :: st) (S, (0, 0, sl), M, D, F) Q ↔ (am_cat st ≤ 8 ∧ 2 = 2 ∧ S[q]? = some (.inl 9)) ∧ RR 64 0 [.ref q, .int x1, .long 0] [] (S, (0, 0, sl), M, D, F) (fun rv μ' => μ'.1.length = S.length ∧ RR 67 113 L (rv.toList ++ st) (μ'.1, (0, 0, sl), μ'.2.2) Q) := rw_call p67_110 rfl (ac64 q x1)
theorem r67_113 : RR 67 113 (.ref q :: l) st μ Q ↔ RR 67 114 (.ref q :: l) (.ref q :: st) μ Q := rw_go p67_113 rfl
theorem r67_114 : RR 67 114 L st μ Q ↔ RR 67 116 L (.int (nI 32) :: st) μ Q := rw_go p67_114 rfl
theorem r67_116 : RR 67 116 L (.int x1 :: .ref q :: st) (S, (0, 0, sl), M, D, F) Q ↔ (am_cat st ≤ 8 ∧ 2 = 2 ∧ S[q]? = some (.inl 9)) ∧ RR 63 0 [.ref q, .int x1] [] (S, (0, 0, sl), M, D, F) (fun rv μ' => μ'.1.length = S.length ∧ RR 67 119 L (rv.toList ++ st) (μ'.1, (0, 0, sl), μ'.2.2) Q) := rw_call p67_116 rfl (ac63 q x1)
theorem r67_119 : RR 67 119 (.ref q :: l) st μ Q ↔ RR 67 120 (.ref q :: l) (.ref q :: st) μ Q := rw_go p67_119 rfl
theorem r67_120 : RR 67 120 L st μ Q ↔ RR 67 121 L (.int (nI 1) :: st) μ Q := rw_go p67_120 rfl
theorem r67_121 : RR 67 121 L (.int x1 :: .ref q :: st) (S, (0, 0, sl), M, D, F) Q ↔ (am_cat st ≤ 8 ∧ 2 = 2 ∧ S[q]? = some (.inl 9)) ∧ RR 66 0 [.ref q, .int x1, .long 0, .long 0] [] (S, (0, 0, sl), M, D, F) (fun rv μ' => μ'.1.length = S.length ∧ RR 67 124 L (rv.toList ++ st) (μ'.1, (0, 0, sl), μ'.2.2) Q) := rw_call p67_121 rfl (ac66 q x1)
theorem r67_124 : RR 67 124 (a0 :: c0 :: l) (.int x :: st) μ Q ↔ RR 67 125 (am_nd a0 :: .int x :: l) st μ Q := rw_istn p67_124 (by show 1 < _; simp only [List.length_cons]; omega)
theorem r67_125 : RR 67 125 (.ref q :: l) st μ Q ↔ RR 67 126 (.ref q :: l) (.ref q :: st) μ Q := rw_go p67_125 rfl
theorem r67_126 : RR 67 126 (a0 :: .int x :: l) st μ Q ↔ RR 67 127 (a0 :: .int x :: l) (.int x :: st) μ Q := rw_go p67_126 rfl
theorem r67_127 : RR 67 127 L (.int x1 :: .ref q :: st) (S, (0, 0, sl), M, D, F) Q ↔ (am_cat st ≤ 8 ∧ 2 = 2 ∧ S[q]? = some (.inl 9)) ∧ RR 64 0 [.ref q, .int x1, .long 0] [] (S, (0, 0, sl), M, D, F) (fun rv μ' => μ'.1.length = S.length ∧ RR 67 130 L (rv.toList ++ st) (μ'.1, (0, 0, sl), μ'.2.2) Q) := rw_call p67_127 rfl (ac64 q x1)
theorem r67_130 : RR 67 130 L [] μ Q ↔ Q none μ := rw_r p67_130 rfl
/-! ReleaseDeskModel.tellKey -/
theorem r68_0 : RR 68 0 (.ref q :: l) st μ Q ↔ RR 68 1 (.ref q :: l) (.ref q :: st) μ Q := rw_go p68_0 rfl
theorem r68_1 : RR 68 1 L st μ Q ↔ RR 68 3 L (.int (nI 34) :: st) μ Q := rw_go p68_1 rfl
theorem r68_3 : RR 68 3 L (.int x1 :: .ref q :: st) (S, (0, 0, sl), M, D, F) Q ↔ (am_cat st ≤ 8 ∧ 2 = 2 ∧ S[q]? = some (.inl 9)) ∧ RR 63 0 [.ref q, .int x1] [] (S, (0, 0, sl), M, D, F) (fun rv μ' => μ'.1.length = S.length ∧ RR 68 6 L (rv.toList ++ st) (μ'.1, (0, 0, sl), μ'.2.2) Q) := rw_call p68_3 rfl (ac63 q x1)
theorem r68_6 : RR 68 6 (.ref q :: l) st μ Q ↔ RR 68 7 (.ref q :: l) (.ref q :: st) μ Q := rw_go p68_6 rfl
theorem r68_7 : RR 68 7 (a0 :: .int x :: l) st μ Q ↔ RR 68 8 (a0 :: .int x :: l) (.int x :: st) μ Q := rw_go p68_7 rfl
theorem r68_8 : RR 68 8 L (.int x1 :: .ref q :: st) (S, (0, 0, sl), M, D, F) Q ↔ (am_cat st ≤ 8 ∧ 2 = 2 ∧ S[q]? = some (.inl 9)) ∧ RR 63 0 [.ref q, .int x1] [] (S, (0, 0, sl), M, D, F) (fun rv μ' => μ'.1.length = S.length ∧ RR 68 11 L (rv.toList ++ st) (μ'.1, (0, 0, sl), μ'.2.2) Q) := rw_call p68_8 rfl (ac63 q x1)
theorem r68_11 : RR 68 11 (.ref q :: l) st μ Q ↔ RR 68 12 (.ref q :: l) (.ref q :: st) μ Q := rw_go p68_11 rfl
theorem r68_12 : RR 68 12 L st μ Q ↔ RR 68 14 L (.int (nI 34) :: st) μ Q := rw_go p68_12 rfl
theorem r68_14 : RR 68 14 L (.int x1 :: .ref q :: st) (S, (0, 0, sl), M, D, F) Q ↔ (am_cat st ≤ 8 ∧ 2 = 2 ∧ S[q]? = some (.inl 9)) ∧ RR 63 0 [.ref q, .int x1] [] (S, (0, 0, sl), M, D, F) (fun rv μ' => μ'.1.length = S.length ∧ RR 68 17 L (rv.toList ++ st) (μ'.1, (0, 0, sl), μ'.2.2) Q) := rw_call p68_14 rfl (ac63 q x1)
theorem r68_17 : RR 68 17 (.ref q :: l) st μ Q ↔ RR 68 18 (.ref q :: l) (.ref q :: st) μ Q := rw_go p68_17 rfl
theorem r68_18 : RR 68 18 L st μ Q ↔ RR 68 20 L (.int (nI 58) :: st) μ Q := rw_go p68_18 rfl
theorem r68_20 : RR 68 20 L (.int x1 :: .ref q :: st) (S, (0, 0, sl), M, D, F) Q ↔ (am_cat st ≤ 8 ∧ 2 = 2 ∧ S[q]? = some (.inl 9)) ∧ RR 63 0 [.ref q, .int x1] [] (S, (0, 0, sl), M, D, F) (fun rv μ' => μ'.1.length = S.length ∧ RR 68 23 L (rv.toList ++ st) (μ'.1, (0, 0, sl), μ'.2.2) Q) := rw_call p68_20 rfl (ac63 q x1)
theorem r68_23 : RR 68 23 L [] μ Q ↔ Q none μ := rw_r p68_23 rfl
/-! ReleaseDeskModel.json -/
theorem r69_0 : RR 69 0 (.ref q :: l) st μ Q ↔ RR 69 1 (.ref q :: l) (.ref q :: st) μ Q := rw_go p69_0 rfl
theorem r69_1 : RR 69 1 L st μ Q ↔ RR 69 3 L (.int (nI 123) :: st) μ Q := rw_go p69_1 rfl
theorem r69_3 : RR 69 3 L (.int x1 :: .ref q :: st) (S, (0, 0, sl), M, D, F) Q ↔ (am_cat st ≤ 8 ∧ 2 = 2 ∧ S[q]? = some (.inl 9)) ∧ RR 63 0 [.ref q, .int x1] [] (S, (0, 0, sl), M, D, F) (fun rv μ' => μ'.1.length = S.length ∧ RR 69 6 L (rv.toList ++ st) (μ'.1, (0, 0, sl), μ'.2.2) Q) := rw_call p69_3 rfl (ac63 q x1)
theorem r69_6 : RR 69 6 (.ref q :: l) st μ Q ↔ RR 69 7 (.ref q :: l) (.ref q :: st) μ Q := rw_go p69_6 rfl
theorem r69_7 : RR 69 7 L st μ Q ↔ RR 69 9 L (.int (nI 34) :: st) μ Q := rw_go p69_7 rfl
theorem r69_9 : RR 69 9 L (.int x1 :: .ref q :: st) (S, (0, 0, sl), M, D, F) Q ↔ (am_cat st ≤ 8 ∧ 2 = 2 ∧ S[q]? = some (.inl 9)) ∧ RR 63 0 [.ref q, .int x1] [] (S, (0, 0, sl), M, D, F) (fun rv μ' => μ'.1.length = S.length ∧ RR 69 12 L (rv.toList ++ st) (μ'.1, (0, 0, sl), μ'.2.2) Q) := rw_call p69_9 rfl (ac63 q x1)
theorem r69_12 : RR 69 12 (.ref q :: l) st μ Q ↔ RR 69 13 (.ref q :: l) (.ref q :: st) μ Q := rw_go p69_12 rfl
theorem r69_13 : RR 69 13 L st μ Q ↔ RR 69 15 L (.int (nI 99) :: st) μ Q := rw_go p69_13 rfl
theorem r69_15 : RR 69 15 L (.int x1 :: .ref q :: st) (S, (0, 0, sl), M, D, F) Q ↔ (am_cat st ≤ 8 ∧ 2 = 2 ∧ S[q]? = some (.inl 9)) ∧ RR 63 0 [.ref q, .int x1] [] (S, (0, 0, sl), M, D, F) (fun rv μ' => μ'.1.length = S.length ∧ RR 69 18 L (rv.toList ++ st) (μ'.1, (0, 0, sl), μ'.2.2) Q) := rw_call p69_15 rfl (ac63 q x1)
theorem r69_18 : RR 69 18 (.ref q :: l) st μ Q ↔ RR 69 19 (.ref q :: l) (.ref q :: st) μ Q := rw_go p69_18 rfl
theorem r69_19 : RR 69 19 L st μ Q ↔ RR 69 21 L (.int (nI 104) :: st) μ Q := rw_go p69_19 rfl
theorem r69_21 : RR 69 21 L (.int x1 :: .ref q :: st) (S, (0, 0, sl), M, D, F) Q ↔ (am_cat st ≤ 8 ∧ 2 = 2 ∧ S[q]? = some (.inl 9)) ∧ RR 63 0 [.ref q, .int x1] [] (S, (0, 0, sl), M, D, F) (fun rv μ' => μ'.1.length = S.length ∧ RR 69 24 L (rv.toList ++ st) (μ'.1, (0, 0, sl), μ'.2.2) Q) := rw_call p69_21 rfl (ac63 q x1)
theorem r69_24 : RR 69 24 (.ref q :: l) st μ Q ↔ RR 69 25 (.ref q :: l) (.ref q :: st) μ Q := rw_go p69_24 rfl
theorem r69_25 : RR 69 25 L st μ Q ↔ RR 69 27 L (.int (nI 97) :: st) μ Q := rw_go p69_25 rfl
theorem r69_27 : RR 69 27 L (.int x1 :: .ref q :: st) (S, (0, 0, sl), M, D, F) Q ↔ (am_cat st ≤ 8 ∧ 2 = 2 ∧ S[q]? = some (.inl 9)) ∧ RR 63 0 [.ref q, .int x1] [] (S, (0, 0, sl), M, D, F) (fun rv μ' => μ'.1.length = S.length ∧ RR 69 30 L (rv.toList ++ st) (μ'.1, (0, 0, sl), μ'.2.2) Q) := rw_call p69_27 rfl (ac63 q x1)
theorem r69_30 : RR 69 30 (.ref q :: l) st μ Q ↔ RR 69 31 (.ref q :: l) (.ref q :: st) μ Q := rw_go p69_30 rfl
theorem r69_31 : RR 69 31 L st μ Q ↔ RR 69 33 L (.int (nI 110) :: st) μ Q := rw_go p69_31 rfl
theorem r69_33 : RR 69 33 L (.int x1 :: .ref q :: st) (S, (0, 0, sl), M, D, F) Q ↔ (am_cat st ≤ 8 ∧ 2 = 2 ∧ S[q]? = some (.inl 9)) ∧ RR 63 0 [.ref q, .int x1] [] (S, (0, 0, sl), M, D, F) (fun rv μ' => μ'.1.length = S.length ∧ RR 69 36 L (rv.toList ++ st) (μ'.1, (0, 0, sl), μ'.2.2) Q) := rw_call p69_33 rfl (ac63 q x1)
theorem r69_36 : RR 69 36 (.ref q :: l) st μ Q ↔ RR 69 37 (.ref q :: l) (.ref q :: st) μ Q := rw_go p69_36 rfl
theorem r69_37 : RR 69 37 L st μ Q ↔ RR 69 39 L (.int (nI 103) :: st) μ Q := rw_go p69_37 rfl
theorem r69_39 : RR 69 39 L (.int x1 :: .ref q :: st) (S, (0, 0, sl), M, D, F) Q ↔ (am_cat st ≤ 8 ∧ 2 = 2 ∧ S[q]? = some (.inl 9)) ∧ RR 63 0 [.ref q, .int x1] [] (S, (0, 0, sl), M, D, F) (fun rv μ' => μ'.1.length = S.length ∧ RR 69 42 L (rv.toList ++ st) (μ'.1, (0, 0, sl), μ'.2.2) Q) := rw_call p69_39 rfl (ac63 q x1)
theorem r69_42 : RR 69 42 (.ref q :: l) st μ Q ↔ RR 69 43 (.ref q :: l) (.ref q :: st) μ Q := rw_go p69_42 rfl
theorem r69_43 : RR 69 43 L st μ Q ↔ RR 69 45 L (.int (nI 101) :: st) μ Q := rw_go p69_43 rfl
theorem r69_45 : RR 69 45 L (.int x1 :: .ref q :: st) (S, (0, 0, sl), M, D, F) Q ↔ (am_cat st ≤ 8 ∧ 2 = 2 ∧ S[q]? = some (.inl 9)) ∧ RR 63 0 [.ref q, .int x1] [] (S, (0, 0, sl), M, D, F) (fun rv μ' => μ'.1.length = S.length ∧ RR 69 48 L (rv.toList ++ st) (μ'.1, (0, 0, sl), μ'.2.2) Q) := rw_call p69_45 rfl (ac63 q x1)
theorem r69_48 : RR 69 48 (.ref q :: l) st μ Q ↔ RR 69 49 (.ref q :: l) (.ref q :: st) μ Q := rw_go p69_48 rfl
theorem r69_49 : RR 69 49 L st μ Q ↔ RR 69 51 L (.int (nI 115) :: st) μ Q := rw_go p69_49 rfl
theorem r69_51 : RR 69 51 L (.int x1 :: .ref q :: st) (S, (0, 0, sl), M, D, F) Q ↔ (am_cat st ≤ 8 ∧ 2 = 2 ∧ S[q]? = some (.inl 9)) ∧ RR 63 0 [.ref q, .int x1] [] (S, (0, 0, sl), M, D, F) (fun rv μ' => μ'.1.length = S.length ∧ RR 69 54 L (rv.toList ++ st) (μ'.1, (0, 0, sl), μ'.2.2) Q) := rw_call p69_51 rfl (ac63 q x1)
theorem r69_54 : RR 69 54 (.ref q :: l) st μ Q ↔ RR 69 55 (.ref q :: l) (.ref q :: st) μ Q := rw_go p69_54 rfl
theorem r69_55 : RR 69 55 L st μ Q ↔ RR 69 57 L (.int (nI 34) :: st) μ Q := rw_go p69_55 rfl
theorem r69_57 : RR 69 57 L (.int x1 :: .ref q :: st) (S, (0, 0, sl), M, D, F) Q ↔ (am_cat st ≤ 8 ∧ 2 = 2 ∧ S[q]? = some (.inl 9)) ∧ RR 63 0 [.ref q, .int x1] [] (S, (0, 0, sl), M, D, F) (fun rv μ' => μ'.1.length = S.length ∧ RR 69 60 L (rv.toList ++ st) (μ'.1, (0, 0, sl), μ'.2.2) Q) := rw_call p69_57 rfl (ac63 q x1)
theorem r69_60 : RR 69 60 (.ref q :: l) st μ Q ↔ RR 69 61 (.ref q :: l) (.ref q :: st) μ Q := rw_go p69_60 rfl
theorem r69_61 : RR 69 61 L st μ Q ↔ RR 69 63 L (.int (nI 58) :: st) μ Q := rw_go p69_61 rfl
theorem r69_63 : RR 69 63 L (.int x1 :: .ref q :: st) (S, (0, 0, sl), M, D, F) Q ↔ (am_cat st ≤ 8 ∧ 2 = 2 ∧ S[q]? = some (.inl 9)) ∧ RR 63 0 [.ref q, .int x1] [] (S, (0, 0, sl), M, D, F) (fun rv μ' => μ'.1.length = S.length ∧ RR 69 66 L (rv.toList ++ st) (μ'.1, (0, 0, sl), μ'.2.2) Q) := rw_call p69_63 rfl (ac63 q x1)
theorem r69_66 : RR 69 66 (.ref q :: l) st μ Q ↔ RR 69 67 (.ref q :: l) (.ref q :: st) μ Q := rw_go p69_66 rfl
theorem r69_67 : RR 69 67 L st μ Q ↔ RR 69 69 L (.int (nI 91) :: st) μ Q := rw_go p69_67 rfl
theorem r69_69 : RR 69 69 L (.int x1 :: .ref q :: st) (S, (0, 0, sl), M, D, F) Q ↔ (am_cat st ≤ 8 ∧ 2 = 2 ∧ S[q]? = some (.inl 9)) ∧ RR 63 0 [.ref q, .int x1] [] (S, (0, 0, sl), M, D, F) (fun rv μ' => μ'.1.length = S.length ∧ RR 69 72 L (rv.toList ++ st) (μ'.1, (0, 0, sl), μ'.2.2) Q) := rw_call p69_69 rfl (ac63 q x1)
theorem r69_72 : RR 69 72 L st μ Q ↔ RR 69 73 L (.int (nI 0) :: st) μ Q := rw_go p69_72 rfl
theorem r69_73 : RR 69 73 (a0 :: c0 :: l) (.int x :: st) μ Q ↔ RR 69 74 (am_nd a0 :: .int x :: l) st μ Q := rw_istn p69_73 (by show 1 < _; simp only [List.length_cons]; omega)
theorem r69_74 : RR 69 74 (a0 :: .int x :: l) st μ Q ↔ RR 69 75 (a0 :: .int x :: l) (.int x :: st) μ Q := rw_go p69_74 rfl
theorem r69_75 : RR 69 75 (.ref q :: l) st μ Q ↔ RR 69 76 (.ref q :: l) (.ref q :: st) μ Q := rw_go p69_75 rfl
theorem r69_76 : RR 69 76 L (.ref q :: st) (S, b, M, D, F) Q ↔ S[q]? = some (.inl 9) ∧ RR 69 79 L (.int (M q 22) :: st) (S, b, M, D, F) Q := rw_c p69_76 rfl
theorem r69_79 : RR 69 79 L (.int y :: .int x :: st) μ Q ↔ if y ≤ x then RR 69 177 L st μ Q else RR 69 82 L st μ Q := rw_if p69_79 rfl
theorem r69_82 : RR 69 82 (a0 :: .int x :: l) st μ Q ↔ RR 69 83 (a0 :: .int x :: l) (.int x :: st) μ Q := rw_go p69_82 rfl
theorem r69_83 : RR 69 83 L (.int x :: st) μ Q ↔ if x ≤ 0 then RR 69 92 L st μ Q else RR 69 86 L st μ Q := rw_if p69_83 rfl
theorem r69_86 : RR 69 86 (.ref q :: l) st μ Q ↔ RR 69 87 (.ref q :: l) (.ref q :: st) μ Q := rw_go p69_86 rfl
theorem r69_87 : RR 69 87 L st μ Q ↔ RR 69 89 L (.int (nI 44) :: st) μ Q := rw_go p69_87 rfl
theorem r69_89 : RR 69 89 L (.int x1 :: .ref q :: st) (S, (0, 0, sl), M, D, F) Q ↔ (am_cat st ≤ 8 ∧ 2 = 2 ∧ S[q]? = some (.inl 9)) ∧ RR 63 0 [.ref q, .int x1] [] (S, (0, 0, sl), M, D, F) (fun rv μ' => μ'.1.length = S.length ∧ RR 69 92 L (rv.toList ++ st) (μ'.1, (0, 0, sl), μ'.2.2) Q) := rw_call p69_89 rfl (ac63 q x1)
theorem r69_92 : RR 69 92 (.ref q :: l) st μ Q ↔ RR 69 93 (.ref q :: l) (.ref q :: st) μ Q := rw_go p69_92 rfl
theorem r69_93 : RR 69 93 L st μ Q ↔ RR 69 95 L (.int (nI 123) :: st) μ Q := rw_go p69_93 rfl
theorem r69_95 : RR 69 95 L (.int x1 :: .ref q :: st) (S, (0, 0, sl), M, D, F) Q ↔ (am_cat st ≤ 8 ∧ 2 = 2 ∧ S[q]? = some (.inl 9)) ∧ RR 63 0 [.ref q, .int x1] [] (S, (0, 0, sl), M, D, F) (fun rv μ' => μ'.1.length = S.length ∧ RR 69 98 L (rv.toList ++ st) (μ'.1, (0, 0, sl), μ'.2.2) Q) := rw_call p69_95 rfl (ac63 q x1)
theorem r69_98 : RR 69 98 (.ref q :: l) st μ Q ↔ RR 69 99 (.ref q :: l) (.ref q :: st) μ Q := rw_go p69_98 rfl
theorem r69_99 : RR 69 99 L st μ Q ↔ RR 69 101 L (.int (nI 119) :: st) μ Q := rw_go p69_99 rfl
theorem r69_101 : RR 69 101 L (.int x1 :: .ref q :: st) (S, (0, 0, sl), M, D, F) Q ↔ (am_cat st ≤ 8 ∧ 2 = 2 ∧ S[q]? = some (.inl 9)) ∧ RR 68 0 [.ref q, .int x1] [] (S, (0, 0, sl), M, D, F) (fun rv μ' => μ'.1.length = S.length ∧ RR 69 104 L (rv.toList ++ st) (μ'.1, (0, 0, sl), μ'.2.2) Q) := rw_call p69_101 rfl (ac68 q x1)
theorem r69_104 : RR 69 104 (.ref q :: l) st μ Q ↔ RR 69 105 (.ref q :: l) (.ref q :: st) μ Q := rw_go p69_104 rfl
theorem r69_105 : RR 69 105 (.ref q :: l) st μ Q ↔ RR 69 106 (.ref q :: l) (.ref q :: st) μ Q := rw_go p69_105 rfl
theorem r69_106 : RR 69 106 L (.ref q :: st) (S, b, M, D, F) Q ↔ S[q]? = some (.inl 9) ∧ RR 69 109 L (va_rf (F q 20) :: st) (S, b, M, D, F) Q := rw_c p69_106 rfl
theorem r69_109 : RR 69 109 (a0 :: .int x :: l) st μ Q ↔ RR 69 110 (a0 :: .int x :: l) (.int x :: st) μ Q := rw_go p69_109 rfl
theorem r69_110 : RR 69 110 L (.int x :: .ref q :: st) (S, b, M, D, F) Q ↔ am_bd S b.2.2 q 0 x ∧ RR 69 111 L (.int (M q x.toInt.toNat) :: st) (S, b, M, D, F) Q := rw_c p69_110 am_xld_eq
theorem r69_111 : RR 69 111 L (.int x1 :: .ref q :: st) (S, (0, 0, sl), M, D, F) Q ↔ (am_cat st ≤ 8 ∧ 2 = 2 ∧ S[q]? = some (.inl 9)) ∧ RR 64 0 [.ref q, .int x1, .long 0] [] (S, (0, 0, sl), M, D, F) (fun rv μ' => μ'.1.length = S.length ∧ RR 69 114 L (rv.toList ++ st) (μ'.1, (0, 0, sl), μ'.2.2) Q) := rw_call p69_111 rfl (ac64 q x1)
theorem r69_114 : RR 69 114 (.ref q :: l) st μ Q ↔ RR 69 115 (.ref q :: l) (.ref q :: st) μ Q := rw_go p69_114 rfl
theorem r69_115 : RR 69 115 L st μ Q ↔ RR 69 117 L (.int (nI 44) :: st) μ Q := rw_go p69_115 rfl
theorem r69_117 : RR 69 117 L (.int x1 :: .ref q :: st) (S, (0, 0, sl), M, D, F) Q ↔ (am_cat st ≤ 8 ∧ 2 = 2 ∧ S[q]? = some (.inl 9)) ∧ RR 63 0 [.ref q, .int x1] [] (S, (0, 0, sl), M, D, F) (fun rv μ' => μ'.1.length = S.length ∧ RR 69 120 L (rv.toList ++ st) (μ'.1, (0, 0, sl), μ'.2.2) Q) := rw_call p69_117 rfl (ac63 q x1)
theorem r69_120 : RR 69 120 (.ref q :: l) st μ Q ↔ RR 69 121 (.ref q :: l) (.ref q :: st) μ Q := rw_go p69_120 rfl
theorem r69_121 : RR 69 121 L st μ Q ↔ RR 69 123 L (.int (nI 110) :: st) μ Q := rw_go p69_121 rfl
theorem r69_123 : RR 69 123 L (.int x1 :: .ref q :: st) (S, (0, 0, sl), M, D, F) Q ↔ (am_cat st ≤ 8 ∧ 2 = 2 ∧ S[q]? = some (.inl 9)) ∧ RR 68 0 [.ref q, .int x1] [] (S, (0, 0, sl), M, D, F) (fun rv μ' => μ'.1.length = S.length ∧ RR 69 126 L (rv.toList ++ st) (μ'.1, (0, 0, sl), μ'.2.2) Q) := rw_call p69_123 rfl (ac68 q x1)
theorem r69_126 : RR 69 126 (.ref q :: l) st μ Q ↔ RR 69 127 (.ref q :: l) (.ref q :: st) μ Q := rw_go p69_126 rfl
theorem r69_127 : RR 69 127 L st μ Q ↔ RR 69 129 L (.int (nI 34) :: st) μ Q := rw_go p69_127 rfl
theorem r69_129 : RR 69 129 L (.int x1 :: .ref q :: st) (S, (0, 0, sl), M, D, F) Q ↔ (am_cat st ≤ 8 ∧ 2 = 2 ∧ S[q]? = some (.inl 9)) ∧ RR 63 0 [.ref q, .int x1] [] (S, (0, 0, sl), M, D, F) (fun rv μ' => μ'.1.length = S.length ∧ RR 69 132 L (rv.toList ++ st) (μ'.1, (0, 0, sl), μ'.2.2) Q) := rw_call p69_129 rfl (ac63 q x1)
theorem r69_132 : RR 69 132 (.ref q :: l) st μ Q ↔ RR 69 133 (.ref q :: l) (.ref q :: st) μ Q := rw_go p69_132 rfl
theorem r69_133 : RR 69 133 (a0 :: .int x :: l) st μ Q ↔ RR 69 134 (a0 :: .int x :: l) (.int x :: st) μ Q := rw_go p69_133 rfl
theorem r69_134 : RR 69 134 L (.int x1 :: .ref q :: st) (S, (0, 0, sl), M, D, F) Q ↔ (am_cat st ≤ 8 ∧ 2 = 2 ∧ S[q]? = some (.inl 9)) ∧ RR 65 0 [.ref q, .int x1, .long 0, .long 0] [] (S, (0, 0, sl), M, D, F) (fun rv μ' => μ'.1.length = S.length ∧ RR 69 137 L (rv.toList ++ st) (μ'.1, (0, 0, sl), μ'.2.2) Q) := rw_call p69_134 rfl (ac65 q x1)
theorem r69_137 : RR 69 137 (.ref q :: l) st μ Q ↔ RR 69 138 (.ref q :: l) (.ref q :: st) μ Q := rw_go p69_137 rfl
theorem r69_138 : RR 69 138 L st μ Q ↔ RR 69 140 L (.int (nI 34) :: st) μ Q := rw_go p69_138 rfl
theorem r69_140 : RR 69 140 L (.int x1 :: .ref q :: st) (S, (0, 0, sl), M, D, F) Q ↔ (am_cat st ≤ 8 ∧ 2 = 2 ∧ S[q]? = some (.inl 9)) ∧ RR 63 0 [.ref q, .int x1] [] (S, (0, 0, sl), M, D, F) (fun rv μ' => μ'.1.length = S.length ∧ RR 69 143 L (rv.toList ++ st) (μ'.1, (0, 0, sl), μ'.2.2) Q) := rw_call p69_140 rfl (ac63 q x1)
theorem r69_143 : RR 69 143 (.ref q :: l) st μ Q ↔ RR 69 144 (.ref q :: l) (.ref q :: st) μ Q := rw_go p69_143 rfl
theorem r69_144 : RR 69 144 L st μ Q ↔ RR 69 146 L (.int (nI 44) :: st) μ Q := rw_go p69_144 rfl
theorem r69_146 : RR 69 146 L (.int x1 :: .ref q :: st) (S, (0, 0, sl), M, D, F) Q ↔ (am_cat st ≤ 8 ∧ 2 = 2 ∧ S[q]? = some (.inl 9)) ∧ RR 63 0 [.ref q, .int x1] [] (S, (0, 0, sl), M, D, F) (fun rv μ' => μ'.1.length = S.length ∧ RR 69 149 L (rv.toList ++ st) (μ'.1, (0, 0, sl), μ'.2.2) Q) := rw_call p69_146 rfl (ac63 q x1)
theorem r69_149 : RR 69 149 (.ref q :: l) st μ Q ↔ RR 69 150 (.ref q :: l) (.ref q :: st) μ Q := rw_go p69_149 rfl
theorem r69_150 : RR 69 150 L st μ Q ↔ RR 69 152 L (.int (nI 99) :: st) μ Q := rw_go p69_150 rfl
theorem r69_152 : RR 69 152 L (.int x1 :: .ref q :: st) (S, (0, 0, sl), M, D, F) Q ↔ (am_cat st ≤ 8 ∧ 2 = 2 ∧ S[q]? = some (.inl 9)) ∧ RR 68 0 [.ref q, .int x1] [] (S, (0, 0, sl), M, D, F) (fun rv μ' => μ'.1.length = S.length ∧ RR 69 155 L (rv.toList ++ st) (μ'.1, (0, 0, sl), μ'.2.2) Q) := rw_call p69_152 rfl (ac68 q x1)
theorem r69_155 : RR 69 155 (.ref q :: l) st μ Q ↔ RR 69 156 (.ref q :: l) (.ref q :: st) μ Q := rw_go p69_155 rfl
theorem r69_156 : RR 69 156 (.ref q :: l) st μ Q ↔ RR 69 157 (.ref q :: l) (.ref q :: st) μ Q := rw_go p69_156 rfl
theorem r69_157 : RR 69 157 L (.ref q :: st) (S, b, M, D, F) Q ↔ S[q]? = some (.inl 9) ∧ RR 69 160 L (va_rf (F q 17) :: st) (S, b, M, D, F) Q := rw_c p69_157 rfl
theorem r69_160 : RR 69 160 (a0 :: .int x :: l) st μ Q ↔ RR 69 161 (a0 :: .int x :: l) (.int x :: st) μ Q := rw_go p69_160 rfl
theorem r69_161 : RR 69 161 L (.int x :: .ref q :: st) (S, b, M, D, F) Q ↔ am_bd S b.2.2 q 0 x ∧ RR 69 162 L (.int (M q x.toInt.toNat) :: st) (S, b, M, D, F) Q := rw_c p69_161 am_xld_eq
theorem r69_162 : RR 69 162 L (.int x1 :: .ref q :: st) (S, (0, 0, sl), M, D, F) Q ↔ (am_cat st ≤ 8 ∧ 2 = 2 ∧ S[q]? = some (.inl 9)) ∧ RR 64 0 [.ref q, .int x1, .long 0] [] (S, (0, 0, sl), M, D, F) (fun rv μ' => μ'.1.length = S.length ∧ RR 69 165 L (rv.toList ++ st) (μ'.1, (0, 0, sl), μ'.2.2) Q) := rw_call p69_162 rfl (ac64 q x1)
theorem r69_165 : RR 69 165 (.ref q :: l) st μ Q ↔ RR 69 166 (.ref q :: l) (.ref q :: st) μ Q := rw_go p69_165 rfl
theorem r69_166 : RR 69 166 L st μ Q ↔ RR 69 168 L (.int (nI 125) :: st) μ Q := rw_go p69_166 rfl
theorem r69_168 : RR 69 168 L (.int x1 :: .ref q :: st) (S, (0, 0, sl), M, D, F) Q ↔ (am_cat st ≤ 8 ∧ 2 = 2 ∧ S[q]? = some (.inl 9)) ∧ RR 63 0 [.ref q, .int x1] [] (S, (0, 0, sl), M, D, F) (fun rv μ' => μ'.1.length = S.length ∧ RR 69 171 L (rv.toList ++ st) (μ'.1, (0, 0, sl), μ'.2.2) Q) := rw_call p69_168 rfl (ac63 q x1)
theorem r69_171 : RR 69 171 (a0 :: .int x :: l) st μ Q ↔ RR 69 174 (am_nd a0 :: .int (x + nI 1) :: l) st μ Q := rw_go p69_171 rfl
theorem r69_174 : RR 69 174 L st μ Q ↔ RR 69 74 L st μ Q := rw_go p69_174 rfl
theorem r69_177 : RR 69 177 (.ref q :: l) st μ Q ↔ RR 69 178 (.ref q :: l) (.ref q :: st) μ Q := rw_go p69_177 rfl
theorem r69_178 : RR 69 178 L st μ Q ↔ RR 69 180 L (.int (nI 93) :: st) μ Q := rw_go p69_178 rfl
theorem r69_180 : RR 69 180 L (.int x1 :: .ref q :: st) (S, (0, 0, sl), M, D, F) Q ↔ (am_cat st ≤ 8 ∧ 2 = 2 ∧ S[q]? = some (.inl 9)) ∧ RR 63 0 [.ref q, .int x1] [] (S, (0, 0, sl), M, D, F) (fun rv μ' => μ'.1.length = S.length ∧ RR 69 183 L (rv.toList ++ st) (μ'.1, (0, 0, sl), μ'.2.2) Q) := rw_call p69_180 rfl (ac63 q x1)
theorem r69_183 : RR 69 183 (.ref q :: l) st μ Q ↔ RR 69 184 (.ref q :: l) (.ref q :: st) μ Q := rw_go p69_183 rfl
theorem r69_184 : RR 69 184 L st μ Q ↔ RR 69 186 L (.int (nI 44) :: st) μ Q := rw_go p69_184 rfl
theorem r69_186 : RR 69 186 L (.int x1 :: .ref q :: st) (S, (0, 0, sl), M, D, F) Q ↔ (am_cat st ≤ 8 ∧ 2 = 2 ∧ S[q]? = some (.inl 9)) ∧ RR 63 0 [.ref q, .int x1] [] (S, (0, 0, sl), M, D, F) (fun rv μ' => μ'.1.length = S.length ∧ RR 69 189 L (rv.toList ++ st) (μ'.1, (0, 0, sl), μ'.2.2) Q) := rw_call p69_186 rfl (ac63 q x1)
theorem r69_189 : RR 69 189 (.ref q :: l) st μ Q ↔ RR 69 190 (.ref q :: l) (.ref q :: st) μ Q := rw_go p69_189 rfl
theorem r69_190 : RR 69 190 L st μ Q ↔ RR 69 192 L (.int (nI 34) :: st) μ Q := rw_go p69_190 rfl
theorem r69_192 : RR 69 192 L (.int x1 :: .ref q :: st) (S, (0, 0, sl), M, D, F) Q ↔ (am_cat st ≤ 8 ∧ 2 = 2 ∧ S[q]? = some (.inl 9)) ∧ RR 63 0 [.ref q, .int x1] [] (S, (0, 0, sl), M, D, F) (fun rv μ' => μ'.1.length = S.length ∧ RR 69 195 L (rv.toList ++ st) (μ'.1, (0, 0, sl), μ'.2.2) Q) := rw_call p69_192 rfl (ac63 q x1)
theorem r69_195 : RR 69 195 (.ref q :: l) st μ Q ↔ RR 69 196 (.ref q :: l) (.ref q :: st) μ Q := rw_go p69_195 rfl
theorem r69_196 : RR 69 196 L st μ Q ↔ RR 69 198 L (.int (nI 97) :: st) μ Q := rw_go p69_196 rfl
theorem r69_198 : RR 69 198 L (.int x1 :: .ref q :: st) (S, (0, 0, sl), M, D, F) Q ↔ (am_cat st ≤ 8 ∧ 2 = 2 ∧ S[q]? = some (.inl 9)) ∧ RR 63 0 [.ref q, .int x1] [] (S, (0, 0, sl), M, D, F) (fun rv μ' => μ'.1.length = S.length ∧ RR 69 201 L (rv.toList ++ st) (μ'.1, (0, 0, sl), μ'.2.2) Q) := rw_call p69_198 rfl (ac63 q x1)
theorem r69_201 : RR 69 201 (.ref q :: l) st μ Q ↔ RR 69 202 (.ref q :: l) (.ref q :: st) μ Q := rw_go p69_201 rfl
theorem r69_202 : RR 69 202 L st μ Q ↔ RR 69 204 L (.int (nI 100) :: st) μ Q := rw_go p69_202 rfl
theorem r69_204 : RR 69 204 L (.int x1 :: .ref q :: st) (S, (0, 0, sl), M, D, F) Q ↔ (am_cat st ≤ 8 ∧ 2 = 2 ∧ S[q]? = some (.inl 9)) ∧ RR 63 0 [.ref q, .int x1] [] (S, (0, 0, sl), M, D, F) (fun rv μ' => μ'.1.length = S.length ∧ RR 69 207 L (rv.toList ++ st) (μ'.1, (0, 0, sl), μ'.2.2) Q) := rw_call p69_204 rfl (ac63 q x1)
theorem r69_207 : RR 69 207 (.ref q :: l) st μ Q ↔ RR 69 208 (.ref q :: l) (.ref q :: st) μ Q := rw_go p69_207 rfl
theorem r69_208 : RR 69 208 L st μ Q ↔ RR 69 210 L (.int (nI 118) :: st) μ Q := rw_go p69_208 rfl
theorem r69_210 : RR 69 210 L (.int x1 :: .ref q :: st) (S, (0, 0, sl), M, D, F) Q ↔ (am_cat st ≤ 8 ∧ 2 = 2 ∧ S[q]? = some (.inl 9)) ∧ RR 63 0 [.ref q, .int x1] [] (S, (0, 0, sl), M, D, F) (fun rv μ' => μ'.1.length = S.length ∧ RR 69 213 L (rv.toList ++ st) (μ'.1, (0, 0, sl), μ'.2.2) Q) := rw_call p69_210 rfl (ac63 q x1)
theorem r69_213 : RR 69 213 (.ref q :: l) st μ Q ↔ RR 69 214 (.ref q :: l) (.ref q :: st) μ Q := rw_go p69_213 rfl
theorem r69_214 : RR 69 214 L st μ Q ↔ RR 69 216 L (.int (nI 105) :: st) μ Q := rw_go p69_214 rfl
theorem r69_216 : RR 69 216 L (.int x1 :: .ref q :: st) (S, (0, 0, sl), M, D, F) Q ↔ (am_cat st ≤ 8 ∧ 2 = 2 ∧ S[q]? = some (.inl 9)) ∧ RR 63 0 [.ref q, .int x1] [] (S, (0, 0, sl), M, D, F) (fun rv μ' => μ'.1.length = S.length ∧ RR 69 219 L (rv.toList ++ st) (μ'.1, (0, 0, sl), μ'.2.2) Q) := rw_call p69_216 rfl (ac63 q x1)
theorem r69_219 : RR 69 219 (.ref q :: l) st μ Q ↔ RR 69 220 (.ref q :: l) (.ref q :: st) μ Q := rw_go p69_219 rfl
theorem r69_220 : RR 69 220 L st μ Q ↔ RR 69 222 L (.int (nI 99) :: st) μ Q := rw_go p69_220 rfl
theorem r69_222 : RR 69 222 L (.int x1 :: .ref q :: st) (S, (0, 0, sl), M, D, F) Q ↔ (am_cat st ≤ 8 ∧ 2 = 2 ∧ S[q]? = some (.inl 9)) ∧ RR 63 0 [.ref q, .int x1] [] (S, (0, 0, sl), M, D, F) (fun rv μ' => μ'.1.length = S.length ∧ RR 69 225 L (rv.toList ++ st) (μ'.1, (0, 0, sl), μ'.2.2) Q) := rw_call p69_222 rfl (ac63 q x1)
theorem r69_225 : RR 69 225 (.ref q :: l) st μ Q ↔ RR 69 226 (.ref q :: l) (.ref q :: st) μ Q := rw_go p69_225 rfl
theorem r69_226 : RR 69 226 L st μ Q ↔ RR 69 228 L (.int (nI 101) :: st) μ Q := rw_go p69_226 rfl
theorem r69_228 : RR 69 228 L (.int x1 :: .ref q :: st) (S, (0, 0, sl), M, D, F) Q ↔ (am_cat st ≤ 8 ∧ 2 = 2 ∧ S[q]? = some (.inl 9)) ∧ RR 63 0 [.ref q, .int x1] [] (S, (0, 0, sl), M, D, F) (fun rv μ' => μ'.1.length = S.length ∧ RR 69 231 L (rv.toList ++ st) (μ'.1, (0, 0, sl), μ'.2.2) Q) := rw_call p69_228 rfl (ac63 q x1)
theorem r69_231 : RR 69 231 (.ref q :: l) st μ Q ↔ RR 69 232 (.ref q :: l) (.ref q :: st) μ Q := rw_go p69_231 rfl
theorem r69_232 : RR 69 232 L st μ Q ↔ RR 69 234 L (.int (nI 34) :: st) μ Q := rw_go p69_232 rfl
theorem r69_234 : RR 69 234 L (.int x1 :: .ref q :: st) (S, (0, 0, sl), M, D, F) Q ↔ (am_cat st ≤ 8 ∧ 2 = 2 ∧ S[q]? = some (.inl 9)) ∧ RR 63 0 [.ref q, .int x1] [] (S, (0, 0, sl), M, D, F) (fun rv μ' => μ'.1.length = S.length ∧ RR 69 237 L (rv.toList ++ st) (μ'.1, (0, 0, sl), μ'.2.2) Q) := rw_call p69_234 rfl (ac63 q x1)
theorem r69_237 : RR 69 237 (.ref q :: l) st μ Q ↔ RR 69 238 (.ref q :: l) (.ref q :: st) μ Q := rw_go p69_237 rfl
theorem r69_238 : RR 69 238 L st μ Q ↔ RR 69 240 L (.int (nI 58) :: st) μ Q := rw_go p69_238 rfl
theorem r69_240 : RR 69 240 L (.int x1 :: .ref q :: st) (S, (0, 0, sl), M, D, F) Q ↔ (am_cat st ≤ 8 ∧ 2 = 2 ∧ S[q]? = some (.inl 9)) ∧ RR 63 0 [.ref q, .int x1] [] (S, (0, 0, sl), M, D, F) (fun rv μ' => μ'.1.length = S.length ∧ RR 69 243 L (rv.toList ++ st) (μ'.1, (0, 0, sl), μ'.2.2) Q) := rw_call p69_240 rfl (ac63 q x1)
theorem r69_243 : RR 69 243 (.ref q :: l) st μ Q ↔ RR 69 244 (.ref q :: l) (.ref q :: st) μ Q := rw_go p69_243 rfl
theorem r69_244 : RR 69 244 L st μ Q ↔ RR 69 246 L (.int (nI 34) :: st) μ Q := rw_go p69_244 rfl
theorem r69_246 : RR 69 246 L (.int x1 :: .ref q :: st) (S, (0, 0, sl), M, D, F) Q ↔ (am_cat st ≤ 8 ∧ 2 = 2 ∧ S[q]? = some (.inl 9)) ∧ RR 63 0 [.ref q, .int x1] [] (S, (0, 0, sl), M, D, F) (fun rv μ' => μ'.1.length = S.length ∧ RR 69 249 L (rv.toList ++ st) (μ'.1, (0, 0, sl), μ'.2.2) Q) := rw_call p69_246 rfl (ac63 q x1)
theorem r69_249 : RR 69 249 (.ref q :: l) st μ Q ↔ RR 69 250 (.ref q :: l) (.ref q :: st) μ Q := rw_go p69_249 rfl
theorem r69_250 : RR 69 250 L (.ref q :: st) (S, (0, 0, sl), M, D, F) Q ↔ (am_cat st ≤ 8 ∧ 1 = 1 ∧ S[q]? = some (.inl 9)) ∧ RR 71 0 [.ref q, .long 0, .long 0, .long 0, .long 0] [] (S, (0, 0, sl), M, D, F) (fun rv μ' => μ'.1.length = S.length ∧ RR 69 253 L (rv.toList ++ st) (μ'.1, (0, 0, sl), μ'.2.2) Q) := rw_call p69_250 rfl (ac71 q)
theorem r69_253 : RR 69 253 (a0 :: c0 :: l) (.int x :: st) μ Q ↔ RR 69 254 (am_nd a0 :: .int x :: l) st μ Q := rw_istn p69_253 (by show 1 < _; simp only [List.length_cons]; omega)
theorem r69_254 : RR 69 254 (.ref q :: l) st μ Q ↔ RR 69 255 (.ref q :: l) (.ref q :: st) μ Q := rw_go p69_254 rfl
theorem r69_255 : RR 69 255 (a0 :: .int x :: l) st μ Q ↔ RR 69 256 (a0 :: .int x :: l) (.int x :: st) μ Q := rw_go p69_255 rfl
theorem r69_256 : RR 69 256 L st μ Q ↔ RR 69 258 L (.int (nI 1000000) :: st) μ Q := rw_go p69_256 rfl
theorem r69_258 : RR 69 258 L (.int y :: .int x :: st) μ Q ↔ ¬ y = 0 ∧ RR 69 259 L (.int (x / y) :: st) μ Q := rw_n p69_258 rfl
theorem r69_259 : RR 69 259 L (.int x1 :: .ref q :: st) (S, (0, 0, sl), M, D, F) Q ↔ (am_cat st ≤ 8 ∧ 2 = 2 ∧ S[q]? = some (.inl 9)) ∧ RR 64 0 [.ref q, .int x1, .long 0] [] (S, (0, 0, sl), M, D, F) (fun rv μ' => μ'.1.length = S.length ∧ RR 69 262 L (rv.toList ++ st) (μ'.1, (0, 0, sl), μ'.2.2) Q) := rw_call p69_259 rfl (ac64 q x1)
theorem r69_262 : RR 69 262 (.ref q :: l) st μ Q ↔ RR 69 263 (.ref q :: l) (.ref q :: st) μ Q := rw_go p69_262 rfl
theorem r69_263 : RR 69 263 L st μ Q ↔ RR 69 265 L (.int (nI 46) :: st) μ Q := rw_go p69_263 rfl
theorem r69_265 : RR 69 265 L (.int x1 :: .ref q :: st) (S, (0, 0, sl), M, D, F) Q ↔ (am_cat st ≤ 8 ∧ 2 = 2 ∧ S[q]? = some (.inl 9)) ∧ RR 63 0 [.ref q, .int x1] [] (S, (0, 0, sl), M, D, F) (fun rv μ' => μ'.1.length = S.length ∧ RR 69 268 L (rv.toList ++ st) (μ'.1, (0, 0, sl), μ'.2.2) Q) := rw_call p69_265 rfl (ac63 q x1)
theorem r69_268 : RR 69 268 (.ref q :: l) st μ Q ↔ RR 69 269 (.ref q :: l) (.ref q :: st) μ Q := rw_go p69_268 rfl
theorem r69_269 : RR 69 269 (a0 :: .int x :: l) st μ Q ↔ RR 69 270 (a0 :: .int x :: l) (.int x :: st) μ Q := rw_go p69_269 rfl
theorem r69_270 : RR 69 270 L st μ Q ↔ RR 69 273 L (.int (nI 1000) :: st) μ Q := rw_go p69_270 rfl
theorem r69_273 : RR 69 273 L (.int y :: .int x :: st) μ Q ↔ ¬ y = 0 ∧ RR 69 274 L (.int (x / y) :: st) μ Q := rw_n p69_273 rfl
theorem r69_274 : RR 69 274 L st μ Q ↔ RR 69 277 L (.int (nI 1000) :: st) μ Q := rw_go p69_274 rfl
theorem r69_277 : RR 69 277 L (.int y :: .int x :: st) μ Q ↔ ¬ y = 0 ∧ RR 69 278 L (.int (x - x / y * y) :: st) μ Q := rw_n p69_277 rfl
theorem r69_278 : RR 69 278 L (.int x1 :: .ref q :: st) (S, (0, 0, sl), M, D, F) Q ↔ (am_cat st ≤ 8 ∧ 2 = 2 ∧ S[q]? = some (.inl 9)) ∧ RR 64 0 [.ref q, .int x1, .long 0] [] (S, (0, 0, sl), M, D, F) (fun rv μ' => μ'.1.length = S.length ∧ RR 69 281 L (rv.toList ++ st) (μ'.1, (0, 0, sl), μ'.2.2) Q) := rw_call p69_278 rfl (ac64 q x1)
theorem r69_281 : RR 69 281 (.ref q :: l) st μ Q ↔ RR 69 282 (.ref q :: l) (.ref q :: st) μ Q := rw_go p69_281 rfl
theorem r69_282 : RR 69 282 L st μ Q ↔ RR 69 284 L (.int (nI 46) :: st) μ Q := rw_go p69_282 rfl
theorem r69_284 : RR 69 284 L (.int x1 :: .ref q :: st) (S, (0, 0, sl), M, D, F) Q ↔ (am_cat st ≤ 8 ∧ 2 = 2 ∧ S[q]? = some (.inl 9)) ∧ RR 63 0 [.ref q, .int x1] [] (S, (0, 0, sl), M, D, F) (fun rv μ' => μ'.1.length = S.length ∧ RR 69 287 L (rv.toList ++ st) (μ'.1, (0, 0, sl), μ'.2.2) Q) := rw_call p69_284 rfl (ac63 q x1)
theorem r69_287 : RR 69 287 (.ref q :: l) st μ Q ↔ RR 69 288 (.ref q :: l) (.ref q :: st) μ Q := rw_go p69_287 rfl
theorem r69_288 : RR 69 288 (a0 :: .int x :: l) st μ Q ↔ RR 69 289 (a0 :: .int x :: l) (.int x :: st) μ Q := rw_go p69_288 rfl
theorem r69_289 : RR 69 289 L st μ Q ↔ RR 69 292 L (.int (nI 1000) :: st) μ Q := rw_go p69_289 rfl
theorem r69_292 : RR 69 292 L (.int y :: .int x :: st) μ Q ↔ ¬ y = 0 ∧ RR 69 293 L (.int (x - x / y * y) :: st) μ Q := rw_n p69_292 rfl
theorem r69_293 : RR 69 293 L (.int x1 :: .ref q :: st) (S, (0, 0, sl), M, D, F) Q ↔ (am_cat st ≤ 8 ∧ 2 = 2 ∧ S[q]? = some (.inl 9)) ∧ RR 64 0 [.ref q, .int x1, .long 0] [] (S, (0, 0, sl), M, D, F) (fun rv μ' => μ'.1.length = S.length ∧ RR 69 296 L (rv.toList ++ st) (μ'.1, (0, 0, sl), μ'.2.2) Q) := rw_call p69_293 rfl (ac64 q x1)
theorem r69_296 : RR 69 296 (.ref q :: l) st μ Q ↔ RR 69 297 (.ref q :: l) (.ref q :: st) μ Q := rw_go p69_296 rfl
theorem r69_297 : RR 69 297 L st μ Q ↔ RR 69 299 L (.int (nI 34) :: st) μ Q := rw_go p69_297 rfl
theorem r69_299 : RR 69 299 L (.int x1 :: .ref q :: st) (S, (0, 0, sl), M, D, F) Q ↔ (am_cat st ≤ 8 ∧ 2 = 2 ∧ S[q]? = some (.inl 9)) ∧ RR 63 0 [.ref q, .int x1] [] (S, (0, 0, sl), M, D, F) (fun rv μ' => μ'.1.length = S.length ∧ RR 69 302 L (rv.toList ++ st) (μ'.1, (0, 0, sl), μ'.2.2) Q) := rw_call p69_299 rfl (ac63 q x1)
theorem r69_302 : RR 69 302 (.ref q :: l) st μ Q ↔ RR 69 303 (.ref q :: l) (.ref q :: st) μ Q := rw_go p69_302 rfl
theorem r69_303 : RR 69 303 L st μ Q ↔ RR 69 305 L (.int (nI 125) :: st) μ Q := rw_go p69_303 rfl
theorem r69_305 : RR 69 305 L (.int x1 :: .ref q :: st) (S, (0, 0, sl), M, D, F) Q ↔ (am_cat st ≤ 8 ∧ 2 = 2 ∧ S[q]? = some (.inl 9)) ∧ RR 63 0 [.ref q, .int x1] [] (S, (0, 0, sl), M, D, F) (fun rv μ' => μ'.1.length = S.length ∧ RR 69 308 L (rv.toList ++ st) (μ'.1, (0, 0, sl), μ'.2.2) Q) := rw_call p69_305 rfl (ac63 q x1)
theorem r69_308 : RR 69 308 L [] μ Q ↔ Q none μ := rw_r p69_308 rfl
/-! ReleaseDeskModel.report -/
theorem r70_0 : RR 70 0 (.ref q :: l) st μ Q ↔ RR 70 1 (.ref q :: l) (.ref q :: st) μ Q := rw_go p70_0 rfl
theorem r70_1 : RR 70 1 L (.ref q :: st) (S, (0, 0, sl), M, D, F) Q ↔ (am_cat st ≤ 8 ∧ 1 = 1 ∧ S[q]? = some (.inl 9)) ∧ RR 59 0 [.ref q, .long 0] [] (S, (0, 0, sl), M, D, F) (fun rv μ' => μ'.1.length = S.length ∧ RR 70 4 L (rv.toList ++ st) (μ'.1, (0, 0, sl), μ'.2.2) Q) := rw_call p70_1 rfl (ac59 q)
theorem r70_4 : RR 70 4 (.ref q :: l) st μ Q ↔ RR 70 5 (.ref q :: l) (.ref q :: st) μ Q := rw_go p70_4 rfl
theorem r70_5 : RR 70 5 (a0 :: a1 :: .int x :: l) st μ Q ↔ RR 70 6 (a0 :: a1 :: .int x :: l) (.int x :: st) μ Q := rw_go p70_5 rfl
theorem r70_6 : RR 70 6 L (.int x :: .ref q :: st) (S, b, M, D, F) Q ↔ S[q]? = some (.inl 9) ∧ RR 70 9 L st (S, b, am_up M q 25 x, D, F) Q := rw_c p70_6 rfl
theorem r70_9 : RR 70 9 (.ref q :: l) st μ Q ↔ RR 70 10 (.ref q :: l) (.ref q :: st) μ Q := rw_go p70_9 rfl
theorem r70_10 : RR 70 10 L st μ Q ↔ RR 70 11 L (.int (nI 0) :: st) μ Q := rw_go p70_10 rfl
theorem r70_11 : RR 70 11 L (.int x :: .ref q :: st) (S, b, M, D, F) Q ↔ S[q]? = some (.inl 9) ∧ RR 70 14 L st (S, b, am_up M q 26 x, D, F) Q := rw_c p70_11 rfl
theorem r70_14 : RR 70 14 (.ref q :: l) st μ Q ↔ RR 70 15 (.ref q :: l) (.ref q :: st) μ Q := rw_go p70_14 rfl
theorem r70_15 : RR 70 15 L st μ Q ↔ RR 70 17 L (.int ((-2)) :: st) μ Q := rw_go p70_15 rfl
theorem r70_17 : RR 70 17 L (.int x :: .ref q :: st) (S, b, M, D, F) Q ↔ S[q]? = some (.inl 9) ∧ RR 70 20 L st (S, b, am_up M q 27 x, D, F) Q := rw_c p70_17 rfl
theorem r70_20 : RR 70 20 (a0 :: .int x :: l) st μ Q ↔ RR 70 21 (a0 :: .int x :: l) (.int x :: st) μ Q := rw_go p70_20 rfl
theorem r70_21 : RR 70 21 L (.int x :: st) μ Q ↔ if x = 0 then RR 70 31 L st μ Q else RR 70 24 L st μ Q := rw_if p70_21 rfl
theorem r70_24 : RR 70 24 (.ref q :: l) st μ Q ↔ RR 70 25 (.ref q :: l) (.ref q :: st) μ Q := rw_go p70_24 rfl
theorem r70_25 : RR 70 25 L (.ref q :: st) (S, (0, 0, sl), M, D, F) Q ↔ (am_cat st ≤ 8 ∧ 1 = 1 ∧ S[q]? = some (.inl 9)) ∧ RR 69 0 [.ref q, .long 0] [] (S, (0, 0, sl), M, D, F) (fun rv μ' => μ'.1.length = S.length ∧ RR 70 28 L (rv.toList ++ st) (μ'.1, (0, 0, sl), μ'.2.2) Q) := rw_call p70_25 rfl (ac69 q)
theorem r70_28 : RR 70 28 L st μ Q ↔ RR 70 35 L st μ Q := rw_go p70_28 rfl
theorem r70_31 : RR 70 31 (.ref q :: l) st μ Q ↔ RR 70 32 (.ref q :: l) (.ref q :: st) μ Q := rw_go p70_31 rfl
theorem r70_32 : RR 70 32 L (.ref q :: st) (S, (0, 0, sl), M, D, F) Q ↔ (am_cat st ≤ 8 ∧ 1 = 1 ∧ S[q]? = some (.inl 9)) ∧ RR 67 0 [.ref q, .long 0] [] (S, (0, 0, sl), M, D, F) (fun rv μ' => μ'.1.length = S.length ∧ RR 70 35 L (rv.toList ++ st) (μ'.1, (0, 0, sl), μ'.2.2) Q) := rw_call p70_32 rfl (ac67 q)
theorem r70_35 : RR 70 35 (a0 :: a1 :: .int x :: l) st μ Q ↔ RR 70 36 (a0 :: a1 :: .int x :: l) (.int x :: st) μ Q := rw_go p70_35 rfl
theorem r70_36 : RR 70 36 L st μ Q ↔ RR 70 37 L (.int ((-1)) :: st) μ Q := rw_go p70_36 rfl
theorem r70_37 : RR 70 37 L (.int y :: .int x :: st) μ Q ↔ if ¬ x = y then RR 70 47 L st μ Q else RR 70 40 L st μ Q := rw_if p70_37 rfl
theorem r70_40 : RR 70 40 (.ref q :: l) st μ Q ↔ RR 70 41 (.ref q :: l) (.ref q :: st) μ Q := rw_go p70_40 rfl
theorem r70_41 : RR 70 41 L (.ref q :: st) (S, b, M, D, F) Q ↔ S[q]? = some (.inl 9) ∧ RR 70 44 L (.int (M q 26) :: st) (S, b, M, D, F) Q := rw_c p70_41 rfl
theorem r70_44 : RR 70 44 L st μ Q ↔ RR 70 51 L st μ Q := rw_go p70_44 rfl
theorem r70_47 : RR 70 47 (.ref q :: l) st μ Q ↔ RR 70 48 (.ref q :: l) (.ref q :: st) μ Q := rw_go p70_47 rfl
theorem r70_48 : RR 70 48 L (.ref q :: st) (S, b, M, D, F) Q ↔ S[q]? = some (.inl 9) ∧ RR 70 51 L (.int (M q 27) :: st) (S, b, M, D, F) Q := rw_c p70_48 rfl
theorem r70_51 : RR 70 51 L [.int x] μ Q ↔ Q (some (.int x)) μ := rw_r p70_51 rfl
/-! ReleaseDeskModel.advised -/
theorem r71_0 : RR 71 0 L st μ Q ↔ RR 71 2 L (.int (nI 1000000) :: st) μ Q := rw_go p71_0 rfl
theorem r71_2 : RR 71 2 (.ref q :: l) st μ Q ↔ RR 71 3 (.ref q :: l) (.ref q :: st) μ Q := rw_go p71_2 rfl
theorem r71_3 : RR 71 3 L (.ref q :: st) (S, b, M, D, F) Q ↔ S[q]? = some (.inl 9) ∧ RR 71 6 L (.int (M q 14) :: st) (S, b, M, D, F) Q := rw_c p71_3 rfl
theorem r71_6 : RR 71 6 L (.int y :: .int x :: st) μ Q ↔ RR 71 7 L (.int (x * y) :: st) μ Q := rw_go p71_6 rfl
theorem r71_7 : RR 71 7 L st μ Q ↔ RR 71 10 L (.int (nI 1000) :: st) μ Q := rw_go p71_7 rfl
theorem r71_10 : RR 71 10 (.ref q :: l) st μ Q ↔ RR 71 11 (.ref q :: l) (.ref q :: st) μ Q := rw_go p71_10 rfl
theorem r71_11 : RR 71 11 L (.ref q :: st) (S, b, M, D, F) Q ↔ S[q]? = some (.inl 9) ∧ RR 71 14 L (.int (M q 15) :: st) (S, b, M, D, F) Q := rw_c p71_11 rfl
theorem r71_14 : RR 71 14 L (.int y :: .int x :: st) μ Q ↔ RR 71 15 L (.int (x * y) :: st) μ Q := rw_go p71_14 rfl
theorem r71_15 : RR 71 15 L (.int y :: .int x :: st) μ Q ↔ RR 71 16 L (.int (x + y) :: st) μ Q := rw_go p71_15 rfl
theorem r71_16 : RR 71 16 (.ref q :: l) st μ Q ↔ RR 71 17 (.ref q :: l) (.ref q :: st) μ Q := rw_go p71_16 rfl
theorem r71_17 : RR 71 17 L (.ref q :: st) (S, b, M, D, F) Q ↔ S[q]? = some (.inl 9) ∧ RR 71 20 L (.int (M q 16) :: st) (S, b, M, D, F) Q := rw_c p71_17 rfl
theorem r71_20 : RR 71 20 L (.int y :: .int x :: st) μ Q ↔ RR 71 21 L (.int (x + y) :: st) μ Q := rw_go p71_20 rfl
theorem r71_21 : RR 71 21 (a0 :: c0 :: l) (.int x :: st) μ Q ↔ RR 71 22 (am_nd a0 :: .int x :: l) st μ Q := rw_istn p71_21 (by show 1 < _; simp only [List.length_cons]; omega)
theorem r71_22 : RR 71 22 L st μ Q ↔ RR 71 23 L (.int (nI 0) :: st) μ Q := rw_go p71_22 rfl
theorem r71_23 : RR 71 23 (a0 :: a1 :: c0 :: l) (.int x :: st) μ Q ↔ RR 71 24 (a0 :: am_nd a1 :: .int x :: l) st μ Q := rw_istn p71_23 (by show 2 < _; simp only [List.length_cons]; omega)
theorem r71_24 : RR 71 24 L st μ Q ↔ RR 71 25 L (.int (nI 0) :: st) μ Q := rw_go p71_24 rfl
theorem r71_25 : RR 71 25 (a0 :: a1 :: a2 :: c0 :: l) (.int x :: st) μ Q ↔ RR 71 26 (a0 :: a1 :: am_nd a2 :: .int x :: l) st μ Q := rw_istn p71_25 (by show 3 < _; simp only [List.length_cons]; omega)
theorem r71_26 : RR 71 26 (a0 :: a1 :: a2 :: .int x :: l) st μ Q ↔ RR 71 27 (a0 :: a1 :: a2 :: .int x :: l) (.int x :: st) μ Q := rw_go p71_26 rfl
theorem r71_27 : RR 71 27 (.ref q :: l) st μ Q ↔ RR 71 28 (.ref q :: l) (.ref q :: st) μ Q := rw_go p71_27 rfl
theorem r71_28 : RR 71 28 L (.ref q :: st) (S, b, M, D, F) Q ↔ S[q]? = some (.inl 9) ∧ RR 71 31 L (.int (M q 22) :: st) (S, b, M, D, F) Q := rw_c p71_28 rfl
theorem r71_31 : RR 71 31 L (.int y :: .int x :: st) μ Q ↔ if y ≤ x then RR 71 91 L st μ Q else RR 71 34 L st μ Q := rw_if p71_31 rfl
theorem r71_34 : RR 71 34 (.ref q :: l) st μ Q ↔ RR 71 35 (.ref q :: l) (.ref q :: st) μ Q := rw_go p71_34 rfl
theorem r71_35 : RR 71 35 L (.ref q :: st) (S, b, M, D, F) Q ↔ S[q]? = some (.inl 9) ∧ RR 71 38 L (va_rf (F q 17) :: st) (S, b, M, D, F) Q := rw_c p71_35 rfl
theorem r71_38 : RR 71 38 (a0 :: a1 :: a2 :: .int x :: l) st μ Q ↔ RR 71 39 (a0 :: a1 :: a2 :: .int x :: l) (.int x :: st) μ Q := rw_go p71_38 rfl
theorem r71_39 : RR 71 39 L (.int x :: .ref q :: st) (S, b, M, D, F) Q ↔ am_bd S b.2.2 q 0 x ∧ RR 71 40 L (.int (M q x.toInt.toNat) :: st) (S, b, M, D, F) Q := rw_c p71_39 am_xld_eq
theorem r71_40 : RR 71 40 (a0 :: a1 :: a2 :: a3 :: c0 :: l) (.int x :: st) μ Q ↔ RR 71 42 (a0 :: a1 :: a2 :: am_nd a3 :: .int x :: l) st μ Q := rw_ist p71_40 (by show 4 < _; simp only [List.length_cons]; omega)
theorem r71_42 : RR 71 42 (a0 :: a1 :: a2 :: a3 :: .int x :: l) st μ Q ↔ RR 71 44 (a0 :: a1 :: a2 :: a3 :: .int x :: l) (.int x :: st) μ Q := rw_go p71_42 rfl
theorem r71_44 : RR 71 44 L st μ Q ↔ RR 71 45 L (.int (nI 3) :: st) μ Q := rw_go p71_44 rfl
theorem r71_45 : RR 71 45 L (.int y :: .int x :: st) μ Q ↔ if x = y then RR 71 83 L st μ Q else RR 71 48 L st μ Q := rw_if p71_45 rfl
theorem r71_48 : RR 71 48 (a0 :: a1 :: a2 :: a3 :: .int x :: l) st μ Q ↔ RR 71 50 (a0 :: a1 :: a2 :: a3 :: .int x :: l) (.int x :: st) μ Q := rw_go p71_48 rfl
theorem r71_50 : RR 71 50 L st μ Q ↔ RR 71 52 L (.int (nI 11) :: st) μ Q := rw_go p71_50 rfl
theorem r71_52 : RR 71 52 L (.int y :: .int x :: st) μ Q ↔ if x = y then RR 71 83 L st μ Q else RR 71 55 L st μ Q := rw_if p71_52 rfl
theorem r71_55 : RR 71 55 (a0 :: a1 :: a2 :: a3 :: .int x :: l) st μ Q ↔ RR 71 57 (a0 :: a1 :: a2 :: a3 :: .int x :: l) (.int x :: st) μ Q := rw_go p71_55 rfl
theorem r71_57 : RR 71 57 L st μ Q ↔ RR 71 59 L (.int (nI 23) :: st) μ Q := rw_go p71_57 rfl
theorem r71_59 : RR 71 59 L (.int y :: .int x :: st) μ Q ↔ if x = y then RR 71 83 L st μ Q else RR 71 62 L st μ Q := rw_if p71_59 rfl
theorem r71_62 : RR 71 62 (a0 :: a1 :: a2 :: a3 :: .int x :: l) st μ Q ↔ RR 71 64 (a0 :: a1 :: a2 :: a3 :: .int x :: l) (.int x :: st) μ Q := rw_go p71_62 rfl
theorem r71_64 : RR 71 64 L st μ Q ↔ RR 71 66 L (.int (nI 24) :: st) μ Q := rw_go p71_64 rfl
theorem r71_66 : RR 71 66 L (.int y :: .int x :: st) μ Q ↔ if x = y then RR 71 83 L st μ Q else RR 71 69 L st μ Q := rw_if p71_66 rfl
theorem r71_69 : RR 71 69 (a0 :: a1 :: a2 :: a3 :: .int x :: l) st μ Q ↔ RR 71 71 (a0 :: a1 :: a2 :: a3 :: .int x :: l) (.int x :: st) μ Q := rw_go p71_69 rfl
theorem r71_71 : RR 71 71 L st μ Q ↔ RR 71 73 L (.int (nI 25) :: st) μ Q := rw_go p71_71 rfl
theorem r71_73 : RR 71 73 L (.int y :: .int x :: st) μ Q ↔ if x = y then RR 71 83 L st μ Q else RR 71 76 L st μ Q := rw_if p71_73 rfl
theorem r71_76 : RR 71 76 (a0 :: a1 :: a2 :: a3 :: .int x :: l) st μ Q ↔ RR 71 78 (a0 :: a1 :: a2 :: a3 :: .int x :: l) (.int x :: st) μ Q := rw_go p71_76 rfl
theorem r71_78 : RR 71 78 L st μ Q ↔ RR 71 80 L (.int (nI 33) :: st) μ Q := rw_go p71_78 rfl
theorem r71_80 : RR 71 80 L (.int y :: .int x :: st) μ Q ↔ if ¬ x = y then RR 71 85 L st μ Q else RR 71 83 L st μ Q := rw_if p71_80 rfl
theorem r71_83 : RR 71 83 L st μ Q ↔ RR 71 84 L (.int (nI 1) :: st) μ Q := rw_go p71_83 rfl
theorem r71_84 : RR 71 84 (a0 :: a1 :: c0 :: l) (.int x :: st) μ Q ↔ RR 71 85 (a0 :: am_nd a1 :: .int x :: l) st μ Q := rw_istn p71_84 (by show 2 < _; simp only [List.length_cons]; omega)
theorem r71_85 : RR 71 85 (a0 :: a1 :: a2 :: .int x :: l) st μ Q ↔ RR 71 88 (a0 :: a1 :: am_nd a2 :: .int (x + nI 1) :: l) st μ Q := rw_go p71_85 rfl
theorem r71_88 : RR 71 88 L st μ Q ↔ RR 71 26 L st μ Q := rw_go p71_88 rfl
theorem r71_91 : RR 71 91 (.ref q :: l) st μ Q ↔ RR 71 92 (.ref q :: l) (.ref q :: st) μ Q := rw_go p71_91 rfl
theorem r71_92 : RR 71 92 L st μ Q ↔ RR 71 93 L (.int (nI 3) :: st) μ Q := rw_go p71_92 rfl
theorem r71_93 : RR 71 93 L (.int x1 :: .ref q :: st) (S, (0, 0, sl), M, D, F) Q ↔ (am_cat st ≤ 8 ∧ 2 = 2 ∧ S[q]? = some (.inl 9)) ∧ RR 66 0 [.ref q, .int x1, .long 0, .long 0] [] (S, (0, 0, sl), M, D, F) (fun rv μ' => μ'.1.length = S.length ∧ RR 71 96 L (rv.toList ++ st) (μ'.1, (0, 0, sl), μ'.2.2) Q) := rw_call p71_93 rfl (ac66 q x1)
theorem r71_96 : RR 71 96 L (.int x :: st) μ Q ↔ if x ≤ 0 then RR 71 116 L st μ Q else RR 71 99 L st μ Q := rw_if p71_96 rfl
theorem r71_99 : RR 71 99 (.ref q :: l) st μ Q ↔ RR 71 100 (.ref q :: l) (.ref q :: st) μ Q := rw_go p71_99 rfl
theorem r71_100 : RR 71 100 L (.ref q :: st) (S, b, M, D, F) Q ↔ S[q]? = some (.inl 9) ∧ RR 71 103 L (.int (M q 14) :: st) (S, b, M, D, F) Q := rw_c p71_100 rfl
theorem r71_103 : RR 71 103 L (.int x :: st) μ Q ↔ if x ≤ 0 then RR 71 116 L st μ Q else RR 71 106 L st μ Q := rw_if p71_103 rfl
theorem r71_106 : RR 71 106 L st μ Q ↔ RR 71 108 L (.int (nI 1000000) :: st) μ Q := rw_go p71_106 rfl
theorem r71_108 : RR 71 108 (.ref q :: l) st μ Q ↔ RR 71 109 (.ref q :: l) (.ref q :: st) μ Q := rw_go p71_108 rfl
theorem r71_109 : RR 71 109 L (.ref q :: st) (S, b, M, D, F) Q ↔ S[q]? = some (.inl 9) ∧ RR 71 112 L (.int (M q 14) :: st) (S, b, M, D, F) Q := rw_c p71_109 rfl
theorem r71_112 : RR 71 112 L st μ Q ↔ RR 71 113 L (.int (nI 1) :: st) μ Q := rw_go p71_112 rfl
theorem r71_113 : RR 71 113 L (.int y :: .int x :: st) μ Q ↔ RR 71 114 L (.int (x + y) :: st) μ Q := rw_go p71_113 rfl
theorem r71_114 : RR 71 114 L (.int y :: .int x :: st) μ Q ↔ RR 71 115 L (.int (x * y) :: st) μ Q := rw_go p71_114 rfl
theorem r71_115 : RR 71 115 L [.int x] μ Q ↔ Q (some (.int x)) μ := rw_r p71_115 rfl
theorem r71_116 : RR 71 116 (.ref q :: l) st μ Q ↔ RR 71 117 (.ref q :: l) (.ref q :: st) μ Q := rw_go p71_116 rfl
theorem r71_117 : RR 71 117 L st μ Q ↔ RR 71 118 L (.int (nI 3) :: st) μ Q := rw_go p71_117 rfl
theorem r71_118 : RR 71 118 L (.int x1 :: .ref q :: st) (S, (0, 0, sl), M, D, F) Q ↔ (am_cat st ≤ 8 ∧ 2 = 2 ∧ S[q]? = some (.inl 9)) ∧ RR 66 0 [.ref q, .int x1, .long 0, .long 0] [] (S, (0, 0, sl), M, D, F) (fun rv μ' => μ'.1.length = S.length ∧ RR 71 121 L (rv.toList ++ st) (μ'.1, (0, 0, sl), μ'.2.2) Q) := rw_call p71_118 rfl (ac66 q x1)
theorem r71_121 : RR 71 121 L (.int x :: st) μ Q ↔ if 0 < x then RR 71 128 L st μ Q else RR 71 124 L st μ Q := rw_if p71_121 rfl
theorem r71_124 : RR 71 124 (a0 :: a1 :: .int x :: l) st μ Q ↔ RR 71 125 (a0 :: a1 :: .int x :: l) (.int x :: st) μ Q := rw_go p71_124 rfl
theorem r71_125 : RR 71 125 L (.int x :: st) μ Q ↔ if x = 0 then RR 71 147 L st μ Q else RR 71 128 L st μ Q := rw_if p71_125 rfl
theorem r71_128 : RR 71 128 L st μ Q ↔ RR 71 130 L (.int (nI 1000000) :: st) μ Q := rw_go p71_128 rfl
theorem r71_130 : RR 71 130 (.ref q :: l) st μ Q ↔ RR 71 131 (.ref q :: l) (.ref q :: st) μ Q := rw_go p71_130 rfl
theorem r71_131 : RR 71 131 L (.ref q :: st) (S, b, M, D, F) Q ↔ S[q]? = some (.inl 9) ∧ RR 71 134 L (.int (M q 14) :: st) (S, b, M, D, F) Q := rw_c p71_131 rfl
theorem r71_134 : RR 71 134 L (.int y :: .int x :: st) μ Q ↔ RR 71 135 L (.int (x * y) :: st) μ Q := rw_go p71_134 rfl
theorem r71_135 : RR 71 135 L st μ Q ↔ RR 71 138 L (.int (nI 1000) :: st) μ Q := rw_go p71_135 rfl
theorem r71_138 : RR 71 138 (.ref q :: l) st μ Q ↔ RR 71 139 (.ref q :: l) (.ref q :: st) μ Q := rw_go p71_138 rfl
theorem r71_139 : RR 71 139 L (.ref q :: st) (S, b, M, D, F) Q ↔ S[q]? = some (.inl 9) ∧ RR 71 142 L (.int (M q 15) :: st) (S, b, M, D, F) Q := rw_c p71_139 rfl
theorem r71_142 : RR 71 142 L st μ Q ↔ RR 71 143 L (.int (nI 1) :: st) μ Q := rw_go p71_142 rfl
theorem r71_143 : RR 71 143 L (.int y :: .int x :: st) μ Q ↔ RR 71 144 L (.int (x + y) :: st) μ Q := rw_go p71_143 rfl
theorem r71_144 : RR 71 144 L (.int y :: .int x :: st) μ Q ↔ RR 71 145 L (.int (x * y) :: st) μ Q := rw_go p71_144 rfl
theorem r71_145 : RR 71 145 L (.int y :: .int x :: st) μ Q ↔ RR 71 146 L (.int (x + y) :: st) μ Q := rw_go p71_145 rfl
theorem r71_146 : RR 71 146 L [.int x] μ Q ↔ Q (some (.int x)) μ := rw_r p71_146 rfl
theorem r71_147 : RR 71 147 (a0 :: .int x :: l) st μ Q ↔ RR 71 148 (a0 :: .int x :: l) (.int x :: st) μ Q := rw_go p71_147 rfl
theorem r71_148 : RR 71 148 L st μ Q ↔ RR 71 149 L (.int (nI 1) :: st) μ Q := rw_go p71_148 rfl
theorem r71_149 : RR 71 149 L (.int y :: .int x :: st) μ Q ↔ RR 71 150 L (.int (x + y) :: st) μ Q := rw_go p71_149 rfl
theorem r71_150 : RR 71 150 L [.int x] μ Q ↔ Q (some (.int x)) μ := rw_r p71_150 rfl
/-! ReleaseDeskModel.advice -/
theorem r72_0 : RR 72 0 (.ref q :: l) st μ Q ↔ RR 72 1 (.ref q :: l) (.ref q :: st) μ Q := rw_go p72_0 rfl
theorem r72_1 : RR 72 1 L (.ref q :: st) (S, (0, 0, sl), M, D, F) Q ↔ (am_cat st ≤ 8 ∧ 1 = 1 ∧ S[q]? = some (.inl 9)) ∧ RR 59 0 [.ref q, .long 0] [] (S, (0, 0, sl), M, D, F) (fun rv μ' => μ'.1.length = S.length ∧ RR 72 4 L (rv.toList ++ st) (μ'.1, (0, 0, sl), μ'.2.2) Q) := rw_call p72_1 rfl (ac59 q)
theorem r72_4 : RR 72 4 (.ref q :: l) st μ Q ↔ RR 72 5 (.ref q :: l) (.ref q :: st) μ Q := rw_go p72_4 rfl
theorem r72_5 : RR 72 5 L (.ref q :: st) (S, (0, 0, sl), M, D, F) Q ↔ (am_cat st ≤ 8 ∧ 1 = 1 ∧ S[q]? = some (.inl 9)) ∧ RR 71 0 [.ref q, .long 0, .long 0, .long 0, .long 0] [] (S, (0, 0, sl), M, D, F) (fun rv μ' => μ'.1.length = S.length ∧ RR 72 8 L (rv.toList ++ st) (μ'.1, (0, 0, sl), μ'.2.2) Q) := rw_call p72_5 rfl (ac71 q)
theorem r72_8 : RR 72 8 L [.int x] μ Q ↔ Q (some (.int x)) μ := rw_r p72_8 rfl
/-! ReleaseDeskModel.judge -/
theorem r73_0 : RR 73 0 (a0 :: .int x :: l) st μ Q ↔ RR 73 1 (a0 :: .int x :: l) (.int x :: st) μ Q := rw_go p73_0 rfl
theorem r73_1 : RR 73 1 L st μ Q ↔ RR 73 2 L (.int (nI 0) :: st) μ Q := rw_go p73_1 rfl
theorem r73_2 : RR 73 2 L st μ Q ↔ RR 73 5 L (.int (nI 999) :: st) μ Q := rw_go p73_2 rfl
theorem r73_5 : RR 73 5 L (.int x3 :: .int x2 :: .int x1 :: st) (S, (0, 0, sl), M, D, F) Q ↔ (am_cat st ≤ 8 ∧ 3 = 3) ∧ RR 32 0 [.int x1, .int x2, .int x3] [] (S, (0, 0, sl), M, D, F) (fun rv μ' => μ'.1.length = S.length ∧ RR 73 8 L (rv.toList ++ st) (μ'.1, (0, 0, sl), μ'.2.2) Q) := rw_call p73_5 rfl (ac32 x1 x2 x3)
theorem r73_8 : RR 73 8 L (.int x :: st) μ Q ↔ if x = 0 then RR 73 33 L st μ Q else RR 73 11 L st μ Q := rw_if p73_8 rfl
theorem r73_11 : RR 73 11 (a0 :: a1 :: .int x :: l) st μ Q ↔ RR 73 12 (a0 :: a1 :: .int x :: l) (.int x :: st) μ Q := rw_go p73_11 rfl
theorem r73_12 : RR 73 12 L st μ Q ↔ RR 73 13 L (.int (nI 0) :: st) μ Q := rw_go p73_12 rfl
theorem r73_13 : RR 73 13 L st μ Q ↔ RR 73 16 L (.int (nI 999) :: st) μ Q := rw_go p73_13 rfl
theorem r73_16 : RR 73 16 L (.int x3 :: .int x2 :: .int x1 :: st) (S, (0, 0, sl), M, D, F) Q ↔ (am_cat st ≤ 8 ∧ 3 = 3) ∧ RR 32 0 [.int x1, .int x2, .int x3] [] (S, (0, 0, sl), M, D, F) (fun rv μ' => μ'.1.length = S.length ∧ RR 73 19 L (rv.toList ++ st) (μ'.1, (0, 0, sl), μ'.2.2) Q) := rw_call p73_16 rfl (ac32 x1 x2 x3)
theorem r73_19 : RR 73 19 L (.int x :: st) μ Q ↔ if x = 0 then RR 73 33 L st μ Q else RR 73 22 L st μ Q := rw_if p73_19 rfl
theorem r73_22 : RR 73 22 (a0 :: a1 :: a2 :: .int x :: l) st μ Q ↔ RR 73 23 (a0 :: a1 :: a2 :: .int x :: l) (.int x :: st) μ Q := rw_go p73_22 rfl
theorem r73_23 : RR 73 23 L st μ Q ↔ RR 73 24 L (.int (nI 0) :: st) μ Q := rw_go p73_23 rfl
theorem r73_24 : RR 73 24 L st μ Q ↔ RR 73 27 L (.int (nI 999) :: st) μ Q := rw_go p73_24 rfl
theorem r73_27 : RR 73 27 L (.int x3 :: .int x2 :: .int x1 :: st) (S, (0, 0, sl), M, D, F) Q ↔ (am_cat st ≤ 8 ∧ 3 = 3) ∧ RR 32 0 [.int x1, .int x2, .int x3] [] (S, (0, 0, sl), M, D, F) (fun rv μ' => μ'.1.length = S.length ∧ RR 73 30 L (rv.toList ++ st) (μ'.1, (0, 0, sl), μ'.2.2) Q) := rw_call p73_27 rfl (ac32 x1 x2 x3)
theorem r73_30 : RR 73 30 L (.int x :: st) μ Q ↔ if ¬ x = 0 then RR 73 35 L st μ Q else RR 73 33 L st μ Q := rw_if p73_30 rfl
theorem r73_33 : RR 73 33 L st μ Q ↔ RR 73 34 L (.int ((-1)) :: st) μ Q := rw_go p73_33 rfl
theorem r73_34 : RR 73 34 L [.int x] μ Q ↔ Q (some (.int x)) μ := rw_r p73_34 rfl
theorem r73_35 : RR 73 35 (.ref q :: l) st μ Q ↔ RR 73 36 (.ref q :: l) (.ref q :: st) μ Q := rw_go p73_35 rfl
theorem r73_36 : RR 73 36 L (.ref q :: st) (S, (0, 0, sl), M, D, F) Q ↔ (am_cat st ≤ 8 ∧ 1 = 1 ∧ S[q]? = some (.inl 9)) ∧ RR 59 0 [.ref q, .long 0] [] (S, (0, 0, sl), M, D, F) (fun rv μ' => μ'.1.length = S.length ∧ RR 73 39 L (rv.toList ++ st) (μ'.1, (0, 0, sl), μ'.2.2) Q) := rw_call p73_36 rfl (ac59 q)
theorem r73_39 : RR 73 39 L st μ Q ↔ RR 73 41 L (.int (nI 1000000) :: st) μ Q := rw_go p73_39 rfl
theorem r73_41 : RR 73 41 (a0 :: .int x :: l) st μ Q ↔ RR 73 42 (a0 :: .int x :: l) (.int x :: st) μ Q := rw_go p73_41 rfl
theorem r73_42 : RR 73 42 L (.int y :: .int x :: st) μ Q ↔ RR 73 43 L (.int (x * y) :: st) μ Q := rw_go p73_42 rfl
theorem r73_43 : RR 73 43 L st μ Q ↔ RR 73 46 L (.int (nI 1000) :: st) μ Q := rw_go p73_43 rfl
theorem r73_46 : RR 73 46 (a0 :: a1 :: .int x :: l) st μ Q ↔ RR 73 47 (a0 :: a1 :: .int x :: l) (.int x :: st) μ Q := rw_go p73_46 rfl
theorem r73_47 : RR 73 47 L (.int y :: .int x :: st) μ Q ↔ RR 73 48 L (.int (x * y) :: st) μ Q := rw_go p73_47 rfl
theorem r73_48 : RR 73 48 L (.int y :: .int x :: st) μ Q ↔ RR 73 49 L (.int (x + y) :: st) μ Q := rw_go p73_48 rfl
theorem r73_49 : RR 73 49 (a0 :: a1 :: a2 :: .int x :: l) st μ Q ↔ RR 73 50 (a0 :: a1 :: a2 :: .int x :: l) (.int x :: st) μ Q := rw_go p73_49 rfl
theorem r73_50 : RR 73 50 L (.int y :: .int x :: st) μ Q ↔ RR 73 51 L (.int (x + y) :: st) μ Q := rw_go p73_50 rfl
theorem r73_51 : RR 73 51 (a0 :: a1 :: a2 :: a3 :: c0 :: l) (.int x :: st) μ Q ↔ RR 73 53 (a0 :: a1 :: a2 :: am_nd a3 :: .int x :: l) st μ Q := rw_ist p73_51 (by show 4 < _; simp only [List.length_cons]; omega)
theorem r73_53 : RR 73 53 L st μ Q ↔ RR 73 55 L (.int (nI 1000000) :: st) μ Q := rw_go p73_53 rfl
theorem r73_55 : RR 73 55 (.ref q :: l) st μ Q ↔ RR 73 56 (.ref q :: l) (.ref q :: st) μ Q := rw_go p73_55 rfl
theorem r73_56 : RR 73 56 L (.ref q :: st) (S, b, M, D, F) Q ↔ S[q]? = some (.inl 9) ∧ RR 73 59 L (.int (M q 14) :: st) (S, b, M, D, F) Q := rw_c p73_56 rfl
theorem r73_59 : RR 73 59 L (.int y :: .int x :: st) μ Q ↔ RR 73 60 L (.int (x * y) :: st) μ Q := rw_go p73_59 rfl
theorem r73_60 : RR 73 60 L st μ Q ↔ RR 73 63 L (.int (nI 1000) :: st) μ Q := rw_go p73_60 rfl
theorem r73_63 : RR 73 63 (.ref q :: l) st μ Q ↔ RR 73 64 (.ref q :: l) (.ref q :: st) μ Q := rw_go p73_63 rfl
theorem r73_64 : RR 73 64 L (.ref q :: st) (S, b, M, D, F) Q ↔ S[q]? = some (.inl 9) ∧ RR 73 67 L (.int (M q 15) :: st) (S, b, M, D, F) Q := rw_c p73_64 rfl
theorem r73_67 : RR 73 67 L (.int y :: .int x :: st) μ Q ↔ RR 73 68 L (.int (x * y) :: st) μ Q := rw_go p73_67 rfl
theorem r73_68 : RR 73 68 L (.int y :: .int x :: st) μ Q ↔ RR 73 69 L (.int (x + y) :: st) μ Q := rw_go p73_68 rfl
theorem r73_69 : RR 73 69 (.ref q :: l) st μ Q ↔ RR 73 70 (.ref q :: l) (.ref q :: st) μ Q := rw_go p73_69 rfl
theorem r73_70 : RR 73 70 L (.ref q :: st) (S, b, M, D, F) Q ↔ S[q]? = some (.inl 9) ∧ RR 73 73 L (.int (M q 16) :: st) (S, b, M, D, F) Q := rw_c p73_70 rfl
theorem r73_73 : RR 73 73 L (.int y :: .int x :: st) μ Q ↔ RR 73 74 L (.int (x + y) :: st) μ Q := rw_go p73_73 rfl
theorem r73_74 : RR 73 74 (a0 :: a1 :: a2 :: a3 :: a4 :: c0 :: l) (.int x :: st) μ Q ↔ RR 73 76 (a0 :: a1 :: a2 :: a3 :: am_nd a4 :: .int x :: l) st μ Q := rw_ist p73_74 (by show 5 < _; simp only [List.length_cons]; omega)
theorem r73_76 : RR 73 76 (a0 :: a1 :: a2 :: a3 :: .int x :: l) st μ Q ↔ RR 73 78 (a0 :: a1 :: a2 :: a3 :: .int x :: l) (.int x :: st) μ Q := rw_go p73_76 rfl
theorem r73_78 : RR 73 78 (.ref q :: l) st μ Q ↔ RR 73 79 (.ref q :: l) (.ref q :: st) μ Q := rw_go p73_78 rfl
theorem r73_79 : RR 73 79 L (.ref q :: st) (S, (0, 0, sl), M, D, F) Q ↔ (am_cat st ≤ 8 ∧ 1 = 1 ∧ S[q]? = some (.inl 9)) ∧ RR 71 0 [.ref q, .long 0, .long 0, .long 0, .long 0] [] (S, (0, 0, sl), M, D, F) (fun rv μ' => μ'.1.length = S.length ∧ RR 73 82 L (rv.toList ++ st) (μ'.1, (0, 0, sl), μ'.2.2) Q) := rw_call p73_79 rfl (ac71 q)
theorem r73_82 : RR 73 82 L (.int y :: .int x :: st) μ Q ↔ if x < y then RR 73 89 L st μ Q else RR 73 85 L st μ Q := rw_if p73_82 rfl
theorem r73_85 : RR 73 85 L st μ Q ↔ RR 73 86 L (.int (nI 0) :: st) μ Q := rw_go p73_85 rfl
theorem r73_86 : RR 73 86 L st μ Q ↔ RR 73 101 L st μ Q := rw_go p73_86 rfl
theorem r73_89 : RR 73 89 (a0 :: a1 :: a2 :: a3 :: .int x :: l) st μ Q ↔ RR 73 91 (a0 :: a1 :: a2 :: a3 :: .int x :: l) (.int x :: st) μ Q := rw_go p73_89 rfl
theorem r73_91 : RR 73 91 (a0 :: a1 :: a2 :: a3 :: a4 :: .int x :: l) st μ Q ↔ RR 73 93 (a0 :: a1 :: a2 :: a3 :: a4 :: .int x :: l) (.int x :: st) μ Q := rw_go p73_91 rfl
theorem r73_93 : RR 73 93 L (.int y :: .int x :: st) μ Q ↔ if x ≤ y then RR 73 100 L st μ Q else RR 73 96 L st μ Q := rw_if p73_93 rfl
theorem r73_96 : RR 73 96 L st μ Q ↔ RR 73 97 L (.int (nI 1) :: st) μ Q := rw_go p73_96 rfl
theorem r73_97 : RR 73 97 L st μ Q ↔ RR 73 101 L st μ Q := rw_go p73_97 rfl
theorem r73_100 : RR 73 100 L st μ Q ↔ RR 73 101 L (.int (nI 2) :: st) μ Q := rw_go p73_100 rfl
theorem r73_101 : RR 73 101 (a0 :: a1 :: a2 :: a3 :: a4 :: a5 :: c0 :: l) (.int x :: st) μ Q ↔ RR 73 103 (a0 :: a1 :: a2 :: a3 :: a4 :: am_nd a5 :: .int x :: l) st μ Q := rw_ist p73_101 (by show 6 < _; simp only [List.length_cons]; omega)
theorem r73_103 : RR 73 103 (a0 :: a1 :: a2 :: a3 :: a4 :: a5 :: .int x :: l) st μ Q ↔ RR 73 105 (a0 :: a1 :: a2 :: a3 :: a4 :: a5 :: .int x :: l) (.int x :: st) μ Q := rw_go p73_103 rfl
theorem r73_105 : RR 73 105 (.ref q :: l) st μ Q ↔ RR 73 106 (.ref q :: l) (.ref q :: st) μ Q := rw_go p73_105 rfl
theorem r73_106 : RR 73 106 L st μ Q ↔ RR 73 107 L (.int (nI 3) :: st) μ Q := rw_go p73_106 rfl
theorem r73_107 : RR 73 107 L (.int x1 :: .ref q :: st) (S, (0, 0, sl), M, D, F) Q ↔ (am_cat st ≤ 8 ∧ 2 = 2 ∧ S[q]? = some (.inl 9)) ∧ RR 66 0 [.ref q, .int x1, .long 0, .long 0] [] (S, (0, 0, sl), M, D, F) (fun rv μ' => μ'.1.length = S.length ∧ RR 73 110 L (rv.toList ++ st) (μ'.1, (0, 0, sl), μ'.2.2) Q) := rw_call p73_107 rfl (ac66 q x1)
theorem r73_110 : RR 73 110 L (.int x :: st) μ Q ↔ if x ≤ 0 then RR 73 117 L st μ Q else RR 73 113 L st μ Q := rw_if p73_110 rfl
theorem r73_113 : RR 73 113 L st μ Q ↔ RR 73 114 L (.int (nI 4) :: st) μ Q := rw_go p73_113 rfl
theorem r73_114 : RR 73 114 L st μ Q ↔ RR 73 118 L st μ Q := rw_go p73_114 rfl
theorem r73_117 : RR 73 117 L st μ Q ↔ RR 73 118 L (.int (nI 0) :: st) μ Q := rw_go p73_117 rfl
theorem r73_118 : RR 73 118 L (.int y :: .int x :: st) μ Q ↔ RR 73 119 L (.int (x + y) :: st) μ Q := rw_go p73_118 rfl
theorem r73_119 : RR 73 119 (.ref q :: l) st μ Q ↔ RR 73 120 (.ref q :: l) (.ref q :: st) μ Q := rw_go p73_119 rfl
theorem r73_120 : RR 73 120 L st μ Q ↔ RR 73 121 L (.int (nI 2) :: st) μ Q := rw_go p73_120 rfl
theorem r73_121 : RR 73 121 L (.int x1 :: .ref q :: st) (S, (0, 0, sl), M, D, F) Q ↔ (am_cat st ≤ 8 ∧ 2 = 2 ∧ S[q]? = some (.inl 9)) ∧ RR 66 0 [.ref q, .int x1, .long 0, .long 0] [] (S, (0, 0, sl), M, D, F) (fun rv μ' => μ'.1.length = S.length ∧ RR 73 124 L (rv.toList ++ st) (μ'.1, (0, 0, sl), μ'.2.2) Q) := rw_call p73_121 rfl (ac66 q x1)
theorem r73_124 : RR 73 124 L (.int x :: st) μ Q ↔ if x ≤ 0 then RR 73 132 L st μ Q else RR 73 127 L st μ Q := rw_if p73_124 rfl
theorem r73_127 : RR 73 127 L st μ Q ↔ RR 73 129 L (.int (nI 8) :: st) μ Q := rw_go p73_127 rfl
theorem r73_129 : RR 73 129 L st μ Q ↔ RR 73 133 L st μ Q := rw_go p73_129 rfl
theorem r73_132 : RR 73 132 L st μ Q ↔ RR 73 133 L (.int (nI 0) :: st) μ Q := rw_go p73_132 rfl
theorem r73_133 : RR 73 133 L (.int y :: .int x :: st) μ Q ↔ RR 73 134 L (.int (x + y) :: st) μ Q := rw_go p73_133 rfl
theorem r73_134 : RR 73 134 L [.int x] μ Q ↔ Q (some (.int x)) μ := rw_r p73_134 rfl
/-! ReleaseDeskModel.fits -/
theorem r74_0 : RR 74 0 (a0 :: .int x :: l) st μ Q ↔ RR 74 1 (a0 :: .int x :: l) (.int x :: st) μ Q := rw_go p74_0 rfl
theorem r74_1 : RR 74 1 L st μ Q ↔ RR 74 2 L (.int (nI 0) :: st) μ Q := rw_go p74_1 rfl
theorem r74_2 : RR 74 2 L st μ Q ↔ RR 74 3 L (.int (nI 1) :: st) μ Q := rw_go p74_2 rfl
theorem r74_3 : RR 74 3 L (.int x3 :: .int x2 :: .int x1 :: st) (S, (0, 0, sl), M, D, F) Q ↔ (am_cat st ≤ 8 ∧ 3 = 3) ∧ RR 32 0 [.int x1, .int x2, .int x3] [] (S, (0, 0, sl), M, D, F) (fun rv μ' => μ'.1.length = S.length ∧ RR 74 6 L (rv.toList ++ st) (μ'.1, (0, 0, sl), μ'.2.2) Q) := rw_call p74_3 rfl (ac32 x1 x2 x3)
theorem r74_6 : RR 74 6 L (.int x :: st) μ Q ↔ if x = 0 then RR 74 30 L st μ Q else RR 74 9 L st μ Q := rw_if p74_6 rfl
theorem r74_9 : RR 74 9 (a0 :: a1 :: .int x :: l) st μ Q ↔ RR 74 10 (a0 :: a1 :: .int x :: l) (.int x :: st) μ Q := rw_go p74_9 rfl
theorem r74_10 : RR 74 10 L st μ Q ↔ RR 74 11 L (.int (nI 0) :: st) μ Q := rw_go p74_10 rfl
theorem r74_11 : RR 74 11 L st μ Q ↔ RR 74 13 L (.int (nI 7) :: st) μ Q := rw_go p74_11 rfl
theorem r74_13 : RR 74 13 L (.int x3 :: .int x2 :: .int x1 :: st) (S, (0, 0, sl), M, D, F) Q ↔ (am_cat st ≤ 8 ∧ 3 = 3) ∧ RR 32 0 [.int x1, .int x2, .int x3] [] (S, (0, 0, sl), M, D, F) (fun rv μ' => μ'.1.length = S.length ∧ RR 74 16 L (rv.toList ++ st) (μ'.1, (0, 0, sl), μ'.2.2) Q) := rw_call p74_13 rfl (ac32 x1 x2 x3)
theorem r74_16 : RR 74 16 L (.int x :: st) μ Q ↔ if x = 0 then RR 74 30 L st μ Q else RR 74 19 L st μ Q := rw_if p74_16 rfl
theorem r74_19 : RR 74 19 (a0 :: a1 :: a2 :: a3 :: .int x :: l) st μ Q ↔ RR 74 21 (a0 :: a1 :: a2 :: a3 :: .int x :: l) (.int x :: st) μ Q := rw_go p74_19 rfl
theorem r74_21 : RR 74 21 L st μ Q ↔ RR 74 22 L (.int ((-1)) :: st) μ Q := rw_go p74_21 rfl
theorem r74_22 : RR 74 22 L st μ Q ↔ RR 74 24 L (.int (nI 11) :: st) μ Q := rw_go p74_22 rfl
theorem r74_24 : RR 74 24 L (.int x3 :: .int x2 :: .int x1 :: st) (S, (0, 0, sl), M, D, F) Q ↔ (am_cat st ≤ 8 ∧ 3 = 3) ∧ RR 32 0 [.int x1, .int x2, .int x3] [] (S, (0, 0, sl), M, D, F) (fun rv μ' => μ'.1.length = S.length ∧ RR 74 27 L (rv.toList ++ st) (μ'.1, (0, 0, sl), μ'.2.2) Q) := rw_call p74_24 rfl (ac32 x1 x2 x3)
theorem r74_27 : RR 74 27 L (.int x :: st) μ Q ↔ if ¬ x = 0 then RR 74 32 L st μ Q else RR 74 30 L st μ Q := rw_if p74_27 rfl
theorem r74_30 : RR 74 30 L st μ Q ↔ RR 74 31 L (.int ((-1)) :: st) μ Q := rw_go p74_30 rfl
theorem r74_31 : RR 74 31 L [.int x] μ Q ↔ Q (some (.int x)) μ := rw_r p74_31 rfl
theorem r74_32 : RR 74 32 (.ref q :: l) st μ Q ↔ RR 74 33 (.ref q :: l) (.ref q :: st) μ Q := rw_go p74_32 rfl
theorem r74_33 : RR 74 33 L (.ref q :: st) (S, b, M, D, F) Q ↔ S[q]? = some (.inl 9) ∧ RR 74 36 L (va_rf (F q 0) :: st) (S, b, M, D, F) Q := rw_c p74_33 rfl
theorem r74_36 : RR 74 36 L st μ Q ↔ RR 74 38 L (.int (nI 8) :: st) μ Q := rw_go p74_36 rfl
theorem r74_38 : RR 74 38 (a0 :: .int x :: l) st μ Q ↔ RR 74 39 (a0 :: .int x :: l) (.int x :: st) μ Q := rw_go p74_38 rfl
theorem r74_39 : RR 74 39 L (.int y :: .int x :: st) μ Q ↔ RR 74 40 L (.int (x * y) :: st) μ Q := rw_go p74_39 rfl
theorem r74_40 : RR 74 40 (a0 :: a1 :: .int x :: l) st μ Q ↔ RR 74 41 (a0 :: a1 :: .int x :: l) (.int x :: st) μ Q := rw_go p74_40 rfl
theorem r74_41 : RR 74 41 L (.int y :: .int x :: st) μ Q ↔ RR 74 42 L (.int (x + y) :: st) μ Q := rw_go p74_41 rfl
theorem r74_42 : RR 74 42 L (.int x :: .ref q :: st) (S, b, M, D, F) Q ↔ am_bd S b.2.2 q 2 x ∧ RR 74 43 L (.int (M q x.toInt.toNat) :: st) (S, b, M, D, F) Q := rw_c p74_42 am_xld_eq
theorem r74_43 : RR 74 43 L (.int x :: st) μ Q ↔ if ¬ x = 0 then RR 74 49 L st μ Q else RR 74 46 L st μ Q := rw_if p74_43 rfl
theorem r74_46 : RR 74 46 L st μ Q ↔ RR 74 48 L (.int ((-2)) :: st) μ Q := rw_go p74_46 rfl
theorem r74_48 : RR 74 48 L [.int x] μ Q ↔ Q (some (.int x)) μ := rw_r p74_48 rfl
theorem r74_49 : RR 74 49 (a0 :: a1 :: a2 :: a3 :: .int x :: l) st μ Q ↔ RR 74 51 (a0 :: a1 :: a2 :: a3 :: .int x :: l) (.int x :: st) μ Q := rw_go p74_49 rfl
theorem r74_51 : RR 74 51 L (.int x :: st) μ Q ↔ if 0 ≤ x then RR 74 58 L st μ Q else RR 74 54 L st μ Q := rw_if p74_51 rfl
theorem r74_54 : RR 74 54 L st μ Q ↔ RR 74 55 L (.int (nI 0) :: st) μ Q := rw_go p74_54 rfl
theorem r74_55 : RR 74 55 L st μ Q ↔ RR 74 71 L st μ Q := rw_go p74_55 rfl
theorem r74_58 : RR 74 58 (a0 :: a1 :: a2 :: .int x :: l) st μ Q ↔ RR 74 59 (a0 :: a1 :: a2 :: .int x :: l) (.int x :: st) μ Q := rw_go p74_58 rfl
theorem r74_59 : RR 74 59 L (.int x :: st) μ Q ↔ if x = 0 then RR 74 67 L st μ Q else RR 74 62 L st μ Q := rw_if p74_59 rfl
theorem r74_62 : RR 74 62 L st μ Q ↔ RR 74 64 L (.int (nI 13) :: st) μ Q := rw_go p74_62 rfl
theorem r74_64 : RR 74 64 L st μ Q ↔ RR 74 68 L st μ Q := rw_go p74_64 rfl
theorem r74_67 : RR 74 67 L st μ Q ↔ RR 74 68 L (.int (nI 1) :: st) μ Q := rw_go p74_67 rfl
theorem r74_68 : RR 74 68 (a0 :: a1 :: a2 :: a3 :: .int x :: l) st μ Q ↔ RR 74 70 (a0 :: a1 :: a2 :: a3 :: .int x :: l) (.int x :: st) μ Q := rw_go p74_68 rfl
theorem r74_70 : RR 74 70 L (.int y :: .int x :: st) μ Q ↔ RR 74 71 L (.int (x + y) :: st) μ Q := rw_go p74_70 rfl
theorem r74_71 : RR 74 71 (a0 :: a1 :: a2 :: a3 :: a4 :: c0 :: l) (.int x :: st) μ Q ↔ RR 74 73 (a0 :: a1 :: a2 :: a3 :: am_nd a4 :: .int x :: l) st μ Q := rw_ist p74_71 (by show 5 < _; simp only [List.length_cons]; omega)
theorem r74_73 : RR 74 73 (.ref q :: l) st μ Q ↔ RR 74 74 (.ref q :: l) (.ref q :: st) μ Q := rw_go p74_73 rfl
theorem r74_74 : RR 74 74 L st μ Q ↔ RR 74 76 L (.int (nI 96) :: st) μ Q := rw_go p74_74 rfl
theorem r74_76 : RR 74 76 (.ref q :: l) st μ Q ↔ RR 74 77 (.ref q :: l) (.ref q :: st) μ Q := rw_go p74_76 rfl
theorem r74_77 : RR 74 77 L (.ref q :: st) (S, b, M, D, F) Q ↔ S[q]? = some (.inl 9) ∧ RR 74 80 L (va_rf (F q 9) :: st) (S, b, M, D, F) Q := rw_c p74_77 rfl
theorem r74_80 : RR 74 80 L st μ Q ↔ RR 74 82 L (.int (nI 8) :: st) μ Q := rw_go p74_80 rfl
theorem r74_82 : RR 74 82 L (.int x :: .ref q :: st) (S, b, M, D, F) Q ↔ am_bd S b.2.2 q 0 x ∧ RR 74 83 L (.int (M q x.toInt.toNat) :: st) (S, b, M, D, F) Q := rw_c p74_82 am_xld_eq
theorem r74_83 : RR 74 83 (a0 :: .int x :: l) st μ Q ↔ RR 74 84 (a0 :: .int x :: l) (.int x :: st) μ Q := rw_go p74_83 rfl
theorem r74_84 : RR 74 84 (a0 :: a1 :: .int x :: l) st μ Q ↔ RR 74 85 (a0 :: a1 :: .int x :: l) (.int x :: st) μ Q := rw_go p74_84 rfl
theorem r74_85 : RR 74 85 (a0 :: a1 :: a2 :: a3 :: a4 :: .int x :: l) st μ Q ↔ RR 74 87 (a0 :: a1 :: a2 :: a3 :: a4 :: .int x :: l) (.int x :: st) μ Q := rw_go p74_85 rfl
theorem r74_87 : RR 74 87 L (.int x5 :: .int x4 :: .int x3 :: .int x2 :: .int x1 :: .ref q :: st) (S, (0, 0, sl), M, D, F) Q ↔ (am_cat st ≤ 8 ∧ 6 = 6 ∧ S[q]? = some (.inl 9)) ∧ RR 48 0 [.ref q, .int x1, .int x2, .int x3, .int x4, .int x5, .long 0, .long 0, .long 0, .long 0, .long 0] [] (S, (0, 0, sl), M, D, F) (fun rv μ' => μ'.1.length = S.length ∧ RR 74 90 L (rv.toList ++ st) (μ'.1, (0, 0, sl), μ'.2.2) Q) := rw_call p74_87 rfl (ac48 q x1 x2 x3 x4 x5)
theorem r74_90 : RR 74 90 L (.int x :: st) μ Q ↔ if x = 0 then RR 74 97 L st μ Q else RR 74 93 L st μ Q := rw_if p74_90 rfl
theorem r74_93 : RR 74 93 L st μ Q ↔ RR 74 94 L (.int (nI 1) :: st) μ Q := rw_go p74_93 rfl
theorem r74_94 : RR 74 94 L st μ Q ↔ RR 74 98 L st μ Q := rw_go p74_94 rfl
theorem r74_97 : RR 74 97 L st μ Q ↔ RR 74 98 L (.int (nI 0) :: st) μ Q := rw_go p74_97 rfl
theorem r74_98 : RR 74 98 L [.int x] μ Q ↔ Q (some (.int x)) μ := rw_r p74_98 rfl
end RW
