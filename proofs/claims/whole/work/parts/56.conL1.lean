/-! THE LAW'S ROWS -/
section RW
variable {mi pc : Nat} {L st : List Value} {μ : amM} {Q : Option Value → amM → Prop}
variable {S : List (Nat ⊕ (Nat × Nat))} {M : Nat → Nat → Int32} {D : Nat → Nat → UInt64} {F : Nat → Nat → Option Nat}
theorem rw_callL {ins : Instr} {len c sl b1 b2 : Nat} {info : List Nat} {a st' loc : List Value} {p : Prop} [Decidable p] (hp : prog mi pc = some (ins, len, info)) (h : am_stp pc ins len info L st (S, (b1, b2, sl), M, D, F) = if p then some (.inr (.inl (c, a, st'))) else none) (hc : am_loc c a = loc ∧ (am_args a).length ≤ am_nL c ∧ am_mc c = 0 ∧ am_ms c = 0) : RR mi pc L st (S, (b1, b2, sl), M, D, F) Q ↔ p ∧ RR c 0 loc [] (S, (0, 0, sl), M, D, F) (fun rv μ' => μ'.1.length = S.length ∧ RR mi (pc + 3) L (rv.toList ++ st') (μ'.1, (b1, b2, sl), μ'.2.2) Q) := by
  obtain ⟨rfl, h1, h2, h3⟩ := hc
  by_cases hq : p
  · rw [RR.call ((rw_s hp).trans (h.trans (if_pos hq))) ⟨by rw [h2]; exact Nat.zero_le _, by rw [h3]; exact Nat.zero_le _, h1⟩]
    simp only [am_in0, am_out, h2, h3, Nat.add_zero, Nat.sub_zero]
    exact ⟨fun k => ⟨hq, k⟩, fun k => k.2⟩
  · rw [RR.no ((rw_s hp).trans (h.trans (if_neg hq)))]
    exact ⟨fun k => k.elim, fun k => hq k.1⟩
end RW
section RW
variable {Q : Option Value → amM → Prop} {μ : amM} {S : List (Nat ⊕ (Nat × Nat))} {b : Nat × Nat × Nat} {M : Nat → Nat → Int32} {D : Nat → Nat → UInt64} {F : Nat → Nat → Option Nat}
variable {L l st : List Value} {a0 a1 a2 a3 a4 a5 a6 a7 a8 a9 c0 c1 : Value} {x y x1 x2 x3 x4 x5 x6 : Int32} {q q1 q2 q3 sl b1 b2 : Nat} {d d1 d2 : UInt64}
theorem r157_3 : RR 157 3 L (.ref q :: st) μ Q ↔ RR 157 4 L (.ref q :: .ref q :: st) μ Q := rw_go p157_3 rfl
theorem r157_3i : RR 157 3 L (.int x :: st) μ Q ↔ RR 157 4 L (.int x :: .int x :: st) μ Q := rw_go p157_3 rfl
theorem r157_7 : RR 157 7 (a0 :: c0 :: l) (.ref q :: st) μ Q ↔ RR 157 8 (am_nd a0 :: .ref q :: l) st μ Q := rw_astn p157_7 (by show 1 < _; simp only [List.length_cons]; omega)
theorem r157_11 : RR 157 11 L (.ref q :: st) μ Q ↔ RR 157 12 L (.ref q :: .ref q :: st) μ Q := rw_go p157_11 rfl
theorem r157_11i : RR 157 11 L (.int x :: st) μ Q ↔ RR 157 12 L (.int x :: .int x :: st) μ Q := rw_go p157_11 rfl
theorem r157_15 : RR 157 15 (a0 :: a1 :: c0 :: l) (.ref q :: st) μ Q ↔ RR 157 16 (a0 :: am_nd a1 :: .ref q :: l) st μ Q := rw_astn p157_15 (by show 2 < _; simp only [List.length_cons]; omega)
theorem r157_16 : RR 157 16 L st μ Q ↔ RR 157 17 L (.int (nI 0) :: st) μ Q := rw_go p157_16 rfl
theorem r157_17 : RR 157 17 (a0 :: a1 :: a2 :: c0 :: l) (.int x :: st) μ Q ↔ RR 157 18 (a0 :: a1 :: am_nd a2 :: .int x :: l) st μ Q := rw_istn p157_17 (by show 3 < _; simp only [List.length_cons]; omega)
theorem r157_18 : RR 157 18 (a0 :: a1 :: a2 :: .int x :: l) st μ Q ↔ RR 157 19 (a0 :: a1 :: a2 :: .int x :: l) (.int x :: st) μ Q := rw_go p157_18 rfl
theorem r157_19 : RR 157 19 (.ref q :: l) st μ Q ↔ RR 157 20 (.ref q :: l) (.ref q :: st) μ Q := rw_go p157_19 rfl
theorem r157_20 {n : Nat} (h : am_an S b.2.2 q = some n) : RR 157 20 L (.ref q :: st) (S, b, M, D, F) Q ↔ RR 157 21 L (.int (nI n) :: st) (S, b, M, D, F) Q := rw_alen p157_20 (fun _ => rfl) h
theorem r157_21 : RR 157 21 L st μ Q ↔ RR 157 23 L (.int (nI 6) :: st) μ Q := rw_go p157_21 rfl
theorem r157_23 : RR 157 23 L (.int y :: .int x :: st) μ Q ↔ RR 157 24 L (.int (x - y) :: st) μ Q := rw_go p157_23 rfl
theorem r157_24 : RR 157 24 L (.int y :: .int x :: st) μ Q ↔ if y < x then RR 157 835 L st μ Q else RR 157 27 L st μ Q := rw_if p157_24 rfl
theorem r157_27 : RR 157 27 (.ref q :: l) st μ Q ↔ RR 157 28 (.ref q :: l) (.ref q :: st) μ Q := rw_go p157_27 rfl
theorem r157_28 : RR 157 28 (a0 :: a1 :: a2 :: .int x :: l) st μ Q ↔ RR 157 29 (a0 :: a1 :: a2 :: .int x :: l) (.int x :: st) μ Q := rw_go p157_28 rfl
theorem r157_29 : RR 157 29 L (.int x :: .ref q :: st) (S, b, M, D, F) Q ↔ am_bd S b.2.2 q 0 x ∧ RR 157 30 L (.int (M q x.toInt.toNat) :: st) (S, b, M, D, F) Q := rw_c p157_29 am_xld_eq
theorem r157_30 : RR 157 30 L st μ Q ↔ RR 157 32 L (.int (nI 31) :: st) μ Q := rw_go p157_30 rfl
theorem r157_32 : RR 157 32 L (.int y :: .int x :: st) μ Q ↔ RR 157 33 L (.int (x &&& y) :: st) μ Q := rw_go p157_32 rfl
theorem r157_33 : RR 157 33 L (.int x :: st) μ Q ↔ if x.toInt < 0 ∨ 16 < x.toInt then RR 157 829 L st μ Q else RR 157 ([116, 179, 212, 291, 354, 423, 436, 459, 502, 515, 558, 571, 604, 655, 704, 717, 760].getD (x.toInt - 0).toNat 0) L st μ Q := rw_tsw p157_33 rfl
theorem r157_116 : RR 157 116 (a0 :: .ref q :: l) st μ Q ↔ RR 157 117 (a0 :: .ref q :: l) (.ref q :: st) μ Q := rw_go p157_116 rfl
theorem r157_117 : RR 157 117 (.ref q :: l) st μ Q ↔ RR 157 118 (.ref q :: l) (.ref q :: st) μ Q := rw_go p157_117 rfl
theorem r157_118 : RR 157 118 (a0 :: a1 :: a2 :: .int x :: l) st μ Q ↔ RR 157 119 (a0 :: a1 :: a2 :: .int x :: l) (.int x :: st) μ Q := rw_go p157_118 rfl
theorem r157_119 : RR 157 119 L st μ Q ↔ RR 157 120 L (.int (nI 1) :: st) μ Q := rw_go p157_119 rfl
theorem r157_120 : RR 157 120 L (.int y :: .int x :: st) μ Q ↔ RR 157 121 L (.int (x + y) :: st) μ Q := rw_go p157_120 rfl
theorem r157_121 : RR 157 121 L (.int x :: .ref q :: st) (S, b, M, D, F) Q ↔ am_bd S b.2.2 q 0 x ∧ RR 157 122 L (.int (M q x.toInt.toNat) :: st) (S, b, M, D, F) Q := rw_c p157_121 am_xld_eq
theorem r157_122 : RR 157 122 (.ref q :: l) st μ Q ↔ RR 157 123 (.ref q :: l) (.ref q :: st) μ Q := rw_go p157_122 rfl
theorem r157_123 : RR 157 123 (a0 :: a1 :: a2 :: .int x :: l) st μ Q ↔ RR 157 124 (a0 :: a1 :: a2 :: .int x :: l) (.int x :: st) μ Q := rw_go p157_123 rfl
theorem r157_124 : RR 157 124 L st μ Q ↔ RR 157 125 L (.int (nI 2) :: st) μ Q := rw_go p157_124 rfl
theorem r157_125 : RR 157 125 L (.int y :: .int x :: st) μ Q ↔ RR 157 126 L (.int (x + y) :: st) μ Q := rw_go p157_125 rfl
theorem r157_126 : RR 157 126 L (.int x :: .ref q :: st) (S, b, M, D, F) Q ↔ am_bd S b.2.2 q 0 x ∧ RR 157 127 L (.int (M q x.toInt.toNat) :: st) (S, b, M, D, F) Q := rw_c p157_126 am_xld_eq
theorem r157_127 : RR 157 127 (.ref q :: l) st μ Q ↔ RR 157 128 (.ref q :: l) (.ref q :: st) μ Q := rw_go p157_127 rfl
theorem r157_128 : RR 157 128 (a0 :: a1 :: a2 :: .int x :: l) st μ Q ↔ RR 157 129 (a0 :: a1 :: a2 :: .int x :: l) (.int x :: st) μ Q := rw_go p157_128 rfl
theorem r157_129 : RR 157 129 L st μ Q ↔ RR 157 130 L (.int (nI 3) :: st) μ Q := rw_go p157_129 rfl
theorem r157_130 : RR 157 130 L (.int y :: .int x :: st) μ Q ↔ RR 157 131 L (.int (x + y) :: st) μ Q := rw_go p157_130 rfl
theorem r157_131 : RR 157 131 L (.int x :: .ref q :: st) (S, b, M, D, F) Q ↔ am_bd S b.2.2 q 0 x ∧ RR 157 132 L (.int (M q x.toInt.toNat) :: st) (S, b, M, D, F) Q := rw_c p157_131 am_xld_eq
theorem r157_132 : RR 157 132 (.ref q :: l) st μ Q ↔ RR 157 133 (.ref q :: l) (.ref q :: st) μ Q := rw_go p157_132 rfl
theorem r157_133 : RR 157 133 (a0 :: a1 :: a2 :: .int x :: l) st μ Q ↔ RR 157 134 (a0 :: a1 :: a2 :: .int x :: l) (.int x :: st) μ Q := rw_go p157_133 rfl
theorem r157_134 : RR 157 134 L st μ Q ↔ RR 157 135 L (.int (nI 4) :: st) μ Q := rw_go p157_134 rfl
theorem r157_135 : RR 157 135 L (.int y :: .int x :: st) μ Q ↔ RR 157 136 L (.int (x + y) :: st) μ Q := rw_go p157_135 rfl
theorem r157_136 : RR 157 136 L (.int x :: .ref q :: st) (S, b, M, D, F) Q ↔ am_bd S b.2.2 q 0 x ∧ RR 157 137 L (.int (M q x.toInt.toNat) :: st) (S, b, M, D, F) Q := rw_c p157_136 am_xld_eq
theorem r157_137 : RR 157 137 (.ref q :: l) st μ Q ↔ RR 157 138 (.ref q :: l) (.ref q :: st) μ Q := rw_go p157_137 rfl
theorem r157_138 : RR 157 138 (a0 :: a1 :: a2 :: .int x :: l) st μ Q ↔ RR 157 139 (a0 :: a1 :: a2 :: .int x :: l) (.int x :: st) μ Q := rw_go p157_138 rfl
theorem r157_139 : RR 157 139 L st μ Q ↔ RR 157 140 L (.int (nI 5) :: st) μ Q := rw_go p157_139 rfl
theorem r157_140 : RR 157 140 L (.int y :: .int x :: st) μ Q ↔ RR 157 141 L (.int (x + y) :: st) μ Q := rw_go p157_140 rfl
theorem r157_141 : RR 157 141 L (.int x :: .ref q :: st) (S, b, M, D, F) Q ↔ am_bd S b.2.2 q 0 x ∧ RR 157 142 L (.int (M q x.toInt.toNat) :: st) (S, b, M, D, F) Q := rw_c p157_141 am_xld_eq
theorem r157_142 : RR 157 142 L (.int x5 :: .int x4 :: .int x3 :: .int x2 :: .int x1 :: .ref q :: st) (S, (b1, b2, sl), M, D, F) Q ↔ (am_cat st ≤ 8 ∧ 6 = 6 ∧ S[q]? = some (.inl 8)) ∧ RR 1 0 [.ref q, .int x1, .int x2, .int x3, .int x4, .int x5] [] (S, (0, 0, sl), M, D, F) (fun rv μ' => μ'.1.length = S.length ∧ RR 157 145 L (rv.toList ++ st) (μ'.1, (b1, b2, sl), μ'.2.2) Q) := rw_callL p157_142 rfl (ac1 q x1 x2 x3 x4 x5)
theorem r157_145 : RR 157 145 (a0 :: a1 :: .ref q :: l) st μ Q ↔ RR 157 146 (a0 :: a1 :: .ref q :: l) (.ref q :: st) μ Q := rw_go p157_145 rfl
theorem r157_146 : RR 157 146 (.ref q :: l) st μ Q ↔ RR 157 147 (.ref q :: l) (.ref q :: st) μ Q := rw_go p157_146 rfl
theorem r157_147 : RR 157 147 (a0 :: a1 :: a2 :: .int x :: l) st μ Q ↔ RR 157 148 (a0 :: a1 :: a2 :: .int x :: l) (.int x :: st) μ Q := rw_go p157_147 rfl
theorem r157_148 : RR 157 148 L st μ Q ↔ RR 157 149 L (.int (nI 1) :: st) μ Q := rw_go p157_148 rfl
theorem r157_149 : RR 157 149 L (.int y :: .int x :: st) μ Q ↔ RR 157 150 L (.int (x + y) :: st) μ Q := rw_go p157_149 rfl
theorem r157_150 : RR 157 150 L (.int x :: .ref q :: st) (S, b, M, D, F) Q ↔ am_bd S b.2.2 q 0 x ∧ RR 157 151 L (.int (M q x.toInt.toNat) :: st) (S, b, M, D, F) Q := rw_c p157_150 am_xld_eq
theorem r157_151 : RR 157 151 (.ref q :: l) st μ Q ↔ RR 157 152 (.ref q :: l) (.ref q :: st) μ Q := rw_go p157_151 rfl
theorem r157_152 : RR 157 152 (a0 :: a1 :: a2 :: .int x :: l) st μ Q ↔ RR 157 153 (a0 :: a1 :: a2 :: .int x :: l) (.int x :: st) μ Q := rw_go p157_152 rfl
theorem r157_153 : RR 157 153 L st μ Q ↔ RR 157 154 L (.int (nI 2) :: st) μ Q := rw_go p157_153 rfl
theorem r157_154 : RR 157 154 L (.int y :: .int x :: st) μ Q ↔ RR 157 155 L (.int (x + y) :: st) μ Q := rw_go p157_154 rfl
theorem r157_155 : RR 157 155 L (.int x :: .ref q :: st) (S, b, M, D, F) Q ↔ am_bd S b.2.2 q 0 x ∧ RR 157 156 L (.int (M q x.toInt.toNat) :: st) (S, b, M, D, F) Q := rw_c p157_155 am_xld_eq
theorem r157_156 : RR 157 156 (.ref q :: l) st μ Q ↔ RR 157 157 (.ref q :: l) (.ref q :: st) μ Q := rw_go p157_156 rfl
theorem r157_157 : RR 157 157 (a0 :: a1 :: a2 :: .int x :: l) st μ Q ↔ RR 157 158 (a0 :: a1 :: a2 :: .int x :: l) (.int x :: st) μ Q := rw_go p157_157 rfl
theorem r157_158 : RR 157 158 L st μ Q ↔ RR 157 159 L (.int (nI 3) :: st) μ Q := rw_go p157_158 rfl
theorem r157_159 : RR 157 159 L (.int y :: .int x :: st) μ Q ↔ RR 157 160 L (.int (x + y) :: st) μ Q := rw_go p157_159 rfl
theorem r157_160 : RR 157 160 L (.int x :: .ref q :: st) (S, b, M, D, F) Q ↔ am_bd S b.2.2 q 0 x ∧ RR 157 161 L (.int (M q x.toInt.toNat) :: st) (S, b, M, D, F) Q := rw_c p157_160 am_xld_eq
theorem r157_161 : RR 157 161 (.ref q :: l) st μ Q ↔ RR 157 162 (.ref q :: l) (.ref q :: st) μ Q := rw_go p157_161 rfl
theorem r157_162 : RR 157 162 (a0 :: a1 :: a2 :: .int x :: l) st μ Q ↔ RR 157 163 (a0 :: a1 :: a2 :: .int x :: l) (.int x :: st) μ Q := rw_go p157_162 rfl
theorem r157_163 : RR 157 163 L st μ Q ↔ RR 157 164 L (.int (nI 4) :: st) μ Q := rw_go p157_163 rfl
theorem r157_164 : RR 157 164 L (.int y :: .int x :: st) μ Q ↔ RR 157 165 L (.int (x + y) :: st) μ Q := rw_go p157_164 rfl
theorem r157_165 : RR 157 165 L (.int x :: .ref q :: st) (S, b, M, D, F) Q ↔ am_bd S b.2.2 q 0 x ∧ RR 157 166 L (.int (M q x.toInt.toNat) :: st) (S, b, M, D, F) Q := rw_c p157_165 am_xld_eq
theorem r157_166 : RR 157 166 (.ref q :: l) st μ Q ↔ RR 157 167 (.ref q :: l) (.ref q :: st) μ Q := rw_go p157_166 rfl
theorem r157_167 : RR 157 167 (a0 :: a1 :: a2 :: .int x :: l) st μ Q ↔ RR 157 168 (a0 :: a1 :: a2 :: .int x :: l) (.int x :: st) μ Q := rw_go p157_167 rfl
theorem r157_168 : RR 157 168 L st μ Q ↔ RR 157 169 L (.int (nI 5) :: st) μ Q := rw_go p157_168 rfl
theorem r157_169 : RR 157 169 L (.int y :: .int x :: st) μ Q ↔ RR 157 170 L (.int (x + y) :: st) μ Q := rw_go p157_169 rfl
theorem r157_170 : RR 157 170 L (.int x :: .ref q :: st) (S, b, M, D, F) Q ↔ am_bd S b.2.2 q 0 x ∧ RR 157 171 L (.int (M q x.toInt.toNat) :: st) (S, b, M, D, F) Q := rw_c p157_170 am_xld_eq
theorem r157_171 : RR 157 171 L (.int x5 :: .int x4 :: .int x3 :: .int x2 :: .int x1 :: .ref q :: st) (S, (b1, b2, sl), M, D, F) Q ↔ (am_cat st ≤ 8 ∧ 6 = 6 ∧ S[q]? = some (.inl 9)) ∧ RR 34 0 [.ref q, .int x1, .int x2, .int x3, .int x4, .int x5, .long 0] [] (S, (0, 0, sl), M, D, F) (fun rv μ' => μ'.1.length = S.length ∧ RR 157 174 L (rv.toList ++ st) (μ'.1, (b1, b2, sl), μ'.2.2) Q) := rw_callL p157_171 rfl (ac34 q x1 x2 x3 x4 x5)
theorem r157_174 : RR 157 174 L (.int y :: .int x :: st) μ Q ↔ if x = y then RR 157 829 L st μ Q else RR 157 177 L st μ Q := rw_if p157_174 rfl
theorem r157_177 : RR 157 177 L st μ Q ↔ RR 157 178 L (.int (nI 0) :: st) μ Q := rw_go p157_177 rfl
theorem r157_178 : RR 157 178 L [.int x] μ Q ↔ (x = 0 ∨ x = 1) ∧ Q (some (.int x)) μ := rw_rc p157_178 rfl
theorem r157_179 : RR 157 179 (a0 :: .ref q :: l) st μ Q ↔ RR 157 180 (a0 :: .ref q :: l) (.ref q :: st) μ Q := rw_go p157_179 rfl
theorem r157_180 : RR 157 180 (.ref q :: l) st μ Q ↔ RR 157 181 (.ref q :: l) (.ref q :: st) μ Q := rw_go p157_180 rfl
theorem r157_181 : RR 157 181 (a0 :: a1 :: a2 :: .int x :: l) st μ Q ↔ RR 157 182 (a0 :: a1 :: a2 :: .int x :: l) (.int x :: st) μ Q := rw_go p157_181 rfl
theorem r157_182 : RR 157 182 L st μ Q ↔ RR 157 183 L (.int (nI 1) :: st) μ Q := rw_go p157_182 rfl
theorem r157_183 : RR 157 183 L (.int y :: .int x :: st) μ Q ↔ RR 157 184 L (.int (x + y) :: st) μ Q := rw_go p157_183 rfl
theorem r157_184 : RR 157 184 L (.int x :: .ref q :: st) (S, b, M, D, F) Q ↔ am_bd S b.2.2 q 0 x ∧ RR 157 185 L (.int (M q x.toInt.toNat) :: st) (S, b, M, D, F) Q := rw_c p157_184 am_xld_eq
theorem r157_185 : RR 157 185 (.ref q :: l) st μ Q ↔ RR 157 186 (.ref q :: l) (.ref q :: st) μ Q := rw_go p157_185 rfl
theorem r157_186 : RR 157 186 (a0 :: a1 :: a2 :: .int x :: l) st μ Q ↔ RR 157 187 (a0 :: a1 :: a2 :: .int x :: l) (.int x :: st) μ Q := rw_go p157_186 rfl
theorem r157_187 : RR 157 187 L st μ Q ↔ RR 157 188 L (.int (nI 2) :: st) μ Q := rw_go p157_187 rfl
theorem r157_188 : RR 157 188 L (.int y :: .int x :: st) μ Q ↔ RR 157 189 L (.int (x + y) :: st) μ Q := rw_go p157_188 rfl
theorem r157_189 : RR 157 189 L (.int x :: .ref q :: st) (S, b, M, D, F) Q ↔ am_bd S b.2.2 q 0 x ∧ RR 157 190 L (.int (M q x.toInt.toNat) :: st) (S, b, M, D, F) Q := rw_c p157_189 am_xld_eq
theorem r157_190 : RR 157 190 L (.int x2 :: .int x1 :: .ref q :: st) (S, (b1, b2, sl), M, D, F) Q ↔ (am_cat st ≤ 8 ∧ 3 = 3 ∧ S[q]? = some (.inl 8)) ∧ RR 2 0 [.ref q, .int x1, .int x2] [] (S, (0, 0, sl), M, D, F) (fun rv μ' => μ'.1.length = S.length ∧ RR 157 193 L (rv.toList ++ st) (μ'.1, (b1, b2, sl), μ'.2.2) Q) := rw_callL p157_190 rfl (ac2 q x1 x2)
theorem r157_193 : RR 157 193 (a0 :: a1 :: .ref q :: l) st μ Q ↔ RR 157 194 (a0 :: a1 :: .ref q :: l) (.ref q :: st) μ Q := rw_go p157_193 rfl
theorem r157_194 : RR 157 194 (.ref q :: l) st μ Q ↔ RR 157 195 (.ref q :: l) (.ref q :: st) μ Q := rw_go p157_194 rfl
theorem r157_195 : RR 157 195 (a0 :: a1 :: a2 :: .int x :: l) st μ Q ↔ RR 157 196 (a0 :: a1 :: a2 :: .int x :: l) (.int x :: st) μ Q := rw_go p157_195 rfl
theorem r157_196 : RR 157 196 L st μ Q ↔ RR 157 197 L (.int (nI 1) :: st) μ Q := rw_go p157_196 rfl
theorem r157_197 : RR 157 197 L (.int y :: .int x :: st) μ Q ↔ RR 157 198 L (.int (x + y) :: st) μ Q := rw_go p157_197 rfl
theorem r157_198 : RR 157 198 L (.int x :: .ref q :: st) (S, b, M, D, F) Q ↔ am_bd S b.2.2 q 0 x ∧ RR 157 199 L (.int (M q x.toInt.toNat) :: st) (S, b, M, D, F) Q := rw_c p157_198 am_xld_eq
theorem r157_199 : RR 157 199 (.ref q :: l) st μ Q ↔ RR 157 200 (.ref q :: l) (.ref q :: st) μ Q := rw_go p157_199 rfl
theorem r157_200 : RR 157 200 (a0 :: a1 :: a2 :: .int x :: l) st μ Q ↔ RR 157 201 (a0 :: a1 :: a2 :: .int x :: l) (.int x :: st) μ Q := rw_go p157_200 rfl
theorem r157_201 : RR 157 201 L st μ Q ↔ RR 157 202 L (.int (nI 2) :: st) μ Q := rw_go p157_201 rfl
theorem r157_202 : RR 157 202 L (.int y :: .int x :: st) μ Q ↔ RR 157 203 L (.int (x + y) :: st) μ Q := rw_go p157_202 rfl
theorem r157_203 : RR 157 203 L (.int x :: .ref q :: st) (S, b, M, D, F) Q ↔ am_bd S b.2.2 q 0 x ∧ RR 157 204 L (.int (M q x.toInt.toNat) :: st) (S, b, M, D, F) Q := rw_c p157_203 am_xld_eq
theorem r157_204 : RR 157 204 L (.int x2 :: .int x1 :: .ref q :: st) (S, (b1, b2, sl), M, D, F) Q ↔ (am_cat st ≤ 8 ∧ 3 = 3 ∧ S[q]? = some (.inl 9)) ∧ RR 35 0 [.ref q, .int x1, .int x2, .long 0] [] (S, (0, 0, sl), M, D, F) (fun rv μ' => μ'.1.length = S.length ∧ RR 157 207 L (rv.toList ++ st) (μ'.1, (b1, b2, sl), μ'.2.2) Q) := rw_callL p157_204 rfl (ac35 q x1 x2)
theorem r157_207 : RR 157 207 L (.int y :: .int x :: st) μ Q ↔ if x = y then RR 157 829 L st μ Q else RR 157 210 L st μ Q := rw_if p157_207 rfl
theorem r157_210 : RR 157 210 L st μ Q ↔ RR 157 211 L (.int (nI 0) :: st) μ Q := rw_go p157_210 rfl
theorem r157_211 : RR 157 211 L [.int x] μ Q ↔ (x = 0 ∨ x = 1) ∧ Q (some (.int x)) μ := rw_rc p157_211 rfl
theorem r157_212 : RR 157 212 (a0 :: .ref q :: l) st μ Q ↔ RR 157 213 (a0 :: .ref q :: l) (.ref q :: st) μ Q := rw_go p157_212 rfl
theorem r157_213 : RR 157 213 (.ref q :: l) st μ Q ↔ RR 157 214 (.ref q :: l) (.ref q :: st) μ Q := rw_go p157_213 rfl
theorem r157_214 : RR 157 214 (a0 :: a1 :: a2 :: .int x :: l) st μ Q ↔ RR 157 215 (a0 :: a1 :: a2 :: .int x :: l) (.int x :: st) μ Q := rw_go p157_214 rfl
theorem r157_215 : RR 157 215 L st μ Q ↔ RR 157 216 L (.int (nI 1) :: st) μ Q := rw_go p157_215 rfl
theorem r157_216 : RR 157 216 L (.int y :: .int x :: st) μ Q ↔ RR 157 217 L (.int (x + y) :: st) μ Q := rw_go p157_216 rfl
theorem r157_217 : RR 157 217 L (.int x :: .ref q :: st) (S, b, M, D, F) Q ↔ am_bd S b.2.2 q 0 x ∧ RR 157 218 L (.int (M q x.toInt.toNat) :: st) (S, b, M, D, F) Q := rw_c p157_217 am_xld_eq
theorem r157_218 : RR 157 218 (.ref q :: l) st μ Q ↔ RR 157 219 (.ref q :: l) (.ref q :: st) μ Q := rw_go p157_218 rfl
theorem r157_219 : RR 157 219 (a0 :: a1 :: a2 :: .int x :: l) st μ Q ↔ RR 157 220 (a0 :: a1 :: a2 :: .int x :: l) (.int x :: st) μ Q := rw_go p157_219 rfl
theorem r157_220 : RR 157 220 L st μ Q ↔ RR 157 221 L (.int (nI 2) :: st) μ Q := rw_go p157_220 rfl
theorem r157_221 : RR 157 221 L (.int y :: .int x :: st) μ Q ↔ RR 157 222 L (.int (x + y) :: st) μ Q := rw_go p157_221 rfl
theorem r157_222 : RR 157 222 L (.int x :: .ref q :: st) (S, b, M, D, F) Q ↔ am_bd S b.2.2 q 0 x ∧ RR 157 223 L (.int (M q x.toInt.toNat) :: st) (S, b, M, D, F) Q := rw_c p157_222 am_xld_eq
theorem r157_223 : RR 157 223 (.ref q :: l) st μ Q ↔ RR 157 224 (.ref q :: l) (.ref q :: st) μ Q := rw_go p157_223 rfl
theorem r157_224 : RR 157 224 (a0 :: a1 :: a2 :: .int x :: l) st μ Q ↔ RR 157 225 (a0 :: a1 :: a2 :: .int x :: l) (.int x :: st) μ Q := rw_go p157_224 rfl
theorem r157_225 : RR 157 225 L st μ Q ↔ RR 157 226 L (.int (nI 3) :: st) μ Q := rw_go p157_225 rfl
theorem r157_226 : RR 157 226 L (.int y :: .int x :: st) μ Q ↔ RR 157 227 L (.int (x + y) :: st) μ Q := rw_go p157_226 rfl
theorem r157_227 : RR 157 227 L (.int x :: .ref q :: st) (S, b, M, D, F) Q ↔ am_bd S b.2.2 q 0 x ∧ RR 157 228 L (.int (M q x.toInt.toNat) :: st) (S, b, M, D, F) Q := rw_c p157_227 am_xld_eq
theorem r157_228 : RR 157 228 L (.int x :: st) μ Q ↔ if x = 0 then RR 157 235 L st μ Q else RR 157 231 L st μ Q := rw_if p157_228 rfl
theorem r157_231 : RR 157 231 L st μ Q ↔ RR 157 232 L (.int (nI 1) :: st) μ Q := rw_go p157_231 rfl
theorem r157_232 : RR 157 232 L st μ Q ↔ RR 157 236 L st μ Q := rw_go p157_232 rfl
theorem r157_235 : RR 157 235 L st μ Q ↔ RR 157 236 L (.int (nI 0) :: st) μ Q := rw_go p157_235 rfl
theorem r157_236 : RR 157 236 (.ref q :: l) st μ Q ↔ RR 157 237 (.ref q :: l) (.ref q :: st) μ Q := rw_go p157_236 rfl
theorem r157_237 : RR 157 237 (a0 :: a1 :: a2 :: .int x :: l) st μ Q ↔ RR 157 238 (a0 :: a1 :: a2 :: .int x :: l) (.int x :: st) μ Q := rw_go p157_237 rfl
theorem r157_238 : RR 157 238 L st μ Q ↔ RR 157 239 L (.int (nI 4) :: st) μ Q := rw_go p157_238 rfl
theorem r157_239 : RR 157 239 L (.int y :: .int x :: st) μ Q ↔ RR 157 240 L (.int (x + y) :: st) μ Q := rw_go p157_239 rfl
theorem r157_240 : RR 157 240 L (.int x :: .ref q :: st) (S, b, M, D, F) Q ↔ am_bd S b.2.2 q 0 x ∧ RR 157 241 L (.int (M q x.toInt.toNat) :: st) (S, b, M, D, F) Q := rw_c p157_240 am_xld_eq
theorem r157_241 : RR 157 241 (.ref q :: l) st μ Q ↔ RR 157 242 (.ref q :: l) (.ref q :: st) μ Q := rw_go p157_241 rfl
theorem r157_242 : RR 157 242 (a0 :: a1 :: a2 :: .int x :: l) st μ Q ↔ RR 157 243 (a0 :: a1 :: a2 :: .int x :: l) (.int x :: st) μ Q := rw_go p157_242 rfl
theorem r157_243 : RR 157 243 L st μ Q ↔ RR 157 244 L (.int (nI 5) :: st) μ Q := rw_go p157_243 rfl
theorem r157_244 : RR 157 244 L (.int y :: .int x :: st) μ Q ↔ RR 157 245 L (.int (x + y) :: st) μ Q := rw_go p157_244 rfl
theorem r157_245 : RR 157 245 L (.int x :: .ref q :: st) (S, b, M, D, F) Q ↔ am_bd S b.2.2 q 0 x ∧ RR 157 246 L (.int (M q x.toInt.toNat) :: st) (S, b, M, D, F) Q := rw_c p157_245 am_xld_eq
theorem r157_246 : RR 157 246 L (.int x5 :: .int x4 :: .int x3 :: .int x2 :: .int x1 :: .ref q :: st) (S, (b1, b2, sl), M, D, F) Q ↔ (am_cat st ≤ 8 ∧ 6 = 6 ∧ S[q]? = some (.inl 8)) ∧ RR 3 0 [.ref q, .int x1, .int x2, .int x3, .int x4, .int x5] [] (S, (0, 0, sl), M, D, F) (fun rv μ' => μ'.1.length = S.length ∧ RR 157 249 L (rv.toList ++ st) (μ'.1, (b1, b2, sl), μ'.2.2) Q) := rw_callL p157_246 rfl (ac3 q x1 x2 x3 x4 x5)
theorem r157_249 : RR 157 249 (a0 :: a1 :: .ref q :: l) st μ Q ↔ RR 157 250 (a0 :: a1 :: .ref q :: l) (.ref q :: st) μ Q := rw_go p157_249 rfl
theorem r157_250 : RR 157 250 (.ref q :: l) st μ Q ↔ RR 157 251 (.ref q :: l) (.ref q :: st) μ Q := rw_go p157_250 rfl
theorem r157_251 : RR 157 251 (a0 :: a1 :: a2 :: .int x :: l) st μ Q ↔ RR 157 252 (a0 :: a1 :: a2 :: .int x :: l) (.int x :: st) μ Q := rw_go p157_251 rfl
theorem r157_252 : RR 157 252 L st μ Q ↔ RR 157 253 L (.int (nI 1) :: st) μ Q := rw_go p157_252 rfl
theorem r157_253 : RR 157 253 L (.int y :: .int x :: st) μ Q ↔ RR 157 254 L (.int (x + y) :: st) μ Q := rw_go p157_253 rfl
theorem r157_254 : RR 157 254 L (.int x :: .ref q :: st) (S, b, M, D, F) Q ↔ am_bd S b.2.2 q 0 x ∧ RR 157 255 L (.int (M q x.toInt.toNat) :: st) (S, b, M, D, F) Q := rw_c p157_254 am_xld_eq
theorem r157_255 : RR 157 255 (.ref q :: l) st μ Q ↔ RR 157 256 (.ref q :: l) (.ref q :: st) μ Q := rw_go p157_255 rfl
theorem r157_256 : RR 157 256 (a0 :: a1 :: a2 :: .int x :: l) st μ Q ↔ RR 157 257 (a0 :: a1 :: a2 :: .int x :: l) (.int x :: st) μ Q := rw_go p157_256 rfl
theorem r157_257 : RR 157 257 L st μ Q ↔ RR 157 258 L (.int (nI 2) :: st) μ Q := rw_go p157_257 rfl
theorem r157_258 : RR 157 258 L (.int y :: .int x :: st) μ Q ↔ RR 157 259 L (.int (x + y) :: st) μ Q := rw_go p157_258 rfl
theorem r157_259 : RR 157 259 L (.int x :: .ref q :: st) (S, b, M, D, F) Q ↔ am_bd S b.2.2 q 0 x ∧ RR 157 260 L (.int (M q x.toInt.toNat) :: st) (S, b, M, D, F) Q := rw_c p157_259 am_xld_eq
theorem r157_260 : RR 157 260 (.ref q :: l) st μ Q ↔ RR 157 261 (.ref q :: l) (.ref q :: st) μ Q := rw_go p157_260 rfl
theorem r157_261 : RR 157 261 (a0 :: a1 :: a2 :: .int x :: l) st μ Q ↔ RR 157 262 (a0 :: a1 :: a2 :: .int x :: l) (.int x :: st) μ Q := rw_go p157_261 rfl
theorem r157_262 : RR 157 262 L st μ Q ↔ RR 157 263 L (.int (nI 3) :: st) μ Q := rw_go p157_262 rfl
theorem r157_263 : RR 157 263 L (.int y :: .int x :: st) μ Q ↔ RR 157 264 L (.int (x + y) :: st) μ Q := rw_go p157_263 rfl
theorem r157_264 : RR 157 264 L (.int x :: .ref q :: st) (S, b, M, D, F) Q ↔ am_bd S b.2.2 q 0 x ∧ RR 157 265 L (.int (M q x.toInt.toNat) :: st) (S, b, M, D, F) Q := rw_c p157_264 am_xld_eq
theorem r157_265 : RR 157 265 L (.int x :: st) μ Q ↔ if x = 0 then RR 157 272 L st μ Q else RR 157 268 L st μ Q := rw_if p157_265 rfl
theorem r157_268 : RR 157 268 L st μ Q ↔ RR 157 269 L (.int (nI 1) :: st) μ Q := rw_go p157_268 rfl
theorem r157_269 : RR 157 269 L st μ Q ↔ RR 157 273 L st μ Q := rw_go p157_269 rfl
theorem r157_272 : RR 157 272 L st μ Q ↔ RR 157 273 L (.int (nI 0) :: st) μ Q := rw_go p157_272 rfl
theorem r157_273 : RR 157 273 (.ref q :: l) st μ Q ↔ RR 157 274 (.ref q :: l) (.ref q :: st) μ Q := rw_go p157_273 rfl
theorem r157_274 : RR 157 274 (a0 :: a1 :: a2 :: .int x :: l) st μ Q ↔ RR 157 275 (a0 :: a1 :: a2 :: .int x :: l) (.int x :: st) μ Q := rw_go p157_274 rfl
theorem r157_275 : RR 157 275 L st μ Q ↔ RR 157 276 L (.int (nI 4) :: st) μ Q := rw_go p157_275 rfl
theorem r157_276 : RR 157 276 L (.int y :: .int x :: st) μ Q ↔ RR 157 277 L (.int (x + y) :: st) μ Q := rw_go p157_276 rfl
theorem r157_277 : RR 157 277 L (.int x :: .ref q :: st) (S, b, M, D, F) Q ↔ am_bd S b.2.2 q 0 x ∧ RR 157 278 L (.int (M q x.toInt.toNat) :: st) (S, b, M, D, F) Q := rw_c p157_277 am_xld_eq
theorem r157_278 : RR 157 278 (.ref q :: l) st μ Q ↔ RR 157 279 (.ref q :: l) (.ref q :: st) μ Q := rw_go p157_278 rfl
theorem r157_279 : RR 157 279 (a0 :: a1 :: a2 :: .int x :: l) st μ Q ↔ RR 157 280 (a0 :: a1 :: a2 :: .int x :: l) (.int x :: st) μ Q := rw_go p157_279 rfl
theorem r157_280 : RR 157 280 L st μ Q ↔ RR 157 281 L (.int (nI 5) :: st) μ Q := rw_go p157_280 rfl
theorem r157_281 : RR 157 281 L (.int y :: .int x :: st) μ Q ↔ RR 157 282 L (.int (x + y) :: st) μ Q := rw_go p157_281 rfl
theorem r157_282 : RR 157 282 L (.int x :: .ref q :: st) (S, b, M, D, F) Q ↔ am_bd S b.2.2 q 0 x ∧ RR 157 283 L (.int (M q x.toInt.toNat) :: st) (S, b, M, D, F) Q := rw_c p157_282 am_xld_eq
theorem r157_283 : RR 157 283 L (.int x5 :: .int x4 :: .int x3 :: .int x2 :: .int x1 :: .ref q :: st) (S, (b1, b2, sl), M, D, F) Q ↔ (am_cat st ≤ 8 ∧ 6 = 6 ∧ S[q]? = some (.inl 9)) ∧ RR 37 0 [.ref q, .int x1, .int x2, .int x3, .int x4, .int x5] [] (S, (0, 0, sl), M, D, F) (fun rv μ' => μ'.1.length = S.length ∧ RR 157 286 L (rv.toList ++ st) (μ'.1, (b1, b2, sl), μ'.2.2) Q) := rw_callL p157_283 rfl (ac37 q x1 x2 x3 x4 x5)
theorem r157_286 : RR 157 286 L (.int y :: .int x :: st) μ Q ↔ if x = y then RR 157 829 L st μ Q else RR 157 289 L st μ Q := rw_if p157_286 rfl
theorem r157_289 : RR 157 289 L st μ Q ↔ RR 157 290 L (.int (nI 0) :: st) μ Q := rw_go p157_289 rfl
theorem r157_290 : RR 157 290 L [.int x] μ Q ↔ (x = 0 ∨ x = 1) ∧ Q (some (.int x)) μ := rw_rc p157_290 rfl
theorem r157_291 : RR 157 291 (a0 :: .ref q :: l) st μ Q ↔ RR 157 292 (a0 :: .ref q :: l) (.ref q :: st) μ Q := rw_go p157_291 rfl
theorem r157_292 : RR 157 292 (.ref q :: l) st μ Q ↔ RR 157 293 (.ref q :: l) (.ref q :: st) μ Q := rw_go p157_292 rfl
theorem r157_293 : RR 157 293 (a0 :: a1 :: a2 :: .int x :: l) st μ Q ↔ RR 157 294 (a0 :: a1 :: a2 :: .int x :: l) (.int x :: st) μ Q := rw_go p157_293 rfl
theorem r157_294 : RR 157 294 L st μ Q ↔ RR 157 295 L (.int (nI 1) :: st) μ Q := rw_go p157_294 rfl
theorem r157_295 : RR 157 295 L (.int y :: .int x :: st) μ Q ↔ RR 157 296 L (.int (x + y) :: st) μ Q := rw_go p157_295 rfl
theorem r157_296 : RR 157 296 L (.int x :: .ref q :: st) (S, b, M, D, F) Q ↔ am_bd S b.2.2 q 0 x ∧ RR 157 297 L (.int (M q x.toInt.toNat) :: st) (S, b, M, D, F) Q := rw_c p157_296 am_xld_eq
theorem r157_297 : RR 157 297 (.ref q :: l) st μ Q ↔ RR 157 298 (.ref q :: l) (.ref q :: st) μ Q := rw_go p157_297 rfl
theorem r157_298 : RR 157 298 (a0 :: a1 :: a2 :: .int x :: l) st μ Q ↔ RR 157 299 (a0 :: a1 :: a2 :: .int x :: l) (.int x :: st) μ Q := rw_go p157_298 rfl
theorem r157_299 : RR 157 299 L st μ Q ↔ RR 157 300 L (.int (nI 2) :: st) μ Q := rw_go p157_299 rfl
theorem r157_300 : RR 157 300 L (.int y :: .int x :: st) μ Q ↔ RR 157 301 L (.int (x + y) :: st) μ Q := rw_go p157_300 rfl
theorem r157_301 : RR 157 301 L (.int x :: .ref q :: st) (S, b, M, D, F) Q ↔ am_bd S b.2.2 q 0 x ∧ RR 157 302 L (.int (M q x.toInt.toNat) :: st) (S, b, M, D, F) Q := rw_c p157_301 am_xld_eq
theorem r157_302 : RR 157 302 (.ref q :: l) st μ Q ↔ RR 157 303 (.ref q :: l) (.ref q :: st) μ Q := rw_go p157_302 rfl
theorem r157_303 : RR 157 303 (a0 :: a1 :: a2 :: .int x :: l) st μ Q ↔ RR 157 304 (a0 :: a1 :: a2 :: .int x :: l) (.int x :: st) μ Q := rw_go p157_303 rfl
theorem r157_304 : RR 157 304 L st μ Q ↔ RR 157 305 L (.int (nI 3) :: st) μ Q := rw_go p157_304 rfl
theorem r157_305 : RR 157 305 L (.int y :: .int x :: st) μ Q ↔ RR 157 306 L (.int (x + y) :: st) μ Q := rw_go p157_305 rfl
theorem r157_306 : RR 157 306 L (.int x :: .ref q :: st) (S, b, M, D, F) Q ↔ am_bd S b.2.2 q 0 x ∧ RR 157 307 L (.int (M q x.toInt.toNat) :: st) (S, b, M, D, F) Q := rw_c p157_306 am_xld_eq
theorem r157_307 : RR 157 307 (.ref q :: l) st μ Q ↔ RR 157 308 (.ref q :: l) (.ref q :: st) μ Q := rw_go p157_307 rfl
theorem r157_308 : RR 157 308 (a0 :: a1 :: a2 :: .int x :: l) st μ Q ↔ RR 157 309 (a0 :: a1 :: a2 :: .int x :: l) (.int x :: st) μ Q := rw_go p157_308 rfl
theorem r157_309 : RR 157 309 L st μ Q ↔ RR 157 310 L (.int (nI 4) :: st) μ Q := rw_go p157_309 rfl
theorem r157_310 : RR 157 310 L (.int y :: .int x :: st) μ Q ↔ RR 157 311 L (.int (x + y) :: st) μ Q := rw_go p157_310 rfl
theorem r157_311 : RR 157 311 L (.int x :: .ref q :: st) (S, b, M, D, F) Q ↔ am_bd S b.2.2 q 0 x ∧ RR 157 312 L (.int (M q x.toInt.toNat) :: st) (S, b, M, D, F) Q := rw_c p157_311 am_xld_eq
theorem r157_312 : RR 157 312 L (.int x :: st) μ Q ↔ RR 157 313 L (.double (FP.i2d x) :: st) μ Q := rw_go p157_312 rfl
theorem r157_313 : RR 157 313 L st μ Q ↔ RR 157 316 L (.double 4593671619917905920 :: st) μ Q := rw_go p157_313 rfl
theorem r157_316 : RR 157 316 L (.double d2 :: .double d :: st) μ Q ↔ vf_n64 (FP.dmul d d2) ∧ RR 157 317 L (.double (FP.dmul d d2) :: st) μ Q := rw_c (p := FP.dmul d d2 &&& 0x7fffffffffffffff ≤ 0x7ff0000000000000) p157_316 rfl
theorem r157_317 : RR 157 317 L (.double d1 :: .int x3 :: .int x2 :: .int x1 :: .ref q :: st) (S, (b1, b2, sl), M, D, F) Q ↔ (am_cat st ≤ 8 ∧ 5 = 5 ∧ S[q]? = some (.inl 8)) ∧ RR 4 0 [.ref q, .int x1, .int x2, .int x3, .double d1, .long 0] [] (S, (0, 0, sl), M, D, F) (fun rv μ' => μ'.1.length = S.length ∧ RR 157 320 L (rv.toList ++ st) (μ'.1, (b1, b2, sl), μ'.2.2) Q) := rw_callL p157_317 rfl (ac4 q x1 x2 x3 d1)
theorem r157_320 : RR 157 320 (a0 :: a1 :: .ref q :: l) st μ Q ↔ RR 157 321 (a0 :: a1 :: .ref q :: l) (.ref q :: st) μ Q := rw_go p157_320 rfl
theorem r157_321 : RR 157 321 (.ref q :: l) st μ Q ↔ RR 157 322 (.ref q :: l) (.ref q :: st) μ Q := rw_go p157_321 rfl
theorem r157_322 : RR 157 322 (a0 :: a1 :: a2 :: .int x :: l) st μ Q ↔ RR 157 323 (a0 :: a1 :: a2 :: .int x :: l) (.int x :: st) μ Q := rw_go p157_322 rfl
theorem r157_323 : RR 157 323 L st μ Q ↔ RR 157 324 L (.int (nI 1) :: st) μ Q := rw_go p157_323 rfl
theorem r157_324 : RR 157 324 L (.int y :: .int x :: st) μ Q ↔ RR 157 325 L (.int (x + y) :: st) μ Q := rw_go p157_324 rfl
theorem r157_325 : RR 157 325 L (.int x :: .ref q :: st) (S, b, M, D, F) Q ↔ am_bd S b.2.2 q 0 x ∧ RR 157 326 L (.int (M q x.toInt.toNat) :: st) (S, b, M, D, F) Q := rw_c p157_325 am_xld_eq
theorem r157_326 : RR 157 326 (.ref q :: l) st μ Q ↔ RR 157 327 (.ref q :: l) (.ref q :: st) μ Q := rw_go p157_326 rfl
theorem r157_327 : RR 157 327 (a0 :: a1 :: a2 :: .int x :: l) st μ Q ↔ RR 157 328 (a0 :: a1 :: a2 :: .int x :: l) (.int x :: st) μ Q := rw_go p157_327 rfl
theorem r157_328 : RR 157 328 L st μ Q ↔ RR 157 329 L (.int (nI 2) :: st) μ Q := rw_go p157_328 rfl
theorem r157_329 : RR 157 329 L (.int y :: .int x :: st) μ Q ↔ RR 157 330 L (.int (x + y) :: st) μ Q := rw_go p157_329 rfl
theorem r157_330 : RR 157 330 L (.int x :: .ref q :: st) (S, b, M, D, F) Q ↔ am_bd S b.2.2 q 0 x ∧ RR 157 331 L (.int (M q x.toInt.toNat) :: st) (S, b, M, D, F) Q := rw_c p157_330 am_xld_eq
theorem r157_331 : RR 157 331 (.ref q :: l) st μ Q ↔ RR 157 332 (.ref q :: l) (.ref q :: st) μ Q := rw_go p157_331 rfl
theorem r157_332 : RR 157 332 (a0 :: a1 :: a2 :: .int x :: l) st μ Q ↔ RR 157 333 (a0 :: a1 :: a2 :: .int x :: l) (.int x :: st) μ Q := rw_go p157_332 rfl
theorem r157_333 : RR 157 333 L st μ Q ↔ RR 157 334 L (.int (nI 3) :: st) μ Q := rw_go p157_333 rfl
theorem r157_334 : RR 157 334 L (.int y :: .int x :: st) μ Q ↔ RR 157 335 L (.int (x + y) :: st) μ Q := rw_go p157_334 rfl
theorem r157_335 : RR 157 335 L (.int x :: .ref q :: st) (S, b, M, D, F) Q ↔ am_bd S b.2.2 q 0 x ∧ RR 157 336 L (.int (M q x.toInt.toNat) :: st) (S, b, M, D, F) Q := rw_c p157_335 am_xld_eq
theorem r157_336 : RR 157 336 (.ref q :: l) st μ Q ↔ RR 157 337 (.ref q :: l) (.ref q :: st) μ Q := rw_go p157_336 rfl
theorem r157_337 : RR 157 337 (a0 :: a1 :: a2 :: .int x :: l) st μ Q ↔ RR 157 338 (a0 :: a1 :: a2 :: .int x :: l) (.int x :: st) μ Q := rw_go p157_337 rfl
theorem r157_338 : RR 157 338 L st μ Q ↔ RR 157 339 L (.int (nI 4) :: st) μ Q := rw_go p157_338 rfl
theorem r157_339 : RR 157 339 L (.int y :: .int x :: st) μ Q ↔ RR 157 340 L (.int (x + y) :: st) μ Q := rw_go p157_339 rfl
theorem r157_340 : RR 157 340 L (.int x :: .ref q :: st) (S, b, M, D, F) Q ↔ am_bd S b.2.2 q 0 x ∧ RR 157 341 L (.int (M q x.toInt.toNat) :: st) (S, b, M, D, F) Q := rw_c p157_340 am_xld_eq
theorem r157_341 : RR 157 341 L (.int x :: st) μ Q ↔ RR 157 342 L (.double (FP.i2d x) :: st) μ Q := rw_go p157_341 rfl
theorem r157_342 : RR 157 342 L st μ Q ↔ RR 157 345 L (.double 4593671619917905920 :: st) μ Q := rw_go p157_342 rfl
theorem r157_345 : RR 157 345 L (.double d2 :: .double d :: st) μ Q ↔ vf_n64 (FP.dmul d d2) ∧ RR 157 346 L (.double (FP.dmul d d2) :: st) μ Q := rw_c (p := FP.dmul d d2 &&& 0x7fffffffffffffff ≤ 0x7ff0000000000000) p157_345 rfl
theorem r157_346 : RR 157 346 L (.double d1 :: .int x3 :: .int x2 :: .int x1 :: .ref q :: st) (S, (b1, b2, sl), M, D, F) Q ↔ (am_cat st ≤ 8 ∧ 5 = 5 ∧ S[q]? = some (.inl 9)) ∧ RR 38 0 [.ref q, .int x1, .int x2, .int x3, .double d1, .long 0] [] (S, (0, 0, sl), M, D, F) (fun rv μ' => μ'.1.length = S.length ∧ RR 157 349 L (rv.toList ++ st) (μ'.1, (b1, b2, sl), μ'.2.2) Q) := rw_callL p157_346 rfl (ac38 q x1 x2 x3 d1)
theorem r157_349 : RR 157 349 L (.int y :: .int x :: st) μ Q ↔ if x = y then RR 157 829 L st μ Q else RR 157 352 L st μ Q := rw_if p157_349 rfl
theorem r157_352 : RR 157 352 L st μ Q ↔ RR 157 353 L (.int (nI 0) :: st) μ Q := rw_go p157_352 rfl
theorem r157_353 : RR 157 353 L [.int x] μ Q ↔ (x = 0 ∨ x = 1) ∧ Q (some (.int x)) μ := rw_rc p157_353 rfl
theorem r157_354 : RR 157 354 (a0 :: .ref q :: l) st μ Q ↔ RR 157 355 (a0 :: .ref q :: l) (.ref q :: st) μ Q := rw_go p157_354 rfl
theorem r157_355 : RR 157 355 (.ref q :: l) st μ Q ↔ RR 157 356 (.ref q :: l) (.ref q :: st) μ Q := rw_go p157_355 rfl
theorem r157_356 : RR 157 356 (a0 :: a1 :: a2 :: .int x :: l) st μ Q ↔ RR 157 357 (a0 :: a1 :: a2 :: .int x :: l) (.int x :: st) μ Q := rw_go p157_356 rfl
theorem r157_357 : RR 157 357 L st μ Q ↔ RR 157 358 L (.int (nI 1) :: st) μ Q := rw_go p157_357 rfl
theorem r157_358 : RR 157 358 L (.int y :: .int x :: st) μ Q ↔ RR 157 359 L (.int (x + y) :: st) μ Q := rw_go p157_358 rfl
theorem r157_359 : RR 157 359 L (.int x :: .ref q :: st) (S, b, M, D, F) Q ↔ am_bd S b.2.2 q 0 x ∧ RR 157 360 L (.int (M q x.toInt.toNat) :: st) (S, b, M, D, F) Q := rw_c p157_359 am_xld_eq
theorem r157_360 : RR 157 360 (.ref q :: l) st μ Q ↔ RR 157 361 (.ref q :: l) (.ref q :: st) μ Q := rw_go p157_360 rfl
theorem r157_361 : RR 157 361 (a0 :: a1 :: a2 :: .int x :: l) st μ Q ↔ RR 157 362 (a0 :: a1 :: a2 :: .int x :: l) (.int x :: st) μ Q := rw_go p157_361 rfl
theorem r157_362 : RR 157 362 L st μ Q ↔ RR 157 363 L (.int (nI 2) :: st) μ Q := rw_go p157_362 rfl
theorem r157_363 : RR 157 363 L (.int y :: .int x :: st) μ Q ↔ RR 157 364 L (.int (x + y) :: st) μ Q := rw_go p157_363 rfl
theorem r157_364 : RR 157 364 L (.int x :: .ref q :: st) (S, b, M, D, F) Q ↔ am_bd S b.2.2 q 0 x ∧ RR 157 365 L (.int (M q x.toInt.toNat) :: st) (S, b, M, D, F) Q := rw_c p157_364 am_xld_eq
theorem r157_365 : RR 157 365 (.ref q :: l) st μ Q ↔ RR 157 366 (.ref q :: l) (.ref q :: st) μ Q := rw_go p157_365 rfl
theorem r157_366 : RR 157 366 (a0 :: a1 :: a2 :: .int x :: l) st μ Q ↔ RR 157 367 (a0 :: a1 :: a2 :: .int x :: l) (.int x :: st) μ Q := rw_go p157_366 rfl
theorem r157_367 : RR 157 367 L st μ Q ↔ RR 157 368 L (.int (nI 3) :: st) μ Q := rw_go p157_367 rfl
theorem r157_368 : RR 157 368 L (.int y :: .int x :: st) μ Q ↔ RR 157 369 L (.int (x + y) :: st) μ Q := rw_go p157_368 rfl
theorem r157_369 : RR 157 369 L (.int x :: .ref q :: st) (S, b, M, D, F) Q ↔ am_bd S b.2.2 q 0 x ∧ RR 157 370 L (.int (M q x.toInt.toNat) :: st) (S, b, M, D, F) Q := rw_c p157_369 am_xld_eq
theorem r157_370 : RR 157 370 L (.int x :: st) μ Q ↔ if x = 0 then RR 157 377 L st μ Q else RR 157 373 L st μ Q := rw_if p157_370 rfl
theorem r157_373 : RR 157 373 L st μ Q ↔ RR 157 374 L (.int (nI 1) :: st) μ Q := rw_go p157_373 rfl
theorem r157_374 : RR 157 374 L st μ Q ↔ RR 157 378 L st μ Q := rw_go p157_374 rfl
theorem r157_377 : RR 157 377 L st μ Q ↔ RR 157 378 L (.int (nI 0) :: st) μ Q := rw_go p157_377 rfl
theorem r157_378 : RR 157 378 (.ref q :: l) st μ Q ↔ RR 157 379 (.ref q :: l) (.ref q :: st) μ Q := rw_go p157_378 rfl
theorem r157_379 : RR 157 379 (a0 :: a1 :: a2 :: .int x :: l) st μ Q ↔ RR 157 380 (a0 :: a1 :: a2 :: .int x :: l) (.int x :: st) μ Q := rw_go p157_379 rfl
theorem r157_380 : RR 157 380 L st μ Q ↔ RR 157 381 L (.int (nI 4) :: st) μ Q := rw_go p157_380 rfl
theorem r157_381 : RR 157 381 L (.int y :: .int x :: st) μ Q ↔ RR 157 382 L (.int (x + y) :: st) μ Q := rw_go p157_381 rfl
theorem r157_382 : RR 157 382 L (.int x :: .ref q :: st) (S, b, M, D, F) Q ↔ am_bd S b.2.2 q 0 x ∧ RR 157 383 L (.int (M q x.toInt.toNat) :: st) (S, b, M, D, F) Q := rw_c p157_382 am_xld_eq
theorem r157_383 : RR 157 383 L (.int x4 :: .int x3 :: .int x2 :: .int x1 :: .ref q :: st) (S, (b1, b2, sl), M, D, F) Q ↔ (am_cat st ≤ 8 ∧ 5 = 5 ∧ S[q]? = some (.inl 8)) ∧ RR 5 0 [.ref q, .int x1, .int x2, .int x3, .int x4] [] (S, (0, 0, sl), M, D, F) (fun rv μ' => μ'.1.length = S.length ∧ RR 157 386 L (rv.toList ++ st) (μ'.1, (b1, b2, sl), μ'.2.2) Q) := rw_callL p157_383 rfl (ac5 q x1 x2 x3 x4)
theorem r157_386 : RR 157 386 (a0 :: a1 :: .ref q :: l) st μ Q ↔ RR 157 387 (a0 :: a1 :: .ref q :: l) (.ref q :: st) μ Q := rw_go p157_386 rfl
theorem r157_387 : RR 157 387 (.ref q :: l) st μ Q ↔ RR 157 388 (.ref q :: l) (.ref q :: st) μ Q := rw_go p157_387 rfl
theorem r157_388 : RR 157 388 (a0 :: a1 :: a2 :: .int x :: l) st μ Q ↔ RR 157 389 (a0 :: a1 :: a2 :: .int x :: l) (.int x :: st) μ Q := rw_go p157_388 rfl
theorem r157_389 : RR 157 389 L st μ Q ↔ RR 157 390 L (.int (nI 1) :: st) μ Q := rw_go p157_389 rfl
theorem r157_390 : RR 157 390 L (.int y :: .int x :: st) μ Q ↔ RR 157 391 L (.int (x + y) :: st) μ Q := rw_go p157_390 rfl
theorem r157_391 : RR 157 391 L (.int x :: .ref q :: st) (S, b, M, D, F) Q ↔ am_bd S b.2.2 q 0 x ∧ RR 157 392 L (.int (M q x.toInt.toNat) :: st) (S, b, M, D, F) Q := rw_c p157_391 am_xld_eq
theorem r157_392 : RR 157 392 (.ref q :: l) st μ Q ↔ RR 157 393 (.ref q :: l) (.ref q :: st) μ Q := rw_go p157_392 rfl
theorem r157_393 : RR 157 393 (a0 :: a1 :: a2 :: .int x :: l) st μ Q ↔ RR 157 394 (a0 :: a1 :: a2 :: .int x :: l) (.int x :: st) μ Q := rw_go p157_393 rfl
theorem r157_394 : RR 157 394 L st μ Q ↔ RR 157 395 L (.int (nI 2) :: st) μ Q := rw_go p157_394 rfl
theorem r157_395 : RR 157 395 L (.int y :: .int x :: st) μ Q ↔ RR 157 396 L (.int (x + y) :: st) μ Q := rw_go p157_395 rfl
theorem r157_396 : RR 157 396 L (.int x :: .ref q :: st) (S, b, M, D, F) Q ↔ am_bd S b.2.2 q 0 x ∧ RR 157 397 L (.int (M q x.toInt.toNat) :: st) (S, b, M, D, F) Q := rw_c p157_396 am_xld_eq
theorem r157_397 : RR 157 397 (.ref q :: l) st μ Q ↔ RR 157 398 (.ref q :: l) (.ref q :: st) μ Q := rw_go p157_397 rfl
theorem r157_398 : RR 157 398 (a0 :: a1 :: a2 :: .int x :: l) st μ Q ↔ RR 157 399 (a0 :: a1 :: a2 :: .int x :: l) (.int x :: st) μ Q := rw_go p157_398 rfl
theorem r157_399 : RR 157 399 L st μ Q ↔ RR 157 400 L (.int (nI 3) :: st) μ Q := rw_go p157_399 rfl
theorem r157_400 : RR 157 400 L (.int y :: .int x :: st) μ Q ↔ RR 157 401 L (.int (x + y) :: st) μ Q := rw_go p157_400 rfl
theorem r157_401 : RR 157 401 L (.int x :: .ref q :: st) (S, b, M, D, F) Q ↔ am_bd S b.2.2 q 0 x ∧ RR 157 402 L (.int (M q x.toInt.toNat) :: st) (S, b, M, D, F) Q := rw_c p157_401 am_xld_eq
theorem r157_402 : RR 157 402 L (.int x :: st) μ Q ↔ if x = 0 then RR 157 409 L st μ Q else RR 157 405 L st μ Q := rw_if p157_402 rfl
theorem r157_405 : RR 157 405 L st μ Q ↔ RR 157 406 L (.int (nI 1) :: st) μ Q := rw_go p157_405 rfl
theorem r157_406 : RR 157 406 L st μ Q ↔ RR 157 410 L st μ Q := rw_go p157_406 rfl
theorem r157_409 : RR 157 409 L st μ Q ↔ RR 157 410 L (.int (nI 0) :: st) μ Q := rw_go p157_409 rfl
theorem r157_410 : RR 157 410 (.ref q :: l) st μ Q ↔ RR 157 411 (.ref q :: l) (.ref q :: st) μ Q := rw_go p157_410 rfl
theorem r157_411 : RR 157 411 (a0 :: a1 :: a2 :: .int x :: l) st μ Q ↔ RR 157 412 (a0 :: a1 :: a2 :: .int x :: l) (.int x :: st) μ Q := rw_go p157_411 rfl
theorem r157_412 : RR 157 412 L st μ Q ↔ RR 157 413 L (.int (nI 4) :: st) μ Q := rw_go p157_412 rfl
theorem r157_413 : RR 157 413 L (.int y :: .int x :: st) μ Q ↔ RR 157 414 L (.int (x + y) :: st) μ Q := rw_go p157_413 rfl
theorem r157_414 : RR 157 414 L (.int x :: .ref q :: st) (S, b, M, D, F) Q ↔ am_bd S b.2.2 q 0 x ∧ RR 157 415 L (.int (M q x.toInt.toNat) :: st) (S, b, M, D, F) Q := rw_c p157_414 am_xld_eq
theorem r157_415 : RR 157 415 L (.int x4 :: .int x3 :: .int x2 :: .int x1 :: .ref q :: st) (S, (b1, b2, sl), M, D, F) Q ↔ (am_cat st ≤ 8 ∧ 5 = 5 ∧ S[q]? = some (.inl 9)) ∧ RR 39 0 [.ref q, .int x1, .int x2, .int x3, .int x4, .long 0] [] (S, (0, 0, sl), M, D, F) (fun rv μ' => μ'.1.length = S.length ∧ RR 157 418 L (rv.toList ++ st) (μ'.1, (b1, b2, sl), μ'.2.2) Q) := rw_callL p157_415 rfl (ac39 q x1 x2 x3 x4)
theorem r157_418 : RR 157 418 L (.int y :: .int x :: st) μ Q ↔ if x = y then RR 157 829 L st μ Q else RR 157 421 L st μ Q := rw_if p157_418 rfl
theorem r157_421 : RR 157 421 L st μ Q ↔ RR 157 422 L (.int (nI 0) :: st) μ Q := rw_go p157_421 rfl
theorem r157_422 : RR 157 422 L [.int x] μ Q ↔ (x = 0 ∨ x = 1) ∧ Q (some (.int x)) μ := rw_rc p157_422 rfl
theorem r157_423 : RR 157 423 (a0 :: .ref q :: l) st μ Q ↔ RR 157 424 (a0 :: .ref q :: l) (.ref q :: st) μ Q := rw_go p157_423 rfl
theorem r157_424 : RR 157 424 L (.ref q :: st) (S, (b1, b2, sl), M, D, F) Q ↔ (am_cat st ≤ 8 ∧ 1 = 1 ∧ S[q]? = some (.inl 8)) ∧ RR 6 0 [.ref q] [] (S, (0, 0, sl), M, D, F) (fun rv μ' => μ'.1.length = S.length ∧ RR 157 427 L (rv.toList ++ st) (μ'.1, (b1, b2, sl), μ'.2.2) Q) := rw_callL p157_424 rfl (ac6 q)
theorem r157_427 : RR 157 427 (a0 :: a1 :: .ref q :: l) st μ Q ↔ RR 157 428 (a0 :: a1 :: .ref q :: l) (.ref q :: st) μ Q := rw_go p157_427 rfl
theorem r157_428 : RR 157 428 L (.ref q :: st) (S, (b1, b2, sl), M, D, F) Q ↔ (am_cat st ≤ 8 ∧ 1 = 1 ∧ S[q]? = some (.inl 9)) ∧ RR 40 0 [.ref q, .long 0, .long 0] [] (S, (0, 0, sl), M, D, F) (fun rv μ' => μ'.1.length = S.length ∧ RR 157 431 L (rv.toList ++ st) (μ'.1, (b1, b2, sl), μ'.2.2) Q) := rw_callL p157_428 rfl (ac40 q)
theorem r157_431 : RR 157 431 L (.int y :: .int x :: st) μ Q ↔ if x = y then RR 157 829 L st μ Q else RR 157 434 L st μ Q := rw_if p157_431 rfl
theorem r157_434 : RR 157 434 L st μ Q ↔ RR 157 435 L (.int (nI 0) :: st) μ Q := rw_go p157_434 rfl
theorem r157_435 : RR 157 435 L [.int x] μ Q ↔ (x = 0 ∨ x = 1) ∧ Q (some (.int x)) μ := rw_rc p157_435 rfl
theorem r157_436 : RR 157 436 (a0 :: .ref q :: l) st μ Q ↔ RR 157 437 (a0 :: .ref q :: l) (.ref q :: st) μ Q := rw_go p157_436 rfl
theorem r157_437 : RR 157 437 (.ref q :: l) st μ Q ↔ RR 157 438 (.ref q :: l) (.ref q :: st) μ Q := rw_go p157_437 rfl
theorem r157_438 : RR 157 438 (a0 :: a1 :: a2 :: .int x :: l) st μ Q ↔ RR 157 439 (a0 :: a1 :: a2 :: .int x :: l) (.int x :: st) μ Q := rw_go p157_438 rfl
theorem r157_439 : RR 157 439 L st μ Q ↔ RR 157 440 L (.int (nI 1) :: st) μ Q := rw_go p157_439 rfl
theorem r157_440 : RR 157 440 L (.int y :: .int x :: st) μ Q ↔ RR 157 441 L (.int (x + y) :: st) μ Q := rw_go p157_440 rfl
theorem r157_441 : RR 157 441 L (.int x :: .ref q :: st) (S, b, M, D, F) Q ↔ am_bd S b.2.2 q 0 x ∧ RR 157 442 L (.int (M q x.toInt.toNat) :: st) (S, b, M, D, F) Q := rw_c p157_441 am_xld_eq
theorem r157_442 : RR 157 442 L (.int x1 :: .ref q :: st) (S, (b1, b2, sl), M, D, F) Q ↔ (am_cat st ≤ 8 ∧ 2 = 2 ∧ S[q]? = some (.inl 8)) ∧ RR 7 0 [.ref q, .int x1] [] (S, (0, 0, sl), M, D, F) (fun rv μ' => μ'.1.length = S.length ∧ RR 157 445 L (rv.toList ++ st) (μ'.1, (b1, b2, sl), μ'.2.2) Q) := rw_callL p157_442 rfl (ac7 q x1)
theorem r157_445 : RR 157 445 (a0 :: a1 :: .ref q :: l) st μ Q ↔ RR 157 446 (a0 :: a1 :: .ref q :: l) (.ref q :: st) μ Q := rw_go p157_445 rfl
theorem r157_446 : RR 157 446 (.ref q :: l) st μ Q ↔ RR 157 447 (.ref q :: l) (.ref q :: st) μ Q := rw_go p157_446 rfl
theorem r157_447 : RR 157 447 (a0 :: a1 :: a2 :: .int x :: l) st μ Q ↔ RR 157 448 (a0 :: a1 :: a2 :: .int x :: l) (.int x :: st) μ Q := rw_go p157_447 rfl
theorem r157_448 : RR 157 448 L st μ Q ↔ RR 157 449 L (.int (nI 1) :: st) μ Q := rw_go p157_448 rfl
theorem r157_449 : RR 157 449 L (.int y :: .int x :: st) μ Q ↔ RR 157 450 L (.int (x + y) :: st) μ Q := rw_go p157_449 rfl
theorem r157_450 : RR 157 450 L (.int x :: .ref q :: st) (S, b, M, D, F) Q ↔ am_bd S b.2.2 q 0 x ∧ RR 157 451 L (.int (M q x.toInt.toNat) :: st) (S, b, M, D, F) Q := rw_c p157_450 am_xld_eq
theorem r157_451 : RR 157 451 L (.int x1 :: .ref q :: st) (S, (b1, b2, sl), M, D, F) Q ↔ (am_cat st ≤ 8 ∧ 2 = 2 ∧ S[q]? = some (.inl 9)) ∧ RR 41 0 [.ref q, .int x1] [] (S, (0, 0, sl), M, D, F) (fun rv μ' => μ'.1.length = S.length ∧ RR 157 454 L (rv.toList ++ st) (μ'.1, (b1, b2, sl), μ'.2.2) Q) := rw_callL p157_451 rfl (ac41 q x1)
theorem r157_454 : RR 157 454 L (.int y :: .int x :: st) μ Q ↔ if x = y then RR 157 829 L st μ Q else RR 157 457 L st μ Q := rw_if p157_454 rfl
theorem r157_457 : RR 157 457 L st μ Q ↔ RR 157 458 L (.int (nI 0) :: st) μ Q := rw_go p157_457 rfl
theorem r157_458 : RR 157 458 L [.int x] μ Q ↔ (x = 0 ∨ x = 1) ∧ Q (some (.int x)) μ := rw_rc p157_458 rfl
theorem r157_459 : RR 157 459 (a0 :: .ref q :: l) st μ Q ↔ RR 157 460 (a0 :: .ref q :: l) (.ref q :: st) μ Q := rw_go p157_459 rfl
theorem r157_460 : RR 157 460 (.ref q :: l) st μ Q ↔ RR 157 461 (.ref q :: l) (.ref q :: st) μ Q := rw_go p157_460 rfl
theorem r157_461 : RR 157 461 (a0 :: a1 :: a2 :: .int x :: l) st μ Q ↔ RR 157 462 (a0 :: a1 :: a2 :: .int x :: l) (.int x :: st) μ Q := rw_go p157_461 rfl
theorem r157_462 : RR 157 462 L st μ Q ↔ RR 157 463 L (.int (nI 1) :: st) μ Q := rw_go p157_462 rfl
theorem r157_463 : RR 157 463 L (.int y :: .int x :: st) μ Q ↔ RR 157 464 L (.int (x + y) :: st) μ Q := rw_go p157_463 rfl
theorem r157_464 : RR 157 464 L (.int x :: .ref q :: st) (S, b, M, D, F) Q ↔ am_bd S b.2.2 q 0 x ∧ RR 157 465 L (.int (M q x.toInt.toNat) :: st) (S, b, M, D, F) Q := rw_c p157_464 am_xld_eq
theorem r157_465 : RR 157 465 (.ref q :: l) st μ Q ↔ RR 157 466 (.ref q :: l) (.ref q :: st) μ Q := rw_go p157_465 rfl
theorem r157_466 : RR 157 466 (a0 :: a1 :: a2 :: .int x :: l) st μ Q ↔ RR 157 467 (a0 :: a1 :: a2 :: .int x :: l) (.int x :: st) μ Q := rw_go p157_466 rfl
theorem r157_467 : RR 157 467 L st μ Q ↔ RR 157 468 L (.int (nI 2) :: st) μ Q := rw_go p157_467 rfl
theorem r157_468 : RR 157 468 L (.int y :: .int x :: st) μ Q ↔ RR 157 469 L (.int (x + y) :: st) μ Q := rw_go p157_468 rfl
theorem r157_469 : RR 157 469 L (.int x :: .ref q :: st) (S, b, M, D, F) Q ↔ am_bd S b.2.2 q 0 x ∧ RR 157 470 L (.int (M q x.toInt.toNat) :: st) (S, b, M, D, F) Q := rw_c p157_469 am_xld_eq
theorem r157_470 : RR 157 470 (.ref q :: l) st μ Q ↔ RR 157 471 (.ref q :: l) (.ref q :: st) μ Q := rw_go p157_470 rfl
theorem r157_471 : RR 157 471 (a0 :: a1 :: a2 :: .int x :: l) st μ Q ↔ RR 157 472 (a0 :: a1 :: a2 :: .int x :: l) (.int x :: st) μ Q := rw_go p157_471 rfl
theorem r157_472 : RR 157 472 L st μ Q ↔ RR 157 473 L (.int (nI 3) :: st) μ Q := rw_go p157_472 rfl
theorem r157_473 : RR 157 473 L (.int y :: .int x :: st) μ Q ↔ RR 157 474 L (.int (x + y) :: st) μ Q := rw_go p157_473 rfl
theorem r157_474 : RR 157 474 L (.int x :: .ref q :: st) (S, b, M, D, F) Q ↔ am_bd S b.2.2 q 0 x ∧ RR 157 475 L (.int (M q x.toInt.toNat) :: st) (S, b, M, D, F) Q := rw_c p157_474 am_xld_eq
theorem r157_475 : RR 157 475 L (.int x3 :: .int x2 :: .int x1 :: .ref q :: st) (S, (b1, b2, sl), M, D, F) Q ↔ (am_cat st ≤ 8 ∧ 4 = 4 ∧ S[q]? = some (.inl 8)) ∧ RR 8 0 [.ref q, .int x1, .int x2, .int x3] [] (S, (0, 0, sl), M, D, F) (fun rv μ' => μ'.1.length = S.length ∧ RR 157 478 L (rv.toList ++ st) (μ'.1, (b1, b2, sl), μ'.2.2) Q) := rw_callL p157_475 rfl (ac8 q x1 x2 x3)
theorem r157_478 : RR 157 478 (a0 :: a1 :: .ref q :: l) st μ Q ↔ RR 157 479 (a0 :: a1 :: .ref q :: l) (.ref q :: st) μ Q := rw_go p157_478 rfl
theorem r157_479 : RR 157 479 (.ref q :: l) st μ Q ↔ RR 157 480 (.ref q :: l) (.ref q :: st) μ Q := rw_go p157_479 rfl
theorem r157_480 : RR 157 480 (a0 :: a1 :: a2 :: .int x :: l) st μ Q ↔ RR 157 481 (a0 :: a1 :: a2 :: .int x :: l) (.int x :: st) μ Q := rw_go p157_480 rfl
theorem r157_481 : RR 157 481 L st μ Q ↔ RR 157 482 L (.int (nI 1) :: st) μ Q := rw_go p157_481 rfl
theorem r157_482 : RR 157 482 L (.int y :: .int x :: st) μ Q ↔ RR 157 483 L (.int (x + y) :: st) μ Q := rw_go p157_482 rfl
theorem r157_483 : RR 157 483 L (.int x :: .ref q :: st) (S, b, M, D, F) Q ↔ am_bd S b.2.2 q 0 x ∧ RR 157 484 L (.int (M q x.toInt.toNat) :: st) (S, b, M, D, F) Q := rw_c p157_483 am_xld_eq
theorem r157_484 : RR 157 484 (.ref q :: l) st μ Q ↔ RR 157 485 (.ref q :: l) (.ref q :: st) μ Q := rw_go p157_484 rfl
theorem r157_485 : RR 157 485 (a0 :: a1 :: a2 :: .int x :: l) st μ Q ↔ RR 157 486 (a0 :: a1 :: a2 :: .int x :: l) (.int x :: st) μ Q := rw_go p157_485 rfl
theorem r157_486 : RR 157 486 L st μ Q ↔ RR 157 487 L (.int (nI 2) :: st) μ Q := rw_go p157_486 rfl
theorem r157_487 : RR 157 487 L (.int y :: .int x :: st) μ Q ↔ RR 157 488 L (.int (x + y) :: st) μ Q := rw_go p157_487 rfl
theorem r157_488 : RR 157 488 L (.int x :: .ref q :: st) (S, b, M, D, F) Q ↔ am_bd S b.2.2 q 0 x ∧ RR 157 489 L (.int (M q x.toInt.toNat) :: st) (S, b, M, D, F) Q := rw_c p157_488 am_xld_eq
theorem r157_489 : RR 157 489 (.ref q :: l) st μ Q ↔ RR 157 490 (.ref q :: l) (.ref q :: st) μ Q := rw_go p157_489 rfl
theorem r157_490 : RR 157 490 (a0 :: a1 :: a2 :: .int x :: l) st μ Q ↔ RR 157 491 (a0 :: a1 :: a2 :: .int x :: l) (.int x :: st) μ Q := rw_go p157_490 rfl
theorem r157_491 : RR 157 491 L st μ Q ↔ RR 157 492 L (.int (nI 3) :: st) μ Q := rw_go p157_491 rfl
theorem r157_492 : RR 157 492 L (.int y :: .int x :: st) μ Q ↔ RR 157 493 L (.int (x + y) :: st) μ Q := rw_go p157_492 rfl
theorem r157_493 : RR 157 493 L (.int x :: .ref q :: st) (S, b, M, D, F) Q ↔ am_bd S b.2.2 q 0 x ∧ RR 157 494 L (.int (M q x.toInt.toNat) :: st) (S, b, M, D, F) Q := rw_c p157_493 am_xld_eq
theorem r157_494 : RR 157 494 L (.int x3 :: .int x2 :: .int x1 :: .ref q :: st) (S, (b1, b2, sl), M, D, F) Q ↔ (am_cat st ≤ 8 ∧ 4 = 4 ∧ S[q]? = some (.inl 9)) ∧ RR 42 0 [.ref q, .int x1, .int x2, .int x3, .long 0] [] (S, (0, 0, sl), M, D, F) (fun rv μ' => μ'.1.length = S.length ∧ RR 157 497 L (rv.toList ++ st) (μ'.1, (b1, b2, sl), μ'.2.2) Q) := rw_callL p157_494 rfl (ac42 q x1 x2 x3)
theorem r157_497 : RR 157 497 L (.int y :: .int x :: st) μ Q ↔ if x = y then RR 157 829 L st μ Q else RR 157 500 L st μ Q := rw_if p157_497 rfl
theorem r157_500 : RR 157 500 L st μ Q ↔ RR 157 501 L (.int (nI 0) :: st) μ Q := rw_go p157_500 rfl
theorem r157_501 : RR 157 501 L [.int x] μ Q ↔ (x = 0 ∨ x = 1) ∧ Q (some (.int x)) μ := rw_rc p157_501 rfl
theorem r157_502 : RR 157 502 (a0 :: .ref q :: l) st μ Q ↔ RR 157 503 (a0 :: .ref q :: l) (.ref q :: st) μ Q := rw_go p157_502 rfl
theorem r157_503 : RR 157 503 L (.ref q :: st) (S, (b1, b2, sl), M, D, F) Q ↔ (am_cat st ≤ 8 ∧ 1 = 1 ∧ S[q]? = some (.inl 8)) ∧ RR 9 0 [.ref q, .long 0] [] (S, (0, 0, sl), M, D, F) (fun rv μ' => μ'.1.length = S.length ∧ RR 157 506 L (rv.toList ++ st) (μ'.1, (b1, b2, sl), μ'.2.2) Q) := rw_callL p157_503 rfl (ac9 q)
theorem r157_506 : RR 157 506 (a0 :: a1 :: .ref q :: l) st μ Q ↔ RR 157 507 (a0 :: a1 :: .ref q :: l) (.ref q :: st) μ Q := rw_go p157_506 rfl
theorem r157_507 : RR 157 507 L (.ref q :: st) (S, (b1, b2, sl), M, D, F) Q ↔ (am_cat st ≤ 8 ∧ 1 = 1 ∧ S[q]? = some (.inl 9)) ∧ RR 43 0 [.ref q, .long 0] [] (S, (0, 0, sl), M, D, F) (fun rv μ' => μ'.1.length = S.length ∧ RR 157 510 L (rv.toList ++ st) (μ'.1, (b1, b2, sl), μ'.2.2) Q) := rw_callL p157_507 rfl (ac43 q)
theorem r157_510 : RR 157 510 L (.int y :: .int x :: st) μ Q ↔ if x = y then RR 157 829 L st μ Q else RR 157 513 L st μ Q := rw_if p157_510 rfl
theorem r157_513 : RR 157 513 L st μ Q ↔ RR 157 514 L (.int (nI 0) :: st) μ Q := rw_go p157_513 rfl
theorem r157_514 : RR 157 514 L [.int x] μ Q ↔ (x = 0 ∨ x = 1) ∧ Q (some (.int x)) μ := rw_rc p157_514 rfl
theorem r157_515 : RR 157 515 (a0 :: .ref q :: l) st μ Q ↔ RR 157 516 (a0 :: .ref q :: l) (.ref q :: st) μ Q := rw_go p157_515 rfl
theorem r157_516 : RR 157 516 (.ref q :: l) st μ Q ↔ RR 157 517 (.ref q :: l) (.ref q :: st) μ Q := rw_go p157_516 rfl
theorem r157_517 : RR 157 517 (a0 :: a1 :: a2 :: .int x :: l) st μ Q ↔ RR 157 518 (a0 :: a1 :: a2 :: .int x :: l) (.int x :: st) μ Q := rw_go p157_517 rfl
theorem r157_518 : RR 157 518 L st μ Q ↔ RR 157 519 L (.int (nI 1) :: st) μ Q := rw_go p157_518 rfl
theorem r157_519 : RR 157 519 L (.int y :: .int x :: st) μ Q ↔ RR 157 520 L (.int (x + y) :: st) μ Q := rw_go p157_519 rfl
theorem r157_520 : RR 157 520 L (.int x :: .ref q :: st) (S, b, M, D, F) Q ↔ am_bd S b.2.2 q 0 x ∧ RR 157 521 L (.int (M q x.toInt.toNat) :: st) (S, b, M, D, F) Q := rw_c p157_520 am_xld_eq
theorem r157_521 : RR 157 521 (.ref q :: l) st μ Q ↔ RR 157 522 (.ref q :: l) (.ref q :: st) μ Q := rw_go p157_521 rfl
theorem r157_522 : RR 157 522 (a0 :: a1 :: a2 :: .int x :: l) st μ Q ↔ RR 157 523 (a0 :: a1 :: a2 :: .int x :: l) (.int x :: st) μ Q := rw_go p157_522 rfl
theorem r157_523 : RR 157 523 L st μ Q ↔ RR 157 524 L (.int (nI 2) :: st) μ Q := rw_go p157_523 rfl
theorem r157_524 : RR 157 524 L (.int y :: .int x :: st) μ Q ↔ RR 157 525 L (.int (x + y) :: st) μ Q := rw_go p157_524 rfl
theorem r157_525 : RR 157 525 L (.int x :: .ref q :: st) (S, b, M, D, F) Q ↔ am_bd S b.2.2 q 0 x ∧ RR 157 526 L (.int (M q x.toInt.toNat) :: st) (S, b, M, D, F) Q := rw_c p157_525 am_xld_eq
theorem r157_526 : RR 157 526 (.ref q :: l) st μ Q ↔ RR 157 527 (.ref q :: l) (.ref q :: st) μ Q := rw_go p157_526 rfl
theorem r157_527 : RR 157 527 (a0 :: a1 :: a2 :: .int x :: l) st μ Q ↔ RR 157 528 (a0 :: a1 :: a2 :: .int x :: l) (.int x :: st) μ Q := rw_go p157_527 rfl
theorem r157_528 : RR 157 528 L st μ Q ↔ RR 157 529 L (.int (nI 3) :: st) μ Q := rw_go p157_528 rfl
theorem r157_529 : RR 157 529 L (.int y :: .int x :: st) μ Q ↔ RR 157 530 L (.int (x + y) :: st) μ Q := rw_go p157_529 rfl
theorem r157_530 : RR 157 530 L (.int x :: .ref q :: st) (S, b, M, D, F) Q ↔ am_bd S b.2.2 q 0 x ∧ RR 157 531 L (.int (M q x.toInt.toNat) :: st) (S, b, M, D, F) Q := rw_c p157_530 am_xld_eq
theorem r157_531 : RR 157 531 L (.int x3 :: .int x2 :: .int x1 :: .ref q :: st) (S, (b1, b2, sl), M, D, F) Q ↔ (am_cat st ≤ 8 ∧ 4 = 4 ∧ S[q]? = some (.inl 8)) ∧ RR 10 0 [.ref q, .int x1, .int x2, .int x3] [] (S, (0, 0, sl), M, D, F) (fun rv μ' => μ'.1.length = S.length ∧ RR 157 534 L (rv.toList ++ st) (μ'.1, (b1, b2, sl), μ'.2.2) Q) := rw_callL p157_531 rfl (ac10 q x1 x2 x3)
theorem r157_534 : RR 157 534 (a0 :: a1 :: .ref q :: l) st μ Q ↔ RR 157 535 (a0 :: a1 :: .ref q :: l) (.ref q :: st) μ Q := rw_go p157_534 rfl
theorem r157_535 : RR 157 535 (.ref q :: l) st μ Q ↔ RR 157 536 (.ref q :: l) (.ref q :: st) μ Q := rw_go p157_535 rfl
theorem r157_536 : RR 157 536 (a0 :: a1 :: a2 :: .int x :: l) st μ Q ↔ RR 157 537 (a0 :: a1 :: a2 :: .int x :: l) (.int x :: st) μ Q := rw_go p157_536 rfl
theorem r157_537 : RR 157 537 L st μ Q ↔ RR 157 538 L (.int (nI 1) :: st) μ Q := rw_go p157_537 rfl
theorem r157_538 : RR 157 538 L (.int y :: .int x :: st) μ Q ↔ RR 157 539 L (.int (x + y) :: st) μ Q := rw_go p157_538 rfl
theorem r157_539 : RR 157 539 L (.int x :: .ref q :: st) (S, b, M, D, F) Q ↔ am_bd S b.2.2 q 0 x ∧ RR 157 540 L (.int (M q x.toInt.toNat) :: st) (S, b, M, D, F) Q := rw_c p157_539 am_xld_eq
theorem r157_540 : RR 157 540 (.ref q :: l) st μ Q ↔ RR 157 541 (.ref q :: l) (.ref q :: st) μ Q := rw_go p157_540 rfl
theorem r157_541 : RR 157 541 (a0 :: a1 :: a2 :: .int x :: l) st μ Q ↔ RR 157 542 (a0 :: a1 :: a2 :: .int x :: l) (.int x :: st) μ Q := rw_go p157_541 rfl
theorem r157_542 : RR 157 542 L st μ Q ↔ RR 157 543 L (.int (nI 2) :: st) μ Q := rw_go p157_542 rfl
theorem r157_543 : RR 157 543 L (.int y :: .int x :: st) μ Q ↔ RR 157 544 L (.int (x + y) :: st) μ Q := rw_go p157_543 rfl
theorem r157_544 : RR 157 544 L (.int x :: .ref q :: st) (S, b, M, D, F) Q ↔ am_bd S b.2.2 q 0 x ∧ RR 157 545 L (.int (M q x.toInt.toNat) :: st) (S, b, M, D, F) Q := rw_c p157_544 am_xld_eq
theorem r157_545 : RR 157 545 (.ref q :: l) st μ Q ↔ RR 157 546 (.ref q :: l) (.ref q :: st) μ Q := rw_go p157_545 rfl
theorem r157_546 : RR 157 546 (a0 :: a1 :: a2 :: .int x :: l) st μ Q ↔ RR 157 547 (a0 :: a1 :: a2 :: .int x :: l) (.int x :: st) μ Q := rw_go p157_546 rfl
theorem r157_547 : RR 157 547 L st μ Q ↔ RR 157 548 L (.int (nI 3) :: st) μ Q := rw_go p157_547 rfl
theorem r157_548 : RR 157 548 L (.int y :: .int x :: st) μ Q ↔ RR 157 549 L (.int (x + y) :: st) μ Q := rw_go p157_548 rfl
theorem r157_549 : RR 157 549 L (.int x :: .ref q :: st) (S, b, M, D, F) Q ↔ am_bd S b.2.2 q 0 x ∧ RR 157 550 L (.int (M q x.toInt.toNat) :: st) (S, b, M, D, F) Q := rw_c p157_549 am_xld_eq
theorem r157_550 : RR 157 550 L (.int x3 :: .int x2 :: .int x1 :: .ref q :: st) (S, (b1, b2, sl), M, D, F) Q ↔ (am_cat st ≤ 8 ∧ 4 = 4 ∧ S[q]? = some (.inl 9)) ∧ RR 44 0 [.ref q, .int x1, .int x2, .int x3] [] (S, (0, 0, sl), M, D, F) (fun rv μ' => μ'.1.length = S.length ∧ RR 157 553 L (rv.toList ++ st) (μ'.1, (b1, b2, sl), μ'.2.2) Q) := rw_callL p157_550 rfl (ac44 q x1 x2 x3)
theorem r157_553 : RR 157 553 L (.int y :: .int x :: st) μ Q ↔ if x = y then RR 157 829 L st μ Q else RR 157 556 L st μ Q := rw_if p157_553 rfl
theorem r157_556 : RR 157 556 L st μ Q ↔ RR 157 557 L (.int (nI 0) :: st) μ Q := rw_go p157_556 rfl
theorem r157_557 : RR 157 557 L [.int x] μ Q ↔ (x = 0 ∨ x = 1) ∧ Q (some (.int x)) μ := rw_rc p157_557 rfl
theorem r157_558 : RR 157 558 (a0 :: .ref q :: l) st μ Q ↔ RR 157 559 (a0 :: .ref q :: l) (.ref q :: st) μ Q := rw_go p157_558 rfl
theorem r157_559 : RR 157 559 L (.ref q :: st) (S, (b1, b2, sl), M, D, F) Q ↔ (am_cat st ≤ 8 ∧ 1 = 1 ∧ S[q]? = some (.inl 8)) ∧ RR 11 0 [.ref q] [] (S, (0, 0, sl), M, D, F) (fun rv μ' => μ'.1.length = S.length ∧ RR 157 562 L (rv.toList ++ st) (μ'.1, (b1, b2, sl), μ'.2.2) Q) := rw_callL p157_559 rfl (ac11 q)
theorem r157_562 : RR 157 562 (a0 :: a1 :: .ref q :: l) st μ Q ↔ RR 157 563 (a0 :: a1 :: .ref q :: l) (.ref q :: st) μ Q := rw_go p157_562 rfl
theorem r157_563 : RR 157 563 L (.ref q :: st) (S, (b1, b2, sl), M, D, F) Q ↔ (am_cat st ≤ 8 ∧ 1 = 1 ∧ S[q]? = some (.inl 9)) ∧ RR 60 0 [.ref q] [] (S, (0, 0, sl), M, D, F) (fun rv μ' => μ'.1.length = S.length ∧ RR 157 566 L (rv.toList ++ st) (μ'.1, (b1, b2, sl), μ'.2.2) Q) := rw_callL p157_563 rfl (ac60 q)
theorem r157_566 : RR 157 566 L (.int y :: .int x :: st) μ Q ↔ if x = y then RR 157 829 L st μ Q else RR 157 569 L st μ Q := rw_if p157_566 rfl
theorem r157_569 : RR 157 569 L st μ Q ↔ RR 157 570 L (.int (nI 0) :: st) μ Q := rw_go p157_569 rfl
theorem r157_570 : RR 157 570 L [.int x] μ Q ↔ (x = 0 ∨ x = 1) ∧ Q (some (.int x)) μ := rw_rc p157_570 rfl
theorem r157_571 : RR 157 571 (a0 :: .ref q :: l) st μ Q ↔ RR 157 572 (a0 :: .ref q :: l) (.ref q :: st) μ Q := rw_go p157_571 rfl
theorem r157_572 : RR 157 572 (.ref q :: l) st μ Q ↔ RR 157 573 (.ref q :: l) (.ref q :: st) μ Q := rw_go p157_572 rfl
theorem r157_573 : RR 157 573 (a0 :: a1 :: a2 :: .int x :: l) st μ Q ↔ RR 157 574 (a0 :: a1 :: a2 :: .int x :: l) (.int x :: st) μ Q := rw_go p157_573 rfl
theorem r157_574 : RR 157 574 L st μ Q ↔ RR 157 575 L (.int (nI 1) :: st) μ Q := rw_go p157_574 rfl
theorem r157_575 : RR 157 575 L (.int y :: .int x :: st) μ Q ↔ RR 157 576 L (.int (x + y) :: st) μ Q := rw_go p157_575 rfl
theorem r157_576 : RR 157 576 L (.int x :: .ref q :: st) (S, b, M, D, F) Q ↔ am_bd S b.2.2 q 0 x ∧ RR 157 577 L (.int (M q x.toInt.toNat) :: st) (S, b, M, D, F) Q := rw_c p157_576 am_xld_eq
theorem r157_577 : RR 157 577 (.ref q :: l) st μ Q ↔ RR 157 578 (.ref q :: l) (.ref q :: st) μ Q := rw_go p157_577 rfl
theorem r157_578 : RR 157 578 (a0 :: a1 :: a2 :: .int x :: l) st μ Q ↔ RR 157 579 (a0 :: a1 :: a2 :: .int x :: l) (.int x :: st) μ Q := rw_go p157_578 rfl
theorem r157_579 : RR 157 579 L st μ Q ↔ RR 157 580 L (.int (nI 2) :: st) μ Q := rw_go p157_579 rfl
theorem r157_580 : RR 157 580 L (.int y :: .int x :: st) μ Q ↔ RR 157 581 L (.int (x + y) :: st) μ Q := rw_go p157_580 rfl
theorem r157_581 : RR 157 581 L (.int x :: .ref q :: st) (S, b, M, D, F) Q ↔ am_bd S b.2.2 q 0 x ∧ RR 157 582 L (.int (M q x.toInt.toNat) :: st) (S, b, M, D, F) Q := rw_c p157_581 am_xld_eq
theorem r157_582 : RR 157 582 L (.int x2 :: .int x1 :: .ref q :: st) (S, (b1, b2, sl), M, D, F) Q ↔ (am_cat st ≤ 8 ∧ 3 = 3 ∧ S[q]? = some (.inl 8)) ∧ RR 12 0 [.ref q, .int x1, .int x2, .long 0, .long 0] [] (S, (0, 0, sl), M, D, F) (fun rv μ' => μ'.1.length = S.length ∧ RR 157 585 L (rv.toList ++ st) (μ'.1, (b1, b2, sl), μ'.2.2) Q) := rw_callL p157_582 rfl (ac12 q x1 x2)
theorem r157_585 : RR 157 585 (a0 :: a1 :: .ref q :: l) st μ Q ↔ RR 157 586 (a0 :: a1 :: .ref q :: l) (.ref q :: st) μ Q := rw_go p157_585 rfl
theorem r157_586 : RR 157 586 (.ref q :: l) st μ Q ↔ RR 157 587 (.ref q :: l) (.ref q :: st) μ Q := rw_go p157_586 rfl
theorem r157_587 : RR 157 587 (a0 :: a1 :: a2 :: .int x :: l) st μ Q ↔ RR 157 588 (a0 :: a1 :: a2 :: .int x :: l) (.int x :: st) μ Q := rw_go p157_587 rfl
theorem r157_588 : RR 157 588 L st μ Q ↔ RR 157 589 L (.int (nI 1) :: st) μ Q := rw_go p157_588 rfl
theorem r157_589 : RR 157 589 L (.int y :: .int x :: st) μ Q ↔ RR 157 590 L (.int (x + y) :: st) μ Q := rw_go p157_589 rfl
theorem r157_590 : RR 157 590 L (.int x :: .ref q :: st) (S, b, M, D, F) Q ↔ am_bd S b.2.2 q 0 x ∧ RR 157 591 L (.int (M q x.toInt.toNat) :: st) (S, b, M, D, F) Q := rw_c p157_590 am_xld_eq
theorem r157_591 : RR 157 591 (.ref q :: l) st μ Q ↔ RR 157 592 (.ref q :: l) (.ref q :: st) μ Q := rw_go p157_591 rfl
theorem r157_592 : RR 157 592 (a0 :: a1 :: a2 :: .int x :: l) st μ Q ↔ RR 157 593 (a0 :: a1 :: a2 :: .int x :: l) (.int x :: st) μ Q := rw_go p157_592 rfl
theorem r157_593 : RR 157 593 L st μ Q ↔ RR 157 594 L (.int (nI 2) :: st) μ Q := rw_go p157_593 rfl
theorem r157_594 : RR 157 594 L (.int y :: .int x :: st) μ Q ↔ RR 157 595 L (.int (x + y) :: st) μ Q := rw_go p157_594 rfl
theorem r157_595 : RR 157 595 L (.int x :: .ref q :: st) (S, b, M, D, F) Q ↔ am_bd S b.2.2 q 0 x ∧ RR 157 596 L (.int (M q x.toInt.toNat) :: st) (S, b, M, D, F) Q := rw_c p157_595 am_xld_eq
theorem r157_596 : RR 157 596 L (.int x2 :: .int x1 :: .ref q :: st) (S, (b1, b2, sl), M, D, F) Q ↔ (am_cat st ≤ 8 ∧ 3 = 3 ∧ S[q]? = some (.inl 9)) ∧ RR 61 0 [.ref q, .int x1, .int x2, .long 0] [] (S, (0, 0, sl), M, D, F) (fun rv μ' => μ'.1.length = S.length ∧ RR 157 599 L (rv.toList ++ st) (μ'.1, (b1, b2, sl), μ'.2.2) Q) := rw_callL p157_596 rfl (ac61 q x1 x2)
theorem r157_599 : RR 157 599 L (.int y :: .int x :: st) μ Q ↔ if x = y then RR 157 829 L st μ Q else RR 157 602 L st μ Q := rw_if p157_599 rfl
theorem r157_602 : RR 157 602 L st μ Q ↔ RR 157 603 L (.int (nI 0) :: st) μ Q := rw_go p157_602 rfl
theorem r157_603 : RR 157 603 L [.int x] μ Q ↔ (x = 0 ∨ x = 1) ∧ Q (some (.int x)) μ := rw_rc p157_603 rfl
theorem r157_604 : RR 157 604 (a0 :: .ref q :: l) st μ Q ↔ RR 157 605 (a0 :: .ref q :: l) (.ref q :: st) μ Q := rw_go p157_604 rfl
theorem r157_605 : RR 157 605 (.ref q :: l) st μ Q ↔ RR 157 606 (.ref q :: l) (.ref q :: st) μ Q := rw_go p157_605 rfl
theorem r157_606 : RR 157 606 (a0 :: a1 :: a2 :: .int x :: l) st μ Q ↔ RR 157 607 (a0 :: a1 :: a2 :: .int x :: l) (.int x :: st) μ Q := rw_go p157_606 rfl
theorem r157_607 : RR 157 607 L st μ Q ↔ RR 157 608 L (.int (nI 1) :: st) μ Q := rw_go p157_607 rfl
theorem r157_608 : RR 157 608 L (.int y :: .int x :: st) μ Q ↔ RR 157 609 L (.int (x + y) :: st) μ Q := rw_go p157_608 rfl
theorem r157_609 : RR 157 609 L (.int x :: .ref q :: st) (S, b, M, D, F) Q ↔ am_bd S b.2.2 q 0 x ∧ RR 157 610 L (.int (M q x.toInt.toNat) :: st) (S, b, M, D, F) Q := rw_c p157_609 am_xld_eq
theorem r157_610 : RR 157 610 L (.int x1 :: .ref q :: st) (S, (b1, b2, sl), M, D, F) Q ↔ (am_cat st ≤ 8 ∧ 2 = 2 ∧ S[q]? = some (.inl 8)) ∧ RR 13 0 [.ref q, .int x1, .long 0] [] (S, (0, 0, sl), M, D, F) (fun rv μ' => μ'.1.length = S.length ∧ RR 157 613 L (rv.toList ++ st) (μ'.1, (b1, b2, sl), μ'.2.2) Q) := rw_callL p157_610 rfl (ac13 q x1)
theorem r157_613 : RR 157 613 (a0 :: a1 :: a2 :: a3 :: c0 :: c1 :: l) (.double d :: st) μ Q ↔ RR 157 615 (a0 :: a1 :: a2 :: am_nd a3 :: .double d :: .long 0 :: l) st μ Q := rw_dst p157_613 (by show 5 < _; simp only [List.length_cons]; omega)
theorem r157_615 : RR 157 615 (a0 :: a1 :: .ref q :: l) st μ Q ↔ RR 157 616 (a0 :: a1 :: .ref q :: l) (.ref q :: st) μ Q := rw_go p157_615 rfl
theorem r157_616 : RR 157 616 (.ref q :: l) st μ Q ↔ RR 157 617 (.ref q :: l) (.ref q :: st) μ Q := rw_go p157_616 rfl
theorem r157_617 : RR 157 617 (a0 :: a1 :: a2 :: .int x :: l) st μ Q ↔ RR 157 618 (a0 :: a1 :: a2 :: .int x :: l) (.int x :: st) μ Q := rw_go p157_617 rfl
theorem r157_618 : RR 157 618 L st μ Q ↔ RR 157 619 L (.int (nI 1) :: st) μ Q := rw_go p157_618 rfl
theorem r157_619 : RR 157 619 L (.int y :: .int x :: st) μ Q ↔ RR 157 620 L (.int (x + y) :: st) μ Q := rw_go p157_619 rfl
theorem r157_620 : RR 157 620 L (.int x :: .ref q :: st) (S, b, M, D, F) Q ↔ am_bd S b.2.2 q 0 x ∧ RR 157 621 L (.int (M q x.toInt.toNat) :: st) (S, b, M, D, F) Q := rw_c p157_620 am_xld_eq
theorem r157_621 : RR 157 621 L (.int x1 :: .ref q :: st) (S, (b1, b2, sl), M, D, F) Q ↔ (am_cat st ≤ 8 ∧ 2 = 2 ∧ S[q]? = some (.inl 9)) ∧ RR 62 0 [.ref q, .int x1, .long 0] [] (S, (0, 0, sl), M, D, F) (fun rv μ' => μ'.1.length = S.length ∧ RR 157 624 L (rv.toList ++ st) (μ'.1, (b1, b2, sl), μ'.2.2) Q) := rw_callL p157_621 rfl (ac62 q x1)
theorem r157_624 : RR 157 624 (a0 :: a1 :: a2 :: a3 :: a4 :: a5 :: c0 :: c1 :: l) (.double d :: st) μ Q ↔ RR 157 626 (a0 :: a1 :: a2 :: a3 :: a4 :: am_nd a5 :: .double d :: .long 0 :: l) st μ Q := rw_dst p157_624 (by show 7 < _; simp only [List.length_cons]; omega)
theorem r157_626 : RR 157 626 (a0 :: a1 :: a2 :: a3 :: .double d :: l) st μ Q ↔ RR 157 628 (a0 :: a1 :: a2 :: a3 :: .double d :: l) (.double d :: st) μ Q := rw_go p157_626 rfl
theorem r157_628 : RR 157 628 (a0 :: a1 :: a2 :: a3 :: a4 :: a5 :: .double d :: l) st μ Q ↔ RR 157 630 (a0 :: a1 :: a2 :: a3 :: a4 :: a5 :: .double d :: l) (.double d :: st) μ Q := rw_go p157_628 rfl
theorem r157_630 : RR 157 630 L (.double d2 :: .double d :: st) μ Q ↔ RR 157 631 L (.int (Op.cmpValue (FP.dcmp d d2) .l) :: st) μ Q := rw_go p157_630 rfl
theorem r157_631 : RR 157 631 L (.int x :: st) μ Q ↔ if x = 0 then RR 157 652 L st μ Q else RR 157 634 L st μ Q := rw_if p157_631 rfl
theorem r157_634 : RR 157 634 (a0 :: a1 :: a2 :: a3 :: .double d :: l) st μ Q ↔ RR 157 636 (a0 :: a1 :: a2 :: a3 :: .double d :: l) (.double d :: st) μ Q := rw_go p157_634 rfl
theorem r157_636 : RR 157 636 (a0 :: a1 :: a2 :: a3 :: .double d :: l) st μ Q ↔ RR 157 638 (a0 :: a1 :: a2 :: a3 :: .double d :: l) (.double d :: st) μ Q := rw_go p157_636 rfl
theorem r157_638 : RR 157 638 L (.double d2 :: .double d :: st) μ Q ↔ RR 157 639 L (.int (Op.cmpValue (FP.dcmp d d2) .l) :: st) μ Q := rw_go p157_638 rfl
theorem r157_639 : RR 157 639 L (.int x :: st) μ Q ↔ if x = 0 then RR 157 650 L st μ Q else RR 157 642 L st μ Q := rw_if p157_639 rfl
theorem r157_642 : RR 157 642 (a0 :: a1 :: a2 :: a3 :: a4 :: a5 :: .double d :: l) st μ Q ↔ RR 157 644 (a0 :: a1 :: a2 :: a3 :: a4 :: a5 :: .double d :: l) (.double d :: st) μ Q := rw_go p157_642 rfl
theorem r157_644 : RR 157 644 (a0 :: a1 :: a2 :: a3 :: a4 :: a5 :: .double d :: l) st μ Q ↔ RR 157 646 (a0 :: a1 :: a2 :: a3 :: a4 :: a5 :: .double d :: l) (.double d :: st) μ Q := rw_go p157_644 rfl
theorem r157_646 : RR 157 646 L (.double d2 :: .double d :: st) μ Q ↔ RR 157 647 L (.int (Op.cmpValue (FP.dcmp d d2) .l) :: st) μ Q := rw_go p157_646 rfl
theorem r157_647 : RR 157 647 L (.int x :: st) μ Q ↔ if ¬ x = 0 then RR 157 652 L st μ Q else RR 157 650 L st μ Q := rw_if p157_647 rfl
theorem r157_650 : RR 157 650 L st μ Q ↔ RR 157 651 L (.int (nI 0) :: st) μ Q := rw_go p157_650 rfl
theorem r157_651 : RR 157 651 L [.int x] μ Q ↔ (x = 0 ∨ x = 1) ∧ Q (some (.int x)) μ := rw_rc p157_651 rfl
theorem r157_652 : RR 157 652 L st μ Q ↔ RR 157 829 L st μ Q := rw_go p157_652 rfl
theorem r157_655 : RR 157 655 (a0 :: .ref q :: l) st μ Q ↔ RR 157 656 (a0 :: .ref q :: l) (.ref q :: st) μ Q := rw_go p157_655 rfl
theorem r157_656 : RR 157 656 (.ref q :: l) st μ Q ↔ RR 157 657 (.ref q :: l) (.ref q :: st) μ Q := rw_go p157_656 rfl
theorem r157_657 : RR 157 657 (a0 :: a1 :: a2 :: .int x :: l) st μ Q ↔ RR 157 658 (a0 :: a1 :: a2 :: .int x :: l) (.int x :: st) μ Q := rw_go p157_657 rfl
theorem r157_658 : RR 157 658 L st μ Q ↔ RR 157 659 L (.int (nI 1) :: st) μ Q := rw_go p157_658 rfl
theorem r157_659 : RR 157 659 L (.int y :: .int x :: st) μ Q ↔ RR 157 660 L (.int (x + y) :: st) μ Q := rw_go p157_659 rfl
theorem r157_660 : RR 157 660 L (.int x :: .ref q :: st) (S, b, M, D, F) Q ↔ am_bd S b.2.2 q 0 x ∧ RR 157 661 L (.int (M q x.toInt.toNat) :: st) (S, b, M, D, F) Q := rw_c p157_660 am_xld_eq
theorem r157_661 : RR 157 661 L (.int x :: st) μ Q ↔ if x = 0 then RR 157 668 L st μ Q else RR 157 664 L st μ Q := rw_if p157_661 rfl
theorem r157_664 : RR 157 664 L st μ Q ↔ RR 157 665 L (.int (nI 1) :: st) μ Q := rw_go p157_664 rfl
theorem r157_665 : RR 157 665 L st μ Q ↔ RR 157 669 L st μ Q := rw_go p157_665 rfl
theorem r157_668 : RR 157 668 L st μ Q ↔ RR 157 669 L (.int (nI 0) :: st) μ Q := rw_go p157_668 rfl
theorem r157_669 : RR 157 669 (.ref q :: l) st μ Q ↔ RR 157 670 (.ref q :: l) (.ref q :: st) μ Q := rw_go p157_669 rfl
theorem r157_670 : RR 157 670 (a0 :: a1 :: a2 :: .int x :: l) st μ Q ↔ RR 157 671 (a0 :: a1 :: a2 :: .int x :: l) (.int x :: st) μ Q := rw_go p157_670 rfl
theorem r157_671 : RR 157 671 L st μ Q ↔ RR 157 672 L (.int (nI 2) :: st) μ Q := rw_go p157_671 rfl
theorem r157_672 : RR 157 672 L (.int y :: .int x :: st) μ Q ↔ RR 157 673 L (.int (x + y) :: st) μ Q := rw_go p157_672 rfl
theorem r157_673 : RR 157 673 L (.int x :: .ref q :: st) (S, b, M, D, F) Q ↔ am_bd S b.2.2 q 0 x ∧ RR 157 674 L (.int (M q x.toInt.toNat) :: st) (S, b, M, D, F) Q := rw_c p157_673 am_xld_eq
theorem r157_674 : RR 157 674 L (.int x2 :: .int x1 :: .ref q :: st) (S, (b1, b2, sl), M, D, F) Q ↔ (am_cat st ≤ 8 ∧ 3 = 3 ∧ S[q]? = some (.inl 8)) ∧ RR 14 0 [.ref q, .int x1, .int x2, .long 0] [] (S, (0, 0, sl), M, D, F) (fun rv μ' => μ'.1.length = S.length ∧ RR 157 677 L (rv.toList ++ st) (μ'.1, (b1, b2, sl), μ'.2.2) Q) := rw_callL p157_674 rfl (ac14 q x1 x2)
theorem r157_677 : RR 157 677 (a0 :: a1 :: .ref q :: l) st μ Q ↔ RR 157 678 (a0 :: a1 :: .ref q :: l) (.ref q :: st) μ Q := rw_go p157_677 rfl
theorem r157_678 : RR 157 678 (.ref q :: l) st μ Q ↔ RR 157 679 (.ref q :: l) (.ref q :: st) μ Q := rw_go p157_678 rfl
theorem r157_679 : RR 157 679 (a0 :: a1 :: a2 :: .int x :: l) st μ Q ↔ RR 157 680 (a0 :: a1 :: a2 :: .int x :: l) (.int x :: st) μ Q := rw_go p157_679 rfl
theorem r157_680 : RR 157 680 L st μ Q ↔ RR 157 681 L (.int (nI 1) :: st) μ Q := rw_go p157_680 rfl
theorem r157_681 : RR 157 681 L (.int y :: .int x :: st) μ Q ↔ RR 157 682 L (.int (x + y) :: st) μ Q := rw_go p157_681 rfl
theorem r157_682 : RR 157 682 L (.int x :: .ref q :: st) (S, b, M, D, F) Q ↔ am_bd S b.2.2 q 0 x ∧ RR 157 683 L (.int (M q x.toInt.toNat) :: st) (S, b, M, D, F) Q := rw_c p157_682 am_xld_eq
theorem r157_683 : RR 157 683 L (.int x :: st) μ Q ↔ if x = 0 then RR 157 690 L st μ Q else RR 157 686 L st μ Q := rw_if p157_683 rfl
theorem r157_686 : RR 157 686 L st μ Q ↔ RR 157 687 L (.int (nI 1) :: st) μ Q := rw_go p157_686 rfl
theorem r157_687 : RR 157 687 L st μ Q ↔ RR 157 691 L st μ Q := rw_go p157_687 rfl
theorem r157_690 : RR 157 690 L st μ Q ↔ RR 157 691 L (.int (nI 0) :: st) μ Q := rw_go p157_690 rfl
theorem r157_691 : RR 157 691 (.ref q :: l) st μ Q ↔ RR 157 692 (.ref q :: l) (.ref q :: st) μ Q := rw_go p157_691 rfl
theorem r157_692 : RR 157 692 (a0 :: a1 :: a2 :: .int x :: l) st μ Q ↔ RR 157 693 (a0 :: a1 :: a2 :: .int x :: l) (.int x :: st) μ Q := rw_go p157_692 rfl
theorem r157_693 : RR 157 693 L st μ Q ↔ RR 157 694 L (.int (nI 2) :: st) μ Q := rw_go p157_693 rfl
theorem r157_694 : RR 157 694 L (.int y :: .int x :: st) μ Q ↔ RR 157 695 L (.int (x + y) :: st) μ Q := rw_go p157_694 rfl
theorem r157_695 : RR 157 695 L (.int x :: .ref q :: st) (S, b, M, D, F) Q ↔ am_bd S b.2.2 q 0 x ∧ RR 157 696 L (.int (M q x.toInt.toNat) :: st) (S, b, M, D, F) Q := rw_c p157_695 am_xld_eq
theorem r157_696 : RR 157 696 L (.int x2 :: .int x1 :: .ref q :: st) (S, (b1, b2, sl), M, D, F) Q ↔ (am_cat st ≤ 8 ∧ 3 = 3 ∧ S[q]? = some (.inl 9)) ∧ RR 70 0 [.ref q, .int x1, .int x2] [] (S, (0, 0, sl), M, D, F) (fun rv μ' => μ'.1.length = S.length ∧ RR 157 699 L (rv.toList ++ st) (μ'.1, (b1, b2, sl), μ'.2.2) Q) := rw_callL p157_696 rfl (ac70 q x1 x2)
theorem r157_699 : RR 157 699 L (.int y :: .int x :: st) μ Q ↔ if x = y then RR 157 829 L st μ Q else RR 157 702 L st μ Q := rw_if p157_699 rfl
theorem r157_702 : RR 157 702 L st μ Q ↔ RR 157 703 L (.int (nI 0) :: st) μ Q := rw_go p157_702 rfl
theorem r157_703 : RR 157 703 L [.int x] μ Q ↔ (x = 0 ∨ x = 1) ∧ Q (some (.int x)) μ := rw_rc p157_703 rfl
theorem r157_704 : RR 157 704 (a0 :: .ref q :: l) st μ Q ↔ RR 157 705 (a0 :: .ref q :: l) (.ref q :: st) μ Q := rw_go p157_704 rfl
theorem r157_705 : RR 157 705 L (.ref q :: st) (S, (b1, b2, sl), M, D, F) Q ↔ (am_cat st ≤ 8 ∧ 1 = 1 ∧ S[q]? = some (.inl 8)) ∧ RR 15 0 [.ref q] [] (S, (0, 0, sl), M, D, F) (fun rv μ' => μ'.1.length = S.length ∧ RR 157 708 L (rv.toList ++ st) (μ'.1, (b1, b2, sl), μ'.2.2) Q) := rw_callL p157_705 rfl (ac15 q)
theorem r157_708 : RR 157 708 (a0 :: a1 :: .ref q :: l) st μ Q ↔ RR 157 709 (a0 :: a1 :: .ref q :: l) (.ref q :: st) μ Q := rw_go p157_708 rfl
theorem r157_709 : RR 157 709 L (.ref q :: st) (S, (b1, b2, sl), M, D, F) Q ↔ (am_cat st ≤ 8 ∧ 1 = 1 ∧ S[q]? = some (.inl 9)) ∧ RR 72 0 [.ref q] [] (S, (0, 0, sl), M, D, F) (fun rv μ' => μ'.1.length = S.length ∧ RR 157 712 L (rv.toList ++ st) (μ'.1, (b1, b2, sl), μ'.2.2) Q) := rw_callL p157_709 rfl (ac72 q)
theorem r157_712 : RR 157 712 L (.int y :: .int x :: st) μ Q ↔ if x = y then RR 157 829 L st μ Q else RR 157 715 L st μ Q := rw_if p157_712 rfl
theorem r157_715 : RR 157 715 L st μ Q ↔ RR 157 716 L (.int (nI 0) :: st) μ Q := rw_go p157_715 rfl
theorem r157_716 : RR 157 716 L [.int x] μ Q ↔ (x = 0 ∨ x = 1) ∧ Q (some (.int x)) μ := rw_rc p157_716 rfl
theorem r157_717 : RR 157 717 (a0 :: .ref q :: l) st μ Q ↔ RR 157 718 (a0 :: .ref q :: l) (.ref q :: st) μ Q := rw_go p157_717 rfl
theorem r157_718 : RR 157 718 (.ref q :: l) st μ Q ↔ RR 157 719 (.ref q :: l) (.ref q :: st) μ Q := rw_go p157_718 rfl
theorem r157_719 : RR 157 719 (a0 :: a1 :: a2 :: .int x :: l) st μ Q ↔ RR 157 720 (a0 :: a1 :: a2 :: .int x :: l) (.int x :: st) μ Q := rw_go p157_719 rfl
theorem r157_720 : RR 157 720 L st μ Q ↔ RR 157 721 L (.int (nI 1) :: st) μ Q := rw_go p157_720 rfl
theorem r157_721 : RR 157 721 L (.int y :: .int x :: st) μ Q ↔ RR 157 722 L (.int (x + y) :: st) μ Q := rw_go p157_721 rfl
theorem r157_722 : RR 157 722 L (.int x :: .ref q :: st) (S, b, M, D, F) Q ↔ am_bd S b.2.2 q 0 x ∧ RR 157 723 L (.int (M q x.toInt.toNat) :: st) (S, b, M, D, F) Q := rw_c p157_722 am_xld_eq
theorem r157_723 : RR 157 723 (.ref q :: l) st μ Q ↔ RR 157 724 (.ref q :: l) (.ref q :: st) μ Q := rw_go p157_723 rfl
theorem r157_724 : RR 157 724 (a0 :: a1 :: a2 :: .int x :: l) st μ Q ↔ RR 157 725 (a0 :: a1 :: a2 :: .int x :: l) (.int x :: st) μ Q := rw_go p157_724 rfl
theorem r157_725 : RR 157 725 L st μ Q ↔ RR 157 726 L (.int (nI 2) :: st) μ Q := rw_go p157_725 rfl
theorem r157_726 : RR 157 726 L (.int y :: .int x :: st) μ Q ↔ RR 157 727 L (.int (x + y) :: st) μ Q := rw_go p157_726 rfl
theorem r157_727 : RR 157 727 L (.int x :: .ref q :: st) (S, b, M, D, F) Q ↔ am_bd S b.2.2 q 0 x ∧ RR 157 728 L (.int (M q x.toInt.toNat) :: st) (S, b, M, D, F) Q := rw_c p157_727 am_xld_eq
theorem r157_728 : RR 157 728 (.ref q :: l) st μ Q ↔ RR 157 729 (.ref q :: l) (.ref q :: st) μ Q := rw_go p157_728 rfl
theorem r157_729 : RR 157 729 (a0 :: a1 :: a2 :: .int x :: l) st μ Q ↔ RR 157 730 (a0 :: a1 :: a2 :: .int x :: l) (.int x :: st) μ Q := rw_go p157_729 rfl
theorem r157_730 : RR 157 730 L st μ Q ↔ RR 157 731 L (.int (nI 3) :: st) μ Q := rw_go p157_730 rfl
theorem r157_731 : RR 157 731 L (.int y :: .int x :: st) μ Q ↔ RR 157 732 L (.int (x + y) :: st) μ Q := rw_go p157_731 rfl
theorem r157_732 : RR 157 732 L (.int x :: .ref q :: st) (S, b, M, D, F) Q ↔ am_bd S b.2.2 q 0 x ∧ RR 157 733 L (.int (M q x.toInt.toNat) :: st) (S, b, M, D, F) Q := rw_c p157_732 am_xld_eq
theorem r157_733 : RR 157 733 L (.int x3 :: .int x2 :: .int x1 :: .ref q :: st) (S, (b1, b2, sl), M, D, F) Q ↔ (am_cat st ≤ 8 ∧ 4 = 4 ∧ S[q]? = some (.inl 8)) ∧ RR 16 0 [.ref q, .int x1, .int x2, .int x3, .long 0, .long 0, .long 0] [] (S, (0, 0, sl), M, D, F) (fun rv μ' => μ'.1.length = S.length ∧ RR 157 736 L (rv.toList ++ st) (μ'.1, (b1, b2, sl), μ'.2.2) Q) := rw_callL p157_733 rfl (ac16 q x1 x2 x3)
theorem r157_736 : RR 157 736 (a0 :: a1 :: .ref q :: l) st μ Q ↔ RR 157 737 (a0 :: a1 :: .ref q :: l) (.ref q :: st) μ Q := rw_go p157_736 rfl
theorem r157_737 : RR 157 737 (.ref q :: l) st μ Q ↔ RR 157 738 (.ref q :: l) (.ref q :: st) μ Q := rw_go p157_737 rfl
theorem r157_738 : RR 157 738 (a0 :: a1 :: a2 :: .int x :: l) st μ Q ↔ RR 157 739 (a0 :: a1 :: a2 :: .int x :: l) (.int x :: st) μ Q := rw_go p157_738 rfl
theorem r157_739 : RR 157 739 L st μ Q ↔ RR 157 740 L (.int (nI 1) :: st) μ Q := rw_go p157_739 rfl
theorem r157_740 : RR 157 740 L (.int y :: .int x :: st) μ Q ↔ RR 157 741 L (.int (x + y) :: st) μ Q := rw_go p157_740 rfl
theorem r157_741 : RR 157 741 L (.int x :: .ref q :: st) (S, b, M, D, F) Q ↔ am_bd S b.2.2 q 0 x ∧ RR 157 742 L (.int (M q x.toInt.toNat) :: st) (S, b, M, D, F) Q := rw_c p157_741 am_xld_eq
theorem r157_742 : RR 157 742 (.ref q :: l) st μ Q ↔ RR 157 743 (.ref q :: l) (.ref q :: st) μ Q := rw_go p157_742 rfl
theorem r157_743 : RR 157 743 (a0 :: a1 :: a2 :: .int x :: l) st μ Q ↔ RR 157 744 (a0 :: a1 :: a2 :: .int x :: l) (.int x :: st) μ Q := rw_go p157_743 rfl
theorem r157_744 : RR 157 744 L st μ Q ↔ RR 157 745 L (.int (nI 2) :: st) μ Q := rw_go p157_744 rfl
theorem r157_745 : RR 157 745 L (.int y :: .int x :: st) μ Q ↔ RR 157 746 L (.int (x + y) :: st) μ Q := rw_go p157_745 rfl
theorem r157_746 : RR 157 746 L (.int x :: .ref q :: st) (S, b, M, D, F) Q ↔ am_bd S b.2.2 q 0 x ∧ RR 157 747 L (.int (M q x.toInt.toNat) :: st) (S, b, M, D, F) Q := rw_c p157_746 am_xld_eq
theorem r157_747 : RR 157 747 (.ref q :: l) st μ Q ↔ RR 157 748 (.ref q :: l) (.ref q :: st) μ Q := rw_go p157_747 rfl
theorem r157_748 : RR 157 748 (a0 :: a1 :: a2 :: .int x :: l) st μ Q ↔ RR 157 749 (a0 :: a1 :: a2 :: .int x :: l) (.int x :: st) μ Q := rw_go p157_748 rfl
theorem r157_749 : RR 157 749 L st μ Q ↔ RR 157 750 L (.int (nI 3) :: st) μ Q := rw_go p157_749 rfl
theorem r157_750 : RR 157 750 L (.int y :: .int x :: st) μ Q ↔ RR 157 751 L (.int (x + y) :: st) μ Q := rw_go p157_750 rfl
theorem r157_751 : RR 157 751 L (.int x :: .ref q :: st) (S, b, M, D, F) Q ↔ am_bd S b.2.2 q 0 x ∧ RR 157 752 L (.int (M q x.toInt.toNat) :: st) (S, b, M, D, F) Q := rw_c p157_751 am_xld_eq
theorem r157_752 : RR 157 752 L (.int x3 :: .int x2 :: .int x1 :: .ref q :: st) (S, (b1, b2, sl), M, D, F) Q ↔ (am_cat st ≤ 8 ∧ 4 = 4 ∧ S[q]? = some (.inl 9)) ∧ RR 73 0 [.ref q, .int x1, .int x2, .int x3, .long 0, .long 0, .long 0] [] (S, (0, 0, sl), M, D, F) (fun rv μ' => μ'.1.length = S.length ∧ RR 157 755 L (rv.toList ++ st) (μ'.1, (b1, b2, sl), μ'.2.2) Q) := rw_callL p157_752 rfl (ac73 q x1 x2 x3)
theorem r157_755 : RR 157 755 L (.int y :: .int x :: st) μ Q ↔ if x = y then RR 157 829 L st μ Q else RR 157 758 L st μ Q := rw_if p157_755 rfl
theorem r157_758 : RR 157 758 L st μ Q ↔ RR 157 759 L (.int (nI 0) :: st) μ Q := rw_go p157_758 rfl
theorem r157_759 : RR 157 759 L [.int x] μ Q ↔ (x = 0 ∨ x = 1) ∧ Q (some (.int x)) μ := rw_rc p157_759 rfl
theorem r157_760 : RR 157 760 (a0 :: .ref q :: l) st μ Q ↔ RR 157 761 (a0 :: .ref q :: l) (.ref q :: st) μ Q := rw_go p157_760 rfl
theorem r157_761 : RR 157 761 (.ref q :: l) st μ Q ↔ RR 157 762 (.ref q :: l) (.ref q :: st) μ Q := rw_go p157_761 rfl
theorem r157_762 : RR 157 762 (a0 :: a1 :: a2 :: .int x :: l) st μ Q ↔ RR 157 763 (a0 :: a1 :: a2 :: .int x :: l) (.int x :: st) μ Q := rw_go p157_762 rfl
theorem r157_763 : RR 157 763 L st μ Q ↔ RR 157 764 L (.int (nI 1) :: st) μ Q := rw_go p157_763 rfl
theorem r157_764 : RR 157 764 L (.int y :: .int x :: st) μ Q ↔ RR 157 765 L (.int (x + y) :: st) μ Q := rw_go p157_764 rfl
theorem r157_765 : RR 157 765 L (.int x :: .ref q :: st) (S, b, M, D, F) Q ↔ am_bd S b.2.2 q 0 x ∧ RR 157 766 L (.int (M q x.toInt.toNat) :: st) (S, b, M, D, F) Q := rw_c p157_765 am_xld_eq
theorem r157_766 : RR 157 766 (.ref q :: l) st μ Q ↔ RR 157 767 (.ref q :: l) (.ref q :: st) μ Q := rw_go p157_766 rfl
theorem r157_767 : RR 157 767 (a0 :: a1 :: a2 :: .int x :: l) st μ Q ↔ RR 157 768 (a0 :: a1 :: a2 :: .int x :: l) (.int x :: st) μ Q := rw_go p157_767 rfl
theorem r157_768 : RR 157 768 L st μ Q ↔ RR 157 769 L (.int (nI 2) :: st) μ Q := rw_go p157_768 rfl
theorem r157_769 : RR 157 769 L (.int y :: .int x :: st) μ Q ↔ RR 157 770 L (.int (x + y) :: st) μ Q := rw_go p157_769 rfl
theorem r157_770 : RR 157 770 L (.int x :: .ref q :: st) (S, b, M, D, F) Q ↔ am_bd S b.2.2 q 0 x ∧ RR 157 771 L (.int (M q x.toInt.toNat) :: st) (S, b, M, D, F) Q := rw_c p157_770 am_xld_eq
theorem r157_771 : RR 157 771 (.ref q :: l) st μ Q ↔ RR 157 772 (.ref q :: l) (.ref q :: st) μ Q := rw_go p157_771 rfl
theorem r157_772 : RR 157 772 (a0 :: a1 :: a2 :: .int x :: l) st μ Q ↔ RR 157 773 (a0 :: a1 :: a2 :: .int x :: l) (.int x :: st) μ Q := rw_go p157_772 rfl
theorem r157_773 : RR 157 773 L st μ Q ↔ RR 157 774 L (.int (nI 3) :: st) μ Q := rw_go p157_773 rfl
theorem r157_774 : RR 157 774 L (.int y :: .int x :: st) μ Q ↔ RR 157 775 L (.int (x + y) :: st) μ Q := rw_go p157_774 rfl
theorem r157_775 : RR 157 775 L (.int x :: .ref q :: st) (S, b, M, D, F) Q ↔ am_bd S b.2.2 q 0 x ∧ RR 157 776 L (.int (M q x.toInt.toNat) :: st) (S, b, M, D, F) Q := rw_c p157_775 am_xld_eq
theorem r157_776 : RR 157 776 L (.int x :: st) μ Q ↔ if x = 0 then RR 157 783 L st μ Q else RR 157 779 L st μ Q := rw_if p157_776 rfl
theorem r157_779 : RR 157 779 L st μ Q ↔ RR 157 780 L (.int (nI 1) :: st) μ Q := rw_go p157_779 rfl
theorem r157_780 : RR 157 780 L st μ Q ↔ RR 157 784 L st μ Q := rw_go p157_780 rfl
theorem r157_783 : RR 157 783 L st μ Q ↔ RR 157 784 L (.int (nI 0) :: st) μ Q := rw_go p157_783 rfl
theorem r157_784 : RR 157 784 (.ref q :: l) st μ Q ↔ RR 157 785 (.ref q :: l) (.ref q :: st) μ Q := rw_go p157_784 rfl
theorem r157_785 : RR 157 785 (a0 :: a1 :: a2 :: .int x :: l) st μ Q ↔ RR 157 786 (a0 :: a1 :: a2 :: .int x :: l) (.int x :: st) μ Q := rw_go p157_785 rfl
theorem r157_786 : RR 157 786 L st μ Q ↔ RR 157 787 L (.int (nI 4) :: st) μ Q := rw_go p157_786 rfl
theorem r157_787 : RR 157 787 L (.int y :: .int x :: st) μ Q ↔ RR 157 788 L (.int (x + y) :: st) μ Q := rw_go p157_787 rfl
theorem r157_788 : RR 157 788 L (.int x :: .ref q :: st) (S, b, M, D, F) Q ↔ am_bd S b.2.2 q 0 x ∧ RR 157 789 L (.int (M q x.toInt.toNat) :: st) (S, b, M, D, F) Q := rw_c p157_788 am_xld_eq
theorem r157_789 : RR 157 789 L (.int x4 :: .int x3 :: .int x2 :: .int x1 :: .ref q :: st) (S, (b1, b2, sl), M, D, F) Q ↔ (am_cat st ≤ 8 ∧ 5 = 5 ∧ S[q]? = some (.inl 8)) ∧ RR 17 0 [.ref q, .int x1, .int x2, .int x3, .int x4, .long 0] [] (S, (0, 0, sl), M, D, F) (fun rv μ' => μ'.1.length = S.length ∧ RR 157 792 L (rv.toList ++ st) (μ'.1, (b1, b2, sl), μ'.2.2) Q) := rw_callL p157_789 rfl (ac17 q x1 x2 x3 x4)
theorem r157_792 : RR 157 792 (a0 :: a1 :: .ref q :: l) st μ Q ↔ RR 157 793 (a0 :: a1 :: .ref q :: l) (.ref q :: st) μ Q := rw_go p157_792 rfl
theorem r157_793 : RR 157 793 (.ref q :: l) st μ Q ↔ RR 157 794 (.ref q :: l) (.ref q :: st) μ Q := rw_go p157_793 rfl
theorem r157_794 : RR 157 794 (a0 :: a1 :: a2 :: .int x :: l) st μ Q ↔ RR 157 795 (a0 :: a1 :: a2 :: .int x :: l) (.int x :: st) μ Q := rw_go p157_794 rfl
theorem r157_795 : RR 157 795 L st μ Q ↔ RR 157 796 L (.int (nI 1) :: st) μ Q := rw_go p157_795 rfl
theorem r157_796 : RR 157 796 L (.int y :: .int x :: st) μ Q ↔ RR 157 797 L (.int (x + y) :: st) μ Q := rw_go p157_796 rfl
theorem r157_797 : RR 157 797 L (.int x :: .ref q :: st) (S, b, M, D, F) Q ↔ am_bd S b.2.2 q 0 x ∧ RR 157 798 L (.int (M q x.toInt.toNat) :: st) (S, b, M, D, F) Q := rw_c p157_797 am_xld_eq
theorem r157_798 : RR 157 798 (.ref q :: l) st μ Q ↔ RR 157 799 (.ref q :: l) (.ref q :: st) μ Q := rw_go p157_798 rfl
theorem r157_799 : RR 157 799 (a0 :: a1 :: a2 :: .int x :: l) st μ Q ↔ RR 157 800 (a0 :: a1 :: a2 :: .int x :: l) (.int x :: st) μ Q := rw_go p157_799 rfl
theorem r157_800 : RR 157 800 L st μ Q ↔ RR 157 801 L (.int (nI 2) :: st) μ Q := rw_go p157_800 rfl
theorem r157_801 : RR 157 801 L (.int y :: .int x :: st) μ Q ↔ RR 157 802 L (.int (x + y) :: st) μ Q := rw_go p157_801 rfl
theorem r157_802 : RR 157 802 L (.int x :: .ref q :: st) (S, b, M, D, F) Q ↔ am_bd S b.2.2 q 0 x ∧ RR 157 803 L (.int (M q x.toInt.toNat) :: st) (S, b, M, D, F) Q := rw_c p157_802 am_xld_eq
theorem r157_803 : RR 157 803 (.ref q :: l) st μ Q ↔ RR 157 804 (.ref q :: l) (.ref q :: st) μ Q := rw_go p157_803 rfl
theorem r157_804 : RR 157 804 (a0 :: a1 :: a2 :: .int x :: l) st μ Q ↔ RR 157 805 (a0 :: a1 :: a2 :: .int x :: l) (.int x :: st) μ Q := rw_go p157_804 rfl
theorem r157_805 : RR 157 805 L st μ Q ↔ RR 157 806 L (.int (nI 3) :: st) μ Q := rw_go p157_805 rfl
theorem r157_806 : RR 157 806 L (.int y :: .int x :: st) μ Q ↔ RR 157 807 L (.int (x + y) :: st) μ Q := rw_go p157_806 rfl
theorem r157_807 : RR 157 807 L (.int x :: .ref q :: st) (S, b, M, D, F) Q ↔ am_bd S b.2.2 q 0 x ∧ RR 157 808 L (.int (M q x.toInt.toNat) :: st) (S, b, M, D, F) Q := rw_c p157_807 am_xld_eq
theorem r157_808 : RR 157 808 L (.int x :: st) μ Q ↔ if x = 0 then RR 157 815 L st μ Q else RR 157 811 L st μ Q := rw_if p157_808 rfl
theorem r157_811 : RR 157 811 L st μ Q ↔ RR 157 812 L (.int (nI 1) :: st) μ Q := rw_go p157_811 rfl
theorem r157_812 : RR 157 812 L st μ Q ↔ RR 157 816 L st μ Q := rw_go p157_812 rfl
theorem r157_815 : RR 157 815 L st μ Q ↔ RR 157 816 L (.int (nI 0) :: st) μ Q := rw_go p157_815 rfl
theorem r157_816 : RR 157 816 (.ref q :: l) st μ Q ↔ RR 157 817 (.ref q :: l) (.ref q :: st) μ Q := rw_go p157_816 rfl
theorem r157_817 : RR 157 817 (a0 :: a1 :: a2 :: .int x :: l) st μ Q ↔ RR 157 818 (a0 :: a1 :: a2 :: .int x :: l) (.int x :: st) μ Q := rw_go p157_817 rfl
theorem r157_818 : RR 157 818 L st μ Q ↔ RR 157 819 L (.int (nI 4) :: st) μ Q := rw_go p157_818 rfl
theorem r157_819 : RR 157 819 L (.int y :: .int x :: st) μ Q ↔ RR 157 820 L (.int (x + y) :: st) μ Q := rw_go p157_819 rfl
theorem r157_820 : RR 157 820 L (.int x :: .ref q :: st) (S, b, M, D, F) Q ↔ am_bd S b.2.2 q 0 x ∧ RR 157 821 L (.int (M q x.toInt.toNat) :: st) (S, b, M, D, F) Q := rw_c p157_820 am_xld_eq
theorem r157_821 : RR 157 821 L (.int x4 :: .int x3 :: .int x2 :: .int x1 :: .ref q :: st) (S, (b1, b2, sl), M, D, F) Q ↔ (am_cat st ≤ 8 ∧ 5 = 5 ∧ S[q]? = some (.inl 9)) ∧ RR 74 0 [.ref q, .int x1, .int x2, .int x3, .int x4, .long 0] [] (S, (0, 0, sl), M, D, F) (fun rv μ' => μ'.1.length = S.length ∧ RR 157 824 L (rv.toList ++ st) (μ'.1, (b1, b2, sl), μ'.2.2) Q) := rw_callL p157_821 rfl (ac74 q x1 x2 x3 x4)
theorem r157_824 : RR 157 824 L (.int y :: .int x :: st) μ Q ↔ if x = y then RR 157 829 L st μ Q else RR 157 827 L st μ Q := rw_if p157_824 rfl
theorem r157_827 : RR 157 827 L st μ Q ↔ RR 157 828 L (.int (nI 0) :: st) μ Q := rw_go p157_827 rfl
theorem r157_828 : RR 157 828 L [.int x] μ Q ↔ (x = 0 ∨ x = 1) ∧ Q (some (.int x)) μ := rw_rc p157_828 rfl
theorem r157_829 : RR 157 829 (a0 :: a1 :: a2 :: .int x :: l) st μ Q ↔ RR 157 832 (a0 :: a1 :: am_nd a2 :: .int (x + nI 6) :: l) st μ Q := rw_go p157_829 rfl
theorem r157_832 : RR 157 832 L st μ Q ↔ RR 157 18 L st μ Q := rw_go p157_832 rfl
theorem r157_835 : RR 157 835 L st μ Q ↔ RR 157 836 L (.int (nI 1) :: st) μ Q := rw_go p157_835 rfl
theorem r157_836 : RR 157 836 L [.int x] μ Q ↔ (x = 0 ∨ x = 1) ∧ Q (some (.int x)) μ := rw_rc p157_836 rfl
end RW
