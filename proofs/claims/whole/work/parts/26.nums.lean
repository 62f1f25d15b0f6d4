/-! NUMBERS: ints as naturals -/
theorem s_l : ∀ n, n < 32 → ((nI n &&& 31).toBitVec.smod 32).toNat = n := by decide +kernel
theorem nx_and (a b : Nat) : nI a &&& nI b = nI (a &&& b) := by
  apply Int32.toBitVec_inj.1
  show BitVec.ofNat 32 a &&& BitVec.ofNat 32 b = BitVec.ofNat 32 (a &&& b)
  apply BitVec.eq_of_getLsbD_eq
  intro i hi
  simp [hi]
theorem nx_xor (a b : Nat) : nI a ^^^ nI b = nI (a ^^^ b) := by
  apply Int32.toBitVec_inj.1
  show BitVec.ofNat 32 a ^^^ BitVec.ofNat 32 b = BitVec.ofNat 32 (a ^^^ b)
  apply BitVec.eq_of_getLsbD_eq
  intro i hi
  simp [hi]
theorem nx_or (a b : Nat) : nI a ||| nI b = nI (a ||| b) := by
  apply Int32.toBitVec_inj.1
  show BitVec.ofNat 32 a ||| BitVec.ofNat 32 b = BitVec.ofNat 32 (a ||| b)
  apply BitVec.eq_of_getLsbD_eq
  intro i hi
  simp [hi]
theorem nx_m1 (b : Nat) : nI b ^^^ (-1) = nI (b ^^^ 4294967295) := nx_xor b 4294967295
theorem nx_shl {a t : Nat} (ht : t < 32) (h : a * 2 ^ t < 2 ^ 32) : nI a <<< (nI t &&& 31) = nI (a * 2 ^ t) := pk_shlN _ t (s_l t ht) h
theorem nx_shr {a t : Nat} (h : a < 2 ^ 31) (ht : t < 32) : nI a >>> (nI t &&& 31) = nI (a / 2 ^ t) := pk_shrN h _ t (s_l t ht)
theorem nx_1t {t : Nat} (ht : t < 31) : nI 1 <<< (nI t &&& 31) = nI (2 ^ t) := by
  have h : 2 ^ t ≤ 2 ^ 30 := Nat.pow_le_pow_right (by omega) (by omega)
  rw [nx_shl (by omega) (by omega), Nat.one_mul]
theorem nx_tb {a t : Nat} (h : a < 2 ^ 31) (ht : t < 31) : (nI a >>> (nI t &&& 31)) &&& nI 1 = nI (if a.testBit t then 1 else 0) := by
  rw [nx_shr h (by omega), nx_and, Nat.and_one_is_mod, Nat.testBit_eq_decide_div_mod_eq]
  have := Nat.mod_two_eq_zero_or_one (a / 2 ^ t)
  rcases this with h1 | h1 <;> simp [h1]
theorem nx_eq {a b : Nat} (ha : a < 2 ^ 32) (hb : b < 2 ^ 32) : nI a = nI b ↔ a = b := by
  constructor
  · intro h
    have h2 := congrArg (fun x : Int32 => x.toBitVec.toNat) h
    rwa [pk_tn ha, pk_tn hb] at h2
  · rintro rfl; rfl
theorem nx_ne1 (n : Nat) (h : n < 2 ^ 31) : ¬ nI n = (-1) := by
  intro e
  have h2 := congrArg Int32.toInt e
  rw [nI_toInt h] at h2
  have h3 : (-1 : Int32).toInt = -1 := by decide
  omega
/-- the int of a truth -/
def bN (p : Prop) [Decidable p] : Int32 := if p then nI 1 else nI 0
theorem bN_t {p : Prop} [Decidable p] (h : p) : bN p = nI 1 := if_pos h
theorem bN_f {p : Prop} [Decidable p] (h : ¬ p) : bN p = nI 0 := if_neg h
theorem bN_0 {p : Prop} [Decidable p] : bN p = 0 ↔ ¬ p := by
  unfold bN
  by_cases h : p
  · rw [if_pos h]; exact ⟨fun e => absurd e (by decide), fun e => absurd h e⟩
  · rw [if_neg h]; exact ⟨fun _ => h, fun _ => by decide⟩
theorem bN_n0 {p : Prop} [Decidable p] : ¬ bN p = 0 ↔ p := by rw [bN_0]; exact Decidable.not_not
theorem bN_01 {p : Prop} [Decidable p] : bN p = 0 ∨ bN p = 1 := by
  unfold bN
  by_cases h : p
  · rw [if_pos h]; exact Or.inr rfl
  · rw [if_neg h]; exact Or.inl rfl
theorem bN_01T {p : Prop} [Decidable p] : (bN p = 0 ∨ bN p = 1) = True := eq_true bN_01
theorem bN_c {p q : Prop} [Decidable p] [Decidable q] (h : p ↔ q) : bN p = bN q := by
  unfold bN
  by_cases hp : p
  · rw [if_pos hp, if_pos (h.mp hp)]
  · rw [if_neg hp, if_neg (fun z => hp (h.mpr z))]
theorem ite_bN {p : Prop} [Decidable p] : (if p then nI 1 else nI 0) = bN p := rfl
theorem ite_bN' {p : Prop} [Decidable p] : (if p then nI 0 else nI 1) = bN (¬ p) := by
  unfold bN
  by_cases h : p <;> simp [h]
theorem nI1_0 : (nI 1 = 0) = False := eq_false (by decide)
theorem nI0_0 : (nI 0 = 0) = True := eq_true (by decide)
theorem nI01a : (nI 0 = 1) = False := eq_false (by decide)
theorem nI01b : (nI 1 = 1) = True := eq_true (by decide)
theorem bN_1 {p : Prop} [Decidable p] : (bN p = 1) = p := by
  apply propext
  unfold bN
  by_cases h : p
  · rw [if_pos h]; exact ⟨fun _ => h, fun _ => by decide⟩
  · rw [if_neg h]; exact ⟨fun e => absurd e (by decide), fun e => absurd e h⟩
theorem no_or (p : Prop) : (¬ p ∨ p) = True := eq_true (Classical.em p).symm
/-- what a write leaves alone -/
theorem up_s {α : Type} (M : Nat → Nat → α) (q k : Nat) (x : α) : am_up M q k x q k = x := by simp [am_up]
theorem up_q {α : Type} {M : Nat → Nat → α} {q k a b : Nat} {x : α} (h : a ≠ q) : am_up M q k x a b = M a b := by simp [am_up, h]
theorem up_k {α : Type} {M : Nat → Nat → α} {q k a b : Nat} {x : α} (h : b ≠ k) : am_up M q k x a b = M a b := by simp [am_up, h]
theorem up_i {α : Type} {M : Nat → Nat → α} {q k b : Nat} {x : α} : am_up M q k x q b = if b = k then x else M q b := by simp [am_up]
section BN
variable {Q : Option Value → amM → Prop} {μ : amM}
theorem ite_Q {p : Prop} [Decidable p] {a b : Int32} : (if p then Q (some (.int a)) μ else Q (some (.int b)) μ) ↔ Q (some (.int (if p then a else b))) μ := by by_cases h : p <;> simp [h]
theorem ib_0b {p : Prop} [Decidable p] {q : Prop} [Decidable q] : (if p then nI 0 else bN q) = bN (¬ p ∧ q) := by unfold bN; by_cases h : p <;> by_cases h2 : q <;> simp [h, h2]
theorem ib_b0 {p : Prop} [Decidable p] {q : Prop} [Decidable q] : (if p then bN q else nI 0) = bN (p ∧ q) := by unfold bN; by_cases h : p <;> by_cases h2 : q <;> simp [h, h2]
theorem ib_1b {p : Prop} [Decidable p] {q : Prop} [Decidable q] : (if p then nI 1 else bN q) = bN (p ∨ q) := by unfold bN; by_cases h : p <;> by_cases h2 : q <;> simp [h, h2]
theorem ib_b1 {p : Prop} [Decidable p] {q : Prop} [Decidable q] : (if p then bN q else nI 1) = bN (¬ p ∨ q) := by unfold bN; by_cases h : p <;> by_cases h2 : q <;> simp [h, h2]
theorem bN_Q {p a : Prop} {hp : Decidable p} {ha : Decidable a} (h : p ↔ a) : Q (some (.int (@bN p hp))) μ ↔ Q (some (.int (@bN a ha))) μ := by rw [bN_c h]
end BN
/-- an int as a natural -/
def n32 (x : Int32) : Nat := x.toBitVec.toNat
theorem nI_n32 (x : Int32) : nI (n32 x) = x := by
  apply Int32.toBitVec_inj.1
  show BitVec.ofNat 32 x.toBitVec.toNat = _
  simp
theorem n32_nI {n : Nat} (h : n < 2 ^ 32) : n32 (nI n) = n := pk_tn h
theorem n32_of {x : Int32} {n : Nat} (h : x = nI n) (hn : n < 2 ^ 32) : n32 x = n := by rw [h, n32_nI hn]
theorem nx_imp {a b : Nat} (h : a < 2 ^ 31) (h2 : b < 2 ^ 31) : (nI a = nI b) = (a = b) := propext (nx_eq (by omega) (by omega))
theorem nx_im1 {a : Nat} (h : a < 2 ^ 31) : (nI a = -1) = False := eq_false (nx_ne1 a h)
theorem nx_le {a b : Nat} (h : a < 2 ^ 31) (h2 : b < 2 ^ 31) : (nI a ≤ nI b) = (a ≤ b) := propext (nI_leI h h2)
theorem nx_lt {a b : Nat} (h : a < 2 ^ 31) (h2 : b < 2 ^ 31) : (nI a < nI b) = (a < b) := propext (nI_ltI h h2)
theorem nx_dv {a d : Nat} (ha : a < 2 ^ 31) (h0 : 0 < d) (hd : d < 2 ^ 31) : nI a / nI d = nI (a / d) := pk_div ha h0 hd
theorem nx_rm {a d : Nat} (ha : a < 2 ^ 31) (h0 : 0 < d) (hd : d < 2 ^ 31) : nI a - nI a / nI d * nI d = nI (a % d) := pk_rem ha h0 hd
theorem bd_n {n k : Nat} (h : n < k) (h2 : n < 2 ^ 31) : (0 ≤ (nI n).toInt ∧ (nI n).toInt < (k : Int)) = True := by
  rw [nI_toInt h2]
  exact eq_true ⟨by omega, by omega⟩
theorem nx_0 {a : Nat} (h : a < 2 ^ 31) : (nI a = 0) = (a = 0) := propext (by
  have := nx_eq (a := a) (b := 0) (by omega) (by omega)
  exact this)
theorem nx_tst {a k : Nat} (ha : a < 2 ^ 31) (hk : k < 31) : (nI a &&& nI (2 ^ k) = 0) = (a.testBit k = false) := by
  have h1 : a &&& 2 ^ k ≤ 2 ^ k := Nat.and_le_right
  have h2 : 2 ^ k ≤ 2 ^ 30 := Nat.pow_le_pow_right (by omega) (by omega)
  rw [nx_and, nx_0 (by omega)]
  apply propext
  constructor
  · intro h
    have h3 := congrArg (fun z => z.testBit k) h
    simp only [Nat.testBit_and, Nat.testBit_two_pow, Nat.zero_testBit, decide_true, Bool.and_true] at h3
    exact h3
  · intro h
    apply Nat.eq_of_testBit_eq
    intro i
    rw [Nat.testBit_and, Nat.testBit_two_pow, Nat.zero_testBit]
    by_cases e : k = i
    · subst e; simp [h]
    · simp [e]
theorem nx_t1 {a : Nat} (ha : a < 2 ^ 31) : (nI a &&& nI 1 = 0) = (a.testBit 0 = false) := nx_tst (k := 0) ha (by omega)
theorem nx_t2 {a : Nat} (ha : a < 2 ^ 31) : (nI a &&& nI 2 = 0) = (a.testBit 1 = false) := nx_tst (k := 1) ha (by omega)
theorem nx_t4 {a : Nat} (ha : a < 2 ^ 31) : (nI a &&& nI 4 = 0) = (a.testBit 2 = false) := nx_tst (k := 2) ha (by omega)
theorem nx_t8 {a : Nat} (ha : a < 2 ^ 31) : (nI a &&& nI 8 = 0) = (a.testBit 3 = false) := nx_tst (k := 3) ha (by omega)
theorem nI_01n : (nI 0 = nI 1) = False := eq_false (by decide)
theorem and_lt8 {a b : Nat} (h : b < 256) : a &&& b < 256 := Nat.lt_of_le_of_lt Nat.and_le_right h
theorem or_lt8 {a b : Nat} (h : a < 256) (h2 : b < 256) : a ||| b < 256 := Nat.or_lt_two_pow (n := 8) h h2
/-- a without b's bits -/
def andNot (a b : Nat) : Nat := a &&& (b ^^^ 4294967295)
theorem andNot_tb (a b i : Nat) (h : i < 32) : (andNot a b).testBit i = (a.testBit i && !b.testBit i) := by
  unfold andNot
  rw [Nat.testBit_and, Nat.testBit_xor, show (4294967295 : Nat) = 2 ^ 32 - 1 from rfl, Nat.testBit_two_pow_sub_one]
  simp [h]
theorem andNot_le (a b : Nat) : andNot a b ≤ a := Nat.and_le_left
theorem nx_an (a b : Nat) : nI a &&& (nI b ^^^ (-1)) = nI (andNot a b) := by rw [nx_m1, nx_and]; rfl
theorem nx_rm2 {a d : Nat} (ha : a < 2 ^ 31) (h0 : 0 < d) (hd : d < 2 ^ 31) : nI a - nI (a / d) * nI d = nI (a % d) := by rw [← pk_div ha h0 hd]; exact pk_rem ha h0 hd
theorem nx_mk {a : Nat} (k m : Nat) (hm : m = 2 ^ k - 1) : nI a &&& nI m = nI (a % 2 ^ k) := by rw [nx_and, hm, Nat.and_two_pow_sub_one_eq_mod]
theorem nx_m63 (a : Nat) : nI a &&& nI 63 = nI (a % 64) := nx_mk 6 63 rfl
theorem nx_m31 (a : Nat) : nI a &&& nI 31 = nI (a % 32) := nx_mk 5 31 rfl
theorem nx_m7 (a : Nat) : nI a &&& nI 7 = nI (a % 8) := nx_mk 3 7 rfl
theorem nx_m3 (a : Nat) : nI a &&& nI 3 = nI (a % 4) := nx_mk 2 3 rfl
theorem nx_i2c {c : Nat} (h : c < 65536) : ((nI c).toUInt32 % 65536).toInt32 = nI c := by
  rw [pk_char, pk_tn (by omega), Nat.mod_eq_of_lt h]
theorem nx_nc {c : Nat} (h : c < 65536) : vp_nar .char (nI c) = nI c := by
  unfold vp_nar
  rw [(pk_charN h).1]
theorem nx_chr {c : Nat} (h : c < 65536) : (0 ≤ (nI c).toInt ∧ (nI c).toInt < 65536) = True := by
  rw [nI_toInt (by omega)]
  exact eq_true ⟨by omega, by omega⟩
theorem nx_rm3 {a d : Nat} (ha : a < 2 ^ 31) (h0 : 0 < d) (hd : d < 2 ^ 31) : nI a - nI (a / d * d) = nI (a % d) := by rw [← pk_mul]; exact nx_rm2 ha h0 hd
theorem nx_dec (k : Nat) : nI k + (-1) = nI k - 1 := (Int32.sub_eq_add_neg (nI k) 1).symm
theorem nx_sge {a b : Nat} (ha : a < 2 ^ 30) (hb : b < 2 ^ 30) : (0 ≤ nI a - nI b) = (b ≤ a) := by
  apply propext
  rw [Int32.le_iff_toInt_le, pk_sub_toInt ha hb, show (0 : Int32).toInt = 0 by decide]
  omega
theorem nx_sle {a b : Nat} (ha : a < 2 ^ 30) (hb : b < 2 ^ 30) : (nI a - nI b ≤ 0) = (a ≤ b) := by
  apply propext
  rw [Int32.le_iff_toInt_le, pk_sub_toInt ha hb, show (0 : Int32).toInt = 0 by decide]
  omega
