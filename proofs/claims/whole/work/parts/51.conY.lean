/-! DOUBLES -/
/-- a finite double -/
def vF (x : UInt64) : Prop := ∃ s c q, FP.Core.val64 x = .fin s c q
theorem vF_0 : vF 0 := ⟨false, 0, FP.Core.b64.qmin, FP.Core.val64_dconst0⟩
theorem nn64 {r : UInt64} (h : FP.Core.val64 r ≠ .nan) : vf_n64 r := by
  unfold vf_n64
  rw [UInt64.le_iff_toNat_le, UInt64.toNat_and]
  have e1 : (0x7fffffffffffffff : UInt64).toNat = 2 ^ 63 - 1 := by decide
  have e2 : (0x7ff0000000000000 : UInt64).toNat = 2047 * 4503599627370496 := by decide
  rw [e1, e2, Nat.and_two_pow_sub_one_eq_mod]
  have hn : r.toNat < 2 ^ 64 := r.toNat_lt
  have t1 : FP.Core.b64.tails = 4503599627370496 := by decide
  have t2 : FP.Core.b64.exps = 2048 := by decide
  unfold FP.Core.val64 FP.Core.decode FP.Core.fieldE FP.Core.fieldT at h
  rw [t1, t2] at h
  generalize r.toNat = n at *
  by_cases g : n / 4503599627370496 % 2048 = 2048 - 1
  · rw [if_pos g] at h
    by_cases g2 : n % 4503599627370496 = 0
    · omega
    · rw [if_neg g2] at h
      exact absurd rfl h
  · omega
theorem rr_nn (s : Bool) (A B : Nat) (e : Int) : FP.Core.roundRatio FP.Core.b64 s A B e ≠ .nan := by
  unfold FP.Core.roundRatio FP.Core.roundAt FP.Core.settle FP.Core.bound
  by_cases h1 : A = 0
  · rw [if_pos h1]; intro z; cases z
  · rw [if_neg h1]
    generalize FP.Core.quantum FP.Core.b64 A B e = q
    generalize FP.Core.nearest (FP.Core.unitsNum A e q) (FP.Core.unitsDen B e q) = c
    by_cases h2 : c < 2 ^ FP.Core.b64.p
    · rw [if_pos h2]
      by_cases h3 : q ≤ FP.Core.b64.qmax
      · rw [if_pos h3]; intro z; cases z
      · rw [if_neg h3]; intro z; cases z
    · rw [if_neg h2]
      by_cases h3 : q + 1 ≤ FP.Core.b64.qmax
      · rw [if_pos h3]; intro z; cases z
      · rw [if_neg h3]; intro z; cases z
theorem vF_sub {x y : UInt64} (hx : vF x) (hy : vF y) : vf_n64 (FP.dsub y x) := by
  obtain ⟨s, c, q, hx⟩ := hx
  obtain ⟨t, d, r, hy⟩ := hy
  apply nn64
  show FP.Core.val64 (FP.Core.dsub y x) ≠ .nan
  rw [FP.Core.val64_dsub, hx, hy]
  exact rr_nn _ _ _ _
theorem vF_cmp {x : UInt64} (hx : vF x) : Op.cmpValue (FP.dcmp x x) .l = 0 := by
  obtain ⟨s, c, q, hx⟩ := hx
  have h : FP.dcmp x x = some .eq := by
    show FP.Core.order (FP.Core.val64 x) (FP.Core.val64 x) = _
    rw [hx]
    have hc : ∀ v : Int, some (compare v v) = some Ordering.eq := fun v => by simp
    exact hc _
  rw [h]
  rfl
theorem v8 : FP.Core.val64 0x3fc0000000000000 = .fin false (2 ^ 52) (-55) := by decide +kernel
theorem vF_i (i : Int32) : vF (FP.dmul (FP.i2d i) 0x3fc0000000000000) := by
  have hw : FP.Core.Whole i.toInt (FP.Core.val64 (FP.Core.i2d i)) := FP.Core.i2d_int i
  have hf := FP.Core.val64_fits (FP.Core.i2d i)
  unfold vF
  show ∃ s c q, FP.Core.val64 (FP.Core.dmul (FP.Core.i2d i) 0x3fc0000000000000) = .fin s c q
  rw [FP.Core.val64_dmul, v8]
  generalize FP.Core.val64 (FP.Core.i2d i) = d at *
  match d, hw, hf with
  | .fin s c q, hw, hf =>
    show ∃ s' c' q', FP.Core.roundRatio FP.Core.b64 (s != false) (c * 2 ^ 52) 1 (q + -55) = .fin s' c' q'
    by_cases h0 : c = 0
    · refine ⟨(s != false), 0, FP.Core.b64.qmin, ?_⟩
      unfold FP.Core.roundRatio
      rw [if_pos (by rw [h0, Nat.zero_mul])]
    · have h1 := FP.Core.whole_natAbs hw
      have hi : i.toInt ≠ 0 := fun z => h0 ((FP.Core.whole_zero hw).mpr z)
      obtain ⟨f1, f2, f3, f4⟩ := hf
      have ep : (2 : Nat) ^ FP.Core.b64.p = 2 ^ 53 := rfl
      have emin : FP.Core.b64.qmin = -1074 := by decide
      have emax : FP.Core.b64.qmax = 971 := by decide
      rw [ep] at f1
      rw [emin] at f2 f4
      rw [emax] at f3
      have hq : -54 < q := by
        apply Classical.byContradiction
        intro hn
        have e1 : q.toNat = 0 := by omega
        have e2 : 2 ^ 54 ≤ 2 ^ (-q).toNat := Nat.pow_le_pow_right (by decide) (by omega)
        have e3 : 1 * 2 ^ 54 ≤ i.toInt.natAbs * 2 ^ (-q).toNat := Nat.mul_le_mul (by omega) e2
        rw [e1, Nat.pow_zero, Nat.mul_one] at h1
        omega
      refine ⟨s != false, c, q - 3, FP.Core.roundRatio_exact FP.Core.good_b64 (by decide) ⟨?_, ?_, ?_, ?_⟩ ?_⟩
      · rw [ep]; exact f1
      · rw [emin]; omega
      · rw [emax]; omega
      · rw [emin]
        rcases f4 with f4 | f4
        · omega
        · exact Or.inr f4
      · rw [show (q + -55 - (q - 3)).toNat = 0 by omega, show (q - 3 - (q + -55)).toNat = 52 by omega, Nat.pow_zero, Nat.mul_one, Nat.mul_one]
