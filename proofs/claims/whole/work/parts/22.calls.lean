/-! what a method is called with -/
theorem nl1 : am_nL 1 = 6 ∧ am_mc 1 = 0 ∧ am_ms 1 = 0 := by decide +kernel
theorem ac1 (q : Nat) (x1 : Int32) (x2 : Int32) (x3 : Int32) (x4 : Int32) (x5 : Int32) : am_loc 1 [.ref q, .int x1, .int x2, .int x3, .int x4, .int x5] = [.ref q, .int x1, .int x2, .int x3, .int x4, .int x5] ∧ (am_args [.ref q, .int x1, .int x2, .int x3, .int x4, .int x5]).length ≤ am_nL 1 ∧ am_mc 1 = 0 ∧ am_ms 1 = 0 := ⟨by unfold am_loc; rw [nl1.1]; rfl, by rw [nl1.1]; exact Nat.le_of_ble_eq_true rfl, nl1.2.1, nl1.2.2⟩
theorem nl2 : am_nL 2 = 3 ∧ am_mc 2 = 0 ∧ am_ms 2 = 0 := by decide +kernel
theorem ac2 (q : Nat) (x1 : Int32) (x2 : Int32) : am_loc 2 [.ref q, .int x1, .int x2] = [.ref q, .int x1, .int x2] ∧ (am_args [.ref q, .int x1, .int x2]).length ≤ am_nL 2 ∧ am_mc 2 = 0 ∧ am_ms 2 = 0 := ⟨by unfold am_loc; rw [nl2.1]; rfl, by rw [nl2.1]; exact Nat.le_of_ble_eq_true rfl, nl2.2.1, nl2.2.2⟩
theorem nl3 : am_nL 3 = 6 ∧ am_mc 3 = 0 ∧ am_ms 3 = 0 := by decide +kernel
theorem ac3 (q : Nat) (x1 : Int32) (x2 : Int32) (x3 : Int32) (x4 : Int32) (x5 : Int32) : am_loc 3 [.ref q, .int x1, .int x2, .int x3, .int x4, .int x5] = [.ref q, .int x1, .int x2, .int x3, .int x4, .int x5] ∧ (am_args [.ref q, .int x1, .int x2, .int x3, .int x4, .int x5]).length ≤ am_nL 3 ∧ am_mc 3 = 0 ∧ am_ms 3 = 0 := ⟨by unfold am_loc; rw [nl3.1]; rfl, by rw [nl3.1]; exact Nat.le_of_ble_eq_true rfl, nl3.2.1, nl3.2.2⟩
theorem nl4 : am_nL 4 = 6 ∧ am_mc 4 = 0 ∧ am_ms 4 = 0 := by decide +kernel
theorem ac4 (q : Nat) (x1 : Int32) (x2 : Int32) (x3 : Int32) (d1 : UInt64) : am_loc 4 [.ref q, .int x1, .int x2, .int x3, .double d1] = [.ref q, .int x1, .int x2, .int x3, .double d1, .long 0] ∧ (am_args [.ref q, .int x1, .int x2, .int x3, .double d1]).length ≤ am_nL 4 ∧ am_mc 4 = 0 ∧ am_ms 4 = 0 := ⟨by unfold am_loc; rw [nl4.1]; rfl, by rw [nl4.1]; exact Nat.le_of_ble_eq_true rfl, nl4.2.1, nl4.2.2⟩
theorem nl5 : am_nL 5 = 5 ∧ am_mc 5 = 0 ∧ am_ms 5 = 0 := by decide +kernel
theorem ac5 (q : Nat) (x1 : Int32) (x2 : Int32) (x3 : Int32) (x4 : Int32) : am_loc 5 [.ref q, .int x1, .int x2, .int x3, .int x4] = [.ref q, .int x1, .int x2, .int x3, .int x4] ∧ (am_args [.ref q, .int x1, .int x2, .int x3, .int x4]).length ≤ am_nL 5 ∧ am_mc 5 = 0 ∧ am_ms 5 = 0 := ⟨by unfold am_loc; rw [nl5.1]; rfl, by rw [nl5.1]; exact Nat.le_of_ble_eq_true rfl, nl5.2.1, nl5.2.2⟩
theorem nl6 : am_nL 6 = 1 ∧ am_mc 6 = 0 ∧ am_ms 6 = 0 := by decide +kernel
theorem ac6 (q : Nat) : am_loc 6 [.ref q] = [.ref q] ∧ (am_args [.ref q]).length ≤ am_nL 6 ∧ am_mc 6 = 0 ∧ am_ms 6 = 0 := ⟨by unfold am_loc; rw [nl6.1]; rfl, by rw [nl6.1]; exact Nat.le_of_ble_eq_true rfl, nl6.2.1, nl6.2.2⟩
theorem nl7 : am_nL 7 = 2 ∧ am_mc 7 = 0 ∧ am_ms 7 = 0 := by decide +kernel
theorem ac7 (q : Nat) (x1 : Int32) : am_loc 7 [.ref q, .int x1] = [.ref q, .int x1] ∧ (am_args [.ref q, .int x1]).length ≤ am_nL 7 ∧ am_mc 7 = 0 ∧ am_ms 7 = 0 := ⟨by unfold am_loc; rw [nl7.1]; rfl, by rw [nl7.1]; exact Nat.le_of_ble_eq_true rfl, nl7.2.1, nl7.2.2⟩
theorem nl8 : am_nL 8 = 4 ∧ am_mc 8 = 0 ∧ am_ms 8 = 0 := by decide +kernel
theorem ac8 (q : Nat) (x1 : Int32) (x2 : Int32) (x3 : Int32) : am_loc 8 [.ref q, .int x1, .int x2, .int x3] = [.ref q, .int x1, .int x2, .int x3] ∧ (am_args [.ref q, .int x1, .int x2, .int x3]).length ≤ am_nL 8 ∧ am_mc 8 = 0 ∧ am_ms 8 = 0 := ⟨by unfold am_loc; rw [nl8.1]; rfl, by rw [nl8.1]; exact Nat.le_of_ble_eq_true rfl, nl8.2.1, nl8.2.2⟩
theorem nl9 : am_nL 9 = 2 ∧ am_mc 9 = 0 ∧ am_ms 9 = 0 := by decide +kernel
theorem ac9 (q : Nat) : am_loc 9 [.ref q] = [.ref q, .long 0] ∧ (am_args [.ref q]).length ≤ am_nL 9 ∧ am_mc 9 = 0 ∧ am_ms 9 = 0 := ⟨by unfold am_loc; rw [nl9.1]; rfl, by rw [nl9.1]; exact Nat.le_of_ble_eq_true rfl, nl9.2.1, nl9.2.2⟩
theorem nl10 : am_nL 10 = 4 ∧ am_mc 10 = 0 ∧ am_ms 10 = 0 := by decide +kernel
theorem ac10 (q : Nat) (x1 : Int32) (x2 : Int32) (x3 : Int32) : am_loc 10 [.ref q, .int x1, .int x2, .int x3] = [.ref q, .int x1, .int x2, .int x3] ∧ (am_args [.ref q, .int x1, .int x2, .int x3]).length ≤ am_nL 10 ∧ am_mc 10 = 0 ∧ am_ms 10 = 0 := ⟨by unfold am_loc; rw [nl10.1]; rfl, by rw [nl10.1]; exact Nat.le_of_ble_eq_true rfl, nl10.2.1, nl10.2.2⟩
theorem nl11 : am_nL 11 = 1 ∧ am_mc 11 = 0 ∧ am_ms 11 = 0 := by decide +kernel
theorem ac11 (q : Nat) : am_loc 11 [.ref q] = [.ref q] ∧ (am_args [.ref q]).length ≤ am_nL 11 ∧ am_mc 11 = 0 ∧ am_ms 11 = 0 := ⟨by unfold am_loc; rw [nl11.1]; rfl, by rw [nl11.1]; exact Nat.le_of_ble_eq_true rfl, nl11.2.1, nl11.2.2⟩
theorem nl12 : am_nL 12 = 5 ∧ am_mc 12 = 0 ∧ am_ms 12 = 0 := by decide +kernel
theorem ac12 (q : Nat) (x1 : Int32) (x2 : Int32) : am_loc 12 [.ref q, .int x1, .int x2] = [.ref q, .int x1, .int x2, .long 0, .long 0] ∧ (am_args [.ref q, .int x1, .int x2]).length ≤ am_nL 12 ∧ am_mc 12 = 0 ∧ am_ms 12 = 0 := ⟨by unfold am_loc; rw [nl12.1]; rfl, by rw [nl12.1]; exact Nat.le_of_ble_eq_true rfl, nl12.2.1, nl12.2.2⟩
theorem nl13 : am_nL 13 = 3 ∧ am_mc 13 = 0 ∧ am_ms 13 = 0 := by decide +kernel
theorem ac13 (q : Nat) (x1 : Int32) : am_loc 13 [.ref q, .int x1] = [.ref q, .int x1, .long 0] ∧ (am_args [.ref q, .int x1]).length ≤ am_nL 13 ∧ am_mc 13 = 0 ∧ am_ms 13 = 0 := ⟨by unfold am_loc; rw [nl13.1]; rfl, by rw [nl13.1]; exact Nat.le_of_ble_eq_true rfl, nl13.2.1, nl13.2.2⟩
theorem nl14 : am_nL 14 = 4 ∧ am_mc 14 = 0 ∧ am_ms 14 = 0 := by decide +kernel
theorem ac14 (q : Nat) (x1 : Int32) (x2 : Int32) : am_loc 14 [.ref q, .int x1, .int x2] = [.ref q, .int x1, .int x2, .long 0] ∧ (am_args [.ref q, .int x1, .int x2]).length ≤ am_nL 14 ∧ am_mc 14 = 0 ∧ am_ms 14 = 0 := ⟨by unfold am_loc; rw [nl14.1]; rfl, by rw [nl14.1]; exact Nat.le_of_ble_eq_true rfl, nl14.2.1, nl14.2.2⟩
theorem nl15 : am_nL 15 = 1 ∧ am_mc 15 = 0 ∧ am_ms 15 = 0 := by decide +kernel
theorem ac15 (q : Nat) : am_loc 15 [.ref q] = [.ref q] ∧ (am_args [.ref q]).length ≤ am_nL 15 ∧ am_mc 15 = 0 ∧ am_ms 15 = 0 := ⟨by unfold am_loc; rw [nl15.1]; rfl, by rw [nl15.1]; exact Nat.le_of_ble_eq_true rfl, nl15.2.1, nl15.2.2⟩
theorem nl16 : am_nL 16 = 7 ∧ am_mc 16 = 0 ∧ am_ms 16 = 0 := by decide +kernel
theorem ac16 (q : Nat) (x1 : Int32) (x2 : Int32) (x3 : Int32) : am_loc 16 [.ref q, .int x1, .int x2, .int x3] = [.ref q, .int x1, .int x2, .int x3, .long 0, .long 0, .long 0] ∧ (am_args [.ref q, .int x1, .int x2, .int x3]).length ≤ am_nL 16 ∧ am_mc 16 = 0 ∧ am_ms 16 = 0 := ⟨by unfold am_loc; rw [nl16.1]; rfl, by rw [nl16.1]; exact Nat.le_of_ble_eq_true rfl, nl16.2.1, nl16.2.2⟩
theorem nl17 : am_nL 17 = 6 ∧ am_mc 17 = 0 ∧ am_ms 17 = 0 := by decide +kernel
theorem ac17 (q : Nat) (x1 : Int32) (x2 : Int32) (x3 : Int32) (x4 : Int32) : am_loc 17 [.ref q, .int x1, .int x2, .int x3, .int x4] = [.ref q, .int x1, .int x2, .int x3, .int x4, .long 0] ∧ (am_args [.ref q, .int x1, .int x2, .int x3, .int x4]).length ≤ am_nL 17 ∧ am_mc 17 = 0 ∧ am_ms 17 = 0 := ⟨by unfold am_loc; rw [nl17.1]; rfl, by rw [nl17.1]; exact Nat.le_of_ble_eq_true rfl, nl17.2.1, nl17.2.2⟩
theorem nl18 : am_nL 18 = 1 ∧ am_mc 18 = 0 ∧ am_ms 18 = 0 := by decide +kernel
theorem ac18 (q : Nat) : am_loc 18 [.ref q] = [.ref q] ∧ (am_args [.ref q]).length ≤ am_nL 18 ∧ am_mc 18 = 0 ∧ am_ms 18 = 0 := ⟨by unfold am_loc; rw [nl18.1]; rfl, by rw [nl18.1]; exact Nat.le_of_ble_eq_true rfl, nl18.2.1, nl18.2.2⟩
theorem nl19 : am_nL 19 = 3 ∧ am_mc 19 = 0 ∧ am_ms 19 = 0 := by decide +kernel
theorem ac19 (q : Nat) (q1 : Nat) : am_loc 19 [.ref q, .ref q1] = [.ref q, .ref q1, .long 0] ∧ (am_args [.ref q, .ref q1]).length ≤ am_nL 19 ∧ am_mc 19 = 0 ∧ am_ms 19 = 0 := ⟨by unfold am_loc; rw [nl19.1]; rfl, by rw [nl19.1]; exact Nat.le_of_ble_eq_true rfl, nl19.2.1, nl19.2.2⟩
theorem nl20 : am_nL 20 = 3 ∧ am_mc 20 = 0 ∧ am_ms 20 = 0 := by decide +kernel
theorem ac20 (q : Nat) (x1 : Int32) (x2 : Int32) : am_loc 20 [.ref q, .int x1, .int x2] = [.ref q, .int x1, .int x2] ∧ (am_args [.ref q, .int x1, .int x2]).length ≤ am_nL 20 ∧ am_mc 20 = 0 ∧ am_ms 20 = 0 := ⟨by unfold am_loc; rw [nl20.1]; rfl, by rw [nl20.1]; exact Nat.le_of_ble_eq_true rfl, nl20.2.1, nl20.2.2⟩
theorem nl21 : am_nL 21 = 5 ∧ am_mc 21 = 0 ∧ am_ms 21 = 0 := by decide +kernel
theorem ac21 (q : Nat) (x1 : Int32) (x2 : Int32) (x3 : Int32) (x4 : Int32) : am_loc 21 [.ref q, .int x1, .int x2, .int x3, .int x4] = [.ref q, .int x1, .int x2, .int x3, .int x4] ∧ (am_args [.ref q, .int x1, .int x2, .int x3, .int x4]).length ≤ am_nL 21 ∧ am_mc 21 = 0 ∧ am_ms 21 = 0 := ⟨by unfold am_loc; rw [nl21.1]; rfl, by rw [nl21.1]; exact Nat.le_of_ble_eq_true rfl, nl21.2.1, nl21.2.2⟩
theorem nl22 : am_nL 22 = 2 ∧ am_mc 22 = 0 ∧ am_ms 22 = 0 := by decide +kernel
theorem ac22 (x1 : Int32) (x2 : Int32) : am_loc 22 [.int x1, .int x2] = [.int x1, .int x2] ∧ (am_args [.int x1, .int x2]).length ≤ am_nL 22 ∧ am_mc 22 = 0 ∧ am_ms 22 = 0 := ⟨by unfold am_loc; rw [nl22.1]; rfl, by rw [nl22.1]; exact Nat.le_of_ble_eq_true rfl, nl22.2.1, nl22.2.2⟩
theorem nl23 : am_nL 23 = 3 ∧ am_mc 23 = 0 ∧ am_ms 23 = 0 := by decide +kernel
theorem ac23 (x1 : Int32) (x2 : Int32) (x3 : Int32) : am_loc 23 [.int x1, .int x2, .int x3] = [.int x1, .int x2, .int x3] ∧ (am_args [.int x1, .int x2, .int x3]).length ≤ am_nL 23 ∧ am_mc 23 = 0 ∧ am_ms 23 = 0 := ⟨by unfold am_loc; rw [nl23.1]; rfl, by rw [nl23.1]; exact Nat.le_of_ble_eq_true rfl, nl23.2.1, nl23.2.2⟩
theorem nl24 : am_nL 24 = 3 ∧ am_mc 24 = 0 ∧ am_ms 24 = 0 := by decide +kernel
theorem ac24 (x1 : Int32) (x2 : Int32) (x3 : Int32) : am_loc 24 [.int x1, .int x2, .int x3] = [.int x1, .int x2, .int x3] ∧ (am_args [.int x1, .int x2, .int x3]).length ≤ am_nL 24 ∧ am_mc 24 = 0 ∧ am_ms 24 = 0 := ⟨by unfold am_loc; rw [nl24.1]; rfl, by rw [nl24.1]; exact Nat.le_of_ble_eq_true rfl, nl24.2.1, nl24.2.2⟩
theorem nl25 : am_nL 25 = 3 ∧ am_mc 25 = 0 ∧ am_ms 25 = 0 := by decide +kernel
theorem ac25 (x1 : Int32) (x2 : Int32) (x3 : Int32) : am_loc 25 [.int x1, .int x2, .int x3] = [.int x1, .int x2, .int x3] ∧ (am_args [.int x1, .int x2, .int x3]).length ≤ am_nL 25 ∧ am_mc 25 = 0 ∧ am_ms 25 = 0 := ⟨by unfold am_loc; rw [nl25.1]; rfl, by rw [nl25.1]; exact Nat.le_of_ble_eq_true rfl, nl25.2.1, nl25.2.2⟩
theorem nl26 : am_nL 26 = 2 ∧ am_mc 26 = 0 ∧ am_ms 26 = 0 := by decide +kernel
theorem ac26 (x1 : Int32) (x2 : Int32) : am_loc 26 [.int x1, .int x2] = [.int x1, .int x2] ∧ (am_args [.int x1, .int x2]).length ≤ am_nL 26 ∧ am_mc 26 = 0 ∧ am_ms 26 = 0 := ⟨by unfold am_loc; rw [nl26.1]; rfl, by rw [nl26.1]; exact Nat.le_of_ble_eq_true rfl, nl26.2.1, nl26.2.2⟩
theorem nl27 : am_nL 27 = 1 ∧ am_mc 27 = 0 ∧ am_ms 27 = 0 := by decide +kernel
theorem ac27 (x1 : Int32) : am_loc 27 [.int x1] = [.int x1] ∧ (am_args [.int x1]).length ≤ am_nL 27 ∧ am_mc 27 = 0 ∧ am_ms 27 = 0 := ⟨by unfold am_loc; rw [nl27.1]; rfl, by rw [nl27.1]; exact Nat.le_of_ble_eq_true rfl, nl27.2.1, nl27.2.2⟩
theorem nl28 : am_nL 28 = 1 ∧ am_mc 28 = 0 ∧ am_ms 28 = 0 := by decide +kernel
theorem ac28 (x1 : Int32) : am_loc 28 [.int x1] = [.int x1] ∧ (am_args [.int x1]).length ≤ am_nL 28 ∧ am_mc 28 = 0 ∧ am_ms 28 = 0 := ⟨by unfold am_loc; rw [nl28.1]; rfl, by rw [nl28.1]; exact Nat.le_of_ble_eq_true rfl, nl28.2.1, nl28.2.2⟩
theorem nl29 : am_nL 29 = 1 ∧ am_mc 29 = 0 ∧ am_ms 29 = 0 := by decide +kernel
theorem ac29 (x1 : Int32) : am_loc 29 [.int x1] = [.int x1] ∧ (am_args [.int x1]).length ≤ am_nL 29 ∧ am_mc 29 = 0 ∧ am_ms 29 = 0 := ⟨by unfold am_loc; rw [nl29.1]; rfl, by rw [nl29.1]; exact Nat.le_of_ble_eq_true rfl, nl29.2.1, nl29.2.2⟩
theorem nl30 : am_nL 30 = 1 ∧ am_mc 30 = 0 ∧ am_ms 30 = 0 := by decide +kernel
theorem ac30 (x1 : Int32) : am_loc 30 [.int x1] = [.int x1] ∧ (am_args [.int x1]).length ≤ am_nL 30 ∧ am_mc 30 = 0 ∧ am_ms 30 = 0 := ⟨by unfold am_loc; rw [nl30.1]; rfl, by rw [nl30.1]; exact Nat.le_of_ble_eq_true rfl, nl30.2.1, nl30.2.2⟩
theorem nl32 : am_nL 32 = 3 ∧ am_mc 32 = 0 ∧ am_ms 32 = 0 := by decide +kernel
theorem ac32 (x1 : Int32) (x2 : Int32) (x3 : Int32) : am_loc 32 [.int x1, .int x2, .int x3] = [.int x1, .int x2, .int x3] ∧ (am_args [.int x1, .int x2, .int x3]).length ≤ am_nL 32 ∧ am_mc 32 = 0 ∧ am_ms 32 = 0 := ⟨by unfold am_loc; rw [nl32.1]; rfl, by rw [nl32.1]; exact Nat.le_of_ble_eq_true rfl, nl32.2.1, nl32.2.2⟩
theorem nl33 : am_nL 33 = 3 ∧ am_mc 33 = 0 ∧ am_ms 33 = 0 := by decide +kernel
theorem ac33 (q : Nat) (x1 : Int32) (x2 : Int32) : am_loc 33 [.ref q, .int x1, .int x2] = [.ref q, .int x1, .int x2] ∧ (am_args [.ref q, .int x1, .int x2]).length ≤ am_nL 33 ∧ am_mc 33 = 0 ∧ am_ms 33 = 0 := ⟨by unfold am_loc; rw [nl33.1]; rfl, by rw [nl33.1]; exact Nat.le_of_ble_eq_true rfl, nl33.2.1, nl33.2.2⟩
theorem nl34 : am_nL 34 = 7 ∧ am_mc 34 = 0 ∧ am_ms 34 = 0 := by decide +kernel
theorem ac34 (q : Nat) (x1 : Int32) (x2 : Int32) (x3 : Int32) (x4 : Int32) (x5 : Int32) : am_loc 34 [.ref q, .int x1, .int x2, .int x3, .int x4, .int x5] = [.ref q, .int x1, .int x2, .int x3, .int x4, .int x5, .long 0] ∧ (am_args [.ref q, .int x1, .int x2, .int x3, .int x4, .int x5]).length ≤ am_nL 34 ∧ am_mc 34 = 0 ∧ am_ms 34 = 0 := ⟨by unfold am_loc; rw [nl34.1]; rfl, by rw [nl34.1]; exact Nat.le_of_ble_eq_true rfl, nl34.2.1, nl34.2.2⟩
theorem nl35 : am_nL 35 = 4 ∧ am_mc 35 = 0 ∧ am_ms 35 = 0 := by decide +kernel
theorem ac35 (q : Nat) (x1 : Int32) (x2 : Int32) : am_loc 35 [.ref q, .int x1, .int x2] = [.ref q, .int x1, .int x2, .long 0] ∧ (am_args [.ref q, .int x1, .int x2]).length ≤ am_nL 35 ∧ am_mc 35 = 0 ∧ am_ms 35 = 0 := ⟨by unfold am_loc; rw [nl35.1]; rfl, by rw [nl35.1]; exact Nat.le_of_ble_eq_true rfl, nl35.2.1, nl35.2.2⟩
theorem nl36 : am_nL 36 = 3 ∧ am_mc 36 = 0 ∧ am_ms 36 = 0 := by decide +kernel
theorem ac36 (x1 : Int32) (x2 : Int32) (x3 : Int32) : am_loc 36 [.int x1, .int x2, .int x3] = [.int x1, .int x2, .int x3] ∧ (am_args [.int x1, .int x2, .int x3]).length ≤ am_nL 36 ∧ am_mc 36 = 0 ∧ am_ms 36 = 0 := ⟨by unfold am_loc; rw [nl36.1]; rfl, by rw [nl36.1]; exact Nat.le_of_ble_eq_true rfl, nl36.2.1, nl36.2.2⟩
theorem nl37 : am_nL 37 = 6 ∧ am_mc 37 = 0 ∧ am_ms 37 = 0 := by decide +kernel
theorem ac37 (q : Nat) (x1 : Int32) (x2 : Int32) (x3 : Int32) (x4 : Int32) (x5 : Int32) : am_loc 37 [.ref q, .int x1, .int x2, .int x3, .int x4, .int x5] = [.ref q, .int x1, .int x2, .int x3, .int x4, .int x5] ∧ (am_args [.ref q, .int x1, .int x2, .int x3, .int x4, .int x5]).length ≤ am_nL 37 ∧ am_mc 37 = 0 ∧ am_ms 37 = 0 := ⟨by unfold am_loc; rw [nl37.1]; rfl, by rw [nl37.1]; exact Nat.le_of_ble_eq_true rfl, nl37.2.1, nl37.2.2⟩
theorem nl38 : am_nL 38 = 6 ∧ am_mc 38 = 0 ∧ am_ms 38 = 0 := by decide +kernel
theorem ac38 (q : Nat) (x1 : Int32) (x2 : Int32) (x3 : Int32) (d1 : UInt64) : am_loc 38 [.ref q, .int x1, .int x2, .int x3, .double d1] = [.ref q, .int x1, .int x2, .int x3, .double d1, .long 0] ∧ (am_args [.ref q, .int x1, .int x2, .int x3, .double d1]).length ≤ am_nL 38 ∧ am_mc 38 = 0 ∧ am_ms 38 = 0 := ⟨by unfold am_loc; rw [nl38.1]; rfl, by rw [nl38.1]; exact Nat.le_of_ble_eq_true rfl, nl38.2.1, nl38.2.2⟩
theorem nl39 : am_nL 39 = 6 ∧ am_mc 39 = 0 ∧ am_ms 39 = 0 := by decide +kernel
theorem ac39 (q : Nat) (x1 : Int32) (x2 : Int32) (x3 : Int32) (x4 : Int32) : am_loc 39 [.ref q, .int x1, .int x2, .int x3, .int x4] = [.ref q, .int x1, .int x2, .int x3, .int x4, .long 0] ∧ (am_args [.ref q, .int x1, .int x2, .int x3, .int x4]).length ≤ am_nL 39 ∧ am_mc 39 = 0 ∧ am_ms 39 = 0 := ⟨by unfold am_loc; rw [nl39.1]; rfl, by rw [nl39.1]; exact Nat.le_of_ble_eq_true rfl, nl39.2.1, nl39.2.2⟩
theorem nl40 : am_nL 40 = 3 ∧ am_mc 40 = 0 ∧ am_ms 40 = 0 := by decide +kernel
theorem ac40 (q : Nat) : am_loc 40 [.ref q] = [.ref q, .long 0, .long 0] ∧ (am_args [.ref q]).length ≤ am_nL 40 ∧ am_mc 40 = 0 ∧ am_ms 40 = 0 := ⟨by unfold am_loc; rw [nl40.1]; rfl, by rw [nl40.1]; exact Nat.le_of_ble_eq_true rfl, nl40.2.1, nl40.2.2⟩
theorem nl41 : am_nL 41 = 2 ∧ am_mc 41 = 0 ∧ am_ms 41 = 0 := by decide +kernel
theorem ac41 (q : Nat) (x1 : Int32) : am_loc 41 [.ref q, .int x1] = [.ref q, .int x1] ∧ (am_args [.ref q, .int x1]).length ≤ am_nL 41 ∧ am_mc 41 = 0 ∧ am_ms 41 = 0 := ⟨by unfold am_loc; rw [nl41.1]; rfl, by rw [nl41.1]; exact Nat.le_of_ble_eq_true rfl, nl41.2.1, nl41.2.2⟩
theorem nl42 : am_nL 42 = 5 ∧ am_mc 42 = 0 ∧ am_ms 42 = 0 := by decide +kernel
theorem ac42 (q : Nat) (x1 : Int32) (x2 : Int32) (x3 : Int32) : am_loc 42 [.ref q, .int x1, .int x2, .int x3] = [.ref q, .int x1, .int x2, .int x3, .long 0] ∧ (am_args [.ref q, .int x1, .int x2, .int x3]).length ≤ am_nL 42 ∧ am_mc 42 = 0 ∧ am_ms 42 = 0 := ⟨by unfold am_loc; rw [nl42.1]; rfl, by rw [nl42.1]; exact Nat.le_of_ble_eq_true rfl, nl42.2.1, nl42.2.2⟩
theorem nl43 : am_nL 43 = 2 ∧ am_mc 43 = 0 ∧ am_ms 43 = 0 := by decide +kernel
theorem ac43 (q : Nat) : am_loc 43 [.ref q] = [.ref q, .long 0] ∧ (am_args [.ref q]).length ≤ am_nL 43 ∧ am_mc 43 = 0 ∧ am_ms 43 = 0 := ⟨by unfold am_loc; rw [nl43.1]; rfl, by rw [nl43.1]; exact Nat.le_of_ble_eq_true rfl, nl43.2.1, nl43.2.2⟩
theorem nl44 : am_nL 44 = 4 ∧ am_mc 44 = 0 ∧ am_ms 44 = 0 := by decide +kernel
theorem ac44 (q : Nat) (x1 : Int32) (x2 : Int32) (x3 : Int32) : am_loc 44 [.ref q, .int x1, .int x2, .int x3] = [.ref q, .int x1, .int x2, .int x3] ∧ (am_args [.ref q, .int x1, .int x2, .int x3]).length ≤ am_nL 44 ∧ am_mc 44 = 0 ∧ am_ms 44 = 0 := ⟨by unfold am_loc; rw [nl44.1]; rfl, by rw [nl44.1]; exact Nat.le_of_ble_eq_true rfl, nl44.2.1, nl44.2.2⟩
theorem nl45 : am_nL 45 = 4 ∧ am_mc 45 = 0 ∧ am_ms 45 = 0 := by decide +kernel
theorem ac45 (x1 : Int32) (x2 : Int32) : am_loc 45 [.int x1, .int x2] = [.int x1, .int x2, .long 0, .long 0] ∧ (am_args [.int x1, .int x2]).length ≤ am_nL 45 ∧ am_mc 45 = 0 ∧ am_ms 45 = 0 := ⟨by unfold am_loc; rw [nl45.1]; rfl, by rw [nl45.1]; exact Nat.le_of_ble_eq_true rfl, nl45.2.1, nl45.2.2⟩
theorem nl46 : am_nL 46 = 5 ∧ am_mc 46 = 0 ∧ am_ms 46 = 0 := by decide +kernel
theorem ac46 (q : Nat) (x1 : Int32) (x2 : Int32) (x3 : Int32) : am_loc 46 [.ref q, .int x1, .int x2, .int x3] = [.ref q, .int x1, .int x2, .int x3, .long 0] ∧ (am_args [.ref q, .int x1, .int x2, .int x3]).length ≤ am_nL 46 ∧ am_mc 46 = 0 ∧ am_ms 46 = 0 := ⟨by unfold am_loc; rw [nl46.1]; rfl, by rw [nl46.1]; exact Nat.le_of_ble_eq_true rfl, nl46.2.1, nl46.2.2⟩
theorem nl47 : am_nL 47 = 6 ∧ am_mc 47 = 0 ∧ am_ms 47 = 0 := by decide +kernel
theorem ac47 (q : Nat) (x1 : Int32) (x2 : Int32) (x3 : Int32) : am_loc 47 [.ref q, .int x1, .int x2, .int x3] = [.ref q, .int x1, .int x2, .int x3, .long 0, .long 0] ∧ (am_args [.ref q, .int x1, .int x2, .int x3]).length ≤ am_nL 47 ∧ am_mc 47 = 0 ∧ am_ms 47 = 0 := ⟨by unfold am_loc; rw [nl47.1]; rfl, by rw [nl47.1]; exact Nat.le_of_ble_eq_true rfl, nl47.2.1, nl47.2.2⟩
theorem nl48 : am_nL 48 = 11 ∧ am_mc 48 = 0 ∧ am_ms 48 = 0 := by decide +kernel
theorem ac48 (q : Nat) (x1 : Int32) (x2 : Int32) (x3 : Int32) (x4 : Int32) (x5 : Int32) : am_loc 48 [.ref q, .int x1, .int x2, .int x3, .int x4, .int x5] = [.ref q, .int x1, .int x2, .int x3, .int x4, .int x5, .long 0, .long 0, .long 0, .long 0, .long 0] ∧ (am_args [.ref q, .int x1, .int x2, .int x3, .int x4, .int x5]).length ≤ am_nL 48 ∧ am_mc 48 = 0 ∧ am_ms 48 = 0 := ⟨by unfold am_loc; rw [nl48.1]; rfl, by rw [nl48.1]; exact Nat.le_of_ble_eq_true rfl, nl48.2.1, nl48.2.2⟩
theorem nl49 : am_nL 49 = 3 ∧ am_mc 49 = 0 ∧ am_ms 49 = 0 := by decide +kernel
theorem ac49 (q : Nat) (x1 : Int32) (x2 : Int32) : am_loc 49 [.ref q, .int x1, .int x2] = [.ref q, .int x1, .int x2] ∧ (am_args [.ref q, .int x1, .int x2]).length ≤ am_nL 49 ∧ am_mc 49 = 0 ∧ am_ms 49 = 0 := ⟨by unfold am_loc; rw [nl49.1]; rfl, by rw [nl49.1]; exact Nat.le_of_ble_eq_true rfl, nl49.2.1, nl49.2.2⟩
theorem nl50 : am_nL 50 = 5 ∧ am_mc 50 = 0 ∧ am_ms 50 = 0 := by decide +kernel
theorem ac50 (q : Nat) (x1 : Int32) (x2 : Int32) (x3 : Int32) : am_loc 50 [.ref q, .int x1, .int x2, .int x3] = [.ref q, .int x1, .int x2, .int x3, .long 0] ∧ (am_args [.ref q, .int x1, .int x2, .int x3]).length ≤ am_nL 50 ∧ am_mc 50 = 0 ∧ am_ms 50 = 0 := ⟨by unfold am_loc; rw [nl50.1]; rfl, by rw [nl50.1]; exact Nat.le_of_ble_eq_true rfl, nl50.2.1, nl50.2.2⟩
theorem nl51 : am_nL 51 = 8 ∧ am_mc 51 = 0 ∧ am_ms 51 = 0 := by decide +kernel
theorem ac51 (q : Nat) (x1 : Int32) (x2 : Int32) : am_loc 51 [.ref q, .int x1, .int x2] = [.ref q, .int x1, .int x2, .long 0, .long 0, .long 0, .long 0, .long 0] ∧ (am_args [.ref q, .int x1, .int x2]).length ≤ am_nL 51 ∧ am_mc 51 = 0 ∧ am_ms 51 = 0 := ⟨by unfold am_loc; rw [nl51.1]; rfl, by rw [nl51.1]; exact Nat.le_of_ble_eq_true rfl, nl51.2.1, nl51.2.2⟩
theorem nl52 : am_nL 52 = 1 ∧ am_mc 52 = 0 ∧ am_ms 52 = 0 := by decide +kernel
theorem ac52 (x1 : Int32) : am_loc 52 [.int x1] = [.int x1] ∧ (am_args [.int x1]).length ≤ am_nL 52 ∧ am_mc 52 = 0 ∧ am_ms 52 = 0 := ⟨by unfold am_loc; rw [nl52.1]; rfl, by rw [nl52.1]; exact Nat.le_of_ble_eq_true rfl, nl52.2.1, nl52.2.2⟩
theorem nl53 : am_nL 53 = 8 ∧ am_mc 53 = 0 ∧ am_ms 53 = 0 := by decide +kernel
theorem ac53 (q : Nat) (x1 : Int32) (x2 : Int32) (x3 : Int32) : am_loc 53 [.ref q, .int x1, .int x2, .int x3] = [.ref q, .int x1, .int x2, .int x3, .long 0, .long 0, .long 0, .long 0] ∧ (am_args [.ref q, .int x1, .int x2, .int x3]).length ≤ am_nL 53 ∧ am_mc 53 = 0 ∧ am_ms 53 = 0 := ⟨by unfold am_loc; rw [nl53.1]; rfl, by rw [nl53.1]; exact Nat.le_of_ble_eq_true rfl, nl53.2.1, nl53.2.2⟩
theorem nl54 : am_nL 54 = 7 ∧ am_mc 54 = 0 ∧ am_ms 54 = 0 := by decide +kernel
theorem ac54 (q : Nat) (x1 : Int32) (x2 : Int32) (x3 : Int32) (x4 : Int32) (x5 : Int32) (x6 : Int32) : am_loc 54 [.ref q, .int x1, .int x2, .int x3, .int x4, .int x5, .int x6] = [.ref q, .int x1, .int x2, .int x3, .int x4, .int x5, .int x6] ∧ (am_args [.ref q, .int x1, .int x2, .int x3, .int x4, .int x5, .int x6]).length ≤ am_nL 54 ∧ am_mc 54 = 0 ∧ am_ms 54 = 0 := ⟨by unfold am_loc; rw [nl54.1]; rfl, by rw [nl54.1]; exact Nat.le_of_ble_eq_true rfl, nl54.2.1, nl54.2.2⟩
theorem nl55 : am_nL 55 = 5 ∧ am_mc 55 = 0 ∧ am_ms 55 = 0 := by decide +kernel
theorem ac55 (q : Nat) (x1 : Int32) (x2 : Int32) : am_loc 55 [.ref q, .int x1, .int x2] = [.ref q, .int x1, .int x2, .long 0, .long 0] ∧ (am_args [.ref q, .int x1, .int x2]).length ≤ am_nL 55 ∧ am_mc 55 = 0 ∧ am_ms 55 = 0 := ⟨by unfold am_loc; rw [nl55.1]; rfl, by rw [nl55.1]; exact Nat.le_of_ble_eq_true rfl, nl55.2.1, nl55.2.2⟩
theorem nl56 : am_nL 56 = 7 ∧ am_mc 56 = 0 ∧ am_ms 56 = 0 := by decide +kernel
theorem ac56 (q : Nat) (x1 : Int32) : am_loc 56 [.ref q, .int x1] = [.ref q, .int x1, .long 0, .long 0, .long 0, .long 0, .long 0] ∧ (am_args [.ref q, .int x1]).length ≤ am_nL 56 ∧ am_mc 56 = 0 ∧ am_ms 56 = 0 := ⟨by unfold am_loc; rw [nl56.1]; rfl, by rw [nl56.1]; exact Nat.le_of_ble_eq_true rfl, nl56.2.1, nl56.2.2⟩
theorem nl57 : am_nL 57 = 10 ∧ am_mc 57 = 0 ∧ am_ms 57 = 0 := by decide +kernel
theorem ac57 (q : Nat) (x1 : Int32) (x2 : Int32) : am_loc 57 [.ref q, .int x1, .int x2] = [.ref q, .int x1, .int x2, .long 0, .long 0, .long 0, .long 0, .long 0, .long 0, .long 0] ∧ (am_args [.ref q, .int x1, .int x2]).length ≤ am_nL 57 ∧ am_mc 57 = 0 ∧ am_ms 57 = 0 := ⟨by unfold am_loc; rw [nl57.1]; rfl, by rw [nl57.1]; exact Nat.le_of_ble_eq_true rfl, nl57.2.1, nl57.2.2⟩
theorem nl58 : am_nL 58 = 6 ∧ am_mc 58 = 0 ∧ am_ms 58 = 0 := by decide +kernel
theorem ac58 (q : Nat) (x1 : Int32) (x2 : Int32) (x3 : Int32) : am_loc 58 [.ref q, .int x1, .int x2, .int x3] = [.ref q, .int x1, .int x2, .int x3, .long 0, .long 0] ∧ (am_args [.ref q, .int x1, .int x2, .int x3]).length ≤ am_nL 58 ∧ am_mc 58 = 0 ∧ am_ms 58 = 0 := ⟨by unfold am_loc; rw [nl58.1]; rfl, by rw [nl58.1]; exact Nat.le_of_ble_eq_true rfl, nl58.2.1, nl58.2.2⟩
theorem nl59 : am_nL 59 = 2 ∧ am_mc 59 = 0 ∧ am_ms 59 = 0 := by decide +kernel
theorem ac59 (q : Nat) : am_loc 59 [.ref q] = [.ref q, .long 0] ∧ (am_args [.ref q]).length ≤ am_nL 59 ∧ am_mc 59 = 0 ∧ am_ms 59 = 0 := ⟨by unfold am_loc; rw [nl59.1]; rfl, by rw [nl59.1]; exact Nat.le_of_ble_eq_true rfl, nl59.2.1, nl59.2.2⟩
theorem nl60 : am_nL 60 = 1 ∧ am_mc 60 = 0 ∧ am_ms 60 = 0 := by decide +kernel
theorem ac60 (q : Nat) : am_loc 60 [.ref q] = [.ref q] ∧ (am_args [.ref q]).length ≤ am_nL 60 ∧ am_mc 60 = 0 ∧ am_ms 60 = 0 := ⟨by unfold am_loc; rw [nl60.1]; rfl, by rw [nl60.1]; exact Nat.le_of_ble_eq_true rfl, nl60.2.1, nl60.2.2⟩
theorem nl61 : am_nL 61 = 4 ∧ am_mc 61 = 0 ∧ am_ms 61 = 0 := by decide +kernel
theorem ac61 (q : Nat) (x1 : Int32) (x2 : Int32) : am_loc 61 [.ref q, .int x1, .int x2] = [.ref q, .int x1, .int x2, .long 0] ∧ (am_args [.ref q, .int x1, .int x2]).length ≤ am_nL 61 ∧ am_mc 61 = 0 ∧ am_ms 61 = 0 := ⟨by unfold am_loc; rw [nl61.1]; rfl, by rw [nl61.1]; exact Nat.le_of_ble_eq_true rfl, nl61.2.1, nl61.2.2⟩
theorem nl62 : am_nL 62 = 3 ∧ am_mc 62 = 0 ∧ am_ms 62 = 0 := by decide +kernel
theorem ac62 (q : Nat) (x1 : Int32) : am_loc 62 [.ref q, .int x1] = [.ref q, .int x1, .long 0] ∧ (am_args [.ref q, .int x1]).length ≤ am_nL 62 ∧ am_mc 62 = 0 ∧ am_ms 62 = 0 := ⟨by unfold am_loc; rw [nl62.1]; rfl, by rw [nl62.1]; exact Nat.le_of_ble_eq_true rfl, nl62.2.1, nl62.2.2⟩
theorem nl63 : am_nL 63 = 2 ∧ am_mc 63 = 0 ∧ am_ms 63 = 0 := by decide +kernel
theorem ac63 (q : Nat) (x1 : Int32) : am_loc 63 [.ref q, .int x1] = [.ref q, .int x1] ∧ (am_args [.ref q, .int x1]).length ≤ am_nL 63 ∧ am_mc 63 = 0 ∧ am_ms 63 = 0 := ⟨by unfold am_loc; rw [nl63.1]; rfl, by rw [nl63.1]; exact Nat.le_of_ble_eq_true rfl, nl63.2.1, nl63.2.2⟩
theorem nl64 : am_nL 64 = 3 ∧ am_mc 64 = 0 ∧ am_ms 64 = 0 := by decide +kernel
theorem ac64 (q : Nat) (x1 : Int32) : am_loc 64 [.ref q, .int x1] = [.ref q, .int x1, .long 0] ∧ (am_args [.ref q, .int x1]).length ≤ am_nL 64 ∧ am_mc 64 = 0 ∧ am_ms 64 = 0 := ⟨by unfold am_loc; rw [nl64.1]; rfl, by rw [nl64.1]; exact Nat.le_of_ble_eq_true rfl, nl64.2.1, nl64.2.2⟩
theorem nl65 : am_nL 65 = 4 ∧ am_mc 65 = 0 ∧ am_ms 65 = 0 := by decide +kernel
theorem ac65 (q : Nat) (x1 : Int32) : am_loc 65 [.ref q, .int x1] = [.ref q, .int x1, .long 0, .long 0] ∧ (am_args [.ref q, .int x1]).length ≤ am_nL 65 ∧ am_mc 65 = 0 ∧ am_ms 65 = 0 := ⟨by unfold am_loc; rw [nl65.1]; rfl, by rw [nl65.1]; exact Nat.le_of_ble_eq_true rfl, nl65.2.1, nl65.2.2⟩
theorem nl66 : am_nL 66 = 4 ∧ am_mc 66 = 0 ∧ am_ms 66 = 0 := by decide +kernel
theorem ac66 (q : Nat) (x1 : Int32) : am_loc 66 [.ref q, .int x1] = [.ref q, .int x1, .long 0, .long 0] ∧ (am_args [.ref q, .int x1]).length ≤ am_nL 66 ∧ am_mc 66 = 0 ∧ am_ms 66 = 0 := ⟨by unfold am_loc; rw [nl66.1]; rfl, by rw [nl66.1]; exact Nat.le_of_ble_eq_true rfl, nl66.2.1, nl66.2.2⟩
theorem nl67 : am_nL 67 = 2 ∧ am_mc 67 = 0 ∧ am_ms 67 = 0 := by decide +kernel
theorem ac67 (q : Nat) : am_loc 67 [.ref q] = [.ref q, .long 0] ∧ (am_args [.ref q]).length ≤ am_nL 67 ∧ am_mc 67 = 0 ∧ am_ms 67 = 0 := ⟨by unfold am_loc; rw [nl67.1]; rfl, by rw [nl67.1]; exact Nat.le_of_ble_eq_true rfl, nl67.2.1, nl67.2.2⟩
theorem nl68 : am_nL 68 = 2 ∧ am_mc 68 = 0 ∧ am_ms 68 = 0 := by decide +kernel
theorem ac68 (q : Nat) (x1 : Int32) : am_loc 68 [.ref q, .int x1] = [.ref q, .int x1] ∧ (am_args [.ref q, .int x1]).length ≤ am_nL 68 ∧ am_mc 68 = 0 ∧ am_ms 68 = 0 := ⟨by unfold am_loc; rw [nl68.1]; rfl, by rw [nl68.1]; exact Nat.le_of_ble_eq_true rfl, nl68.2.1, nl68.2.2⟩
theorem nl69 : am_nL 69 = 2 ∧ am_mc 69 = 0 ∧ am_ms 69 = 0 := by decide +kernel
theorem ac69 (q : Nat) : am_loc 69 [.ref q] = [.ref q, .long 0] ∧ (am_args [.ref q]).length ≤ am_nL 69 ∧ am_mc 69 = 0 ∧ am_ms 69 = 0 := ⟨by unfold am_loc; rw [nl69.1]; rfl, by rw [nl69.1]; exact Nat.le_of_ble_eq_true rfl, nl69.2.1, nl69.2.2⟩
theorem nl70 : am_nL 70 = 3 ∧ am_mc 70 = 0 ∧ am_ms 70 = 0 := by decide +kernel
theorem ac70 (q : Nat) (x1 : Int32) (x2 : Int32) : am_loc 70 [.ref q, .int x1, .int x2] = [.ref q, .int x1, .int x2] ∧ (am_args [.ref q, .int x1, .int x2]).length ≤ am_nL 70 ∧ am_mc 70 = 0 ∧ am_ms 70 = 0 := ⟨by unfold am_loc; rw [nl70.1]; rfl, by rw [nl70.1]; exact Nat.le_of_ble_eq_true rfl, nl70.2.1, nl70.2.2⟩
theorem nl71 : am_nL 71 = 5 ∧ am_mc 71 = 0 ∧ am_ms 71 = 0 := by decide +kernel
theorem ac71 (q : Nat) : am_loc 71 [.ref q] = [.ref q, .long 0, .long 0, .long 0, .long 0] ∧ (am_args [.ref q]).length ≤ am_nL 71 ∧ am_mc 71 = 0 ∧ am_ms 71 = 0 := ⟨by unfold am_loc; rw [nl71.1]; rfl, by rw [nl71.1]; exact Nat.le_of_ble_eq_true rfl, nl71.2.1, nl71.2.2⟩
theorem nl72 : am_nL 72 = 1 ∧ am_mc 72 = 0 ∧ am_ms 72 = 0 := by decide +kernel
theorem ac72 (q : Nat) : am_loc 72 [.ref q] = [.ref q] ∧ (am_args [.ref q]).length ≤ am_nL 72 ∧ am_mc 72 = 0 ∧ am_ms 72 = 0 := ⟨by unfold am_loc; rw [nl72.1]; rfl, by rw [nl72.1]; exact Nat.le_of_ble_eq_true rfl, nl72.2.1, nl72.2.2⟩
theorem nl73 : am_nL 73 = 7 ∧ am_mc 73 = 0 ∧ am_ms 73 = 0 := by decide +kernel
theorem ac73 (q : Nat) (x1 : Int32) (x2 : Int32) (x3 : Int32) : am_loc 73 [.ref q, .int x1, .int x2, .int x3] = [.ref q, .int x1, .int x2, .int x3, .long 0, .long 0, .long 0] ∧ (am_args [.ref q, .int x1, .int x2, .int x3]).length ≤ am_nL 73 ∧ am_mc 73 = 0 ∧ am_ms 73 = 0 := ⟨by unfold am_loc; rw [nl73.1]; rfl, by rw [nl73.1]; exact Nat.le_of_ble_eq_true rfl, nl73.2.1, nl73.2.2⟩
theorem nl74 : am_nL 74 = 6 ∧ am_mc 74 = 0 ∧ am_ms 74 = 0 := by decide +kernel
theorem ac74 (q : Nat) (x1 : Int32) (x2 : Int32) (x3 : Int32) (x4 : Int32) : am_loc 74 [.ref q, .int x1, .int x2, .int x3, .int x4] = [.ref q, .int x1, .int x2, .int x3, .int x4, .long 0] ∧ (am_args [.ref q, .int x1, .int x2, .int x3, .int x4]).length ≤ am_nL 74 ∧ am_mc 74 = 0 ∧ am_ms 74 = 0 := ⟨by unfold am_loc; rw [nl74.1]; rfl, by rw [nl74.1]; exact Nat.le_of_ble_eq_true rfl, nl74.2.1, nl74.2.2⟩
theorem nl76 : am_nL 76 = 5 ∧ am_mc 76 = 0 ∧ am_ms 76 = 0 := by decide +kernel
theorem ac76 (q : Nat) (x1 : Int32) (x2 : Int32) (x3 : Int32) (x4 : Int32) : am_loc 76 [.ref q, .int x1, .int x2, .int x3, .int x4] = [.ref q, .int x1, .int x2, .int x3, .int x4] ∧ (am_args [.ref q, .int x1, .int x2, .int x3, .int x4]).length ≤ am_nL 76 ∧ am_mc 76 = 0 ∧ am_ms 76 = 0 := ⟨by unfold am_loc; rw [nl76.1]; rfl, by rw [nl76.1]; exact Nat.le_of_ble_eq_true rfl, nl76.2.1, nl76.2.2⟩
theorem nl77 : am_nL 77 = 3 ∧ am_mc 77 = 0 ∧ am_ms 77 = 0 := by decide +kernel
theorem ac77 (q : Nat) (x1 : Int32) : am_loc 77 [.ref q, .int x1] = [.ref q, .int x1, .long 0] ∧ (am_args [.ref q, .int x1]).length ≤ am_nL 77 ∧ am_mc 77 = 0 ∧ am_ms 77 = 0 := ⟨by unfold am_loc; rw [nl77.1]; rfl, by rw [nl77.1]; exact Nat.le_of_ble_eq_true rfl, nl77.2.1, nl77.2.2⟩
theorem nl78 : am_nL 78 = 4 ∧ am_mc 78 = 0 ∧ am_ms 78 = 0 := by decide +kernel
theorem ac78 (q : Nat) (x1 : Int32) (x2 : Int32) (x3 : Int32) : am_loc 78 [.ref q, .int x1, .int x2, .int x3] = [.ref q, .int x1, .int x2, .int x3] ∧ (am_args [.ref q, .int x1, .int x2, .int x3]).length ≤ am_nL 78 ∧ am_mc 78 = 0 ∧ am_ms 78 = 0 := ⟨by unfold am_loc; rw [nl78.1]; rfl, by rw [nl78.1]; exact Nat.le_of_ble_eq_true rfl, nl78.2.1, nl78.2.2⟩
theorem nl79 : am_nL 79 = 5 ∧ am_mc 79 = 0 ∧ am_ms 79 = 0 := by decide +kernel
theorem ac79 (q : Nat) (x1 : Int32) (x2 : Int32) (d1 : UInt64) : am_loc 79 [.ref q, .int x1, .int x2, .double d1] = [.ref q, .int x1, .int x2, .double d1, .long 0] ∧ (am_args [.ref q, .int x1, .int x2, .double d1]).length ≤ am_nL 79 ∧ am_mc 79 = 0 ∧ am_ms 79 = 0 := ⟨by unfold am_loc; rw [nl79.1]; rfl, by rw [nl79.1]; exact Nat.le_of_ble_eq_true rfl, nl79.2.1, nl79.2.2⟩
theorem nl80 : am_nL 80 = 2 ∧ am_mc 80 = 0 ∧ am_ms 80 = 0 := by decide +kernel
theorem ac80 (q : Nat) (q1 : Nat) : am_loc 80 [.ref q, .ref q1] = [.ref q, .ref q1] ∧ (am_args [.ref q, .ref q1]).length ≤ am_nL 80 ∧ am_mc 80 = 0 ∧ am_ms 80 = 0 := ⟨by unfold am_loc; rw [nl80.1]; rfl, by rw [nl80.1]; exact Nat.le_of_ble_eq_true rfl, nl80.2.1, nl80.2.2⟩
theorem nl81 : am_nL 81 = 3 ∧ am_mc 81 = 0 ∧ am_ms 81 = 0 := by decide +kernel
theorem ac81 (q : Nat) : am_loc 81 [.ref q] = [.ref q, .long 0, .long 0] ∧ (am_args [.ref q]).length ≤ am_nL 81 ∧ am_mc 81 = 0 ∧ am_ms 81 = 0 := ⟨by unfold am_loc; rw [nl81.1]; rfl, by rw [nl81.1]; exact Nat.le_of_ble_eq_true rfl, nl81.2.1, nl81.2.2⟩
theorem nl82 : am_nL 82 = 2 ∧ am_mc 82 = 0 ∧ am_ms 82 = 0 := by decide +kernel
theorem ac82 (q : Nat) (x1 : Int32) : am_loc 82 [.ref q, .int x1] = [.ref q, .int x1] ∧ (am_args [.ref q, .int x1]).length ≤ am_nL 82 ∧ am_mc 82 = 0 ∧ am_ms 82 = 0 := ⟨by unfold am_loc; rw [nl82.1]; rfl, by rw [nl82.1]; exact Nat.le_of_ble_eq_true rfl, nl82.2.1, nl82.2.2⟩
theorem nl83 : am_nL 83 = 2 ∧ am_mc 83 = 0 ∧ am_ms 83 = 0 := by decide +kernel
theorem ac83 (q : Nat) (x1 : Int32) : am_loc 83 [.ref q, .int x1] = [.ref q, .int x1] ∧ (am_args [.ref q, .int x1]).length ≤ am_nL 83 ∧ am_mc 83 = 0 ∧ am_ms 83 = 0 := ⟨by unfold am_loc; rw [nl83.1]; rfl, by rw [nl83.1]; exact Nat.le_of_ble_eq_true rfl, nl83.2.1, nl83.2.2⟩
theorem nl84 : am_nL 84 = 2 ∧ am_mc 84 = 0 ∧ am_ms 84 = 0 := by decide +kernel
theorem ac84 (q : Nat) (x1 : Int32) : am_loc 84 [.ref q, .int x1] = [.ref q, .int x1] ∧ (am_args [.ref q, .int x1]).length ≤ am_nL 84 ∧ am_mc 84 = 0 ∧ am_ms 84 = 0 := ⟨by unfold am_loc; rw [nl84.1]; rfl, by rw [nl84.1]; exact Nat.le_of_ble_eq_true rfl, nl84.2.1, nl84.2.2⟩
theorem nl85 : am_nL 85 = 2 ∧ am_mc 85 = 0 ∧ am_ms 85 = 0 := by decide +kernel
theorem ac85 (q : Nat) (x1 : Int32) : am_loc 85 [.ref q, .int x1] = [.ref q, .int x1] ∧ (am_args [.ref q, .int x1]).length ≤ am_nL 85 ∧ am_mc 85 = 0 ∧ am_ms 85 = 0 := ⟨by unfold am_loc; rw [nl85.1]; rfl, by rw [nl85.1]; exact Nat.le_of_ble_eq_true rfl, nl85.2.1, nl85.2.2⟩
theorem nl86 : am_nL 86 = 5 ∧ am_mc 86 = 0 ∧ am_ms 86 = 0 := by decide +kernel
theorem ac86 (q : Nat) (x1 : Int32) : am_loc 86 [.ref q, .int x1] = [.ref q, .int x1, .long 0, .long 0, .long 0] ∧ (am_args [.ref q, .int x1]).length ≤ am_nL 86 ∧ am_mc 86 = 0 ∧ am_ms 86 = 0 := ⟨by unfold am_loc; rw [nl86.1]; rfl, by rw [nl86.1]; exact Nat.le_of_ble_eq_true rfl, nl86.2.1, nl86.2.2⟩
theorem nl87 : am_nL 87 = 4 ∧ am_mc 87 = 0 ∧ am_ms 87 = 0 := by decide +kernel
theorem ac87 (q : Nat) (x1 : Int32) : am_loc 87 [.ref q, .int x1] = [.ref q, .int x1, .long 0, .long 0] ∧ (am_args [.ref q, .int x1]).length ≤ am_nL 87 ∧ am_mc 87 = 0 ∧ am_ms 87 = 0 := ⟨by unfold am_loc; rw [nl87.1]; rfl, by rw [nl87.1]; exact Nat.le_of_ble_eq_true rfl, nl87.2.1, nl87.2.2⟩
theorem nl88 : am_nL 88 = 3 ∧ am_mc 88 = 0 ∧ am_ms 88 = 0 := by decide +kernel
theorem ac88 (q : Nat) (x1 : Int32) (x2 : Int32) : am_loc 88 [.ref q, .int x1, .int x2] = [.ref q, .int x1, .int x2] ∧ (am_args [.ref q, .int x1, .int x2]).length ≤ am_nL 88 ∧ am_mc 88 = 0 ∧ am_ms 88 = 0 := ⟨by unfold am_loc; rw [nl88.1]; rfl, by rw [nl88.1]; exact Nat.le_of_ble_eq_true rfl, nl88.2.1, nl88.2.2⟩
theorem nl89 : am_nL 89 = 4 ∧ am_mc 89 = 0 ∧ am_ms 89 = 0 := by decide +kernel
theorem ac89 (q : Nat) (x1 : Int32) (x2 : Int32) : am_loc 89 [.ref q, .int x1, .int x2] = [.ref q, .int x1, .int x2, .long 0] ∧ (am_args [.ref q, .int x1, .int x2]).length ≤ am_nL 89 ∧ am_mc 89 = 0 ∧ am_ms 89 = 0 := ⟨by unfold am_loc; rw [nl89.1]; rfl, by rw [nl89.1]; exact Nat.le_of_ble_eq_true rfl, nl89.2.1, nl89.2.2⟩
theorem nl90 : am_nL 90 = 3 ∧ am_mc 90 = 0 ∧ am_ms 90 = 0 := by decide +kernel
theorem ac90 (q : Nat) (x1 : Int32) (x2 : Int32) : am_loc 90 [.ref q, .int x1, .int x2] = [.ref q, .int x1, .int x2] ∧ (am_args [.ref q, .int x1, .int x2]).length ≤ am_nL 90 ∧ am_mc 90 = 0 ∧ am_ms 90 = 0 := ⟨by unfold am_loc; rw [nl90.1]; rfl, by rw [nl90.1]; exact Nat.le_of_ble_eq_true rfl, nl90.2.1, nl90.2.2⟩
theorem nl91 : am_nL 91 = 3 ∧ am_mc 91 = 0 ∧ am_ms 91 = 0 := by decide +kernel
theorem ac91 (q : Nat) (x1 : Int32) (x2 : Int32) : am_loc 91 [.ref q, .int x1, .int x2] = [.ref q, .int x1, .int x2] ∧ (am_args [.ref q, .int x1, .int x2]).length ≤ am_nL 91 ∧ am_mc 91 = 0 ∧ am_ms 91 = 0 := ⟨by unfold am_loc; rw [nl91.1]; rfl, by rw [nl91.1]; exact Nat.le_of_ble_eq_true rfl, nl91.2.1, nl91.2.2⟩
theorem nl92 : am_nL 92 = 3 ∧ am_mc 92 = 0 ∧ am_ms 92 = 0 := by decide +kernel
theorem ac92 (q : Nat) (x1 : Int32) (x2 : Int32) : am_loc 92 [.ref q, .int x1, .int x2] = [.ref q, .int x1, .int x2] ∧ (am_args [.ref q, .int x1, .int x2]).length ≤ am_nL 92 ∧ am_mc 92 = 0 ∧ am_ms 92 = 0 := ⟨by unfold am_loc; rw [nl92.1]; rfl, by rw [nl92.1]; exact Nat.le_of_ble_eq_true rfl, nl92.2.1, nl92.2.2⟩
theorem nl93 : am_nL 93 = 3 ∧ am_mc 93 = 0 ∧ am_ms 93 = 0 := by decide +kernel
theorem ac93 (q : Nat) (x1 : Int32) (x2 : Int32) : am_loc 93 [.ref q, .int x1, .int x2] = [.ref q, .int x1, .int x2] ∧ (am_args [.ref q, .int x1, .int x2]).length ≤ am_nL 93 ∧ am_mc 93 = 0 ∧ am_ms 93 = 0 := ⟨by unfold am_loc; rw [nl93.1]; rfl, by rw [nl93.1]; exact Nat.le_of_ble_eq_true rfl, nl93.2.1, nl93.2.2⟩
theorem nl95 : am_nL 95 = 2 ∧ am_mc 95 = 0 ∧ am_ms 95 = 0 := by decide +kernel
theorem ac95 (q : Nat) (x1 : Int32) : am_loc 95 [.ref q, .int x1] = [.ref q, .int x1] ∧ (am_args [.ref q, .int x1]).length ≤ am_nL 95 ∧ am_mc 95 = 0 ∧ am_ms 95 = 0 := ⟨by unfold am_loc; rw [nl95.1]; rfl, by rw [nl95.1]; exact Nat.le_of_ble_eq_true rfl, nl95.2.1, nl95.2.2⟩
theorem nl96 : am_nL 96 = 3 ∧ am_mc 96 = 0 ∧ am_ms 96 = 0 := by decide +kernel
theorem ac96 (q : Nat) : am_loc 96 [.ref q] = [.ref q, .long 0, .long 0] ∧ (am_args [.ref q]).length ≤ am_nL 96 ∧ am_mc 96 = 0 ∧ am_ms 96 = 0 := ⟨by unfold am_loc; rw [nl96.1]; rfl, by rw [nl96.1]; exact Nat.le_of_ble_eq_true rfl, nl96.2.1, nl96.2.2⟩
theorem nl97 : am_nL 97 = 3 ∧ am_mc 97 = 0 ∧ am_ms 97 = 0 := by decide +kernel
theorem ac97 (q : Nat) (x1 : Int32) : am_loc 97 [.ref q, .int x1] = [.ref q, .int x1, .long 0] ∧ (am_args [.ref q, .int x1]).length ≤ am_nL 97 ∧ am_mc 97 = 0 ∧ am_ms 97 = 0 := ⟨by unfold am_loc; rw [nl97.1]; rfl, by rw [nl97.1]; exact Nat.le_of_ble_eq_true rfl, nl97.2.1, nl97.2.2⟩
theorem nl98 : am_nL 98 = 4 ∧ am_mc 98 = 0 ∧ am_ms 98 = 0 := by decide +kernel
theorem ac98 (q : Nat) (x1 : Int32) : am_loc 98 [.ref q, .int x1] = [.ref q, .int x1, .long 0, .long 0] ∧ (am_args [.ref q, .int x1]).length ≤ am_nL 98 ∧ am_mc 98 = 0 ∧ am_ms 98 = 0 := ⟨by unfold am_loc; rw [nl98.1]; rfl, by rw [nl98.1]; exact Nat.le_of_ble_eq_true rfl, nl98.2.1, nl98.2.2⟩
theorem nl99 : am_nL 99 = 7 ∧ am_mc 99 = 0 ∧ am_ms 99 = 0 := by decide +kernel
theorem ac99 (q : Nat) (x1 : Int32) (x2 : Int32) : am_loc 99 [.ref q, .int x1, .int x2] = [.ref q, .int x1, .int x2, .long 0, .long 0, .long 0, .long 0] ∧ (am_args [.ref q, .int x1, .int x2]).length ≤ am_nL 99 ∧ am_mc 99 = 0 ∧ am_ms 99 = 0 := ⟨by unfold am_loc; rw [nl99.1]; rfl, by rw [nl99.1]; exact Nat.le_of_ble_eq_true rfl, nl99.2.1, nl99.2.2⟩
theorem nl100 : am_nL 100 = 5 ∧ am_mc 100 = 0 ∧ am_ms 100 = 0 := by decide +kernel
theorem ac100 (q : Nat) (x1 : Int32) (x2 : Int32) : am_loc 100 [.ref q, .int x1, .int x2] = [.ref q, .int x1, .int x2, .long 0, .long 0] ∧ (am_args [.ref q, .int x1, .int x2]).length ≤ am_nL 100 ∧ am_mc 100 = 0 ∧ am_ms 100 = 0 := ⟨by unfold am_loc; rw [nl100.1]; rfl, by rw [nl100.1]; exact Nat.le_of_ble_eq_true rfl, nl100.2.1, nl100.2.2⟩
theorem nl101 : am_nL 101 = 8 ∧ am_mc 101 = 0 ∧ am_ms 101 = 0 := by decide +kernel
theorem ac101 (q : Nat) (x1 : Int32) (x2 : Int32) : am_loc 101 [.ref q, .int x1, .int x2] = [.ref q, .int x1, .int x2, .long 0, .long 0, .long 0, .long 0, .long 0] ∧ (am_args [.ref q, .int x1, .int x2]).length ≤ am_nL 101 ∧ am_mc 101 = 0 ∧ am_ms 101 = 0 := ⟨by unfold am_loc; rw [nl101.1]; rfl, by rw [nl101.1]; exact Nat.le_of_ble_eq_true rfl, nl101.2.1, nl101.2.2⟩
theorem nl102 : am_nL 102 = 7 ∧ am_mc 102 = 0 ∧ am_ms 102 = 0 := by decide +kernel
theorem ac102 (q : Nat) (x1 : Int32) (x2 : Int32) : am_loc 102 [.ref q, .int x1, .int x2] = [.ref q, .int x1, .int x2, .long 0, .long 0, .long 0, .long 0] ∧ (am_args [.ref q, .int x1, .int x2]).length ≤ am_nL 102 ∧ am_mc 102 = 0 ∧ am_ms 102 = 0 := ⟨by unfold am_loc; rw [nl102.1]; rfl, by rw [nl102.1]; exact Nat.le_of_ble_eq_true rfl, nl102.2.1, nl102.2.2⟩
theorem nl103 : am_nL 103 = 7 ∧ am_mc 103 = 0 ∧ am_ms 103 = 0 := by decide +kernel
theorem ac103 (q : Nat) (x1 : Int32) (x2 : Int32) : am_loc 103 [.ref q, .int x1, .int x2] = [.ref q, .int x1, .int x2, .long 0, .long 0, .long 0, .long 0] ∧ (am_args [.ref q, .int x1, .int x2]).length ≤ am_nL 103 ∧ am_mc 103 = 0 ∧ am_ms 103 = 0 := ⟨by unfold am_loc; rw [nl103.1]; rfl, by rw [nl103.1]; exact Nat.le_of_ble_eq_true rfl, nl103.2.1, nl103.2.2⟩
theorem nl104 : am_nL 104 = 5 ∧ am_mc 104 = 0 ∧ am_ms 104 = 0 := by decide +kernel
theorem ac104 (q : Nat) (x1 : Int32) (x2 : Int32) (x3 : Int32) (x4 : Int32) : am_loc 104 [.ref q, .int x1, .int x2, .int x3, .int x4] = [.ref q, .int x1, .int x2, .int x3, .int x4] ∧ (am_args [.ref q, .int x1, .int x2, .int x3, .int x4]).length ≤ am_nL 104 ∧ am_mc 104 = 0 ∧ am_ms 104 = 0 := ⟨by unfold am_loc; rw [nl104.1]; rfl, by rw [nl104.1]; exact Nat.le_of_ble_eq_true rfl, nl104.2.1, nl104.2.2⟩
theorem nl106 : am_nL 106 = 1 ∧ am_mc 106 = 0 ∧ am_ms 106 = 0 := by decide +kernel
theorem ac106 (q : Nat) : am_loc 106 [.ref q] = [.ref q] ∧ (am_args [.ref q]).length ≤ am_nL 106 ∧ am_mc 106 = 0 ∧ am_ms 106 = 0 := ⟨by unfold am_loc; rw [nl106.1]; rfl, by rw [nl106.1]; exact Nat.le_of_ble_eq_true rfl, nl106.2.1, nl106.2.2⟩
theorem nl107 : am_nL 107 = 1 ∧ am_mc 107 = 0 ∧ am_ms 107 = 0 := by decide +kernel
theorem ac107 (q : Nat) : am_loc 107 [.ref q] = [.ref q] ∧ (am_args [.ref q]).length ≤ am_nL 107 ∧ am_mc 107 = 0 ∧ am_ms 107 = 0 := ⟨by unfold am_loc; rw [nl107.1]; rfl, by rw [nl107.1]; exact Nat.le_of_ble_eq_true rfl, nl107.2.1, nl107.2.2⟩
theorem nl108 : am_nL 108 = 2 ∧ am_mc 108 = 0 ∧ am_ms 108 = 0 := by decide +kernel
theorem ac108 (q : Nat) (x1 : Int32) : am_loc 108 [.ref q, .int x1] = [.ref q, .int x1] ∧ (am_args [.ref q, .int x1]).length ≤ am_nL 108 ∧ am_mc 108 = 0 ∧ am_ms 108 = 0 := ⟨by unfold am_loc; rw [nl108.1]; rfl, by rw [nl108.1]; exact Nat.le_of_ble_eq_true rfl, nl108.2.1, nl108.2.2⟩
theorem nl109 : am_nL 109 = 5 ∧ am_mc 109 = 0 ∧ am_ms 109 = 0 := by decide +kernel
theorem ac109 (q : Nat) (x1 : Int32) (x2 : Int32) (x3 : Int32) (x4 : Int32) : am_loc 109 [.ref q, .int x1, .int x2, .int x3, .int x4] = [.ref q, .int x1, .int x2, .int x3, .int x4] ∧ (am_args [.ref q, .int x1, .int x2, .int x3, .int x4]).length ≤ am_nL 109 ∧ am_mc 109 = 0 ∧ am_ms 109 = 0 := ⟨by unfold am_loc; rw [nl109.1]; rfl, by rw [nl109.1]; exact Nat.le_of_ble_eq_true rfl, nl109.2.1, nl109.2.2⟩
theorem nl110 : am_nL 110 = 3 ∧ am_mc 110 = 0 ∧ am_ms 110 = 0 := by decide +kernel
theorem ac110 (x1 : Int32) : am_loc 110 [.int x1] = [.int x1, .long 0, .long 0] ∧ (am_args [.int x1]).length ≤ am_nL 110 ∧ am_mc 110 = 0 ∧ am_ms 110 = 0 := ⟨by unfold am_loc; rw [nl110.1]; rfl, by rw [nl110.1]; exact Nat.le_of_ble_eq_true rfl, nl110.2.1, nl110.2.2⟩
theorem nl111 : am_nL 111 = 7 ∧ am_mc 111 = 0 ∧ am_ms 111 = 0 := by decide +kernel
theorem ac111 (q : Nat) (q1 : Nat) (q2 : Nat) : am_loc 111 [.ref q, .ref q1, .ref q2] = [.ref q, .ref q1, .ref q2, .long 0, .long 0, .long 0, .long 0] ∧ (am_args [.ref q, .ref q1, .ref q2]).length ≤ am_nL 111 ∧ am_mc 111 = 0 ∧ am_ms 111 = 0 := ⟨by unfold am_loc; rw [nl111.1]; rfl, by rw [nl111.1]; exact Nat.le_of_ble_eq_true rfl, nl111.2.1, nl111.2.2⟩
theorem nl112 : am_nL 112 = 3 ∧ am_mc 112 = 0 ∧ am_ms 112 = 0 := by decide +kernel
theorem ac112 (q : Nat) (x1 : Int32) : am_loc 112 [.ref q, .int x1] = [.ref q, .int x1, .long 0] ∧ (am_args [.ref q, .int x1]).length ≤ am_nL 112 ∧ am_mc 112 = 0 ∧ am_ms 112 = 0 := ⟨by unfold am_loc; rw [nl112.1]; rfl, by rw [nl112.1]; exact Nat.le_of_ble_eq_true rfl, nl112.2.1, nl112.2.2⟩
theorem nl113 : am_nL 113 = 3 ∧ am_mc 113 = 0 ∧ am_ms 113 = 0 := by decide +kernel
theorem ac113 (q : Nat) (x1 : Int32) (q1 : Nat) : am_loc 113 [.ref q, .int x1, .ref q1] = [.ref q, .int x1, .ref q1] ∧ (am_args [.ref q, .int x1, .ref q1]).length ≤ am_nL 113 ∧ am_mc 113 = 0 ∧ am_ms 113 = 0 := ⟨by unfold am_loc; rw [nl113.1]; rfl, by rw [nl113.1]; exact Nat.le_of_ble_eq_true rfl, nl113.2.1, nl113.2.2⟩
theorem nl114 : am_nL 114 = 2 ∧ am_mc 114 = 0 ∧ am_ms 114 = 0 := by decide +kernel
theorem ac114 (q : Nat) (x1 : Int32) : am_loc 114 [.ref q, .int x1] = [.ref q, .int x1] ∧ (am_args [.ref q, .int x1]).length ≤ am_nL 114 ∧ am_mc 114 = 0 ∧ am_ms 114 = 0 := ⟨by unfold am_loc; rw [nl114.1]; rfl, by rw [nl114.1]; exact Nat.le_of_ble_eq_true rfl, nl114.2.1, nl114.2.2⟩
theorem nl115 : am_nL 115 = 2 ∧ am_mc 115 = 0 ∧ am_ms 115 = 0 := by decide +kernel
theorem ac115 (q : Nat) (x1 : Int32) : am_loc 115 [.ref q, .int x1] = [.ref q, .int x1] ∧ (am_args [.ref q, .int x1]).length ≤ am_nL 115 ∧ am_mc 115 = 0 ∧ am_ms 115 = 0 := ⟨by unfold am_loc; rw [nl115.1]; rfl, by rw [nl115.1]; exact Nat.le_of_ble_eq_true rfl, nl115.2.1, nl115.2.2⟩
theorem nl116 : am_nL 116 = 2 ∧ am_mc 116 = 0 ∧ am_ms 116 = 0 := by decide +kernel
theorem ac116 (q : Nat) (x1 : Int32) : am_loc 116 [.ref q, .int x1] = [.ref q, .int x1] ∧ (am_args [.ref q, .int x1]).length ≤ am_nL 116 ∧ am_mc 116 = 0 ∧ am_ms 116 = 0 := ⟨by unfold am_loc; rw [nl116.1]; rfl, by rw [nl116.1]; exact Nat.le_of_ble_eq_true rfl, nl116.2.1, nl116.2.2⟩
theorem nl117 : am_nL 117 = 2 ∧ am_mc 117 = 0 ∧ am_ms 117 = 0 := by decide +kernel
theorem ac117 (q : Nat) (x1 : Int32) : am_loc 117 [.ref q, .int x1] = [.ref q, .int x1] ∧ (am_args [.ref q, .int x1]).length ≤ am_nL 117 ∧ am_mc 117 = 0 ∧ am_ms 117 = 0 := ⟨by unfold am_loc; rw [nl117.1]; rfl, by rw [nl117.1]; exact Nat.le_of_ble_eq_true rfl, nl117.2.1, nl117.2.2⟩
theorem nl118 : am_nL 118 = 4 ∧ am_mc 118 = 0 ∧ am_ms 118 = 0 := by decide +kernel
theorem ac118 (q : Nat) (x1 : Int32) : am_loc 118 [.ref q, .int x1] = [.ref q, .int x1, .long 0, .long 0] ∧ (am_args [.ref q, .int x1]).length ≤ am_nL 118 ∧ am_mc 118 = 0 ∧ am_ms 118 = 0 := ⟨by unfold am_loc; rw [nl118.1]; rfl, by rw [nl118.1]; exact Nat.le_of_ble_eq_true rfl, nl118.2.1, nl118.2.2⟩
theorem nl119 : am_nL 119 = 2 ∧ am_mc 119 = 0 ∧ am_ms 119 = 0 := by decide +kernel
theorem ac119 (q : Nat) : am_loc 119 [.ref q] = [.ref q, .long 0] ∧ (am_args [.ref q]).length ≤ am_nL 119 ∧ am_mc 119 = 0 ∧ am_ms 119 = 0 := ⟨by unfold am_loc; rw [nl119.1]; rfl, by rw [nl119.1]; exact Nat.le_of_ble_eq_true rfl, nl119.2.1, nl119.2.2⟩
theorem nl121 : am_nL 121 = 6 ∧ am_mc 121 = 0 ∧ am_ms 121 = 0 := by decide +kernel
theorem ac121 (q : Nat) (x1 : Int32) (x2 : Int32) (x3 : Int32) : am_loc 121 [.ref q, .int x1, .int x2, .int x3] = [.ref q, .int x1, .int x2, .int x3, .long 0, .long 0] ∧ (am_args [.ref q, .int x1, .int x2, .int x3]).length ≤ am_nL 121 ∧ am_mc 121 = 0 ∧ am_ms 121 = 0 := ⟨by unfold am_loc; rw [nl121.1]; rfl, by rw [nl121.1]; exact Nat.le_of_ble_eq_true rfl, nl121.2.1, nl121.2.2⟩
theorem nl122 : am_nL 122 = 2 ∧ am_mc 122 = 0 ∧ am_ms 122 = 0 := by decide +kernel
theorem ac122 (q : Nat) (x1 : Int32) : am_loc 122 [.ref q, .int x1] = [.ref q, .int x1] ∧ (am_args [.ref q, .int x1]).length ≤ am_nL 122 ∧ am_mc 122 = 0 ∧ am_ms 122 = 0 := ⟨by unfold am_loc; rw [nl122.1]; rfl, by rw [nl122.1]; exact Nat.le_of_ble_eq_true rfl, nl122.2.1, nl122.2.2⟩
theorem nl123 : am_nL 123 = 1 ∧ am_mc 123 = 0 ∧ am_ms 123 = 0 := by decide +kernel
theorem ac123 (x1 : Int32) : am_loc 123 [.int x1] = [.int x1] ∧ (am_args [.int x1]).length ≤ am_nL 123 ∧ am_mc 123 = 0 ∧ am_ms 123 = 0 := ⟨by unfold am_loc; rw [nl123.1]; rfl, by rw [nl123.1]; exact Nat.le_of_ble_eq_true rfl, nl123.2.1, nl123.2.2⟩
theorem nl124 : am_nL 124 = 1 ∧ am_mc 124 = 0 ∧ am_ms 124 = 0 := by decide +kernel
theorem ac124 (x1 : Int32) : am_loc 124 [.int x1] = [.int x1] ∧ (am_args [.int x1]).length ≤ am_nL 124 ∧ am_mc 124 = 0 ∧ am_ms 124 = 0 := ⟨by unfold am_loc; rw [nl124.1]; rfl, by rw [nl124.1]; exact Nat.le_of_ble_eq_true rfl, nl124.2.1, nl124.2.2⟩
theorem nl125 : am_nL 125 = 1 ∧ am_mc 125 = 0 ∧ am_ms 125 = 0 := by decide +kernel
theorem ac125 (q : Nat) : am_loc 125 [.ref q] = [.ref q] ∧ (am_args [.ref q]).length ≤ am_nL 125 ∧ am_mc 125 = 0 ∧ am_ms 125 = 0 := ⟨by unfold am_loc; rw [nl125.1]; rfl, by rw [nl125.1]; exact Nat.le_of_ble_eq_true rfl, nl125.2.1, nl125.2.2⟩
theorem nl126 : am_nL 126 = 2 ∧ am_mc 126 = 0 ∧ am_ms 126 = 0 := by decide +kernel
theorem ac126 (q : Nat) (x1 : Int32) : am_loc 126 [.ref q, .int x1] = [.ref q, .int x1] ∧ (am_args [.ref q, .int x1]).length ≤ am_nL 126 ∧ am_mc 126 = 0 ∧ am_ms 126 = 0 := ⟨by unfold am_loc; rw [nl126.1]; rfl, by rw [nl126.1]; exact Nat.le_of_ble_eq_true rfl, nl126.2.1, nl126.2.2⟩
theorem nl127 : am_nL 127 = 4 ∧ am_mc 127 = 0 ∧ am_ms 127 = 0 := by decide +kernel
theorem ac127 (q : Nat) (x1 : Int32) : am_loc 127 [.ref q, .int x1] = [.ref q, .int x1, .long 0, .long 0] ∧ (am_args [.ref q, .int x1]).length ≤ am_nL 127 ∧ am_mc 127 = 0 ∧ am_ms 127 = 0 := ⟨by unfold am_loc; rw [nl127.1]; rfl, by rw [nl127.1]; exact Nat.le_of_ble_eq_true rfl, nl127.2.1, nl127.2.2⟩
theorem nl129 : am_nL 129 = 1 ∧ am_mc 129 = 0 ∧ am_ms 129 = 0 := by decide +kernel
theorem ac129 (q : Nat) : am_loc 129 [.ref q] = [.ref q] ∧ (am_args [.ref q]).length ≤ am_nL 129 ∧ am_mc 129 = 0 ∧ am_ms 129 = 0 := ⟨by unfold am_loc; rw [nl129.1]; rfl, by rw [nl129.1]; exact Nat.le_of_ble_eq_true rfl, nl129.2.1, nl129.2.2⟩
theorem nl130 : am_nL 130 = 1 ∧ am_mc 130 = 0 ∧ am_ms 130 = 0 := by decide +kernel
theorem ac130 (q : Nat) : am_loc 130 [.ref q] = [.ref q] ∧ (am_args [.ref q]).length ≤ am_nL 130 ∧ am_mc 130 = 0 ∧ am_ms 130 = 0 := ⟨by unfold am_loc; rw [nl130.1]; rfl, by rw [nl130.1]; exact Nat.le_of_ble_eq_true rfl, nl130.2.1, nl130.2.2⟩
theorem nl131 : am_nL 131 = 2 ∧ am_mc 131 = 0 ∧ am_ms 131 = 0 := by decide +kernel
theorem ac131 (q : Nat) (x1 : Int32) : am_loc 131 [.ref q, .int x1] = [.ref q, .int x1] ∧ (am_args [.ref q, .int x1]).length ≤ am_nL 131 ∧ am_mc 131 = 0 ∧ am_ms 131 = 0 := ⟨by unfold am_loc; rw [nl131.1]; rfl, by rw [nl131.1]; exact Nat.le_of_ble_eq_true rfl, nl131.2.1, nl131.2.2⟩
theorem nl132 : am_nL 132 = 1 ∧ am_mc 132 = 0 ∧ am_ms 132 = 0 := by decide +kernel
theorem ac132 (q : Nat) : am_loc 132 [.ref q] = [.ref q] ∧ (am_args [.ref q]).length ≤ am_nL 132 ∧ am_mc 132 = 0 ∧ am_ms 132 = 0 := ⟨by unfold am_loc; rw [nl132.1]; rfl, by rw [nl132.1]; exact Nat.le_of_ble_eq_true rfl, nl132.2.1, nl132.2.2⟩
theorem nl133 : am_nL 133 = 2 ∧ am_mc 133 = 0 ∧ am_ms 133 = 0 := by decide +kernel
theorem ac133 (q : Nat) (q1 : Nat) : am_loc 133 [.ref q, .ref q1] = [.ref q, .ref q1] ∧ (am_args [.ref q, .ref q1]).length ≤ am_nL 133 ∧ am_mc 133 = 0 ∧ am_ms 133 = 0 := ⟨by unfold am_loc; rw [nl133.1]; rfl, by rw [nl133.1]; exact Nat.le_of_ble_eq_true rfl, nl133.2.1, nl133.2.2⟩
theorem nl134 : am_nL 134 = 4 ∧ am_mc 134 = 0 ∧ am_ms 134 = 0 := by decide +kernel
theorem ac134 (q : Nat) (q1 : Nat) : am_loc 134 [.ref q, .ref q1] = [.ref q, .ref q1, .long 0, .long 0] ∧ (am_args [.ref q, .ref q1]).length ≤ am_nL 134 ∧ am_mc 134 = 0 ∧ am_ms 134 = 0 := ⟨by unfold am_loc; rw [nl134.1]; rfl, by rw [nl134.1]; exact Nat.le_of_ble_eq_true rfl, nl134.2.1, nl134.2.2⟩
theorem nl135 : am_nL 135 = 1 ∧ am_mc 135 = 0 ∧ am_ms 135 = 0 := by decide +kernel
theorem ac135 (q : Nat) : am_loc 135 [.ref q] = [.ref q] ∧ (am_args [.ref q]).length ≤ am_nL 135 ∧ am_mc 135 = 0 ∧ am_ms 135 = 0 := ⟨by unfold am_loc; rw [nl135.1]; rfl, by rw [nl135.1]; exact Nat.le_of_ble_eq_true rfl, nl135.2.1, nl135.2.2⟩
theorem nl136 : am_nL 136 = 2 ∧ am_mc 136 = 0 ∧ am_ms 136 = 0 := by decide +kernel
theorem ac136 (q : Nat) (x1 : Int32) : am_loc 136 [.ref q, .int x1] = [.ref q, .int x1] ∧ (am_args [.ref q, .int x1]).length ≤ am_nL 136 ∧ am_mc 136 = 0 ∧ am_ms 136 = 0 := ⟨by unfold am_loc; rw [nl136.1]; rfl, by rw [nl136.1]; exact Nat.le_of_ble_eq_true rfl, nl136.2.1, nl136.2.2⟩
theorem nl137 : am_nL 137 = 1 ∧ am_mc 137 = 0 ∧ am_ms 137 = 0 := by decide +kernel
theorem ac137 (q : Nat) : am_loc 137 [.ref q] = [.ref q] ∧ (am_args [.ref q]).length ≤ am_nL 137 ∧ am_mc 137 = 0 ∧ am_ms 137 = 0 := ⟨by unfold am_loc; rw [nl137.1]; rfl, by rw [nl137.1]; exact Nat.le_of_ble_eq_true rfl, nl137.2.1, nl137.2.2⟩
theorem nl138 : am_nL 138 = 1 ∧ am_mc 138 = 0 ∧ am_ms 138 = 0 := by decide +kernel
theorem ac138 (q : Nat) : am_loc 138 [.ref q] = [.ref q] ∧ (am_args [.ref q]).length ≤ am_nL 138 ∧ am_mc 138 = 0 ∧ am_ms 138 = 0 := ⟨by unfold am_loc; rw [nl138.1]; rfl, by rw [nl138.1]; exact Nat.le_of_ble_eq_true rfl, nl138.2.1, nl138.2.2⟩
theorem nl139 : am_nL 139 = 4 ∧ am_mc 139 = 0 ∧ am_ms 139 = 0 := by decide +kernel
theorem ac139 (q : Nat) (q1 : Nat) (q2 : Nat) : am_loc 139 [.ref q, .ref q1, .ref q2] = [.ref q, .ref q1, .ref q2, .long 0] ∧ (am_args [.ref q, .ref q1, .ref q2]).length ≤ am_nL 139 ∧ am_mc 139 = 0 ∧ am_ms 139 = 0 := ⟨by unfold am_loc; rw [nl139.1]; rfl, by rw [nl139.1]; exact Nat.le_of_ble_eq_true rfl, nl139.2.1, nl139.2.2⟩
theorem nl140 : am_nL 140 = 5 ∧ am_mc 140 = 0 ∧ am_ms 140 = 0 := by decide +kernel
theorem ac140 (q : Nat) (q1 : Nat) (q2 : Nat) (x1 : Int32) : am_loc 140 [.ref q, .ref q1, .ref q2, .int x1] = [.ref q, .ref q1, .ref q2, .int x1, .long 0] ∧ (am_args [.ref q, .ref q1, .ref q2, .int x1]).length ≤ am_nL 140 ∧ am_mc 140 = 0 ∧ am_ms 140 = 0 := ⟨by unfold am_loc; rw [nl140.1]; rfl, by rw [nl140.1]; exact Nat.le_of_ble_eq_true rfl, nl140.2.1, nl140.2.2⟩
theorem nl141 : am_nL 141 = 1 ∧ am_mc 141 = 0 ∧ am_ms 141 = 0 := by decide +kernel
theorem ac141 (x1 : Int32) : am_loc 141 [.int x1] = [.int x1] ∧ (am_args [.int x1]).length ≤ am_nL 141 ∧ am_mc 141 = 0 ∧ am_ms 141 = 0 := ⟨by unfold am_loc; rw [nl141.1]; rfl, by rw [nl141.1]; exact Nat.le_of_ble_eq_true rfl, nl141.2.1, nl141.2.2⟩
theorem nl142 : am_nL 142 = 2 ∧ am_mc 142 = 0 ∧ am_ms 142 = 0 := by decide +kernel
theorem ac142 (q : Nat) (x1 : Int32) : am_loc 142 [.ref q, .int x1] = [.ref q, .int x1] ∧ (am_args [.ref q, .int x1]).length ≤ am_nL 142 ∧ am_mc 142 = 0 ∧ am_ms 142 = 0 := ⟨by unfold am_loc; rw [nl142.1]; rfl, by rw [nl142.1]; exact Nat.le_of_ble_eq_true rfl, nl142.2.1, nl142.2.2⟩
theorem nl143 : am_nL 143 = 3 ∧ am_mc 143 = 0 ∧ am_ms 143 = 0 := by decide +kernel
theorem ac143 (q : Nat) (q1 : Nat) : am_loc 143 [.ref q, .ref q1] = [.ref q, .ref q1, .long 0] ∧ (am_args [.ref q, .ref q1]).length ≤ am_nL 143 ∧ am_mc 143 = 0 ∧ am_ms 143 = 0 := ⟨by unfold am_loc; rw [nl143.1]; rfl, by rw [nl143.1]; exact Nat.le_of_ble_eq_true rfl, nl143.2.1, nl143.2.2⟩
theorem nl144 : am_nL 144 = 3 ∧ am_mc 144 = 0 ∧ am_ms 144 = 0 := by decide +kernel
theorem ac144 (q : Nat) (q1 : Nat) : am_loc 144 [.ref q, .ref q1] = [.ref q, .ref q1, .long 0] ∧ (am_args [.ref q, .ref q1]).length ≤ am_nL 144 ∧ am_mc 144 = 0 ∧ am_ms 144 = 0 := ⟨by unfold am_loc; rw [nl144.1]; rfl, by rw [nl144.1]; exact Nat.le_of_ble_eq_true rfl, nl144.2.1, nl144.2.2⟩
theorem nl145 : am_nL 145 = 3 ∧ am_mc 145 = 0 ∧ am_ms 145 = 0 := by decide +kernel
theorem ac145 (q : Nat) (x1 : Int32) : am_loc 145 [.ref q, .int x1] = [.ref q, .int x1, .long 0] ∧ (am_args [.ref q, .int x1]).length ≤ am_nL 145 ∧ am_mc 145 = 0 ∧ am_ms 145 = 0 := ⟨by unfold am_loc; rw [nl145.1]; rfl, by rw [nl145.1]; exact Nat.le_of_ble_eq_true rfl, nl145.2.1, nl145.2.2⟩
theorem nl147 : am_nL 147 = 5 ∧ am_mc 147 = 0 ∧ am_ms 147 = 0 := by decide +kernel
theorem ac147 (q : Nat) (q1 : Nat) (x1 : Int32) (x2 : Int32) (x3 : Int32) : am_loc 147 [.ref q, .ref q1, .int x1, .int x2, .int x3] = [.ref q, .ref q1, .int x1, .int x2, .int x3] ∧ (am_args [.ref q, .ref q1, .int x1, .int x2, .int x3]).length ≤ am_nL 147 ∧ am_mc 147 = 0 ∧ am_ms 147 = 0 := ⟨by unfold am_loc; rw [nl147.1]; rfl, by rw [nl147.1]; exact Nat.le_of_ble_eq_true rfl, nl147.2.1, nl147.2.2⟩
theorem nl148 : am_nL 148 = 3 ∧ am_mc 148 = 0 ∧ am_ms 148 = 0 := by decide +kernel
theorem ac148 (q : Nat) (x1 : Int32) (q1 : Nat) : am_loc 148 [.ref q, .int x1, .ref q1] = [.ref q, .int x1, .ref q1] ∧ (am_args [.ref q, .int x1, .ref q1]).length ≤ am_nL 148 ∧ am_mc 148 = 0 ∧ am_ms 148 = 0 := ⟨by unfold am_loc; rw [nl148.1]; rfl, by rw [nl148.1]; exact Nat.le_of_ble_eq_true rfl, nl148.2.1, nl148.2.2⟩
theorem nl149 : am_nL 149 = 1 ∧ am_mc 149 = 0 ∧ am_ms 149 = 0 := by decide +kernel
theorem ac149 (q : Nat) : am_loc 149 [.ref q] = [.ref q] ∧ (am_args [.ref q]).length ≤ am_nL 149 ∧ am_mc 149 = 0 ∧ am_ms 149 = 0 := ⟨by unfold am_loc; rw [nl149.1]; rfl, by rw [nl149.1]; exact Nat.le_of_ble_eq_true rfl, nl149.2.1, nl149.2.2⟩
theorem nl151 : am_nL 151 = 1 ∧ am_mc 151 = 0 ∧ am_ms 151 = 0 := by decide +kernel
theorem ac151 (q : Nat) : am_loc 151 [.ref q] = [.ref q] ∧ (am_args [.ref q]).length ≤ am_nL 151 ∧ am_mc 151 = 0 ∧ am_ms 151 = 0 := ⟨by unfold am_loc; rw [nl151.1]; rfl, by rw [nl151.1]; exact Nat.le_of_ble_eq_true rfl, nl151.2.1, nl151.2.2⟩
theorem nl152 : am_nL 152 = 1 ∧ am_mc 152 = 0 ∧ am_ms 152 = 0 := by decide +kernel
theorem ac152 (q : Nat) : am_loc 152 [.ref q] = [.ref q] ∧ (am_args [.ref q]).length ≤ am_nL 152 ∧ am_mc 152 = 0 ∧ am_ms 152 = 0 := ⟨by unfold am_loc; rw [nl152.1]; rfl, by rw [nl152.1]; exact Nat.le_of_ble_eq_true rfl, nl152.2.1, nl152.2.2⟩
theorem nl153 : am_nL 153 = 5 ∧ am_mc 153 = 0 ∧ am_ms 153 = 0 := by decide +kernel
theorem ac153 (q : Nat) (q1 : Nat) (x1 : Int32) (x2 : Int32) (x3 : Int32) : am_loc 153 [.ref q, .ref q1, .int x1, .int x2, .int x3] = [.ref q, .ref q1, .int x1, .int x2, .int x3] ∧ (am_args [.ref q, .ref q1, .int x1, .int x2, .int x3]).length ≤ am_nL 153 ∧ am_mc 153 = 0 ∧ am_ms 153 = 0 := ⟨by unfold am_loc; rw [nl153.1]; rfl, by rw [nl153.1]; exact Nat.le_of_ble_eq_true rfl, nl153.2.1, nl153.2.2⟩
theorem nl154 : am_nL 154 = 1 ∧ am_mc 154 = 0 ∧ am_ms 154 = 0 := by decide +kernel
theorem ac154 (q : Nat) : am_loc 154 [.ref q] = [.ref q] ∧ (am_args [.ref q]).length ≤ am_nL 154 ∧ am_mc 154 = 0 ∧ am_ms 154 = 0 := ⟨by unfold am_loc; rw [nl154.1]; rfl, by rw [nl154.1]; exact Nat.le_of_ble_eq_true rfl, nl154.2.1, nl154.2.2⟩
theorem nl155 : am_nL 155 = 4 ∧ am_mc 155 = 0 ∧ am_ms 155 = 0 := by decide +kernel
theorem ac155 (q : Nat) (x1 : Int32) (q1 : Nat) : am_loc 155 [.ref q, .int x1, .ref q1] = [.ref q, .int x1, .ref q1, .long 0] ∧ (am_args [.ref q, .int x1, .ref q1]).length ≤ am_nL 155 ∧ am_mc 155 = 0 ∧ am_ms 155 = 0 := ⟨by unfold am_loc; rw [nl155.1]; rfl, by rw [nl155.1]; exact Nat.le_of_ble_eq_true rfl, nl155.2.1, nl155.2.2⟩
theorem nl156 : am_nL 156 = 4 ∧ am_mc 156 = 0 ∧ am_ms 156 = 0 := by decide +kernel
theorem ac156 (q1 : Nat) (x1 : Int32) : am_loc 156 [.ref q1, .int x1] = [.ref q1, .int x1, .long 0, .long 0] ∧ (am_args [.ref q1, .int x1]).length ≤ am_nL 156 ∧ am_mc 156 = 0 ∧ am_ms 156 = 0 := ⟨by unfold am_loc; rw [nl156.1]; rfl, by rw [nl156.1]; exact Nat.le_of_ble_eq_true rfl, nl156.2.1, nl156.2.2⟩
