/-! THE MEMORY behind the two constructors: which cells, and who holds whom -/
def SH : List (Nat ⊕ (Nat × Nat)) := [.inl 8, .inl 1, .inl 0, .inr (0, 8), .inr (0, 8), .inr (0, 8), .inr (0, 192), .inr (0, 8), .inr (3, 96), .inl 0, .inr (0, 8), .inr (0, 8), .inr (0, 8), .inr (0, 192), .inr (0, 8), .inr (3, 96), .inl 2, .inr (0, 816), .inl 4, .inr (1, 12), .inl 7, .inr (4, 8), .inl 6, .inl 4, .inr (1, 12), .inl 6, .inl 4, .inr (1, 12), .inl 6, .inl 4, .inr (1, 12), .inl 6, .inl 4, .inr (1, 12), .inl 6, .inl 4, .inr (1, 12), .inl 6, .inl 4, .inr (1, 12), .inl 6, .inl 4, .inr (1, 12), .inl 6, .inl 4, .inr (1, 12), .inl 3, .inr (1, 15), .inl 5, .inl 9, .inr (2, 16), .inr (2, 192), .inr (0, 16), .inr (0, 16), .inr (0, 16), .inr (0, 16), .inr (0, 384), .inr (3, 192), .inr (0, 108), .inr (0, 9), .inr (0, 8), .inr (0, 8), .inr (0, 8), .inr (0, 1408), .inr (0, 1408), .inr (0, 1408), .inr (0, 1408), .inr (0, 1408), .inr (0, 20), .inr (2, 42)]
def RFl : List (List (Option Nat)) := [[some 1, some 18, some 20, some 46, some 48], [some 2, some 9, some 16], [none, some 3, some 4, some 5, some 6, some 7, some 8], [], [], [], [], [], [], [none, some 10, some 11, some 12, some 13, some 14, some 15], [], [], [], [], [], [], [some 17], [], [some 19], [], [some 21], [some 22, some 25, some 28, some 31, some 34, some 37, some 40, some 43], [some 23], [some 24], [], [some 26], [some 27], [], [some 29], [some 30], [], [some 32], [some 33], [], [some 35], [some 36], [], [some 38], [some 39], [], [some 41], [some 42], [], [some 44], [some 45], [], [some 47], [], [], [some 50, some 51, some 52, some 53, some 54, some 55, some 56, some 57, some 58, some 59, some 60, some 61, some 62, none, none, none, none, some 63, some 64, some 65, some 66, some 67, none, some 68, some 69], [], [], [], [], [], [], [], [], [], [], [], [], [], [], [], [], [], [], [], []]
def RF (q k : Nat) : Option Nat := (RFl.getD q []).getD k none
theorem so0 : SH[0]? = some (.inl 8) := rfl
theorem so1 : SH[1]? = some (.inl 1) := rfl
theorem so2 : SH[2]? = some (.inl 0) := rfl
theorem sl3 : am_ls SH 3 0 = 8 := rfl
theorem sd3 (sl : Nat) : am_ll SH sl 3 0 = 8 := rfl
theorem sl4 : am_ls SH 4 0 = 8 := rfl
theorem sd4 (sl : Nat) : am_ll SH sl 4 0 = 8 := rfl
theorem sl5 : am_ls SH 5 0 = 8 := rfl
theorem sd5 (sl : Nat) : am_ll SH sl 5 0 = 8 := rfl
theorem sl6 : am_ls SH 6 0 = 192 := rfl
theorem sd6 (sl : Nat) : am_ll SH sl 6 0 = 192 := rfl
theorem sl7 : am_ls SH 7 0 = 8 := rfl
theorem sd7 (sl : Nat) : am_ll SH sl 7 0 = 8 := rfl
theorem sl8 : am_ls SH 8 3 = 96 := rfl
theorem so9 : SH[9]? = some (.inl 0) := rfl
theorem sl10 : am_ls SH 10 0 = 8 := rfl
theorem sd10 (sl : Nat) : am_ll SH sl 10 0 = 8 := rfl
theorem sl11 : am_ls SH 11 0 = 8 := rfl
theorem sd11 (sl : Nat) : am_ll SH sl 11 0 = 8 := rfl
theorem sl12 : am_ls SH 12 0 = 8 := rfl
theorem sd12 (sl : Nat) : am_ll SH sl 12 0 = 8 := rfl
theorem sl13 : am_ls SH 13 0 = 192 := rfl
theorem sd13 (sl : Nat) : am_ll SH sl 13 0 = 192 := rfl
theorem sl14 : am_ls SH 14 0 = 8 := rfl
theorem sd14 (sl : Nat) : am_ll SH sl 14 0 = 8 := rfl
theorem sl15 : am_ls SH 15 3 = 96 := rfl
theorem so16 : SH[16]? = some (.inl 2) := rfl
theorem sl17 : am_ls SH 17 0 = 816 := rfl
theorem sd17 (sl : Nat) : am_ll SH sl 17 0 = 816 := rfl
theorem so18 : SH[18]? = some (.inl 4) := rfl
theorem sl19 : am_ls SH 19 1 = 12 := rfl
theorem sd19 (sl : Nat) : am_ll SH sl 19 1 = 12 := rfl
theorem so20 : SH[20]? = some (.inl 7) := rfl
theorem sl21 : am_ls SH 21 4 = 8 := rfl
theorem so22 : SH[22]? = some (.inl 6) := rfl
theorem so23 : SH[23]? = some (.inl 4) := rfl
theorem sl24 : am_ls SH 24 1 = 12 := rfl
theorem sd24 (sl : Nat) : am_ll SH sl 24 1 = 12 := rfl
theorem so25 : SH[25]? = some (.inl 6) := rfl
theorem so26 : SH[26]? = some (.inl 4) := rfl
theorem sl27 : am_ls SH 27 1 = 12 := rfl
theorem sd27 (sl : Nat) : am_ll SH sl 27 1 = 12 := rfl
theorem so28 : SH[28]? = some (.inl 6) := rfl
theorem so29 : SH[29]? = some (.inl 4) := rfl
theorem sl30 : am_ls SH 30 1 = 12 := rfl
theorem sd30 (sl : Nat) : am_ll SH sl 30 1 = 12 := rfl
theorem so31 : SH[31]? = some (.inl 6) := rfl
theorem so32 : SH[32]? = some (.inl 4) := rfl
theorem sl33 : am_ls SH 33 1 = 12 := rfl
theorem sd33 (sl : Nat) : am_ll SH sl 33 1 = 12 := rfl
theorem so34 : SH[34]? = some (.inl 6) := rfl
theorem so35 : SH[35]? = some (.inl 4) := rfl
theorem sl36 : am_ls SH 36 1 = 12 := rfl
theorem sd36 (sl : Nat) : am_ll SH sl 36 1 = 12 := rfl
theorem so37 : SH[37]? = some (.inl 6) := rfl
theorem so38 : SH[38]? = some (.inl 4) := rfl
theorem sl39 : am_ls SH 39 1 = 12 := rfl
theorem sd39 (sl : Nat) : am_ll SH sl 39 1 = 12 := rfl
theorem so40 : SH[40]? = some (.inl 6) := rfl
theorem so41 : SH[41]? = some (.inl 4) := rfl
theorem sl42 : am_ls SH 42 1 = 12 := rfl
theorem sd42 (sl : Nat) : am_ll SH sl 42 1 = 12 := rfl
theorem so43 : SH[43]? = some (.inl 6) := rfl
theorem so44 : SH[44]? = some (.inl 4) := rfl
theorem sl45 : am_ls SH 45 1 = 12 := rfl
theorem sd45 (sl : Nat) : am_ll SH sl 45 1 = 12 := rfl
theorem so46 : SH[46]? = some (.inl 3) := rfl
theorem sl47 : am_ls SH 47 1 = 15 := rfl
theorem sd47 (sl : Nat) : am_ll SH sl 47 1 = 15 := rfl
theorem so48 : SH[48]? = some (.inl 5) := rfl
theorem so49 : SH[49]? = some (.inl 9) := rfl
theorem sl50 : am_ls SH 50 2 = 16 := rfl
theorem sd50 (sl : Nat) : am_ll SH sl 50 2 = 16 := rfl
theorem sl51 : am_ls SH 51 2 = 192 := rfl
theorem sd51 (sl : Nat) : am_ll SH sl 51 2 = 192 := rfl
theorem sl52 : am_ls SH 52 0 = 16 := rfl
theorem sd52 (sl : Nat) : am_ll SH sl 52 0 = 16 := rfl
theorem sl53 : am_ls SH 53 0 = 16 := rfl
theorem sd53 (sl : Nat) : am_ll SH sl 53 0 = 16 := rfl
theorem sl54 : am_ls SH 54 0 = 16 := rfl
theorem sd54 (sl : Nat) : am_ll SH sl 54 0 = 16 := rfl
theorem sl55 : am_ls SH 55 0 = 16 := rfl
theorem sd55 (sl : Nat) : am_ll SH sl 55 0 = 16 := rfl
theorem sl56 : am_ls SH 56 0 = 384 := rfl
theorem sd56 (sl : Nat) : am_ll SH sl 56 0 = 384 := rfl
theorem sl57 : am_ls SH 57 3 = 192 := rfl
theorem sl58 : am_ls SH 58 0 = 108 := rfl
theorem sd58 (sl : Nat) : am_ll SH sl 58 0 = 108 := rfl
theorem sl59 : am_ls SH 59 0 = 9 := rfl
theorem sd59 (sl : Nat) : am_ll SH sl 59 0 = 9 := rfl
theorem sl60 : am_ls SH 60 0 = 8 := rfl
theorem sd60 (sl : Nat) : am_ll SH sl 60 0 = 8 := rfl
theorem sl61 : am_ls SH 61 0 = 8 := rfl
theorem sd61 (sl : Nat) : am_ll SH sl 61 0 = 8 := rfl
theorem sl62 : am_ls SH 62 0 = 8 := rfl
theorem sd62 (sl : Nat) : am_ll SH sl 62 0 = 8 := rfl
theorem sl63 : am_ls SH 63 0 = 1408 := rfl
theorem sd63 (sl : Nat) : am_ll SH sl 63 0 = 1408 := rfl
theorem sl64 : am_ls SH 64 0 = 1408 := rfl
theorem sd64 (sl : Nat) : am_ll SH sl 64 0 = 1408 := rfl
theorem sl65 : am_ls SH 65 0 = 1408 := rfl
theorem sd65 (sl : Nat) : am_ll SH sl 65 0 = 1408 := rfl
theorem sl66 : am_ls SH 66 0 = 1408 := rfl
theorem sd66 (sl : Nat) : am_ll SH sl 66 0 = 1408 := rfl
theorem sl67 : am_ls SH 67 0 = 1408 := rfl
theorem sd67 (sl : Nat) : am_ll SH sl 67 0 = 1408 := rfl
theorem sl68 : am_ls SH 68 0 = 20 := rfl
theorem sd68 (sl : Nat) : am_ll SH sl 68 0 = 20 := rfl
theorem sl69 : am_ls SH 69 2 = 42 := rfl
theorem sd69 (sl : Nat) : am_ll SH sl 69 2 = 42 := rfl
theorem sf0_0 : RF 0 0 = some 1 := rfl
theorem sf0_1 : RF 0 1 = some 18 := rfl
theorem sf0_2 : RF 0 2 = some 20 := rfl
theorem sf0_3 : RF 0 3 = some 46 := rfl
theorem sf0_4 : RF 0 4 = some 48 := rfl
theorem sf1_0 : RF 1 0 = some 2 := rfl
theorem sf1_1 : RF 1 1 = some 9 := rfl
theorem sf1_2 : RF 1 2 = some 16 := rfl
theorem sf2_1 : RF 2 1 = some 3 := rfl
theorem sf2_2 : RF 2 2 = some 4 := rfl
theorem sf2_3 : RF 2 3 = some 5 := rfl
theorem sf2_4 : RF 2 4 = some 6 := rfl
theorem sf2_5 : RF 2 5 = some 7 := rfl
theorem sf2_6 : RF 2 6 = some 8 := rfl
theorem sf9_1 : RF 9 1 = some 10 := rfl
theorem sf9_2 : RF 9 2 = some 11 := rfl
theorem sf9_3 : RF 9 3 = some 12 := rfl
theorem sf9_4 : RF 9 4 = some 13 := rfl
theorem sf9_5 : RF 9 5 = some 14 := rfl
theorem sf9_6 : RF 9 6 = some 15 := rfl
theorem sf16_0 : RF 16 0 = some 17 := rfl
theorem sf18_0 : RF 18 0 = some 19 := rfl
theorem sf20_0 : RF 20 0 = some 21 := rfl
theorem sf21_0 : RF 21 0 = some 22 := rfl
theorem sf21_1 : RF 21 1 = some 25 := rfl
theorem sf21_2 : RF 21 2 = some 28 := rfl
theorem sf21_3 : RF 21 3 = some 31 := rfl
theorem sf21_4 : RF 21 4 = some 34 := rfl
theorem sf21_5 : RF 21 5 = some 37 := rfl
theorem sf21_6 : RF 21 6 = some 40 := rfl
theorem sf21_7 : RF 21 7 = some 43 := rfl
theorem sf22_0 : RF 22 0 = some 23 := rfl
theorem sf23_0 : RF 23 0 = some 24 := rfl
theorem sf25_0 : RF 25 0 = some 26 := rfl
theorem sf26_0 : RF 26 0 = some 27 := rfl
theorem sf28_0 : RF 28 0 = some 29 := rfl
theorem sf29_0 : RF 29 0 = some 30 := rfl
theorem sf31_0 : RF 31 0 = some 32 := rfl
theorem sf32_0 : RF 32 0 = some 33 := rfl
theorem sf34_0 : RF 34 0 = some 35 := rfl
theorem sf35_0 : RF 35 0 = some 36 := rfl
theorem sf37_0 : RF 37 0 = some 38 := rfl
theorem sf38_0 : RF 38 0 = some 39 := rfl
theorem sf40_0 : RF 40 0 = some 41 := rfl
theorem sf41_0 : RF 41 0 = some 42 := rfl
theorem sf43_0 : RF 43 0 = some 44 := rfl
theorem sf44_0 : RF 44 0 = some 45 := rfl
theorem sf46_0 : RF 46 0 = some 47 := rfl
theorem sf49_0 : RF 49 0 = some 50 := rfl
theorem sf49_1 : RF 49 1 = some 51 := rfl
theorem sf49_2 : RF 49 2 = some 52 := rfl
theorem sf49_3 : RF 49 3 = some 53 := rfl
theorem sf49_4 : RF 49 4 = some 54 := rfl
theorem sf49_5 : RF 49 5 = some 55 := rfl
theorem sf49_6 : RF 49 6 = some 56 := rfl
theorem sf49_7 : RF 49 7 = some 57 := rfl
theorem sf49_8 : RF 49 8 = some 58 := rfl
theorem sf49_9 : RF 49 9 = some 59 := rfl
theorem sf49_10 : RF 49 10 = some 60 := rfl
theorem sf49_11 : RF 49 11 = some 61 := rfl
theorem sf49_12 : RF 49 12 = some 62 := rfl
theorem sf49_17 : RF 49 17 = some 63 := rfl
theorem sf49_18 : RF 49 18 = some 64 := rfl
theorem sf49_19 : RF 49 19 = some 65 := rfl
theorem sf49_20 : RF 49 20 = some 66 := rfl
theorem sf49_21 : RF 49 21 = some 67 := rfl
theorem sf49_23 : RF 49 23 = some 68 := rfl
theorem sf49_24 : RF 49 24 = some 69 := rfl
/-- a build's cells -/
theorem bdF {q : Nat} (h : q = 2 ∨ q = 9) : SH[q]? = some (.inl 0) ∧ (RF q 1 = some (q + 1) ∧ RF q 2 = some (q + 2) ∧ RF q 3 = some (q + 3) ∧ RF q 4 = some (q + 4) ∧ RF q 5 = some (q + 5) ∧ RF q 6 = some (q + 6)) ∧ (am_ls SH (q + 1) 0 = 8 ∧ am_ls SH (q + 2) 0 = 8 ∧ am_ls SH (q + 3) 0 = 8 ∧ am_ls SH (q + 4) 0 = 192 ∧ am_ls SH (q + 5) 0 = 8 ∧ am_ls SH (q + 6) 3 = 96) ∧ ((∀ sl, am_ll SH sl (q + 1) 0 = 8) ∧ (∀ sl, am_ll SH sl (q + 2) 0 = 8) ∧ (∀ sl, am_ll SH sl (q + 3) 0 = 8) ∧ (∀ sl, am_ll SH sl (q + 4) 0 = 192) ∧ ∀ sl, am_ll SH sl (q + 5) 0 = 8) := by
  rcases h with rfl | rfl
  · exact ⟨rfl, ⟨rfl, rfl, rfl, rfl, rfl, rfl⟩, ⟨rfl, rfl, rfl, rfl, rfl, rfl⟩, fun _ => rfl, fun _ => rfl, fun _ => rfl, fun _ => rfl, fun _ => rfl⟩
  · exact ⟨rfl, ⟨rfl, rfl, rfl, rfl, rfl, rfl⟩, ⟨rfl, rfl, rfl, rfl, rfl, rfl⟩, fun _ => rfl, fun _ => rfl, fun _ => rfl, fun _ => rfl, fun _ => rfl⟩
/-- a pattern: the desk's, or a rule's -/
def isPt (q : Nat) : Prop := q = 18 ∨ q = 23 ∨ q = 26 ∨ q = 29 ∨ q = 32 ∨ q = 35 ∨ q = 38 ∨ q = 41 ∨ q = 44
theorem ptF {q : Nat} (h : isPt q) : SH[q]? = some (.inl 4) ∧ RF q 0 = some (q + 1) ∧ am_ls SH (q + 1) 1 = 12 ∧ (∀ sl, am_ll SH sl (q + 1) 1 = 12) ∧ SH[q + 1]? = some (.inr (1, 12)) := by
  rcases h with rfl | rfl | rfl | rfl | rfl | rfl | rfl | rfl | rfl <;> exact ⟨rfl, rfl, rfl, fun _ => rfl, rfl⟩
/-- rule i -/
theorem ruF {i : Nat} (h : i < 8) : RF 21 i = some (22 + 3 * i) ∧ SH[22 + 3 * i]? = some (.inl 6) ∧ RF (22 + 3 * i) 0 = some (23 + 3 * i) ∧ isPt (23 + 3 * i) := by
  match i, h with
  | 0, _ => exact ⟨rfl, rfl, rfl, by unfold isPt; omega⟩
  | 1, _ => exact ⟨rfl, rfl, rfl, by unfold isPt; omega⟩
  | 2, _ => exact ⟨rfl, rfl, rfl, by unfold isPt; omega⟩
  | 3, _ => exact ⟨rfl, rfl, rfl, by unfold isPt; omega⟩
  | 4, _ => exact ⟨rfl, rfl, rfl, by unfold isPt; omega⟩
  | 5, _ => exact ⟨rfl, rfl, rfl, by unfold isPt; omega⟩
  | 6, _ => exact ⟨rfl, rfl, rfl, by unfold isPt; omega⟩
  | 7, _ => exact ⟨rfl, rfl, rfl, by unfold isPt; omega⟩
  | i + 8, h => exact absurd h (by omega)
theorem nI_ti {n : Nat} (h : n < 2 ^ 31) : (nI n).toInt = (n : Int) := nI_toInt h
theorem nI_tn {n : Nat} (h : n < 2 ^ 31) : (nI n).toInt.toNat = n := by rw [nI_toInt h]; rfl
