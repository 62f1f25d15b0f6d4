/-! THE START: THE TEXTS, THE CLASSES, THE ARRAYS -/
def st_rows : List (Nat × Nat) := [(3, 53), (3, 55), (3, 57), (3, 47), (3, 49), (3, 51), (5, 57), (5, 63), (5, 65), (5, 67), (5, 69), (5, 71), (5, 74)]
def st_tm (i : Nat) : Term := .string (nmC (st_rows.getD i (0, 0)).1) (st_rows.getD i (0, 0)).2
def st_fl : List Cond := flatC (Jvm.Cond.and given_1 narrow_1)
def st_pE : List Nat := [9, 15, 25, 41, 52, 65, 81, 103, 119, 137, 156, 176, 203]
def st_pC : List Nat := [10, 16, 26, 42, 53, 66, 82, 104, 120, 138, 157, 177, 204]
def st_pA : List Nat := [11, 17, 27, 43, 54, 67, 83, 105, 121, 139, 158, 178, 205]
def st_pL : List Nat := [12, 18, 28, 44, 55, 68, 84, 106, 122, 140, 159, 179, 206]
def st_pW : List (List Nat) := [[13, 14], [19, 20, 21, 22, 23], [29, 30, 31, 32, 33, 34, 35, 36, 37, 38], [45, 46, 47, 48], [56, 57, 58, 59, 60], [69, 70, 71, 72, 73, 74, 75], [85, 86, 87, 88, 89, 90, 91, 92, 93, 94, 95, 96], [107, 108, 109, 110, 111], [123, 124, 125, 126, 127, 128], [141, 142, 143, 144, 145, 146], [160, 161, 162, 163, 164, 165], [180, 181, 182, 183, 184, 185, 186, 187, 188, 189, 190, 191], [207, 208]]
def st_pN : List (List Nat) := [[9999, 24, 39, 49, 61, 76, 97, 112, 129, 147, 166, 192, 209], [9999, 9999, 40, 50, 62, 77, 98, 113, 130, 148, 167, 193, 210], [9999, 9999, 9999, 51, 63, 78, 99, 114, 131, 149, 168, 194, 211], [9999, 9999, 9999, 9999, 64, 79, 100, 115, 132, 150, 169, 195, 212], [9999, 9999, 9999, 9999, 9999, 80, 101, 116, 133, 151, 170, 196, 213], [9999, 9999, 9999, 9999, 9999, 9999, 102, 117, 134, 152, 171, 197, 214], [9999, 9999, 9999, 9999, 9999, 9999, 9999, 118, 135, 153, 172, 198, 215], [9999, 9999, 9999, 9999, 9999, 9999, 9999, 9999, 136, 154, 173, 199, 216], [9999, 9999, 9999, 9999, 9999, 9999, 9999, 9999, 9999, 155, 174, 200, 217], [9999, 9999, 9999, 9999, 9999, 9999, 9999, 9999, 9999, 9999, 175, 201, 218], [9999, 9999, 9999, 9999, 9999, 9999, 9999, 9999, 9999, 9999, 9999, 202, 219], [9999, 9999, 9999, 9999, 9999, 9999, 9999, 9999, 9999, 9999, 9999, 9999, 220], [9999, 9999, 9999, 9999, 9999, 9999, 9999, 9999, 9999, 9999, 9999, 9999, 9999]]
def st_at (k : Nat) (w : Cond) : Bool := decide (st_fl[k]? = some w)
theorem st_at_in {k : Nat} {w : Cond} (h : st_at k w = true) : w ∈ st_fl := List.mem_of_getElem? (of_decide_eq_true h)
def st_fd (i : Nat) : Term := .field (st_tm i) "java/lang/String" "value" "[B"
theorem st_okE : ∀ i, i < 13 → st_at (st_pE.getD i 0) (.exactly (st_tm i) "java/lang/String") = true ∧ st_at (st_pC.getD i 0) (.eq (.field (st_tm i) "java/lang/String" "coder" "B") (.int 0)) = true ∧ st_at (st_pA.getD i 0) (.arrayOf (st_fd i) .byte) = true ∧ st_at (st_pL.getD i 0) (.eq (.length (st_fd i)) (.int (Int32.ofNat (st_len.getD i 0)))) = true := by decide +kernel
theorem st_okW : ∀ i, i < 13 → ∀ j, j < st_len.getD i 0 → st_at ((st_pW.getD i []).getD j 0) (.eq (.elem (st_fd i) (.int (Int32.ofNat j))) (.int ((st_byt.getD i []).getD j 0))) = true := by decide +kernel
theorem st_okN : ∀ i, i < 13 → ∀ j, j < 13 → i ≠ j → (st_at ((st_pN.getD i []).getD j 0) (.not (.eq (st_tm i) (st_tm j))) || st_at ((st_pN.getD j []).getD i 0) (.not (.eq (st_tm j) (st_tm i)))) = true := by decide +kernel
theorem st_ok4 : st_at 4 (.eq (.static "java/lang/String" "COMPACT_STRINGS" "Z") (.int 1)) = true ∧ st_at 5 (.isRef (.static "jdk/internal/util/Preconditions" "SIOOBE_FORMATTER" "Ljava/util/function/BiFunction;")) = true := by decide +kernel
theorem st_len_lt : ∀ i, i < 13 → st_len.getD i 0 < 2 ^ 31 := by decide +kernel
def st_tx : List String := ["()", "(int)", "(int,long)", ":int", ":long", ":double", "{\"changes\":[", "{\"w\":", ",{\"w\":", ",\"n\":\"", "\",\"c\":", "],\"advice\":\"", "\"}"]
theorem lkS_ok : lkS.all (fun r => decide (lw_tbl[r.2.2.2]? = some (.stringRef (nmC r.1) r.2.1 (st_tx.getD r.2.2.1 ""))) && (decide (r.2.2.1 < 13) && decide (st_tm r.2.2.1 = .string (nmC r.1) r.2.1))) = true := by decide +kernel
theorem st_lw : lw_tbl[517]? = some (.laysStatic "java/lang/String" "COMPACT_STRINGS" "Z") ∧ lw_tbl[533]? = some (.laysStatic "jdk/internal/util/Preconditions" "SIOOBE_FORMATTER" "Ljava/util/function/BiFunction;") ∧ lw_tbl[52]? = some (.initialized "java/lang/String") ∧ lw_tbl[54]? = some (.initialized "jdk/internal/util/Preconditions") := by decide +kernel
theorem st_over : Cond.arrayOver (.object "ReleaseDesk$Rule") ∈ lw_tbl := by decide +kernel
theorem st_texts {s : State} {b : Nat} (hts : ∀ w ∈ lw_tbl, w.before #[Value.ref b] s = true) (hgv : (Jvm.Cond.and given_1 narrow_1).before #[Value.ref b] s = true) : ∃ aK adV : Nat → Nat, st_SF s.heap.size aK adV s := by
  have hfl : ∀ w ∈ st_fl, w.before #[Value.ref b] s = true := flat_of_before _ hgv
  have hA : ∀ a : Nat, a < s.heap.size → ¬ (fun q => s.heap.size ≤ q) a := fun a h z => absurd h (Nat.not_lt.mpr z)
  obtain ⟨aK, adV, h1, h2⟩ := vk_Sof (args := #[Value.ref b]) (s := s) (N := 13) (tm := st_tm) (len := st_len) (byt := st_byt) (A := fun q => s.heap.size ≤ q) st_len_lt (fun i hi => hfl _ (st_at_in (st_okE i hi).1)) (fun i hi => hfl _ (st_at_in (st_okE i hi).2.1)) (fun i hi => hfl _ (st_at_in (st_okE i hi).2.2.1)) (fun i hi => hfl _ (st_at_in (st_okE i hi).2.2.2)) (fun i hi j hj => hfl _ (st_at_in (st_okW i hi j hj))) (fun i j hi hj hij => ((Bool.or_eq_true _ _).mp (st_okN i hi j hj hij)).imp (fun z => hfl _ (st_at_in z)) (fun z => hfl _ (st_at_in z))) hA
  refine ⟨aK, adV, h1, va_Zof (hts _ (List.mem_of_getElem? st_lw.1)) (hts _ (List.mem_of_getElem? st_lw.2.2.1)) (va_eqt (hfl _ (st_at_in st_ok4.1))) hA, va_Zqof (hts _ (List.mem_of_getElem? st_lw.2.1)) (hts _ (List.mem_of_getElem? st_lw.2.2.2)) (hfl _ (st_at_in st_ok4.2)) hA, fun oc idx i w hm => ?_⟩
  have h3 := List.all_eq_true.mp lkS_ok _ hm
  simp only [Bool.and_eq_true, decide_eq_true_eq] at h3
  obtain ⟨g1, g2, g3⟩ := h3
  refine ⟨_, vk_R.of (A := #[Value.ref b]) (hts _ (List.mem_of_getElem? g1)) ?_⟩
  rw [← g3]
  exact h2 i g2
theorem st_arr {s : State} {args : Array Value} {ty : FieldType} (h : (Cond.arrayClass ty).before args s = true) (hn : ∀ C, ty ≠ .object C) : ∃ cA : ClassId, ArrOfT s cA ty ∧ va_RA s cA ty := by
  obtain ⟨c, k, comp, h1, h2, h3⟩ := Cond.arrayClass_spec h
  refine ⟨c, fun n z => ⟨(fun k h => by cases h), k, h2, comp, h3⟩, ?_⟩
  cases ty with
  | object C => exact absurd rfl (hn C)
  | _ => exact h1
theorem st_arrO {s : State} {args : Array Value} {C : String} (h : (Cond.arrayOver (.object C)).before args s = true) : ∃ cA : ClassId, ArrOfT s cA (.object C) ∧ va_RA s cA (.object C) := by
  obtain ⟨comp, c, k, h1, -, h3, h4, h5⟩ := Cond.arrayOver_spec h
  exact ⟨c, fun n z => ⟨(fun k h => by cases h), k, h3, comp, h4⟩, k, comp, h3, h4, h1, h5⟩
theorem st_known {s : State} {b : Nat} (hts : ∀ w ∈ lw_tbl, w.before #[Value.ref b] s = true) : ∃ (D : va_G) (ca : Nat → Nat), va_K D nmCl (sm_tys ca) s := by
  have hkw : ∀ w ∈ KW, w.before #[Value.ref b] s = true := fun w h => hts w (List.mem_filter.mp h).1
  have h0 : ∀ ci : Nat, ∃ q : ClassId × (Nat → Nat), ci < 10 → u_Kn s (nmC ci) (nmT ci) (am_fn ci) q.1 q.2 := by
    intro ci
    by_cases hc : ci < 10
    · obtain ⟨f1, f2, f3⟩ := tabO ci hc
      obtain ⟨cC, iS, h⟩ := u_known (C := nmC ci) (T := nmT ci) (N := am_fn ci) (n := am_fn ci) hkw f3 (hkw _ f1)
      exact ⟨(cC, iS), fun _ => h⟩
    · exact ⟨(0, fun _ => 0), fun h => absurd h hc⟩
  obtain ⟨dd, hdd⟩ := Classical.axiomOfChoice h0
  obtain ⟨z1, z2, z3, z4⟩ := tabZ.2.2
  obtain ⟨c0, k0, r0⟩ := st_arr (hkw _ z1) (fun C h => by cases h)
  obtain ⟨c1, k1, r1⟩ := st_arr (hkw _ z2) (fun C h => by cases h)
  obtain ⟨c2, k2, r2⟩ := st_arr (hkw _ z3) (fun C h => by cases h)
  obtain ⟨c3, k3, r3⟩ := st_arr (hkw _ z4) (fun C h => by cases h)
  obtain ⟨c4, k4, r4⟩ := st_arrO (hts _ st_over)
  refine ⟨(fun ci => (dd ci).1, fun ci => (dd ci).2), fun k => if k = 0 then c0 else if k = 1 then c1 else if k = 2 then c2 else if k = 3 then c3 else c4, fun ci q hq => ?_, fun k q hq => ?_⟩
  · have hc : ci < 10 := (List.getElem?_eq_some_iff.mp hq).1
    rw [nmCl_at ci hc] at hq
    cases hq
    exact hdd ci hc
  · match k, hq with
    | 0, hq => cases hq; exact ⟨k0, r0⟩
    | 1, hq => cases hq; exact ⟨k1, r1⟩
    | 2, hq => cases hq; exact ⟨k2, r2⟩
    | 3, hq => cases hq; exact ⟨k3, r3⟩
    | 4, hq => cases hq; exact ⟨k4, r4⟩
    | k + 5, hq => simp [sm_tys] at hq
