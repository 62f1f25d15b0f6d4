/-! A CALL OF BOTH HALVES -/
/-- the script is as it was -/
def scS (M M' : Nat → Nat → Int32) : Prop := ∀ k, M' 1000000 k = M 1000000 k
theorem scS_r (M : Nat → Nat → Int32) : scS M M := fun _ => rfl
theorem agW_s {M M' : Nat → Nat → Int32} (h : agW M M') : scS M M' := fun k => h _ _ (by omega) (by omega) (by omega)
def prP (cm : Nat) (ca : List Value) (M : Nat → Nat → Int32) (D : Nat → Nat → UInt64) (sl : Nat) : Option Value → amM → Prop := fun rv μ' => ∃ v M1 D1, rv = some (.int v) ∧ μ' = (SH, (0, 0, sl), M1, D1, RF) ∧ scS M M1 ∧ RR cm 0 ca [] (SH, (0, 0, sl), M1, D1, RF) (fun rv2 μ2 => ∃ M2 D2, rv2 = some (.int v) ∧ μ2 = (SH, (0, 0, sl), M2, D2, RF) ∧ iV M2 D2 ∧ scS M M2)
def prD (cm : Nat) (ca : List Value) (M : Nat → Nat → Int32) (D : Nat → Nat → UInt64) (sl : Nat) : Option Value → amM → Prop := fun rv μ' => ∃ v M1 D1, rv = some (.double v) ∧ μ' = (SH, (0, 0, sl), M1, D1, RF) ∧ scS M M1 ∧ RR cm 0 ca [] (SH, (0, 0, sl), M1, D1, RF) (fun rv2 μ2 => ∃ M2 D2, rv2 = some (.double v) ∧ μ2 = (SH, (0, 0, sl), M2, D2, RF) ∧ iV M2 D2 ∧ scS M M2)
theorem mBt_2 {M0 M M' : Nat → Nat → Int32} {D : Nat → Nat → UInt64} {b t : Nat} (h : mBt M0 D M b t) (e : ∀ q k, 50 ≤ q → q ≤ 56 → M' q k = M q k) : mBt M0 D M' b t := by
  obtain ⟨h1, h2, h3, h4, h5, h6, h7⟩ := h
  refine ⟨by rw [e _ _ (by decide) (by decide)]; exact h1, by rw [e _ _ (by decide) (by decide)]; exact h2, by rw [e _ _ (by decide) (by decide)]; exact h3, fun hh => ?_, fun s hs => by rw [e _ _ (by decide) (by decide)]; exact h5 s hs, fun s hs hh => by rw [e _ _ (by decide) (by decide)]; exact h6 s hs hh, h7⟩
  obtain ⟨f, k1, k2, k3⟩ := h4 hh
  refine ⟨f, k1, by rw [e _ _ (by decide) (by decide)]; exact k2, ?_⟩
  rw [e _ _ (by decide) (by decide)]
  exact k3
section CN
variable {Q : Option Value → amM → Prop} {μ : amM} {S : List (Nat ⊕ (Nat × Nat))} {M : Nat → Nat → Int32} {D : Nat → Nat → UInt64} {F : Nat → Nat → Option Nat} {sl : Nat}

theorem b9v {f g h : Nat} (hv : mV M f g h) : f * 1000000 + g * 1000 + h < 1000000000 := b9 hv.2.2.2.1 hv.2.2.2.2.1 hv.2.2.2.2.2
theorem pr_no {c m : Nat} {ca ma : List Value} {v : Int32} (hI : iV M D) (h1 : ∀ Q, RR c 0 ca [] (SH, (0, 0, sl), M, D, RF) Q ↔ Q (some (.int v)) (SH, (0, 0, sl), M, D, RF)) (h2 : ∀ Q, RR m 0 ma [] (SH, (0, 0, sl), M, D, RF) Q ↔ Q (some (.int v)) (SH, (0, 0, sl), M, D, RF)) : RR c 0 ca [] (SH, (0, 0, sl), M, D, RF) (prP m ma M D sl) := by
  rw [h1]
  refine ⟨v, M, D, rfl, rfl, scS_r M, ?_⟩
  rw [h2]
  exact ⟨M, D, rfl, rfl, hI, scS_r M⟩
theorem pr_list (hI : iV M D) : RR 11 0 [.ref 0] [] (SH, (0, 0, sl), M, D, RF) (prP 60 [.ref 49] M D sl) := by
  obtain ⟨⟨b2, b9, hB⟩, ⟨n, P, hr, hR⟩, ⟨pt, hp⟩, ⟨f, g, h, hv, hV⟩, hD⟩ := id hI
  have hDc : ∀ k, k < 96 → Op.cmpValue (FP.dcmp (D 8 k) (D 8 k)) .l = 0 := fun k hk => vF_cmp (hD k hk).1
  refine RR.imp (c11 b2 b9 hr) ?_
  rintro rv μ' ⟨rfl, M1, rfl, hag⟩
  have ha := agD_W hag
  refine ⟨_, M1, D, rfl, rfl, agW_s ha, ?_⟩
  refine RR.imp (c60 b2 b9 (mBd_w hB ha) (mRl_w ha hR) hr hDc) ?_
  rintro rv μ' ⟨rfl, M2, rfl, hag2⟩
  have ha2 := agW_t ha (agS_W hag2)
  exact ⟨M2, D, rfl, rfl, iV_w hI ha2, agW_s ha2⟩
theorem pr_change {k w : Int32} (hI : iV M D) : RR 12 0 [.ref 0, .int k, .int w, .long 0, .long 0] [] (SH, (0, 0, sl), M, D, RF) (prP 61 [.ref 49, .int k, .int w, .long 0] M D sl) := by
  obtain ⟨⟨b2, b9, hB⟩, ⟨n, P, hr, hR⟩, ⟨pt, hp⟩, ⟨f, g, h, hv, hV⟩, hD⟩ := id hI
  have hDc : ∀ k, k < 96 → Op.cmpValue (FP.dcmp (D 8 k) (D 8 k)) .l = 0 := fun k hk => vF_cmp (hD k hk).1
  refine RR.imp (c12 b2 b9 hr) ?_
  rintro rv μ' ⟨rfl, M1, rfl, hag⟩
  have ha := agD_W hag
  refine ⟨_, M1, D, rfl, rfl, agW_s ha, ?_⟩
  refine RR.imp (c61 b2 b9 (mBd_w hB ha) (mRl_w ha hR) hr hDc) ?_
  rintro rv μ' ⟨rfl, M2, rfl, hag2⟩
  have ha2 := agW_t ha (agS_W hag2)
  exact ⟨M2, D, rfl, rfl, iV_w hI ha2, agW_s ha2⟩
theorem pr_shift {k : Int32} (hI : iV M D) : RR 13 0 [.ref 0, .int k, .long 0] [] (SH, (0, 0, sl), M, D, RF) (prD 62 [.ref 49, .int k, .long 0] M D sl) := by
  obtain ⟨⟨b2, b9, hB⟩, ⟨n, P, hr, hR⟩, ⟨pt, hp⟩, ⟨f, g, h, hv, hV⟩, hD⟩ := id hI
  have hDc : ∀ k, k < 96 → Op.cmpValue (FP.dcmp (D 8 k) (D 8 k)) .l = 0 := fun k hk => vF_cmp (hD k hk).1
  refine RR.imp (c13 b2 b9 hr hDc (fun k hk => vF_cmp (hD k hk).2) (fun i hi => vF_sub (hD i hi).1 (hD i hi).2)) ?_
  rintro rv μ' ⟨rfl, M1, rfl, hag⟩
  have ha := agD_W hag
  refine ⟨_, M1, D, rfl, rfl, agW_s ha, ?_⟩
  refine RR.imp (c62 b2 b9 (mBd_w hB ha) (mRl_w ha hR) hr hDc (fun i hi => vF_sub (hD i hi).1 (hD i hi).2)) ?_
  rintro rv μ' ⟨rfl, M2, rfl, hag2⟩
  have ha2 := agW_t ha (agS_W hag2)
  exact ⟨M2, D, rfl, rfl, iV_w hI ha2, agW_s ha2⟩
theorem pr_report {j : Prop} {hj : Decidable j} {k : Int32} (hI : iV M D) : RR 14 0 [.ref 0, .int (@bN j hj), .int k, .long 0] [] (SH, (0, 0, sl), M, D, RF) (prP 70 [.ref 49, .int (@bN j hj), .int k] M D sl) := by
  obtain ⟨⟨b2, b9, hB⟩, ⟨n, P, hr, hR⟩, ⟨pt, hp⟩, ⟨f, g, h, hv, hV⟩, hD⟩ := id hI
  have hDc : ∀ k, k < 96 → Op.cmpValue (FP.dcmp (D 8 k) (D 8 k)) .l = 0 := fun k hk => vF_cmp (hD k hk).1
  refine RR.imp (c14 b2 b9 hr hV (b9v hv)) ?_
  rintro rv μ' ⟨rfl, M1, rfl, hag⟩
  have ha := agD_W hag
  refine ⟨_, M1, D, rfl, rfl, agW_s ha, ?_⟩
  refine RR.imp (c70 b2 b9 (mBd_w hB ha) (mRl_w ha hR) hr hDc (mV_w ha hv)) ?_
  rintro rv μ' ⟨rfl, M2, rfl, hag2⟩
  have ha2 := agW_t ha (agS_W hag2)
  exact ⟨M2, D, rfl, rfl, iV_w hI ha2, agW_s ha2⟩
theorem pr_advice (hI : iV M D) : RR 15 0 [.ref 0] [] (SH, (0, 0, sl), M, D, RF) (prP 72 [.ref 49] M D sl) := by
  obtain ⟨⟨b2, b9, hB⟩, ⟨n, P, hr, hR⟩, ⟨pt, hp⟩, ⟨f, g, h, hv, hV⟩, hD⟩ := id hI
  have hDc : ∀ k, k < 96 → Op.cmpValue (FP.dcmp (D 8 k) (D 8 k)) .l = 0 := fun k hk => vF_cmp (hD k hk).1
  refine RR.imp (c15 b2 b9 hr hV (b9v hv)) ?_
  rintro rv μ' ⟨rfl, M1, rfl, hag⟩
  have ha := agD_W hag
  refine ⟨_, M1, D, rfl, rfl, agW_s ha, ?_⟩
  refine RR.imp (c72 b2 b9 (mBd_w hB ha) (mRl_w ha hR) hr hDc (mV_w ha hv)) ?_
  rintro rv μ' ⟨rfl, M2, rfl, hag2⟩
  have ha2 := agW_t ha (agS_W hag2)
  exact ⟨M2, D, rfl, rfl, iV_w hI ha2, agW_s ha2⟩
theorem pr_judge {a b c : Int32} (hI : iV M D) : RR 16 0 [.ref 0, .int a, .int b, .int c, .long 0, .long 0, .long 0] [] (SH, (0, 0, sl), M, D, RF) (prP 73 [.ref 49, .int a, .int b, .int c, .long 0, .long 0, .long 0] M D sl) := by
  obtain ⟨⟨b2, b9, hB⟩, ⟨n, P, hr, hR⟩, ⟨pt, hp⟩, ⟨f, g, h, hv, hV⟩, hD⟩ := id hI
  have hDc : ∀ k, k < 96 → Op.cmpValue (FP.dcmp (D 8 k) (D 8 k)) .l = 0 := fun k hk => vF_cmp (hD k hk).1
  by_cases V : (0 ≤ a.toInt ∧ a.toInt ≤ 999) ∧ (0 ≤ b.toInt ∧ b.toInt ≤ 999) ∧ 0 ≤ c.toInt ∧ c.toInt ≤ 999
  · obtain ⟨a', a1, rfl, a3⟩ := xI V.1.1
    obtain ⟨b', b1, rfl, b3⟩ := xI V.2.1.1
    obtain ⟨c', c1, rfl, c3⟩ := xI V.2.2.1
    have ha' : a' < 1000 := by omega
    have hb' : b' < 1000 := by omega
    have hc' : c' < 1000 := by omega
    rw [c16v ha' hb' hc']
    refine RR.imp (c16 ha' hb' hc' b2 b9 hr hV (b9v hv)) ?_
    rintro rv μ' ⟨rfl, M1, rfl, hag⟩
    have ha := agD_W hag
    refine ⟨_, M1, D, rfl, rfl, agW_s ha, ?_⟩
    refine RR.imp (c73v ha' hb' hc' b2 b9 (mBd_w hB ha) (mRl_w ha hR) hr hDc (mV_w ha hv)) ?_
    rintro rv μ' ⟨rfl, M2, rfl, hag2⟩
    have ha2 := agW_t ha (agS_W hag2)
    exact ⟨M2, D, rfl, rfl, iV_w hI ha2, agW_s ha2⟩
  · exact pr_no hI (fun Q => c16f V) (fun Q => c73f V)
theorem pr_fits {b t s : Int32} {m : Prop} {hm : Decidable m} (hI : iV M D) : RR 17 0 [.ref 0, .int b, .int t, .int (@bN m hm), .int s, .long 0] [] (SH, (0, 0, sl), M, D, RF) (prP 74 [.ref 49, .int b, .int t, .int (@bN m hm), .int s, .long 0] M D sl) := by
  obtain ⟨⟨b2, b9, hB⟩, ⟨n, P, hr, hR⟩, ⟨pt, hp⟩, ⟨f, g, h, hv, hV⟩, hD⟩ := id hI
  have hDc : ∀ k, k < 96 → Op.cmpValue (FP.dcmp (D 8 k) (D 8 k)) .l = 0 := fun k hk => vF_cmp (hD k hk).1
  by_cases V : ((0 ≤ b.toInt ∧ b.toInt ≤ 1) ∧ 0 ≤ t.toInt ∧ t.toInt ≤ 7) ∧ (-1 ≤ s.toInt ∧ s.toInt ≤ 11)
  · obtain ⟨b', t', hb, ht, rfl, rfl⟩ := plOk V.1
    have hs : ∃ u, (u = 0 ∧ s = -1) ∨ ∃ s', s' < 12 ∧ s = nI s' ∧ u = (if m then 12 + s' else s') + 1 := by
      by_cases e : s = -1
      · exact ⟨0, Or.inl ⟨rfl, e⟩⟩
      · have h0 : 0 ≤ s.toInt := by
          apply Classical.byContradiction
          intro hn
          apply e
          apply Int32.toInt_inj.mp
          rw [show (-1 : Int32).toInt = -1 by decide]
          omega
        obtain ⟨s', s1, rfl, s3⟩ := xI h0
        exact ⟨_, Or.inr ⟨s', by omega, rfl, rfl⟩⟩
    obtain ⟨u, hs⟩ := hs
    have hW : bW M (mq b') := mqW b2 b9
    have hBt := hB b' hb t' ht
    by_cases hT : (bTh M (mq b')).testBit t' = true
    · refine RR.imp (c17v hb ht hs hW hT hp.1) ?_
      rintro rv μ' ⟨rfl, M1, rfl, hag⟩
      have ha := agD_W hag
      refine ⟨_, M1, D, rfl, rfl, agW_s ha, ?_⟩
      refine RR.imp (c74v hb ht hs hW (mBd_w hB ha b' hb t' ht) hT (by rw [ha _ _ (by omega) (by omega) (by omega)]; exact hp.2.2.1) hp.1.2.1 (fun i hi => by rw [ha _ _ (by omega) (by omega) (by omega)]; exact hp.2.2.2 i hi) hp.1.2.2.2) ?_
      rintro rv μ' ⟨rfl, M2, rfl, hag2⟩
      have ha2 := agW_t ha (agS_W hag2)
      exact ⟨M2, D, rfl, rfl, iV_w hI ha2, agW_s ha2⟩
    · exact pr_no hI (fun Q => c17n hb ht hs hW hT) (fun Q => c74n hb ht hs hBt.1 hT)
  · exact pr_no hI (fun Q => c17f V) (fun Q => c74f V)
theorem pr_type {b t p a f' : Int32} (hI : iV M D) : RR 1 0 [.ref 0, .int b, .int t, .int p, .int a, .int f'] [] (SH, (0, 0, sl), M, D, RF) (prP 34 [.ref 49, .int b, .int t, .int p, .int a, .int f', .long 0] M D sl) := by
  by_cases V : ((0 ≤ b.toInt ∧ b.toInt ≤ 1) ∧ 0 ≤ t.toInt ∧ t.toInt ≤ 7) ∧ (0 ≤ p.toInt ∧ p.toInt ≤ 47) ∧ (-1 ≤ a.toInt ∧ a.toInt ≤ 7) ∧ (0 ≤ f'.toInt ∧ f'.toInt ≤ 255)
  · obtain ⟨b', t', hb, ht, rfl, rfl⟩ := plOk V.1
    obtain ⟨p', p1, rfl, p3⟩ := xI V.2.1.1
    obtain ⟨f, f1, rfl, f3⟩ := xI V.2.2.2.1
    have hp : p' < 48 := by omega
    have hf : f < 256 := by omega
    have ha : ∃ u, (a = -1 ∧ u = f) ∨ ∃ a', a' < 8 ∧ a = nI a' ∧ u = f ||| 2 ^ a' := by
      by_cases e : a = -1
      · exact ⟨f, Or.inl ⟨e, rfl⟩⟩
      · have h0 : 0 ≤ a.toInt := by
          apply Classical.byContradiction
          intro hn
          apply e
          apply Int32.toInt_inj.mp
          rw [show (-1 : Int32).toInt = -1 by decide]
          omega
        obtain ⟨a', a1, rfl, a3⟩ := xI h0
        exact ⟨_, Or.inr ⟨a', by omega, rfl, rfl⟩⟩
    obtain ⟨u, ha⟩ := ha
    have hq := mq_c hb
    rw [c1v hb ht hp hf ha]
    refine ⟨_, _, _, rfl, rfl, fun k => ?_, ?_⟩
    · simp (disch := omega) only [stM, up_q]
    · rw [c34v hb ht hp hf V.2.2.1]
      refine ⟨_, _, rfl, rfl, iV_type hI hb ht hp hf ha, fun k => ?_⟩
      simp (disch := omega) only [mtM, stM, up_q]
  · exact pr_no hI (fun Q => c1f V) (fun Q => c34f V)
theorem pr_drop {b t : Int32} (hI : iV M D) : RR 2 0 [.ref 0, .int b, .int t] [] (SH, (0, 0, sl), M, D, RF) (prP 35 [.ref 49, .int b, .int t, .long 0] M D sl) := by
  obtain ⟨⟨b2, b9, hB⟩, ⟨n, P, hr, hR⟩, ⟨pt, hp⟩, ⟨f, g, h, hv, hV⟩, hD⟩ := id hI
  have hDc : ∀ k, k < 96 → Op.cmpValue (FP.dcmp (D 8 k) (D 8 k)) .l = 0 := fun k hk => vF_cmp (hD k hk).1
  by_cases V : ((0 ≤ b.toInt ∧ b.toInt ≤ 1) ∧ 0 ≤ t.toInt ∧ t.toInt ≤ 7)
  · obtain ⟨b', t', hb, ht, rfl, rfl⟩ := plOk V
    have hW : bW M (mq b') := mqW b2 b9
    have hBt := hB b' hb t' ht
    have hq := mq_c hb
    by_cases hT : (bTh M (mq b')).testBit t' = true
    · rw [c2v hb ht hW hT]
      obtain ⟨i1, -⟩ := drR_v (q := mq b') ht 24 0 (am_up M (mq b') 0 (nI (andNot (bTh M (mq b')) (2 ^ t')))) (by omega)
      have R : ∀ q k, 49 < q → drR (mq b') t' 24 0 (am_up M (mq b') 0 (nI (andNot (bTh M (mq b')) (2 ^ t')))) q k = M q k := fun q k z => by rw [i1 _ _ (by omega) (by omega), up_q (by omega)]
      refine ⟨_, _, _, rfl, rfl, fun k => R _ _ (by omega), ?_⟩
      rw [c35v hb ht (M0 := M) (by rw [R _ _ (by omega)]; exact hBt.1) hT]
      refine ⟨_, _, rfl, rfl, iV_drop hI hb ht, fun k => ?_⟩
      unfold dmM
      rw [if_neg (by omega), up_q (by omega), R _ _ (by omega)]
    · exact pr_no hI (fun Q => c2n hb ht hW hT) (fun Q => c35n hb ht hBt.1 hT)
  · exact pr_no hI (fun Q => c2f V) (fun Q => c35f V)
theorem pr_member {b t s j : Int32} {m : Prop} {hm : Decidable m} (hI : iV M D) : RR 3 0 [.ref 0, .int b, .int t, .int (@bN m hm), .int s, .int j] [] (SH, (0, 0, sl), M, D, RF) (prP 37 [.ref 49, .int b, .int t, .int (@bN m hm), .int s, .int j] M D sl) := by
  obtain ⟨⟨b2, b9, hB⟩, ⟨n, P, hr, hR⟩, ⟨pt, hp⟩, ⟨f, g, h, hv, hV⟩, hD⟩ := id hI
  have hDc : ∀ k, k < 96 → Op.cmpValue (FP.dcmp (D 8 k) (D 8 k)) .l = 0 := fun k hk => vF_cmp (hD k hk).1
  by_cases V : ((0 ≤ b.toInt ∧ b.toInt ≤ 1) ∧ 0 ≤ t.toInt ∧ t.toInt ≤ 7) ∧ (0 ≤ s.toInt ∧ s.toInt ≤ 11) ∧ (0 ≤ j.toInt ∧ j.toInt ≤ 31)
  · obtain ⟨b', t', hb, ht, rfl, rfl⟩ := plOk V.1
    obtain ⟨s', s1, rfl, s3⟩ := xI V.2.1.1
    obtain ⟨j', j1, rfl, j3⟩ := xI V.2.2.1
    have hs : s' < 12 := by omega
    have hj : j' < 32 := by omega
    have hW : bW M (mq b') := mqW b2 b9
    have hBt := hB b' hb t' ht
    have hq := mq_c hb
    by_cases hT : (bTh M (mq b')).testBit t' = true
    · rw [c3v hb ht hs hj hW hT]
      refine ⟨_, _, _, rfl, rfl, fun k => ?_, ?_⟩
      · simp (disch := omega) only [smM, up_q]
      · rw [c37v (M0 := M) hb ht hs hj (by simp (disch := omega) only [smM, up_q]; exact hBt.1) hT]
        refine ⟨_, _, rfl, rfl, iV_member hI hb ht hs hj, fun k => ?_⟩
        unfold mmM
        by_cases h0 : m
        · rw [if_pos h0]; simp (disch := omega) only [smM, up_q]
        · rw [if_neg h0]; simp (disch := omega) only [smM, up_q]
    · exact pr_no hI (fun Q => c3n hb ht hW hT) (fun Q => c37n hb ht hBt.1 hT)
  · exact pr_no hI (fun Q => c3f ⟨b2, b9⟩ V) (fun Q => c37f hB V)
theorem c38z {M0 : Nat → Nat → Int32} {b t s : Nat} {v : UInt64} (hb : b < 2) (ht : t < 8) (hs : s < 12) (hw : bW M0 (mq b)) (hT : M 50 (8 * b + t) = bN ((bTh M0 (mq b)).testBit t = true)) (hMo0 : M 56 (24 * (8 * b + t) + s) = M0 (mq b + 4) (t * 24 + s)) (h : (bTh M0 (mq b)).testBit t = true ∧ bHas M0 (mq b) t s) : RR 38 0 [.ref 49, .int (nI b), .int (nI t), .int (nI s), .double v, .long 0] [] (SH, (0, 0, sl), M, D, RF) Q ↔ Q (some (.int (nI 1))) (SH, (0, 0, sl), am_up M 51 (12 * (8 * b + t) + s) (nI 1), am_up D 57 (12 * (8 * b + t) + s) v, RF) := by
  have hMo : M 56 (24 * (8 * b + t) + s) = nI (bMo M0 (mq b) t s) := hMo0.trans (bMo_e _ _ _ _)
  have hlt := bMo_lt hw ht (show s < 24 by omega) h.2
  have hge : (0 : Int32) ≤ nI (bMo M0 (mq b) t s) := nI_pos' (by omega)
  have hx := h.1
  have e13 : 1 + s = s + 1 := by omega
  simp (disch := omega) only [r38_0, r38_1, r38_2, r38_3, r38_6, r38_9, r38_10, r38_11, r38_13, r38_16, r38_19, r38_20, r38_23, r38_24, r38_25, r38_26, r38_27, r38_28, r38_31, r38_32, r38_35, r38_36, r38_37, r38_38, r38_41, r38_43, r38_45, r38_46, r38_47, r38_48, r38_49, r38_50, r38_51, r38_52, r38_53, r38_54, r38_55, r38_58, r38_60, r38_62, r38_63, r38_64, r38_65, r38_66, r38_67, r38_68, r38_69, r38_71, r38_72, r38_73, am_cat0, am_catI, am_catR, am_catD, am_ndI, am_ndR, am_ndL, va_rfS, true_and, and_true, Option.toList_some, Option.toList_none, List.cons_append, List.nil_append, Nat.reduceAdd, Nat.reduceLeDiff, Nat.zero_add, Nat.le_refl, c33 hb ht hT, hx, c32t (show s ≤ 11 by omega) (by decide), nI1_0, nI01b, or_true, bN_T, bN_F, bN_0, nI0_0, nI01a, true_or, not_true_eq_false, not_false_eq_true, if_true, if_false, so49, sf49_1, sf49_6, sf49_7, sl51, sd56, sl57, pk_mul, nI_add, e13, c36 hb ht (show s < 24 by omega), am_bs, am_bd, bd_n, nI_tn, hMo, hge, nar_1]
theorem pr_const {b t s : Int32} {v : UInt64} (hvF : vF v) (hI : iV M D) : RR 4 0 [.ref 0, .int b, .int t, .int s, .double v, .long 0] [] (SH, (0, 0, sl), M, D, RF) (prP 38 [.ref 49, .int b, .int t, .int s, .double v, .long 0] M D sl) := by
  obtain ⟨⟨b2, b9, hB⟩, ⟨n, P, hr, hR⟩, ⟨pt, hp⟩, ⟨f, g, h, hv, hV⟩, hD⟩ := id hI
  have hDc : ∀ k, k < 96 → Op.cmpValue (FP.dcmp (D 8 k) (D 8 k)) .l = 0 := fun k hk => vF_cmp (hD k hk).1
  by_cases V : ((0 ≤ b.toInt ∧ b.toInt ≤ 1) ∧ 0 ≤ t.toInt ∧ t.toInt ≤ 7) ∧ (0 ≤ s.toInt ∧ s.toInt ≤ 11)
  · obtain ⟨b', t', hb, ht, rfl, rfl⟩ := plOk V.1
    obtain ⟨s', s1, rfl, s3⟩ := xI V.2.1
    have hs : s' < 12 := by omega
    have hW : bW M (mq b') := mqW b2 b9
    have hBt := hB b' hb t' ht
    have hq := mq_c hb
    by_cases hT : (bTh M (mq b')).testBit t' = true ∧ bHas M (mq b') t' s'
    · rw [c4y hb ht hs hW hT]
      refine ⟨_, _, _, rfl, rfl, fun k => ?_, ?_⟩
      · simp (disch := omega) only [scM, up_q]
      · rw [c38z (M0 := M) hb ht hs hW (by simp (disch := omega) only [scM, up_q]; exact hBt.1) (by simp (disch := omega) only [scM, up_q]; exact hBt.2.2.2.2.1 s' (by omega)) hT]
        refine ⟨_, _, rfl, rfl, iV_const hI hb ht hs hvF, fun k => ?_⟩
        simp (disch := omega) only [scM, up_q]
    · exact pr_no hI (fun Q => c4n hb ht hs hW hT) (fun Q => c38n hb ht hs hBt hT)
  · exact pr_no hI (fun Q => c4f ⟨b2, b9⟩ V) (fun Q => c38f hB V)
theorem pr_remove {b t s : Int32} {m : Prop} {hm : Decidable m} (hI : iV M D) : RR 5 0 [.ref 0, .int b, .int t, .int (@bN m hm), .int s] [] (SH, (0, 0, sl), M, D, RF) (prP 39 [.ref 49, .int b, .int t, .int (@bN m hm), .int s, .long 0] M D sl) := by
  obtain ⟨⟨b2, b9, hB⟩, ⟨n, P, hr, hR⟩, ⟨pt, hp⟩, ⟨f, g, h, hv, hV⟩, hD⟩ := id hI
  have hDc : ∀ k, k < 96 → Op.cmpValue (FP.dcmp (D 8 k) (D 8 k)) .l = 0 := fun k hk => vF_cmp (hD k hk).1
  by_cases V : ((0 ≤ b.toInt ∧ b.toInt ≤ 1) ∧ 0 ≤ t.toInt ∧ t.toInt ≤ 7) ∧ (0 ≤ s.toInt ∧ s.toInt ≤ 11)
  · obtain ⟨b', t', hb, ht, rfl, rfl⟩ := plOk V.1
    obtain ⟨s', s1, rfl, s3⟩ := xI V.2.1
    have hs : s' < 12 := by omega
    have hs2 : (if m then 12 + s' else s') < 24 := by by_cases h : m <;> simp [h] <;> omega
    have hW : bW M (mq b') := mqW b2 b9
    have hBt := hB b' hb t' ht
    have hq := mq_c hb
    by_cases hT : (bTh M (mq b')).testBit t' = true ∧ bHas M (mq b') t' (if m then 12 + s' else s')
    · rw [c5y hb ht hs hW hT]
      refine ⟨_, _, _, rfl, rfl, fun k => ?_, ?_⟩
      · simp (disch := omega) only [smM, up_q]
      · rw [c39y (M0 := M) hb ht hs hW (mBt_2 hBt (fun q k z1 z2 => by simp (disch := omega) only [smM, up_q])) hT]
        refine ⟨_, _, rfl, rfl, iV_remove hI hb ht hs2, fun k => ?_⟩
        simp (disch := omega) only [smM, up_q]
    · exact pr_no hI (fun Q => c5n hb ht hs hW hT) (fun Q => c39n hb ht hs hBt hT)
  · exact pr_no hI (fun Q => c5f ⟨b2, b9⟩ V) (fun Q => c39f hB V)
theorem cntF_c {f f' : Nat → Int32} : ∀ (k i c : Nat), (∀ j, i ≤ j → j < i + k → f j = f' j) → cntF f k i c = cntF f' k i c := by
  intro k
  induction k with
  | zero => intro i c _; rfl
  | succ k ih =>
    intro i c h
    rw [cntF, cntF, h i (Nat.le_refl _) (by omega), ih _ _ (fun j h1 h2 => h j (by omega) (by omega))]
theorem pr_branch (hI : iV M D) : RR 6 0 [.ref 0] [] (SH, (0, 0, sl), M, D, RF) (prP 40 [.ref 49, .long 0, .long 0] M D sl) := by
  obtain ⟨⟨b2, b9, hB⟩, ⟨n, P, hr, hR⟩, ⟨pt, hp⟩, ⟨f, g, h, hv, hV⟩, hD⟩ := id hI
  have hDc : ∀ k, k < 96 → Op.cmpValue (FP.dcmp (D 8 k) (D 8 k)) .l = 0 := fun k hk => vF_cmp (hD k hk).1
  have e56 : ∀ k, k < 192 → M 56 k = M 6 k := fun k hk => by
    have z := (hB 0 (by decide) (k / 24) (by omega)).2.2.2.2.1 (k % 24) (by omega)
    rw [show 24 * (8 * 0 + k / 24) + k % 24 = k by omega, show k / 24 * 24 + k % 24 = k by omega] at z
    exact z
  have eb : ∀ k, beM M 56 k = M 56 k := fun k => beM_n (by omega)
  rw [c6]
  have ec : cntF (beM M 13) 192 0 0 = cntF (beM M 56) 192 0 0 := cntF_c 192 0 0 (fun j _ h2 => by rw [beM_4 (by omega), eb, e56 j (by omega)])
  rw [ec]
  refine ⟨_, _, _, rfl, rfl, fun k => beM_n (by omega), ?_⟩
  rw [c40 (fun k hk => by rw [eb, e56 k hk]; exact b2.2.2 k hk)]
  refine ⟨_, _, rfl, rfl, iV_branch hI, fun k => ?_⟩
  unfold b3M b2M b1M
  rw [if_neg (by omega), if_neg (by omega), if_neg (by omega)]
  exact beM_n (by omega)
theorem pr_letter {c : Int32} (hI : iV M D) : RR 7 0 [.ref 0, .int c] [] (SH, (0, 0, sl), M, D, RF) (prP 41 [.ref 49, .int c] M D sl) := by
  obtain ⟨⟨b2, b9, hB⟩, ⟨n, P, hr, hR⟩, ⟨pt, hp⟩, ⟨f, g, h, hv, hV⟩, hD⟩ := id hI
  have hDc : ∀ k, k < 96 → Op.cmpValue (FP.dcmp (D 8 k) (D 8 k)) .l = 0 := fun k hk => vF_cmp (hD k hk).1
  by_cases V : 33 ≤ c.toInt ∧ c.toInt ≤ 126
  · obtain ⟨c', c1, rfl, c3⟩ := xI (x := c) (by omega)
    have h1 : 33 ≤ c' := by omega
    have h2 : c' ≤ 126 := by omega
    have hl := hp.1.2.1
    by_cases e : pt.length = 12
    · exact pr_no (v := -3) hI (fun Q => by rw [c7v h1 h2 hp.1.1 hl, if_pos e]) (fun Q => by rw [c41v h1 h2 hp.2.2.1 hl, if_pos e])
    · rw [c7v h1 h2 hp.1.1 hl, if_neg e]
      refine ⟨_, _, _, rfl, rfl, fun k => ?_, ?_⟩
      · rw [up_q (by omega), up_q (by omega)]
      · rw [c41v h1 h2 (by rw [up_q (by omega), up_q (by omega)]; exact hp.2.2.1) hl, if_neg e]
        refine ⟨_, _, rfl, rfl, iV_letter hI hp (by omega) (by omega), fun k => ?_⟩
        rw [up_q (by omega), up_q (by omega), up_q (by omega), up_q (by omega)]
  · exact pr_no hI (fun Q => c7f V) (fun Q => c41f V)
theorem ruM_o {n : Nat} {lo hi we : Int32} {q k : Nat} (h : 46 ≤ q) (hn : n < 8) : ruM M n lo hi we q k = M q k := by
  unfold ruM
  rw [up_q (by omega), up_q (by omega), up_q (by omega), up_q (by omega), up_q (by omega), cpyn (by omega), up_q (by omega)]
theorem pr_rule {a b c : Int32} (hI : iV M D) : RR 8 0 [.ref 0, .int a, .int b, .int c] [] (SH, (0, 0, sl), M, D, RF) (prP 42 [.ref 49, .int a, .int b, .int c, .long 0] M D sl) := by
  obtain ⟨⟨b2, b9, hB⟩, ⟨n, P, hr, hR⟩, ⟨pt, hp⟩, ⟨f, g, h, hv, hV⟩, hD⟩ := id hI
  have hDc : ∀ k, k < 96 → Op.cmpValue (FP.dcmp (D 8 k) (D 8 k)) .l = 0 := fun k hk => vF_cmp (hD k hk).1
  by_cases V : (1 ≤ a.toInt ∧ a.toInt ≤ 33) ∧ (a.toInt ≤ b.toInt ∧ b.toInt ≤ 33) ∧ 0 ≤ c.toInt ∧ c.toInt ≤ 3
  · obtain ⟨c', c1, hc, c3⟩ := xI V.2.2.1
    have hn := hr.2.1
    have hl := hp.1.2.1
    by_cases e : n = 8
    · exact pr_no (v := -3) hI (fun Q => by rw [c8v V hr.1 hn hp.2.1, if_pos e]) (fun Q => by rw [c42v V hR.1 hn hp.2.2.1 hl, if_pos e])
    · have hn8 : n < 8 := by omega
      rw [c8v V hr.1 hn hp.2.1, if_neg e]
      refine ⟨_, _, _, rfl, rfl, fun k => ruM_o (by omega) hn8, ?_⟩
      rw [c42v V (by rw [ruM_o (by omega) hn8]; exact hR.1) hn (by rw [ruM_o (by omega) hn8]; exact hp.2.2.1) hl, if_neg e]
      refine ⟨_, _, rfl, rfl, iV_rule hI hr hR hp hn8 (w := c') (by omega) hc, fun k => ?_⟩
      unfold mrM
      rw [up_q (by omega), up_q (by omega), up_q (by omega), up_q (by omega), up_q (by omega), up_q (by omega), cpM_o (by omega), ruM_o (by omega) hn8]
  · exact pr_no hI (fun Q => c8f V) (fun Q => c42f V)
theorem pr_clear (hI : iV M D) : RR 9 0 [.ref 0, .long 0] [] (SH, (0, 0, sl), M, D, RF) (prP 43 [.ref 49, .long 0] M D sl) := by
  obtain ⟨⟨b2, b9, hB⟩, ⟨n, P, hr, hR⟩, ⟨pt, hp⟩, ⟨f, g, h, hv, hV⟩, hD⟩ := id hI
  have hDc : ∀ k, k < 96 → Op.cmpValue (FP.dcmp (D 8 k) (D 8 k)) .l = 0 := fun k hk => vF_cmp (hD k hk).1
  rw [c9, hr.1]
  refine ⟨_, _, _, rfl, rfl, fun k => ?_, ?_⟩
  · rw [up_q (by omega), up_q (by omega)]
  · rw [c43, up_q (by omega), up_q (by omega), hR.1]
    refine ⟨_, _, rfl, rfl, iV_clear hI, fun k => ?_⟩
    rw [up_q (by omega), up_q (by omega), up_q (by omega), up_q (by omega)]
theorem pr_version {a b c : Int32} (hI : iV M D) : RR 10 0 [.ref 0, .int a, .int b, .int c] [] (SH, (0, 0, sl), M, D, RF) (prP 44 [.ref 49, .int a, .int b, .int c] M D sl) := by
  by_cases V : (0 ≤ a.toInt ∧ a.toInt ≤ 999) ∧ (0 ≤ b.toInt ∧ b.toInt ≤ 999) ∧ 0 ≤ c.toInt ∧ c.toInt ≤ 999
  · obtain ⟨a', a1, rfl, a3⟩ := xI V.1.1
    obtain ⟨b', b1, rfl, b3⟩ := xI V.2.1.1
    obtain ⟨c', c1, rfl, c3⟩ := xI V.2.2.1
    have ha' : a' < 1000 := by omega
    have hb' : b' < 1000 := by omega
    have hc' : c' < 1000 := by omega
    rw [c10v ha' hb' hc']
    refine ⟨_, _, _, rfl, rfl, fun k => ?_, ?_⟩
    · rw [up_q (by omega)]
    · rw [c44v ha' hb' hc']
      refine ⟨_, _, rfl, rfl, iV_version hI ha' hb' hc', fun k => ?_⟩
      rw [up_q (by omega), up_q (by omega), up_q (by omega), up_q (by omega)]
  · exact pr_no hI (fun Q => c10f V) (fun Q => c44f V)
end CN
