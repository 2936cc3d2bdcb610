/-! the component's reading of a whole text -/
section CX
variable {d : Nat} {n p q c x T o m w a b : Int} {pk : Int → Int} {V V' V2 V0 : Mem} {S : Shp} {Q : Int → Mem → Shp → Prop} {U : Mem → Shp → Prop} {L L1 L2 : List Int} {cs : List CL} {cl : CL}
theorem fin01 {z : Bool} (h : Q (if z = true then 1 else 0) V S) : (s32 (if z = true then (1 : Int) else 0) = 0 → Q 0 V S) ∧ (¬ s32 (if z = true then (1 : Int) else 0) = 0 → Q 1 V S) := by
  cases z
  · exact ⟨fun _ => h, fun q => (q l0).elim⟩
  · exact ⟨fun q => by have q : s32 1 = 0 := q; rw [l1] at q; omega, fun _ => h⟩
theorem CLP.fail {r : PC} (hr : r.1 = false) (f3 : AFR V0 V) (e3 : V 104 2 = r.2.1) (hq2 : ∀ V', CLP pk n T r p cs V0 V' → Q (if r.1 = true then 1 else 0) V' S) : Q 0 V S := by
  have := hq2 V ⟨f3.xf.yf, e3, fun q => by rw [hr] at q; cases q⟩
  rw [hr] at this
  exact this
theorem c_grace (hS : FS S) (hT : TXa T) (hk : TXk T S) (h0 : YST pk n T V0 p cs) (hl : cs.length < 8) (hw : (pW pk [103, 114, 97, 99, 101, 32] p).1 = true) (hX : AFR V0 V) (h : CSTT pk n T V (pW pk [103, 114, 97, 99, 101, 32] p).2) (hlt : p < (pW pk [103, 114, 97, 99, 101, 32] p).2) (hQ : ∀ V', CLP pk n T (pGrace pk p) p cs V0 V' → Q (if (pGrace pk p).1 = true then 1 else 0) V' S) : C_Reader_readGrace (d + 6) 104 T V S Q := by
  obtain ⟨t1, t2, t3⟩ := id hT
  obtain ⟨hR, hv, ⟨hp, p0, p1⟩, ⟨s0, s1⟩⟩ := id h
  generalize hq : (pW pk [103, 114, 97, 99, 101, 32] p).2 = a0 at *
  have hs : pGrace pk p = (bif (nmP pk a0).1 then (true, (nmP pk a0).2.1, (1, (nmP pk a0).2.2, 0, [])) else noC (nmP pk a0).2.1) := by
    unfold pGrace
    rw [hw, hq]
    rfl
  rw [hs] at hQ
  have sneg : s32 (-1) = -1 := s32_id (by omega) (by omega)
  rw [I_Reader_readGrace]
  simp only [hS.k104, b_s32, b_eq0, b_01, l0, l1, true_and, and_true, and_self, true_implies, false_implies, implies_true, forall_const, not_true_eq_false, not_false_eq_true, reduceIte, ite_true, ite_false, reduceCtorEq, forall_eq, Classical.not_not, true_or, or_true, false_or, or_false, and_false, false_and, Int.reduceEq, Int.reduceLT, Int.reduceLE, Int.reduceAdd, Int.reduceSub, Int.reduceMul, Int.reduceNeg]
  refine c_number (d := d + 2) hS hR hp p0 p1 (fun V1 f1 g1 l1' e1 k1 => ?_)
  by_cases c1 : (nmP pk a0).1 = true
  · obtain ⟨k2, k3, k4⟩ := k1 c1
    rw [if_pos c1]
    rw [c1] at hQ
    simp (disch := omega) only [s32_id (x := (nmP pk a0).2.2), show ¬ (nmP pk a0).2.2 < 0 from by omega, b_s32, b_eq0, b_01, l0, l1, true_and, and_true, and_self, true_implies, false_implies, implies_true, forall_const, not_true_eq_false, not_false_eq_true, reduceIte, ite_true, ite_false, reduceCtorEq, forall_eq, Classical.not_not, true_or, or_true, false_or, or_false, and_false, false_and, Int.reduceEq, Int.reduceLT, Int.reduceLE, Int.reduceAdd, Int.reduceSub, Int.reduceMul, Int.reduceNeg]
    have f4 := hX.tr f1
    refine c_add (d := d + 4) (cl := (1, (nmP pk a0).2.2, 0, [])) hS hT hk h0 hl f4.xf (h.af f1 hT g1 (by omega) e1) (APP.nil.af f4 t1) (Or.inl ⟨rfl, by show (0 : Int) ≤ 1; omega, by show (1 : Int) ≤ 2; omega, rfl, rfl⟩) (fun V5 f5 g5 y5 => ?_)
    exact hQ V5 ⟨f5, g5, fun _ => ⟨y5, by show p < (nmP pk a0).2.1; omega⟩⟩
  · have c1' := nf c1
    rw [if_neg c1]
    rw [c1'] at hQ
    have := CLP.fail rfl (hX.tr f1) g1 hQ
    simp (disch := omega) only [sneg, this, b_s32, b_eq0, b_01, l0, l1, true_and, and_true, and_self, true_implies, false_implies, implies_true, forall_const, not_true_eq_false, not_false_eq_true, reduceIte, ite_true, ite_false, reduceCtorEq, forall_eq, Classical.not_not, true_or, or_true, false_or, or_false, and_false, false_and, Int.reduceEq, Int.reduceLT, Int.reduceLE, Int.reduceAdd, Int.reduceSub, Int.reduceMul, Int.reduceNeg]
theorem c_run (hS : FS S) (hT : TXa T) (hk : TXk T S) (h0 : YST pk n T V0 p cs) (hl : cs.length < 8) (hw : (pW pk [114, 117, 110, 32] p).1 = true) (hX : AFR V0 V) (h : CSTT pk n T V (pW pk [114, 117, 110, 32] p).2) (hlt : p < (pW pk [114, 117, 110, 32] p).2) (hQ : ∀ V', CLP pk n T (pRun pk p) p cs V0 V' → Q (if (pRun pk p).1 = true then 1 else 0) V' S) : C_Reader_readRun (d + 6) 104 T V S Q := by
  obtain ⟨t1, t2, t3⟩ := id hT
  obtain ⟨hR, hv, ⟨hp, p0, p1⟩, ⟨s0, s1⟩⟩ := id h
  generalize hq : (pW pk [114, 117, 110, 32] p).2 = a0 at *
  have hs : pRun pk p = (if pk a0 = 121 then (true, a0 + 1, (2, 1, 0, [])) else if pk a0 = 110 then (true, a0 + 1, (2, 0, 0, [])) else noC a0) := by
    unfold pRun
    rw [hw, hq]
    rfl
  rw [hs] at hQ
  rw [I_Reader_readRun, c_skip (d := d + 3) (c := 121) hS hR hp p0 p1 (by omega) (by omega)]
  have f4 : AFR V (up2 V 104 2 (a0 + 1)) := AFR.rf.up
  by_cases c1 : pk a0 = 121
  · have ln := hR.lt (p := a0) (by omega)
    rw [if_pos c1]
    have hQ : ∀ V', CLP pk n T (true, a0 + 1, (2, 1, 0, [])) p cs V0 V' → Q 1 V' S := by
      rw [if_pos c1] at hQ
      exact hQ
    simp (disch := omega) only [hS.k104, s32_id (x := 1), b_s32, b_eq0, b_01, l0, l1, true_and, and_true, and_self, true_implies, false_implies, implies_true, forall_const, not_true_eq_false, not_false_eq_true, reduceIte, ite_true, ite_false, reduceCtorEq, forall_eq, Classical.not_not, true_or, or_true, false_or, or_false, and_false, false_and, Int.reduceEq, Int.reduceLT, Int.reduceLE, Int.reduceAdd, Int.reduceSub, Int.reduceMul, Int.reduceNeg]
    refine c_add (d := d + 4) (cl := (2, 1, 0, [])) hS hT hk h0 hl (hX.tr f4).xf (h.af f4 hT (up2_eq rfl rfl) (by omega) (show a0 + 1 ≤ n by omega)) (APP.nil.af (hX.tr f4) t1) (Or.inl ⟨rfl, by show (0 : Int) ≤ 2; omega, by show (2 : Int) ≤ 2; omega, rfl, rfl⟩) (fun V5 f5 g5 y5 => ?_)
    exact hQ V5 ⟨f5, g5, fun _ => ⟨y5, by show p < a0 + 1; omega⟩⟩
  · rw [if_neg c1]
    have hQ : ∀ V', CLP pk n T (if pk a0 = 110 then (true, a0 + 1, (2, 0, 0, [])) else noC a0) p cs V0 V' → Q (if ((if pk a0 = 110 then (true, a0 + 1, (2, 0, 0, [])) else noC a0) : PC).1 = true then 1 else 0) V' S := by
      rw [if_neg c1] at hQ
      exact hQ
    simp (disch := omega) only [hS.k104, s32_id (x := 0), b_s32, b_eq0, b_01, l0, l1, true_and, and_true, and_self, true_implies, false_implies, implies_true, forall_const, not_true_eq_false, not_false_eq_true, reduceIte, ite_true, ite_false, reduceCtorEq, forall_eq, Classical.not_not, true_or, or_true, false_or, or_false, and_false, false_and, Int.reduceEq, Int.reduceLT, Int.reduceLE, Int.reduceAdd, Int.reduceSub, Int.reduceMul, Int.reduceNeg]
    rw [c_skip (d := d + 3) (c := 110) hS hR hp p0 p1 (by omega) (by omega)]
    by_cases c2 : pk a0 = 110
    · have ln := hR.lt (p := a0) (by omega)
      rw [if_pos c2]
      have hQ : ∀ V', CLP pk n T (true, a0 + 1, (2, 0, 0, [])) p cs V0 V' → Q 1 V' S := by
        rw [if_pos c2] at hQ
        exact hQ
      simp (disch := omega) only [s32_id (x := 1), b_s32, b_eq0, b_01, l0, l1, true_and, and_true, and_self, true_implies, false_implies, implies_true, forall_const, not_true_eq_false, not_false_eq_true, reduceIte, ite_true, ite_false, reduceCtorEq, forall_eq, Classical.not_not, true_or, or_true, false_or, or_false, and_false, false_and, Int.reduceEq, Int.reduceLT, Int.reduceLE, Int.reduceAdd, Int.reduceSub, Int.reduceMul, Int.reduceNeg]
      refine c_add (d := d + 4) (cl := (2, 0, 0, [])) hS hT hk h0 hl (hX.tr f4).xf (h.af f4 hT (up2_eq rfl rfl) (by omega) (show a0 + 1 ≤ n by omega)) (APP.nil.af (hX.tr f4) t1) (Or.inl ⟨rfl, by show (0 : Int) ≤ 2; omega, by show (2 : Int) ≤ 2; omega, rfl, rfl⟩) (fun V5 f5 g5 y5 => ?_)
      exact hQ V5 ⟨f5, g5, fun _ => ⟨y5, by show p < a0 + 1; omega⟩⟩
    · rw [if_neg c2]
      have hQ : ∀ V', CLP pk n T (noC a0) p cs V0 V' → Q (if (noC a0).1 = true then 1 else 0) V' S := by
        rw [if_neg c2] at hQ
        exact hQ
      have := CLP.fail rfl hX hp hQ
      simp (disch := omega) only [s32_id (x := 0), this, b_s32, b_eq0, b_01, l0, l1, true_and, and_true, and_self, true_implies, false_implies, implies_true, forall_const, not_true_eq_false, not_false_eq_true, reduceIte, ite_true, ite_false, reduceCtorEq, forall_eq, Classical.not_not, true_or, or_true, false_or, or_false, and_false, false_and, Int.reduceEq, Int.reduceLT, Int.reduceLE, Int.reduceAdd, Int.reduceSub, Int.reduceMul, Int.reduceNeg]
theorem c_E4 (hS : FS S) (hT : TXa T) (hk : TXk T S) (hF : CF (d + 2) pk n T S 4) (h : CSTT pk n T V p) (hQ : ∀ V', CP pk n T (pE pk (pF pk 4) p) p V V' → Q (if (pE pk (pF pk 4) p).1 = true then 1 else 0) V' S) : C_Reader_readAny (d + 4) 104 T 0 V S Q := by
  have := c_E (k := 4) hS hT hk hF h hQ
  rw [show (4 : Int) - ((4 : Nat) : Int) = 0 from rfl] at this
  exact this
theorem c_tests {wd : Int} {l : List Int} (hS : FS S) (hT : TXa T) (hk : TXk T S) (h0 : YST pk n T V0 p cs) (hl : cs.length < 8) (hwd : wd = 3 ∨ wd = 4) (hw : (pW pk l p).1 = true) (hX : AFR V0 V) (h : CSTT pk n T V (pW pk l p).2) (hlt : p < (pW pk l p).2) (hQ : ∀ V', CLP pk n T (pTests pk l wd p) p cs V0 V' → Q (if (pTests pk l wd p).1 = true then 1 else 0) V' S) : C_Reader_readTests (d + 27) 104 T wd V S Q := by
  obtain ⟨t1, t2, t3⟩ := id hT
  obtain ⟨hR, hv, ⟨hp, p0, p1⟩, ⟨s0, s1⟩⟩ := id h
  generalize hq : (pW pk l p).2 = a0 at *
  have hs : pTests pk l wd p = (bif (pE pk (pF pk 4) a0).1 then (true, (pE pk (pF pk 4) a0).2.1, (wd, 0, 0, (pE pk (pF pk 4) a0).2.2)) else noC (pE pk (pF pk 4) a0).2.1) := by
    unfold pTests
    rw [hw, hq]
    rfl
  rw [hs] at hQ
  have hF := CF_all (pk := pk) (n := n) hS hT hk 4 d (Nat.le_refl 4)
  rw [I_Reader_readTests]
  simp only [hS.k104, hk.1, b_s32, b_eq0, b_01, l0, l1, true_and, and_true, and_self, true_implies, false_implies, implies_true, forall_const, not_true_eq_false, not_false_eq_true, reduceIte, ite_true, ite_false, reduceCtorEq, forall_eq, Classical.not_not, true_or, or_true, false_or, or_false, and_false, false_and, Int.reduceEq, Int.reduceLT, Int.reduceLE, Int.reduceAdd, Int.reduceSub, Int.reduceMul, Int.reduceNeg]
  refine c_E4 (d := d + 22) hS hT hk hF h (fun V1 r1 => ?_)
  obtain ⟨b1, b2, b3⟩ := r1
  by_cases c1 : (pE pk (pF pk 4) a0).1 = true
  · obtain ⟨c3, c4, c5, c6⟩ := b3 c1
    rw [if_pos c1]
    rw [c1] at hQ
    simp (disch := omega) only [s32_id (x := 1), hk.1, b_s32, b_eq0, b_01, l0, l1, true_and, and_true, and_self, true_implies, false_implies, implies_true, forall_const, not_true_eq_false, not_false_eq_true, reduceIte, ite_true, ite_false, reduceCtorEq, forall_eq, Classical.not_not, true_or, or_true, false_or, or_false, and_false, false_and, Int.reduceEq, Int.reduceLT, Int.reduceLE, Int.reduceAdd, Int.reduceSub, Int.reduceMul, Int.reduceNeg]
    have e6 : V T 6 = V0 T 6 := hX _ _ (by omega)
    rw [e6]
    have hA : APP T V0 V1 ([] ++ (pE pk (pF pk 4) a0).2.2) := (APP.nil.af hX t1).app c3
    refine c_add (d := d + 25) (cl := (wd, 0, 0, (pE pk (pF pk 4) a0).2.2)) hS hT hk h0 hl (hX.xf.tr b1) c4 hA (Or.inr ⟨rfl, hwd, rfl, rfl, rfl⟩) (fun V5 f5 g5 y5 => ?_)
    exact hQ V5 ⟨f5, g5, fun _ => ⟨y5, by show p < (pE pk (pF pk 4) a0).2.1; omega⟩⟩
  · have c1' := nf c1
    rw [if_neg c1]
    rw [c1'] at hQ
    have := hQ V1 ⟨(hX.xf.tr b1).yf, b2, fun q => by cases q⟩
    have this : Q 0 V1 S := this
    simp (disch := omega) only [s32_id (x := 0), this, b_s32, b_eq0, b_01, l0, l1, true_and, and_true, and_self, true_implies, false_implies, implies_true, forall_const, not_true_eq_false, not_false_eq_true, reduceIte, ite_true, ite_false, reduceCtorEq, forall_eq, Classical.not_not, true_or, or_true, false_or, or_false, and_false, false_and, Int.reduceEq, Int.reduceLT, Int.reduceLE, Int.reduceAdd, Int.reduceSub, Int.reduceMul, Int.reduceNeg]
theorem c_clause (hS : FS S) (hT : TXa T) (hk : TXk T S) (h0 : YST pk n T V p cs) (hl : cs.length < 8) (hQ : ∀ V', CLP pk n T (pC pk p) p cs V V' → Q (if (pC pk p).1 = true then 1 else 0) V' S) : C_Reader_readClause (d + 28) 104 T V S Q := by
  obtain ⟨t1, t2, t3⟩ := id hT
  obtain ⟨hR, hv, ⟨hp, p0, p1⟩, ⟨s0, s1⟩⟩ := id h0.1
  have hV := hR.1
  obtain ⟨y1, y2, -⟩ := yk_e hR p0
  have e : ∀ c : Int, 0 ≤ c → c < 128 → (yk n pk p = c) = (pk p = c) := fun c c0 c1 => propext (y2 c c0 c1)
  rw [I_Reader_readClause, c_peek hS hR hp p0 p1, y1, e 102 (by omega) (by omega), e 103 (by omega) (by omega), e 104 (by omega) (by omega), e 105 (by omega) (by omega), e 106 (by omega) (by omega), e 107 (by omega) (by omega), e 108 (by omega) (by omega), e 109 (by omega) (by omega), e 110 (by omega) (by omega), e 111 (by omega) (by omega), e 112 (by omega) (by omega), e 113 (by omega) (by omega), e 114 (by omega) (by omega), e 115 (by omega) (by omega)]
  by_cases c1 : pk p = 115
  · have hv2 : pC pk p = pSum pk p := by unfold pC; rw [if_pos c1]
    rw [hv2] at hQ
    simp only [c1, hS.k104, b_s32, b_eq0, b_01, l0, l1, true_and, and_true, and_self, true_implies, false_implies, implies_true, forall_const, not_true_eq_false, not_false_eq_true, reduceIte, ite_true, ite_false, reduceCtorEq, forall_eq, Classical.not_not, true_or, or_true, false_or, or_false, and_false, false_and, Int.reduceEq, Int.reduceLT, Int.reduceLE, Int.reduceAdd, Int.reduceSub, Int.reduceMul, Int.reduceNeg]
    refine c_word (d := d + 24) (l := [115, 117, 109, 32]) hS hS.km4 (by rw [hS.nm4]; rfl) (by decide) (by omega) hR hp p0 p1 (w_sum hV) (by decide) (fun V1 f1 g1 l1' e1 k1 => ?_)
    by_cases cw : (pW pk [115, 117, 109, 32] p).1 = true
    · have k1 : p + 4 ≤ (pW pk [115, 117, 109, 32] p).2 := k1 cw
      rw [if_pos cw]
      simp (disch := omega) only [s32_id (x := 1), b_s32, b_eq0, b_01, l0, l1, true_and, and_true, and_self, true_implies, false_implies, implies_true, forall_const, not_true_eq_false, not_false_eq_true, reduceIte, ite_true, ite_false, reduceCtorEq, forall_eq, Classical.not_not, true_or, or_true, false_or, or_false, and_false, false_and, Int.reduceEq, Int.reduceLT, Int.reduceLE, Int.reduceAdd, Int.reduceSub, Int.reduceMul, Int.reduceNeg]
      exact c_sum (d := d + 21) hS hT hk h0 hl cw f1 (h0.1.af f1 hT g1 l1' e1) (by omega) (fun V' r => fin01 (hQ V' r))
    · have cw' := nf cw
      have hs : pSum pk p = noC (pW pk [115, 117, 109, 32] p).2 := by unfold pSum; rw [cw']; rfl
      rw [hs] at hQ
      rw [if_neg cw]
      have := CLP.fail rfl f1 g1 hQ
      simp (disch := omega) only [s32_id (x := 0), this, b_s32, b_eq0, b_01, l0, l1, true_and, and_true, and_self, true_implies, false_implies, implies_true, forall_const, not_true_eq_false, not_false_eq_true, reduceIte, ite_true, ite_false, reduceCtorEq, forall_eq, Classical.not_not, true_or, or_true, false_or, or_false, and_false, false_and, Int.reduceEq, Int.reduceLT, Int.reduceLE, Int.reduceAdd, Int.reduceSub, Int.reduceMul, Int.reduceNeg]
  · by_cases c2 : pk p = 103
    · have hv2 : pC pk p = pGrace pk p := by unfold pC; rw [if_neg c1, if_pos c2]
      rw [hv2] at hQ
      simp only [c2, hS.k104, b_s32, b_eq0, b_01, l0, l1, true_and, and_true, and_self, true_implies, false_implies, implies_true, forall_const, not_true_eq_false, not_false_eq_true, reduceIte, ite_true, ite_false, reduceCtorEq, forall_eq, Classical.not_not, true_or, or_true, false_or, or_false, and_false, false_and, Int.reduceEq, Int.reduceLT, Int.reduceLE, Int.reduceAdd, Int.reduceSub, Int.reduceMul, Int.reduceNeg]
      refine c_word (d := d + 24) (l := [103, 114, 97, 99, 101, 32]) hS hS.km5 (by rw [hS.nm5]; rfl) (by decide) (by omega) hR hp p0 p1 (w_grace hV) (by decide) (fun V1 f1 g1 l1' e1 k1 => ?_)
      by_cases cw : (pW pk [103, 114, 97, 99, 101, 32] p).1 = true
      · have k1 : p + 6 ≤ (pW pk [103, 114, 97, 99, 101, 32] p).2 := k1 cw
        rw [if_pos cw]
        simp (disch := omega) only [s32_id (x := 1), b_s32, b_eq0, b_01, l0, l1, true_and, and_true, and_self, true_implies, false_implies, implies_true, forall_const, not_true_eq_false, not_false_eq_true, reduceIte, ite_true, ite_false, reduceCtorEq, forall_eq, Classical.not_not, true_or, or_true, false_or, or_false, and_false, false_and, Int.reduceEq, Int.reduceLT, Int.reduceLE, Int.reduceAdd, Int.reduceSub, Int.reduceMul, Int.reduceNeg]
        exact c_grace (d := d + 21) hS hT hk h0 hl cw f1 (h0.1.af f1 hT g1 l1' e1) (by omega) (fun V' r => fin01 (hQ V' r))
      · have cw' := nf cw
        have hs : pGrace pk p = noC (pW pk [103, 114, 97, 99, 101, 32] p).2 := by unfold pGrace; rw [cw']; rfl
        rw [hs] at hQ
        rw [if_neg cw]
        have := CLP.fail rfl f1 g1 hQ
        simp (disch := omega) only [s32_id (x := 0), this, b_s32, b_eq0, b_01, l0, l1, true_and, and_true, and_self, true_implies, false_implies, implies_true, forall_const, not_true_eq_false, not_false_eq_true, reduceIte, ite_true, ite_false, reduceCtorEq, forall_eq, Classical.not_not, true_or, or_true, false_or, or_false, and_false, false_and, Int.reduceEq, Int.reduceLT, Int.reduceLE, Int.reduceAdd, Int.reduceSub, Int.reduceMul, Int.reduceNeg]
    · by_cases c3 : pk p = 114
      · have hv2 : pC pk p = pRun pk p := by unfold pC; rw [if_neg c1, if_neg c2, if_pos c3]
        rw [hv2] at hQ
        simp only [c3, hS.k104, b_s32, b_eq0, b_01, l0, l1, true_and, and_true, and_self, true_implies, false_implies, implies_true, forall_const, not_true_eq_false, not_false_eq_true, reduceIte, ite_true, ite_false, reduceCtorEq, forall_eq, Classical.not_not, true_or, or_true, false_or, or_false, and_false, false_and, Int.reduceEq, Int.reduceLT, Int.reduceLE, Int.reduceAdd, Int.reduceSub, Int.reduceMul, Int.reduceNeg]
        refine c_word (d := d + 24) (l := [114, 117, 110, 32]) hS hS.km6 (by rw [hS.nm6]; rfl) (by decide) (by omega) hR hp p0 p1 (w_run hV) (by decide) (fun V1 f1 g1 l1' e1 k1 => ?_)
        by_cases cw : (pW pk [114, 117, 110, 32] p).1 = true
        · have k1 : p + 4 ≤ (pW pk [114, 117, 110, 32] p).2 := k1 cw
          rw [if_pos cw]
          simp (disch := omega) only [s32_id (x := 1), b_s32, b_eq0, b_01, l0, l1, true_and, and_true, and_self, true_implies, false_implies, implies_true, forall_const, not_true_eq_false, not_false_eq_true, reduceIte, ite_true, ite_false, reduceCtorEq, forall_eq, Classical.not_not, true_or, or_true, false_or, or_false, and_false, false_and, Int.reduceEq, Int.reduceLT, Int.reduceLE, Int.reduceAdd, Int.reduceSub, Int.reduceMul, Int.reduceNeg]
          exact c_run (d := d + 21) hS hT hk h0 hl cw f1 (h0.1.af f1 hT g1 l1' e1) (by omega) (fun V' r => fin01 (hQ V' r))
        · have cw' := nf cw
          have hs : pRun pk p = noC (pW pk [114, 117, 110, 32] p).2 := by unfold pRun; rw [cw']; rfl
          rw [hs] at hQ
          rw [if_neg cw]
          have := CLP.fail rfl f1 g1 hQ
          simp (disch := omega) only [s32_id (x := 0), this, b_s32, b_eq0, b_01, l0, l1, true_and, and_true, and_self, true_implies, false_implies, implies_true, forall_const, not_true_eq_false, not_false_eq_true, reduceIte, ite_true, ite_false, reduceCtorEq, forall_eq, Classical.not_not, true_or, or_true, false_or, or_false, and_false, false_and, Int.reduceEq, Int.reduceLT, Int.reduceLE, Int.reduceAdd, Int.reduceSub, Int.reduceMul, Int.reduceNeg]
      · by_cases c4 : pk p = 102
        · have hv2 : pC pk p = pTests pk [102, 101, 116, 99, 104, 32] 3 p := by unfold pC; rw [if_neg c1, if_neg c2, if_neg c3, if_pos c4]
          rw [hv2] at hQ
          simp only [c4, hS.k104, b_s32, b_eq0, b_01, l0, l1, true_and, and_true, and_self, true_implies, false_implies, implies_true, forall_const, not_true_eq_false, not_false_eq_true, reduceIte, ite_true, ite_false, reduceCtorEq, forall_eq, Classical.not_not, true_or, or_true, false_or, or_false, and_false, false_and, Int.reduceEq, Int.reduceLT, Int.reduceLE, Int.reduceAdd, Int.reduceSub, Int.reduceMul, Int.reduceNeg]
          refine c_word (d := d + 24) (l := [102, 101, 116, 99, 104, 32]) hS hS.km7 (by rw [hS.nm7]; rfl) (by decide) (by omega) hR hp p0 p1 (w_fetch hV) (by decide) (fun V1 f1 g1 l1' e1 k1 => ?_)
          by_cases cw : (pW pk [102, 101, 116, 99, 104, 32] p).1 = true
          · have k1 : p + 6 ≤ (pW pk [102, 101, 116, 99, 104, 32] p).2 := k1 cw
            rw [if_pos cw]
            simp (disch := omega) only [s32_id (x := 1), b_s32, b_eq0, b_01, l0, l1, true_and, and_true, and_self, true_implies, false_implies, implies_true, forall_const, not_true_eq_false, not_false_eq_true, reduceIte, ite_true, ite_false, reduceCtorEq, forall_eq, Classical.not_not, true_or, or_true, false_or, or_false, and_false, false_and, Int.reduceEq, Int.reduceLT, Int.reduceLE, Int.reduceAdd, Int.reduceSub, Int.reduceMul, Int.reduceNeg]
            exact c_tests (d := d) hS hT hk h0 hl (Or.inl rfl) cw f1 (h0.1.af f1 hT g1 l1' e1) (by omega) (fun V' r => fin01 (hQ V' r))
          · have cw' := nf cw
            have hs : pTests pk [102, 101, 116, 99, 104, 32] 3 p = noC (pW pk [102, 101, 116, 99, 104, 32] p).2 := by unfold pTests; rw [cw']; rfl
            rw [hs] at hQ
            rw [if_neg cw]
            have := CLP.fail rfl f1 g1 hQ
            simp (disch := omega) only [s32_id (x := 0), this, b_s32, b_eq0, b_01, l0, l1, true_and, and_true, and_self, true_implies, false_implies, implies_true, forall_const, not_true_eq_false, not_false_eq_true, reduceIte, ite_true, ite_false, reduceCtorEq, forall_eq, Classical.not_not, true_or, or_true, false_or, or_false, and_false, false_and, Int.reduceEq, Int.reduceLT, Int.reduceLE, Int.reduceAdd, Int.reduceSub, Int.reduceMul, Int.reduceNeg]
        · by_cases c5 : pk p = 111
          · have hv2 : pC pk p = pTests pk [111, 102, 102, 32] 4 p := by unfold pC; rw [if_neg c1, if_neg c2, if_neg c3, if_neg c4, if_pos c5]
            rw [hv2] at hQ
            simp only [c5, hS.k104, b_s32, b_eq0, b_01, l0, l1, true_and, and_true, and_self, true_implies, false_implies, implies_true, forall_const, not_true_eq_false, not_false_eq_true, reduceIte, ite_true, ite_false, reduceCtorEq, forall_eq, Classical.not_not, true_or, or_true, false_or, or_false, and_false, false_and, Int.reduceEq, Int.reduceLT, Int.reduceLE, Int.reduceAdd, Int.reduceSub, Int.reduceMul, Int.reduceNeg]
            refine c_word (d := d + 24) (l := [111, 102, 102, 32]) hS hS.km8 (by rw [hS.nm8]; rfl) (by decide) (by omega) hR hp p0 p1 (w_off hV) (by decide) (fun V1 f1 g1 l1' e1 k1 => ?_)
            by_cases cw : (pW pk [111, 102, 102, 32] p).1 = true
            · have k1 : p + 4 ≤ (pW pk [111, 102, 102, 32] p).2 := k1 cw
              rw [if_pos cw]
              simp (disch := omega) only [s32_id (x := 1), b_s32, b_eq0, b_01, l0, l1, true_and, and_true, and_self, true_implies, false_implies, implies_true, forall_const, not_true_eq_false, not_false_eq_true, reduceIte, ite_true, ite_false, reduceCtorEq, forall_eq, Classical.not_not, true_or, or_true, false_or, or_false, and_false, false_and, Int.reduceEq, Int.reduceLT, Int.reduceLE, Int.reduceAdd, Int.reduceSub, Int.reduceMul, Int.reduceNeg]
              exact c_tests (d := d) hS hT hk h0 hl (Or.inr rfl) cw f1 (h0.1.af f1 hT g1 l1' e1) (by omega) (fun V' r => fin01 (hQ V' r))
            · have cw' := nf cw
              have hs : pTests pk [111, 102, 102, 32] 4 p = noC (pW pk [111, 102, 102, 32] p).2 := by unfold pTests; rw [cw']; rfl
              rw [hs] at hQ
              rw [if_neg cw]
              have := CLP.fail rfl f1 g1 hQ
              simp (disch := omega) only [s32_id (x := 0), this, b_s32, b_eq0, b_01, l0, l1, true_and, and_true, and_self, true_implies, false_implies, implies_true, forall_const, not_true_eq_false, not_false_eq_true, reduceIte, ite_true, ite_false, reduceCtorEq, forall_eq, Classical.not_not, true_or, or_true, false_or, or_false, and_false, false_and, Int.reduceEq, Int.reduceLT, Int.reduceLE, Int.reduceAdd, Int.reduceSub, Int.reduceMul, Int.reduceNeg]
          · have hv2 : pC pk p = noC p := by unfold pC; rw [if_neg c1, if_neg c2, if_neg c3, if_neg c4, if_neg c5]
            rw [hv2] at hQ
            have hq := CLP.fail rfl AFR.rf hp hQ
            generalize pk p = z at c1 c2 c3 c4 c5 ⊢
            rcases (by omega : z = 104 ∨ z = 105 ∨ z = 106 ∨ z = 107 ∨ z = 108 ∨ z = 109 ∨ z = 110 ∨ z = 112 ∨ z = 113 ∨ (z ≠ 104 ∧ z ≠ 105 ∧ z ≠ 106 ∧ z ≠ 107 ∧ z ≠ 108 ∧ z ≠ 109 ∧ z ≠ 110 ∧ z ≠ 112 ∧ z ≠ 113)) with h | h | h | h | h | h | h | h | h | ⟨h1, h2, h3, h4, h5, h6, h7, h8, h9⟩
            all_goals first | (subst h; simp only [hS.k104, hq, b_s32, b_eq0, b_01, l0, l1, true_and, and_true, and_self, true_implies, false_implies, implies_true, forall_const, not_true_eq_false, not_false_eq_true, reduceIte, ite_true, ite_false, reduceCtorEq, forall_eq, Classical.not_not, true_or, or_true, false_or, or_false, and_false, false_and, Int.reduceEq, Int.reduceLT, Int.reduceLE, Int.reduceAdd, Int.reduceSub, Int.reduceMul, Int.reduceNeg]; done) | simp only [hS.k104, c1, c2, c3, c4, c5, h1, h2, h3, h4, h5, h6, h7, h8, h9, hq, b_s32, b_eq0, b_01, l0, l1, true_and, and_true, and_self, true_implies, false_implies, implies_true, forall_const, not_true_eq_false, not_false_eq_true, reduceIte, ite_true, ite_false, reduceCtorEq, forall_eq, Classical.not_not, true_or, or_true, false_or, or_false, and_false, false_and, Int.reduceEq, Int.reduceLT, Int.reduceLE, Int.reduceAdd, Int.reduceSub, Int.reduceMul, Int.reduceNeg]
def XCP (pk : Int → Int) (n T : Int) (r : Bool × Int × List CL) (V V' : Mem) : Prop := YFR T V V' ∧ V' 104 2 = r.2.1 ∧ (r.1 = true → YST pk n T V' n r.2.2)
def pRt (pk : Int → Int) (n : Int) (k : Nat) (p : Int) (cs c0 : List CL) : Bool × Int × List CL := if p = n then (true, n, cs) else if k = 0 then (false, p, c0) else if pk p = 59 then pX pk n k (p + 1) cs else (false, p, c0)
theorem pX_rt (pk : Int → Int) (n : Int) (k : Nat) (p : Int) (cs : List CL) : pX pk n (k + 1) p cs = bif (pC pk p).1 then pRt pk n k (pC pk p).2.1 (cs ++ [(pC pk p).2.2]) cs else (false, (pC pk p).2.1, cs) := rfl
theorem ri_bad {g : Cnt} {j : Int} (hS : FS S) (j0 : 0 ≤ j) (j1 : j ≤ 8) (hQ : Q (V 104 2) (up2 V 104 1 0) S) : K_Reader_readInto d Q (17, [(2, 104), (2, T), (0, 0), (0, j)], [], V, S, g) := by
  rw [L_Reader_readInto_17]
  by_cases c : j < 8
  · simp (disch := omega) only [s32_id (x := j), s32_id (x := 8), s32_id (x := 0), c, hS.k104, up2_ne, hQ, b_s32, b_eq0, b_01, l0, l1, true_and, and_true, and_self, true_implies, false_implies, implies_true, forall_const, not_true_eq_false, not_false_eq_true, reduceIte, ite_true, ite_false, reduceCtorEq, forall_eq, Classical.not_not, true_or, or_true, false_or, or_false, and_false, false_and, Int.reduceEq, Int.reduceLT, Int.reduceLE, Int.reduceAdd, Int.reduceSub, Int.reduceMul, Int.reduceNeg]
  · simp (disch := omega) only [s32_id (x := j), s32_id (x := 8), s32_id (x := 0), c, hS.k104, up2_ne, hQ, b_s32, b_eq0, b_01, l0, l1, true_and, and_true, and_self, true_implies, false_implies, implies_true, forall_const, not_true_eq_false, not_false_eq_true, reduceIte, ite_true, ite_false, reduceCtorEq, forall_eq, Classical.not_not, true_or, or_true, false_or, or_false, and_false, false_and, Int.reduceEq, Int.reduceLT, Int.reduceLE, Int.reduceAdd, Int.reduceSub, Int.reduceMul, Int.reduceNeg]
theorem ri_end {g : Cnt} {j : Int} (hS : FS S) (j0 : 0 ≤ j) (j1 : j ≤ 8) (hn : V 104 1 = n) (hp : V 104 2 = n) (n0 : 0 ≤ n) (n1 : n ≤ 100) (hQ : Q (-1) (up2 V 104 1 0) S) : K_Reader_readInto d Q (17, [(2, 104), (2, T), (0, 1), (0, j)], [], V, S, g) := by
  have sn : s32 n = n := s32_id (by omega) (by omega)
  rw [L_Reader_readInto_17]
  by_cases c : j < 8
  · simp (disch := omega) only [s32_id (x := j), s32_id (x := 8), s32_id (x := 1), c, hS.k104, hn, hp, sn, Int.lt_irrefl, hQ, b_s32, b_eq0, b_01, l0, l1, true_and, and_true, and_self, true_implies, false_implies, implies_true, forall_const, not_true_eq_false, not_false_eq_true, reduceIte, ite_true, ite_false, reduceCtorEq, forall_eq, Classical.not_not, true_or, or_true, false_or, or_false, and_false, false_and, Int.reduceEq, Int.reduceLT, Int.reduceLE, Int.reduceAdd, Int.reduceSub, Int.reduceMul, Int.reduceNeg]
  · simp (disch := omega) only [s32_id (x := j), s32_id (x := 8), s32_id (x := 1), c, hS.k104, hn, hp, sn, hQ, b_s32, b_eq0, b_01, l0, l1, true_and, and_true, and_self, true_implies, false_implies, implies_true, forall_const, not_true_eq_false, not_false_eq_true, reduceIte, ite_true, ite_false, reduceCtorEq, forall_eq, Classical.not_not, true_or, or_true, false_or, or_false, and_false, false_and, Int.reduceEq, Int.reduceLT, Int.reduceLE, Int.reduceAdd, Int.reduceSub, Int.reduceMul, Int.reduceNeg]
theorem ri_full {g : Cnt} (hS : FS S) (hn : V 104 1 = n) (hp : V 104 2 = p) (p0 : 0 ≤ p) (pn : p < n) (n1 : n ≤ 100) (hQ : Q p (up2 V 104 1 0) S) : K_Reader_readInto d Q (17, [(2, 104), (2, T), (0, 1), (0, 8)], [], V, S, g) := by
  have sn : s32 n = n := s32_id (by omega) (by omega)
  have sp : s32 p = p := s32_id (by omega) (by omega)
  have ne : ¬ p = n := by omega
  rw [L_Reader_readInto_17]
  simp (disch := omega) only [s32_id (x := 8), s32_id (x := 1), s32_id (x := 0), Int.lt_irrefl, hS.k104, hn, hp, sn, sp, ne, up2_ne, hQ, b_s32, b_eq0, b_01, l0, l1, true_and, and_true, and_self, true_implies, false_implies, implies_true, forall_const, not_true_eq_false, not_false_eq_true, reduceIte, ite_true, ite_false, reduceCtorEq, forall_eq, Classical.not_not, true_or, or_true, false_or, or_false, and_false, false_and, Int.reduceEq, Int.reduceLT, Int.reduceLE, Int.reduceAdd, Int.reduceSub, Int.reduceMul, Int.reduceNeg]
theorem ri_go {g : Cnt} {j : Int} (hS : FS S) (j0 : 0 ≤ j) (j1 : j < 8) (hn : V 104 1 = n) (hp : V 104 2 = p) (p0 : 0 ≤ p) (pn : p < n) (n1 : n ≤ 100) (h : C_Reader_skip d 104 59 V S (fun r1 V1 S1 => ((s32 r1 = 0 → K_Reader_readInto d Q (17, [(2, 104), (2, T), (0, 0), (0, j + 1)], [], V1, S1, g)) ∧ (¬ s32 r1 = 0 → (C_Reader_readClause d 104 T V1 S1 (fun r2 V2 S2 => ((s32 r2 = 0 → K_Reader_readInto d Q (17, [(2, 104), (2, T), (0, 0), (0, j + 1)], [], V2, S2, g)) ∧ (¬ s32 r2 = 0 → K_Reader_readInto d Q (17, [(2, 104), (2, T), (0, 1), (0, j + 1)], [], V2, S2, g))))))))) : K_Reader_readInto d Q (17, [(2, 104), (2, T), (0, 1), (0, j)], [], V, S, g) := by
  have sn : s32 n = n := s32_id (by omega) (by omega)
  have sp : s32 p = p := s32_id (by omega) (by omega)
  have s1 : ¬ (1 : Int) = 0 := by omega
  have sj : s32 j = j := s32_id (by omega) (by omega)
  have s8 : s32 8 = 8 := s32_id (by omega) (by omega)
  rw [L_Reader_readInto_17]
  refine ⟨fun _ => ⟨fun q => absurd q (by rw [l1]; omega), fun _ => ⟨hS.k104, hS.k104, fun _ => h, fun q => absurd (show s32 (V 104 2) < s32 (V 104 1) by rw [hn, hp, sn, sp]; exact pn) q⟩⟩, fun q => absurd (show s32 j < s32 8 by rw [sj, s8]; exact j1) q⟩
/-- behind a clause -/
theorem c_rest (hS : FS S) (hT : TXa T) (hk : TXk T S) : ∀ (k : Nat) (p : Int) (V : Mem) (cs c0 : List CL) (g : Cnt), YST pk n T V p cs → YFR T V0 V → cs.length + k = 8 → (∀ V', XCP pk n T (pRt pk n k p cs c0) V0 V' → Q (if (pRt pk n k p cs c0).1 = true then -1 else (pRt pk n k p cs c0).2.1) (up2 V' 104 1 0) S) → K_Reader_readInto (d + 28) Q (17, [(2, 104), (2, T), (0, 1), (0, (cs.length : Int))], [], V, S, g) := by
  obtain ⟨t1, t2, t3⟩ := id hT
  intro k
  induction k with
  | zero =>
    intro p V cs c0 g h hX hl hQ
    obtain ⟨hR, hv, ⟨hp, q0, q1⟩, -⟩ := id h.1
    have hn := hR.2.1
    by_cases c2 : p = n
    · have hv : pRt pk n 0 p cs c0 = (true, n, cs) := by unfold pRt; rw [if_pos c2]
      rw [hv] at hQ
      exact ri_end (n := n) hS (by omega) (by omega) hn.1 (hp.trans c2) (by omega) (by omega) (hQ V ⟨hX, hp.trans c2, fun _ => c2 ▸ h⟩)
    · have hv : pRt pk n 0 p cs c0 = (false, p, c0) := by unfold pRt; rw [if_neg c2, if_pos rfl]
      rw [hv] at hQ
      rw [show (cs.length : Int) = 8 from by omega]
      exact ri_full (n := n) (p := p) hS hn.1 hp q0 (by omega) (by omega) (hQ V ⟨hX, hp, fun q => by cases q⟩)
  | succ k ih =>
    intro p V cs c0 g h hX hl hQ
    obtain ⟨hR, hv, ⟨hp, q0, q1⟩, -⟩ := id h.1
    have hn := hR.2.1
    by_cases c2 : p = n
    · have hv : pRt pk n (k + 1) p cs c0 = (true, n, cs) := by unfold pRt; rw [if_pos c2]
      rw [hv] at hQ
      exact ri_end (n := n) hS (by omega) (by omega) hn.1 (hp.trans c2) (by omega) (by omega) (hQ V ⟨hX, hp.trans c2, fun _ => c2 ▸ h⟩)
    · have hv : pRt pk n (k + 1) p cs c0 = if pk p = 59 then pX pk n (k + 1) (p + 1) cs else (false, p, c0) := by unfold pRt; rw [if_neg c2, if_neg (Nat.succ_ne_zero k)]
      rw [hv] at hQ
      refine ri_go (n := n) (p := p) hS (by omega) (by omega) hn.1 hp q0 (by omega) (by omega) ?_
      rw [c_skip (d := d + 26) (c := 59) hS hR hp q0 q1 (by omega) (by omega)]
      by_cases c3 : pk p = 59
      · rw [if_pos c3] at hQ ⊢
        have ln := hR.lt (p := p) (by omega)
        have f1 : AFR V (up2 V 104 2 (p + 1)) := AFR.rf.up
        have y2 : YST pk n T (up2 V 104 2 (p + 1)) (p + 1) cs := by
          refine ⟨h.1.af f1 hT (up2_eq rfl rfl) (by omega) (by omega), (f1 _ _ (by omega)).trans h.2.1, fun i hi => ?_⟩
          have := h.2.2 i hi
          unfold CLTx at this ⊢
          simp (disch := omega) only [up2_ne]
          exact this
        have hX2 : YFR T V0 (up2 V 104 2 (p + 1)) := hX.tr f1.xf.yf
        generalize up2 V 104 2 (p + 1) = V1 at y2 hX2 ⊢
        refine ⟨fun q => absurd q (by rw [l1]; omega), fun _ => ?_⟩
        refine c_clause hS hT hk y2 (by omega) (fun V2 r1 => ?_)
        obtain ⟨b1, b2, b3⟩ := r1
        rw [pX_rt] at hQ
        by_cases c1 : (pC pk (p + 1)).1 = true
        · obtain ⟨y3, lt1⟩ := b3 c1
          rw [if_pos c1]
          rw [c1] at hQ
          refine ⟨fun q => absurd q (by rw [l1]; omega), fun _ => ?_⟩
          have hl2 : (((cs ++ [(pC pk (p + 1)).2.2]).length : Nat) : Int) = (cs.length : Int) + 1 := by rw [List.length_append]; show ((cs.length + 1 : Nat) : Int) = _; omega
          have := ih (pC pk (p + 1)).2.1 V2 (cs ++ [(pC pk (p + 1)).2.2]) cs g y3 (hX2.tr b1) (by rw [List.length_append]; show cs.length + 1 + k = 8; omega) hQ
          rw [hl2] at this
          exact this
        · have c1' := nf c1
          rw [if_neg c1]
          rw [c1'] at hQ
          refine ⟨fun _ => ?_, fun q => absurd l0 q⟩
          refine ri_bad hS (by omega) (by omega) ?_
          have := hQ V2 ⟨hX2.tr b1, b2, fun q => by cases q⟩
          rw [b2]
          exact this
      · rw [if_neg c3] at hQ ⊢
        refine ⟨fun _ => ?_, fun q => absurd l0 q⟩
        refine ri_bad hS (by omega) (by omega) ?_
        have := hQ V ⟨hX, hp, fun q => by cases q⟩
        rw [hp]
        exact this
/-- the reading of THE TEXT -/
theorem c_readInto0 (hS : FS S) (hT : TXa T) (hk : TXk T S) (hR : RS pk n V) (hv : TXv T V) (hQ : ∀ V', (∀ a k, ¬ YFf T a k → ¬ (a = 104 ∧ k = 1) → V' a k = V a k) → V' 104 1 = 0 → ((pX pk n 8 0 []).1 = true → V' T 1 = ((pX pk n 8 0 []).2.2.length : Int) ∧ ∀ (i : Nat) (hi : i < (pX pk n 8 0 []).2.2.length), CLTx V' T (i : Int) (pX pk n 8 0 []).2.2[i]) → Q (if (pX pk n 8 0 []).1 = true then -1 else (pX pk n 8 0 []).2.1) V' S) : C_Reader_readInto (d + 29) 104 T V S Q := by
  obtain ⟨t1, t2, t3⟩ := id hT
  have hn := hR.2.1
  rw [I_Reader_readInto, hS.k104]
  simp (disch := omega) only [I_Text_clear, hk.1, hS.k104, b_s32, b_eq0, b_01, l0, l1, true_and, and_true, and_self, true_implies, false_implies, implies_true, forall_const, not_true_eq_false, not_false_eq_true, reduceIte, ite_true, ite_false, reduceCtorEq, forall_eq, Classical.not_not, true_or, or_true, false_or, or_false, and_false, false_and, Int.reduceEq, Int.reduceLT, Int.reduceLE, Int.reduceAdd, Int.reduceSub, Int.reduceMul, Int.reduceNeg]
  have hX : YFR T V (up2 (up2 (up2 V T 1 0) T 6 0) 104 2 0) := ((YFR.rf.up (by unfold YFf; omega)).up (by unfold YFf; omega)).up (by unfold YFf; omega)
  generalize hV1 : up2 (up2 (up2 V T 1 0) T 6 0) 104 2 0 = V1 at hX
  have F : ∀ x y, ¬ (x = T ∧ (y = 1 ∨ y = 6)) → ¬ (x = 104 ∧ y = 2) → V1 x y = V x y := by
    intro x y n1 n2
    subst hV1
    simp (disch := omega) only [up2_ne]
  have N : V1 T 1 = 0 ∧ V1 T 6 = 0 ∧ V1 104 2 = 0 := by
    subst hV1
    simp (disch := omega) only [up2_ne, up2_eq, b_s32, b_eq0, b_01, l0, l1, true_and, and_true, and_self, true_implies, false_implies, implies_true, forall_const, not_true_eq_false, not_false_eq_true, reduceIte, ite_true, ite_false, reduceCtorEq, forall_eq, Classical.not_not, true_or, or_true, false_or, or_false, and_false, false_and, Int.reduceEq, Int.reduceLT, Int.reduceLE, Int.reduceAdd, Int.reduceSub, Int.reduceMul, Int.reduceNeg]
  have y0 : YST pk n T V1 0 [] := by
    obtain ⟨r1, ⟨r2, r2'⟩, r3, r4⟩ := hR
    obtain ⟨v1, v2, v3, v4⟩ := hv
    exact ⟨⟨⟨r1.fr (fun a k q => F a k (by unfold VD at q; omega) (by unfold VD at q; omega)), ⟨(F _ _ (by omega) (by omega)).trans r2, r2'⟩, fun p p0 p1 => (F _ _ (by omega) (by omega)).trans (r3 p p0 p1), r4⟩, ⟨(F _ _ (by omega) (by omega)).trans v1, (F _ _ (by omega) (by omega)).trans v2, (F _ _ (by omega) (by omega)).trans v3, (F _ _ (by omega) (by omega)).trans v4⟩, ⟨N.2.2, by omega, by omega⟩, by omega, by omega⟩, N.1, fun i hi => absurd hi (Nat.not_lt_zero i)⟩
  refine c_clause (d := d) hS hT hk y0 (Nat.zero_lt_succ _) (fun V2 r1 => ?_)
  obtain ⟨b1, b2, b3⟩ := r1
  rw [show (8 : Nat) = 7 + 1 from rfl, pX_rt, List.nil_append] at hQ
  have fin : ∀ (V' : Mem) (r : Bool × Int × List CL), XCP pk n T r V V' → (∀ V', (∀ a k, ¬ YFf T a k → ¬ (a = 104 ∧ k = 1) → V' a k = V a k) → V' 104 1 = 0 → (r.1 = true → V' T 1 = (r.2.2.length : Int) ∧ ∀ (i : Nat) (hi : i < r.2.2.length), CLTx V' T (i : Int) r.2.2[i]) → Q (if r.1 = true then -1 else r.2.1) V' S) → Q (if r.1 = true then -1 else r.2.1) (up2 V' 104 1 0) S := by
    intro V' r hr hQ
    obtain ⟨b1, b2, b3⟩ := hr
    exact hQ (up2 V' 104 1 0) (fun a k h1 h2 => by rw [up2_ne (by omega)]; exact b1 a k h1) (up2_eq rfl rfl) (fun q => by
      obtain ⟨-, z1, z2⟩ := b3 q
      refine ⟨by rw [up2_ne (by omega)]; exact z1, fun i hi => ?_⟩
      have := (z2 i hi).1
      unfold CLTx at this ⊢
      simp (disch := omega) only [up2_ne]
      exact this)
  by_cases c1 : (pC pk 0).1 = true
  · obtain ⟨y1, lt1⟩ := b3 c1
    rw [if_pos c1]
    rw [c1] at hQ
    exact c_rest (d := d) (V0 := V) (Q := Q) hS hT hk 7 (pC pk 0).2.1 V2 [(pC pk 0).2.2] [] (0, 0) y1 (hX.tr b1) rfl (fun V' r => fin V' _ r hQ)
  · have c1' := nf c1
    rw [if_neg c1]
    rw [c1'] at hQ
    refine ri_bad hS (by omega) (by omega) ?_
    have := fin V2 (false, (pC pk 0).2.1, []) ⟨hX.tr b1, b2, fun q => by cases q⟩ hQ
    rw [b2]
    exact this
theorem c_readInto (hS : FS S) (hT : TXa T) (hk : TXk T S) (hR : RS pk n V) (hv : TXv T V) (hQ : ∀ V', (∀ a k, ¬ YFf T a k → ¬ (a = 104 ∧ k = 1) → V' a k = V a k) → V' 104 1 = 0 → ((pX pk n 8 0 []).1 = true → V' T 1 = ((pX pk n 8 0 []).2.2.length : Int) ∧ ∀ (i : Nat) (hi : i < (pX pk n 8 0 []).2.2.length), CLTx V' T (i : Int) (pX pk n 8 0 []).2.2[i]) → Q (if (pX pk n 8 0 []).1 = true then -1 else (pX pk n 8 0 []).2.1) V' S) : C_Reader_readInto (d + 30) 104 T V S Q :=
  c_readInto0 (d := d + 1) hS hT hk hR hv hQ
end CX
