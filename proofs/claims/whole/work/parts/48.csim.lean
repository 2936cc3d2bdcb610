/-! the component's reading of tests follows the grammar -/
section CS
variable {d : Nat} {n p q c x T o : Int} {pk : Int → Int} {V V' V2 V0 : Mem} {S : Shp} {Q : Int → Mem → Shp → Prop} {U : Mem → Shp → Prop} {L L1 L2 : List Int}
def CF (d : Nat) (pk : Int → Int) (n T : Int) (S : Shp) (k : Nat) : Prop := ∀ (p : Int) (V : Mem) (Q : Int → Mem → Shp → Prop), CSTT pk n T V p → (∀ V', CP pk n T (pF pk k p) p V V' → Q (if (pF pk k p).1 = true then 1 else 0) V' S) → C_Reader_readOne d 104 T (4 - (k : Int)) V S Q
theorem CSTT.af (h : CSTT pk n T V p) (f : AFR V V') (hT : TXa T) (hq : V' 104 2 = q) (hq1 : p ≤ q) (hq2 : q ≤ n) : CSTT pk n T V' q := by
  obtain ⟨hR, hv, ⟨hp, p0, p1⟩, ⟨s0, s1⟩⟩ := id h
  obtain ⟨t1, t2, t3⟩ := id hT
  have e : V' T 6 = V T 6 := f _ _ (by omega)
  exact ⟨hR.af f, hv.xf hT f.xf, ⟨hq, by omega, hq2⟩, by omega, by omega⟩
theorem c_Tl (hS : FS S) (hT : TXa T) (hk : TXk T S) {k : Nat} (hF : CF (d + 2) pk n T S k) {g : Cnt} {p0 : Int} : ∀ (N : Nat) (i p : Int) (V : Mem) (L : List Int), (N : Int) + i = 100 → 0 ≤ i → CSTT pk n T V p → XFR T V0 V → APP T V0 V L → (L.length : Int) ≤ p - p0 → p0 < p → (∀ V', CP pk n T (pLoop pk 38 (-2) (pF pk k) N p L) p0 V0 V' → Q (if (pLoop pk 38 (-2) (pF pk k) N p L).1 = true then 1 else 0) V' S) → K_Reader_readAll (d + 2) Q (13, [(2, 104), (2, T), (0, 4 - (k : Int)), (0, i)], [], V, S, g) := by
  obtain ⟨t1, t2, t3⟩ := id hT
  intro N
  induction N with
  | zero =>
    intro i p V L hN i0 h hX hA hl hp0 hQ
    have := hQ V ⟨hX, h.2.2.1.1, fun _ => ⟨hA, h, hl, hp0⟩⟩
    have this : Q 1 V S := this
    rw [L_Reader_readAll_13]
    simp (disch := omega) only [s32_id, show ¬ i < 100 from by omega, this, b_s32, b_eq0, b_01, l0, l1, true_and, and_true, and_self, true_implies, false_implies, implies_true, forall_const, not_true_eq_false, not_false_eq_true, reduceIte, ite_true, ite_false, reduceCtorEq, forall_eq, Classical.not_not, true_or, or_true, false_or, or_false, and_false, false_and, Int.reduceEq, Int.reduceLT, Int.reduceLE, Int.reduceAdd, Int.reduceSub, Int.reduceMul, Int.reduceNeg]
  | succ N ih =>
    intro i p V L hN i0 h hX hA hl hp0 hQ
    obtain ⟨hR, hv, ⟨hp, p0', p1⟩, ⟨s0, s1⟩⟩ := id h
    have hn := hR.2.1.2
    rw [L_Reader_readAll_13]
    simp (disch := omega) only [s32_id (x := i), s32_id (x := 100), show i < 100 from by omega, b_s32, b_eq0, b_01, l0, l1, true_and, and_true, and_self, true_implies, false_implies, implies_true, forall_const, not_true_eq_false, not_false_eq_true, reduceIte, ite_true, ite_false, reduceCtorEq, forall_eq, Classical.not_not, true_or, or_true, false_or, or_false, and_false, false_and, Int.reduceEq, Int.reduceLT, Int.reduceLE, Int.reduceAdd, Int.reduceSub, Int.reduceMul, Int.reduceNeg]
    rw [c_skip (d := d) (c := 38) hS hR hp p0' p1 (by omega) (by omega)]
    by_cases e : pk p = 38
    · rw [if_pos e]
      have hlp : pLoop pk 38 (-2) (pF pk k) (N + 1) p L = bif (pF pk k (p + 1)).1 then pLoop pk 38 (-2) (pF pk k) N (pF pk k (p + 1)).2.1 (L ++ (pF pk k (p + 1)).2.2 ++ [-2]) else (false, (pF pk k (p + 1)).2.1, []) := by
        show (if pk p = 38 then _ else _) = _
        rw [if_pos e]
      have ln := hR.lt (p := p) (by omega)
      have f1 : AFR V (up2 V 104 2 (p + 1)) := AFR.rf.up
      have h1 := h.af f1 hT (up2_eq rfl rfl) (by omega) (show p + 1 ≤ n by omega)
      simp (disch := omega) only [s32_id (x := 1), b_s32, b_eq0, b_01, l0, l1, true_and, and_true, and_self, true_implies, false_implies, implies_true, forall_const, not_true_eq_false, not_false_eq_true, reduceIte, ite_true, ite_false, reduceCtorEq, forall_eq, Classical.not_not, true_or, or_true, false_or, or_false, and_false, false_and, Int.reduceEq, Int.reduceLT, Int.reduceLE, Int.reduceAdd, Int.reduceSub, Int.reduceMul, Int.reduceNeg]
      refine hF (p + 1) _ _ h1 (fun V2 r2 => ?_)
      obtain ⟨b1, b2, b3⟩ := r2
      by_cases c2 : (pF pk k (p + 1)).1 = true
      · obtain ⟨c3, c4, c5, c6⟩ := b3 c2
        rw [if_pos c2]
        rw [hlp, c2] at hQ
        simp (disch := omega) only [s32_id (x := 1), b_s32, b_eq0, b_01, l0, l1, true_and, and_true, and_self, true_implies, false_implies, implies_true, forall_const, not_true_eq_false, not_false_eq_true, reduceIte, ite_true, ite_false, reduceCtorEq, forall_eq, Classical.not_not, true_or, or_true, false_or, or_false, and_false, false_and, Int.reduceEq, Int.reduceLT, Int.reduceLE, Int.reduceAdd, Int.reduceSub, Int.reduceMul, Int.reduceNeg]
        have e6 : V2 T 6 = V T 6 + ((pF pk k (p + 1)).2.2.length : Int) := by rw [c3.1, f1 _ _ (by omega)]
        refine c_addStep (d := d + 1) hT hk c4.2.1 (by omega) (by have := c4.2.2.1.2.2; omega) (fun V3 d1 d2 d3 => ?_)
        have hA3 : APP T V0 V3 (L ++ (pF pk k (p + 1)).2.2 ++ [-2]) := ((hA.af f1 t1).app c3).app d2
        have hl3 : (((L ++ (pF pk k (p + 1)).2.2 ++ [-2]).length : Nat) : Int) = (L.length : Int) + ((pF pk k (p + 1)).2.2.length : Int) + 1 := by rw [List.length_append, List.length_append]; show ((L.length + (pF pk k (p + 1)).2.2.length + 1 : Nat) : Int) = _; omega
        have h3 : CSTT pk n T V3 (pF pk k (p + 1)).2.1 := ⟨c4.1.xf d1 t1 t2 t3, c4.2.1.xf hT d1, ⟨d3.trans b2, c4.2.2.1.2⟩, by rw [d2.1]; show 0 ≤ V2 T 6 + ((1 : Nat) : Int); omega, by rw [d2.1]; show V2 T 6 + ((1 : Nat) : Int) ≤ (pF pk k (p + 1)).2.1; omega⟩
        exact ih (i + 1) _ V3 _ (by omega) (by omega) h3 (((hX.tr f1.xf).tr b1).tr d1) hA3 (by rw [hl3]; omega) (by omega) hQ
      · have c2' := nf c2
        rw [hlp, c2'] at hQ
        rw [if_neg c2]
        have := hQ V2 ⟨(hX.tr f1.xf).tr b1, b2, fun q => by cases q⟩
        have this : Q 0 V2 S := by rw [if_neg (by simp)] at this; exact this
        simp (disch := omega) only [s32_id (x := 0), this, b_s32, b_eq0, b_01, l0, l1, true_and, and_true, and_self, true_implies, false_implies, implies_true, forall_const, not_true_eq_false, not_false_eq_true, reduceIte, ite_true, ite_false, reduceCtorEq, forall_eq, Classical.not_not, true_or, or_true, false_or, or_false, and_false, false_and, Int.reduceEq, Int.reduceLT, Int.reduceLE, Int.reduceAdd, Int.reduceSub, Int.reduceMul, Int.reduceNeg]
    · rw [if_neg e]
      have hlp : pLoop pk 38 (-2) (pF pk k) (N + 1) p L = (true, p, L) := by
        show (if pk p = 38 then _ else _) = _
        rw [if_neg e]
      rw [hlp] at hQ
      have := hQ V ⟨hX, hp, fun _ => ⟨hA, h, hl, hp0⟩⟩
      rw [if_pos rfl] at this
      simp (disch := omega) only [s32_id (x := 0), this, b_s32, b_eq0, b_01, l0, l1, true_and, and_true, and_self, true_implies, false_implies, implies_true, forall_const, not_true_eq_false, not_false_eq_true, reduceIte, ite_true, ite_false, reduceCtorEq, forall_eq, Classical.not_not, true_or, or_true, false_or, or_false, and_false, false_and, Int.reduceEq, Int.reduceLT, Int.reduceLE, Int.reduceAdd, Int.reduceSub, Int.reduceMul, Int.reduceNeg]
theorem c_T (hS : FS S) (hT : TXa T) (hk : TXk T S) {k : Nat} (hF : CF (d + 2) pk n T S k) (h : CSTT pk n T V p) (hQ : ∀ V', CP pk n T (pT pk (pF pk k) p) p V V' → Q (if (pT pk (pF pk k) p).1 = true then 1 else 0) V' S) : C_Reader_readAll (d + 3) 104 T (4 - (k : Int)) V S Q := by
  have hl : pT pk (pF pk k) p = bif (pF pk k p).1 then pLoop pk 38 (-2) (pF pk k) 100 (pF pk k p).2.1 (pF pk k p).2.2 else (false, (pF pk k p).2.1, []) := rfl
  rw [I_Reader_readAll, hS.k104]
  refine ⟨rfl, hF p V _ h (fun V2 r2 => ?_)⟩
  obtain ⟨b1, b2, b3⟩ := r2
  by_cases c2 : (pF pk k p).1 = true
  · obtain ⟨c3, c4, c5, c6⟩ := b3 c2
    rw [if_pos c2]
    rw [hl, c2] at hQ
    simp (disch := omega) only [s32_id (x := 1), b_s32, b_eq0, b_01, l0, l1, true_and, and_true, and_self, true_implies, false_implies, implies_true, forall_const, not_true_eq_false, not_false_eq_true, reduceIte, ite_true, ite_false, reduceCtorEq, forall_eq, Classical.not_not, true_or, or_true, false_or, or_false, and_false, false_and, Int.reduceEq, Int.reduceLT, Int.reduceLE, Int.reduceAdd, Int.reduceSub, Int.reduceMul, Int.reduceNeg]
    exact c_Tl hS hT hk hF 100 0 _ V2 _ (by omega) (by omega) c4 b1 c3 c5 c6 hQ
  · have c2' := nf c2
    rw [hl, c2'] at hQ
    rw [if_neg c2]
    have := hQ V2 ⟨b1, b2, fun q => by cases q⟩
    have this : Q 0 V2 S := by rw [if_neg (by simp)] at this; exact this
    simp (disch := omega) only [s32_id (x := 0), this, b_s32, b_eq0, b_01, l0, l1, true_and, and_true, and_self, true_implies, false_implies, implies_true, forall_const, not_true_eq_false, not_false_eq_true, reduceIte, ite_true, ite_false, reduceCtorEq, forall_eq, Classical.not_not, true_or, or_true, false_or, or_false, and_false, false_and, Int.reduceEq, Int.reduceLT, Int.reduceLE, Int.reduceAdd, Int.reduceSub, Int.reduceMul, Int.reduceNeg]
theorem c_El (hS : FS S) (hT : TXa T) (hk : TXk T S) {k : Nat} (hF : CF (d + 2) pk n T S k) {g : Cnt} {p0 : Int} : ∀ (N : Nat) (i p : Int) (V : Mem) (L : List Int), (N : Int) + i = 100 → 0 ≤ i → CSTT pk n T V p → XFR T V0 V → APP T V0 V L → (L.length : Int) ≤ p - p0 → p0 < p → (∀ V', CP pk n T (pLoop pk 124 (-3) (pT pk (pF pk k)) N p L) p0 V0 V' → Q (if (pLoop pk 124 (-3) (pT pk (pF pk k)) N p L).1 = true then 1 else 0) V' S) → K_Reader_readAny (d + 3) Q (13, [(2, 104), (2, T), (0, 4 - (k : Int)), (0, i)], [], V, S, g) := by
  obtain ⟨t1, t2, t3⟩ := id hT
  intro N
  induction N with
  | zero =>
    intro i p V L hN i0 h hX hA hl hp0 hQ
    have := hQ V ⟨hX, h.2.2.1.1, fun _ => ⟨hA, h, hl, hp0⟩⟩
    have this : Q 1 V S := this
    rw [L_Reader_readAny_13]
    simp (disch := omega) only [s32_id, show ¬ i < 100 from by omega, this, b_s32, b_eq0, b_01, l0, l1, true_and, and_true, and_self, true_implies, false_implies, implies_true, forall_const, not_true_eq_false, not_false_eq_true, reduceIte, ite_true, ite_false, reduceCtorEq, forall_eq, Classical.not_not, true_or, or_true, false_or, or_false, and_false, false_and, Int.reduceEq, Int.reduceLT, Int.reduceLE, Int.reduceAdd, Int.reduceSub, Int.reduceMul, Int.reduceNeg]
  | succ N ih =>
    intro i p V L hN i0 h hX hA hl hp0 hQ
    obtain ⟨hR, hv, ⟨hp, p0', p1⟩, ⟨s0, s1⟩⟩ := id h
    have hn := hR.2.1.2
    rw [L_Reader_readAny_13]
    simp (disch := omega) only [s32_id (x := i), s32_id (x := 100), show i < 100 from by omega, b_s32, b_eq0, b_01, l0, l1, true_and, and_true, and_self, true_implies, false_implies, implies_true, forall_const, not_true_eq_false, not_false_eq_true, reduceIte, ite_true, ite_false, reduceCtorEq, forall_eq, Classical.not_not, true_or, or_true, false_or, or_false, and_false, false_and, Int.reduceEq, Int.reduceLT, Int.reduceLE, Int.reduceAdd, Int.reduceSub, Int.reduceMul, Int.reduceNeg]
    rw [c_skip (d := d + 1) (c := 124) hS hR hp p0' p1 (by omega) (by omega)]
    by_cases e : pk p = 124
    · rw [if_pos e]
      have hlp : pLoop pk 124 (-3) (pT pk (pF pk k)) (N + 1) p L = bif (pT pk (pF pk k) (p + 1)).1 then pLoop pk 124 (-3) (pT pk (pF pk k)) N (pT pk (pF pk k) (p + 1)).2.1 (L ++ (pT pk (pF pk k) (p + 1)).2.2 ++ [-3]) else (false, (pT pk (pF pk k) (p + 1)).2.1, []) := by
        show (if pk p = 124 then _ else _) = _
        rw [if_pos e]
      have ln := hR.lt (p := p) (by omega)
      have f1 : AFR V (up2 V 104 2 (p + 1)) := AFR.rf.up
      have h1 := h.af f1 hT (up2_eq rfl rfl) (by omega) (show p + 1 ≤ n by omega)
      simp (disch := omega) only [s32_id (x := 1), b_s32, b_eq0, b_01, l0, l1, true_and, and_true, and_self, true_implies, false_implies, implies_true, forall_const, not_true_eq_false, not_false_eq_true, reduceIte, ite_true, ite_false, reduceCtorEq, forall_eq, Classical.not_not, true_or, or_true, false_or, or_false, and_false, false_and, Int.reduceEq, Int.reduceLT, Int.reduceLE, Int.reduceAdd, Int.reduceSub, Int.reduceMul, Int.reduceNeg]
      refine c_T hS hT hk hF h1 (fun V2 r2 => ?_)
      obtain ⟨b1, b2, b3⟩ := r2
      by_cases c2 : (pT pk (pF pk k) (p + 1)).1 = true
      · obtain ⟨c3, c4, c5, c6⟩ := b3 c2
        rw [if_pos c2]
        rw [hlp, c2] at hQ
        simp (disch := omega) only [s32_id (x := 1), b_s32, b_eq0, b_01, l0, l1, true_and, and_true, and_self, true_implies, false_implies, implies_true, forall_const, not_true_eq_false, not_false_eq_true, reduceIte, ite_true, ite_false, reduceCtorEq, forall_eq, Classical.not_not, true_or, or_true, false_or, or_false, and_false, false_and, Int.reduceEq, Int.reduceLT, Int.reduceLE, Int.reduceAdd, Int.reduceSub, Int.reduceMul, Int.reduceNeg]
        have e6 : V2 T 6 = V T 6 + ((pT pk (pF pk k) (p + 1)).2.2.length : Int) := by rw [c3.1, f1 _ _ (by omega)]
        refine c_addStep (d := d + 2) hT hk c4.2.1 (by omega) (by have := c4.2.2.1.2.2; omega) (fun V3 d1 d2 d3 => ?_)
        have hA3 : APP T V0 V3 (L ++ (pT pk (pF pk k) (p + 1)).2.2 ++ [-3]) := ((hA.af f1 t1).app c3).app d2
        have hl3 : (((L ++ (pT pk (pF pk k) (p + 1)).2.2 ++ [-3]).length : Nat) : Int) = (L.length : Int) + ((pT pk (pF pk k) (p + 1)).2.2.length : Int) + 1 := by rw [List.length_append, List.length_append]; show ((L.length + (pT pk (pF pk k) (p + 1)).2.2.length + 1 : Nat) : Int) = _; omega
        have h3 : CSTT pk n T V3 (pT pk (pF pk k) (p + 1)).2.1 := ⟨c4.1.xf d1 t1 t2 t3, c4.2.1.xf hT d1, ⟨d3.trans b2, c4.2.2.1.2⟩, by rw [d2.1]; show 0 ≤ V2 T 6 + ((1 : Nat) : Int); omega, by rw [d2.1]; show V2 T 6 + ((1 : Nat) : Int) ≤ (pT pk (pF pk k) (p + 1)).2.1; omega⟩
        exact ih (i + 1) _ V3 _ (by omega) (by omega) h3 (((hX.tr f1.xf).tr b1).tr d1) hA3 (by rw [hl3]; omega) (by omega) hQ
      · have c2' := nf c2
        rw [hlp, c2'] at hQ
        rw [if_neg c2]
        have := hQ V2 ⟨(hX.tr f1.xf).tr b1, b2, fun q => by cases q⟩
        have this : Q 0 V2 S := by rw [if_neg (by simp)] at this; exact this
        simp (disch := omega) only [s32_id (x := 0), this, b_s32, b_eq0, b_01, l0, l1, true_and, and_true, and_self, true_implies, false_implies, implies_true, forall_const, not_true_eq_false, not_false_eq_true, reduceIte, ite_true, ite_false, reduceCtorEq, forall_eq, Classical.not_not, true_or, or_true, false_or, or_false, and_false, false_and, Int.reduceEq, Int.reduceLT, Int.reduceLE, Int.reduceAdd, Int.reduceSub, Int.reduceMul, Int.reduceNeg]
    · rw [if_neg e]
      have hlp : pLoop pk 124 (-3) (pT pk (pF pk k)) (N + 1) p L = (true, p, L) := by
        show (if pk p = 124 then _ else _) = _
        rw [if_neg e]
      rw [hlp] at hQ
      have := hQ V ⟨hX, hp, fun _ => ⟨hA, h, hl, hp0⟩⟩
      rw [if_pos rfl] at this
      simp (disch := omega) only [s32_id (x := 0), this, b_s32, b_eq0, b_01, l0, l1, true_and, and_true, and_self, true_implies, false_implies, implies_true, forall_const, not_true_eq_false, not_false_eq_true, reduceIte, ite_true, ite_false, reduceCtorEq, forall_eq, Classical.not_not, true_or, or_true, false_or, or_false, and_false, false_and, Int.reduceEq, Int.reduceLT, Int.reduceLE, Int.reduceAdd, Int.reduceSub, Int.reduceMul, Int.reduceNeg]
theorem c_E (hS : FS S) (hT : TXa T) (hk : TXk T S) {k : Nat} (hF : CF (d + 2) pk n T S k) (h : CSTT pk n T V p) (hQ : ∀ V', CP pk n T (pE pk (pF pk k) p) p V V' → Q (if (pE pk (pF pk k) p).1 = true then 1 else 0) V' S) : C_Reader_readAny (d + 4) 104 T (4 - (k : Int)) V S Q := by
  have hl : pE pk (pF pk k) p = bif (pT pk (pF pk k) p).1 then pLoop pk 124 (-3) (pT pk (pF pk k)) 100 (pT pk (pF pk k) p).2.1 (pT pk (pF pk k) p).2.2 else (false, (pT pk (pF pk k) p).2.1, []) := rfl
  rw [I_Reader_readAny, hS.k104]
  refine ⟨rfl, c_T hS hT hk hF h (fun V2 r2 => ?_)⟩
  obtain ⟨b1, b2, b3⟩ := r2
  by_cases c2 : (pT pk (pF pk k) p).1 = true
  · obtain ⟨c3, c4, c5, c6⟩ := b3 c2
    rw [if_pos c2]
    rw [hl, c2] at hQ
    simp (disch := omega) only [s32_id (x := 1), b_s32, b_eq0, b_01, l0, l1, true_and, and_true, and_self, true_implies, false_implies, implies_true, forall_const, not_true_eq_false, not_false_eq_true, reduceIte, ite_true, ite_false, reduceCtorEq, forall_eq, Classical.not_not, true_or, or_true, false_or, or_false, and_false, false_and, Int.reduceEq, Int.reduceLT, Int.reduceLE, Int.reduceAdd, Int.reduceSub, Int.reduceMul, Int.reduceNeg]
    exact c_El hS hT hk hF 100 0 _ V2 _ (by omega) (by omega) c4 b1 c3 c5 c6 hQ
  · have c2' := nf c2
    rw [hl, c2'] at hQ
    rw [if_neg c2]
    have := hQ V2 ⟨b1, b2, fun q => by cases q⟩
    have this : Q 0 V2 S := by rw [if_neg (by simp)] at this; exact this
    simp (disch := omega) only [s32_id (x := 0), this, b_s32, b_eq0, b_01, l0, l1, true_and, and_true, and_self, true_implies, false_implies, implies_true, forall_const, not_true_eq_false, not_false_eq_true, reduceIte, ite_true, ite_false, reduceCtorEq, forall_eq, Classical.not_not, true_or, or_true, false_or, or_false, and_false, false_and, Int.reduceEq, Int.reduceLT, Int.reduceLE, Int.reduceAdd, Int.reduceSub, Int.reduceMul, Int.reduceNeg]
theorem CF_all (hS : FS S) (hT : TXa T) (hk : TXk T S) : ∀ (k : Nat) (d : Nat), k ≤ 4 → CF (d + 4 * k + 8) pk n T S k := by
  obtain ⟨t1, t2, t3⟩ := id hT
  intro k
  induction k with
  | zero =>
    intro d hk4 p V Q h hQ
    rw [I_Reader_readOne]
    simp (disch := omega) only [hS.k104, s32_id, show ¬ (4 : Int) - ((0 : Nat) : Int) < 4 from by omega, b_s32, b_eq0, b_01, l0, l1, true_and, and_true, and_self, true_implies, false_implies, implies_true, forall_const, not_true_eq_false, not_false_eq_true, reduceIte, ite_true, ite_false, reduceCtorEq, forall_eq, Classical.not_not, true_or, or_true, false_or, or_false, and_false, false_and, Int.reduceEq, Int.reduceLT, Int.reduceLE, Int.reduceAdd, Int.reduceSub, Int.reduceMul, Int.reduceNeg]
    refine c_test (d := d + 1) hS hT hk h (fun V' r => ?_)
    have := hQ V' r
    exact ⟨by split <;> decide, this⟩
  | succ k ih =>
    intro d hk4 p V Q h hQ
    obtain ⟨hR, hv, ⟨hp, p0, p1⟩, ⟨s0, s1⟩⟩ := id h
    have hn := hR.2.1.2
    have ek : (4 : Int) - ((k + 1 : Nat) : Int) = 4 - (k : Int) - 1 := by omega
    have ek2 : (4 : Int) - (k : Int) - 1 + 1 = 4 - (k : Int) := by omega
    rw [ek, show d + 4 * (k + 1) + 8 = (d + 4 * k + 8 + 3) + 1 from by omega, I_Reader_readOne]
    simp (disch := omega) only [hS.k104, s32_id (x := 4 - (k : Int) - 1), s32_id (x := 4), show (4 : Int) - (k : Int) - 1 < 4 from by omega, ek2, b_s32, b_eq0, b_01, l0, l1, true_and, and_true, and_self, true_implies, false_implies, implies_true, forall_const, not_true_eq_false, not_false_eq_true, reduceIte, ite_true, ite_false, reduceCtorEq, forall_eq, Classical.not_not, true_or, or_true, false_or, or_false, and_false, false_and, Int.reduceEq, Int.reduceLT, Int.reduceLE, Int.reduceAdd, Int.reduceSub, Int.reduceMul, Int.reduceNeg]
    rw [c_skip (d := d + 4 * k + 8 + 1) (c := 33) hS hR hp p0 p1 (by omega) (by omega)]
    by_cases e : pk p = 33
    · have hv2 : pF pk (k + 1) p = (bif (pF pk k (p + 1)).1 then (true, (pF pk k (p + 1)).2.1, (pF pk k (p + 1)).2.2 ++ [-1]) else (false, (pF pk k (p + 1)).2.1, [])) := by
        show (if pk p = 33 then _ else _) = _
        rw [if_pos e]
      rw [if_pos e]
      have ln := hR.lt (p := p) (by omega)
      have f1 : AFR V (up2 V 104 2 (p + 1)) := AFR.rf.up
      have h1 := h.af f1 hT (up2_eq rfl rfl) (by omega) (show p + 1 ≤ n by omega)
      have ihk := ih (d + 3) (by omega)
      rw [show d + 3 + 4 * k + 8 = d + 4 * k + 8 + 3 from by omega] at ihk
      simp (disch := omega) only [s32_id (x := 1), b_s32, b_eq0, b_01, l0, l1, true_and, and_true, and_self, true_implies, false_implies, implies_true, forall_const, not_true_eq_false, not_false_eq_true, reduceIte, ite_true, ite_false, reduceCtorEq, forall_eq, Classical.not_not, true_or, or_true, false_or, or_false, and_false, false_and, Int.reduceEq, Int.reduceLT, Int.reduceLE, Int.reduceAdd, Int.reduceSub, Int.reduceMul, Int.reduceNeg]
      refine ihk (p + 1) _ _ h1 (fun V2 r2 => ?_)
      obtain ⟨b1, b2, b3⟩ := r2
      by_cases c2 : (pF pk k (p + 1)).1 = true
      · obtain ⟨c3, c4, c5, c6⟩ := b3 c2
        rw [if_pos c2]
        rw [hv2, c2] at hQ
        simp (disch := omega) only [s32_id (x := 1), b_s32, b_eq0, b_01, l0, l1, true_and, and_true, and_self, true_implies, false_implies, implies_true, forall_const, not_true_eq_false, not_false_eq_true, reduceIte, ite_true, ite_false, reduceCtorEq, forall_eq, Classical.not_not, true_or, or_true, false_or, or_false, and_false, false_and, Int.reduceEq, Int.reduceLT, Int.reduceLE, Int.reduceAdd, Int.reduceSub, Int.reduceMul, Int.reduceNeg]
        have e6 : V2 T 6 = V T 6 + ((pF pk k (p + 1)).2.2.length : Int) := by rw [c3.1, f1 _ _ (by omega)]
        refine c_addStep (d := d + 4 * k + 8 + 2) hT hk c4.2.1 (by omega) (by have := c4.2.2.1.2.2; omega) (fun V3 d1 d2 d3 => ?_)
        have hA3 : APP T V V3 ((pF pk k (p + 1)).2.2 ++ [-1]) := by
          have := ((APP.nil.af f1 t1).app c3).app d2
          exact this
        have hl3 : ((((pF pk k (p + 1)).2.2 ++ [-1]).length : Nat) : Int) = ((pF pk k (p + 1)).2.2.length : Int) + 1 := by rw [List.length_append]; show (((pF pk k (p + 1)).2.2.length + 1 : Nat) : Int) = _; omega
        have h3 : CSTT pk n T V3 (pF pk k (p + 1)).2.1 := ⟨c4.1.xf d1 t1 t2 t3, c4.2.1.xf hT d1, ⟨d3.trans b2, c4.2.2.1.2⟩, by rw [d2.1]; show 0 ≤ V2 T 6 + ((1 : Nat) : Int); omega, by rw [d2.1]; show V2 T 6 + ((1 : Nat) : Int) ≤ (pF pk k (p + 1)).2.1; omega⟩
        have := hQ V3 ⟨(f1.xf.tr b1).tr d1, d3.trans b2, fun _ => ⟨hA3, h3, by show ((((pF pk k (p + 1)).2.2 ++ [-1]).length : Nat) : Int) ≤ (pF pk k (p + 1)).2.1 - p; rw [hl3]; omega, by show p < (pF pk k (p + 1)).2.1; omega⟩⟩
        exact this
      · have c2' := nf c2
        rw [hv2, c2'] at hQ
        rw [if_neg c2]
        have := hQ V2 ⟨f1.xf.tr b1, b2, fun q => by cases q⟩
        have this : Q 0 V2 S := by rw [if_neg (by simp)] at this; exact this
        simp (disch := omega) only [s32_id (x := 0), this, b_s32, b_eq0, b_01, l0, l1, true_and, and_true, and_self, true_implies, false_implies, implies_true, forall_const, not_true_eq_false, not_false_eq_true, reduceIte, ite_true, ite_false, reduceCtorEq, forall_eq, Classical.not_not, true_or, or_true, false_or, or_false, and_false, false_and, Int.reduceEq, Int.reduceLT, Int.reduceLE, Int.reduceAdd, Int.reduceSub, Int.reduceMul, Int.reduceNeg]
    · rw [if_neg e]
      simp (disch := omega) only [s32_id (x := 0), b_s32, b_eq0, b_01, l0, l1, true_and, and_true, and_self, true_implies, false_implies, implies_true, forall_const, not_true_eq_false, not_false_eq_true, reduceIte, ite_true, ite_false, reduceCtorEq, forall_eq, Classical.not_not, true_or, or_true, false_or, or_false, and_false, false_and, Int.reduceEq, Int.reduceLT, Int.reduceLE, Int.reduceAdd, Int.reduceSub, Int.reduceMul, Int.reduceNeg]
      rw [c_skip (d := d + 4 * k + 8 + 1) (c := 40) hS hR hp p0 p1 (by omega) (by omega)]
      by_cases e2 : pk p = 40
      · have hv2 : pF pk (k + 1) p = (bif (pE pk (pF pk k) (p + 1)).1 then (if pk (pE pk (pF pk k) (p + 1)).2.1 = 41 then (true, (pE pk (pF pk k) (p + 1)).2.1 + 1, (pE pk (pF pk k) (p + 1)).2.2) else (false, (pE pk (pF pk k) (p + 1)).2.1, [])) else (false, (pE pk (pF pk k) (p + 1)).2.1, [])) := by
          show (if pk p = 33 then _ else if pk p = 40 then _ else _) = _
          rw [if_neg e, if_pos e2]
        rw [if_pos e2]
        have ln := hR.lt (p := p) (by omega)
        have f1 : AFR V (up2 V 104 2 (p + 1)) := AFR.rf.up
        have h1 := h.af f1 hT (up2_eq rfl rfl) (by omega) (show p + 1 ≤ n by omega)
        have ihk := ih (d + 1) (by omega)
        rw [show d + 1 + 4 * k + 8 = d + 4 * k + 7 + 2 from by omega] at ihk
        simp (disch := omega) only [s32_id (x := 1), b_s32, b_eq0, b_01, l0, l1, true_and, and_true, and_self, true_implies, false_implies, implies_true, forall_const, not_true_eq_false, not_false_eq_true, reduceIte, ite_true, ite_false, reduceCtorEq, forall_eq, Classical.not_not, true_or, or_true, false_or, or_false, and_false, false_and, Int.reduceEq, Int.reduceLT, Int.reduceLE, Int.reduceAdd, Int.reduceSub, Int.reduceMul, Int.reduceNeg]
        refine c_E (d := d + 4 * k + 7) hS hT hk ihk h1 (fun V2 r2 => ?_)
        obtain ⟨b1, b2, b3⟩ := r2
        by_cases c2 : (pE pk (pF pk k) (p + 1)).1 = true
        · obtain ⟨c3, c4, c5, c6⟩ := b3 c2
          rw [if_pos c2]
          simp (disch := omega) only [s32_id (x := 1), b_s32, b_eq0, b_01, l0, l1, true_and, and_true, and_self, true_implies, false_implies, implies_true, forall_const, not_true_eq_false, not_false_eq_true, reduceIte, ite_true, ite_false, reduceCtorEq, forall_eq, Classical.not_not, true_or, or_true, false_or, or_false, and_false, false_and, Int.reduceEq, Int.reduceLT, Int.reduceLE, Int.reduceAdd, Int.reduceSub, Int.reduceMul, Int.reduceNeg]
          rw [c_skip (d := d + 4 * k + 8 + 1) (c := 41) hS c4.1 c4.2.2.1.1 c4.2.2.1.2.1 c4.2.2.1.2.2 (by omega) (by omega)]
          by_cases e3 : pk (pE pk (pF pk k) (p + 1)).2.1 = 41
          · rw [if_pos e3]
            have ln3 := hR.lt (p := (pE pk (pF pk k) (p + 1)).2.1) (by omega)
            have f3 : AFR V2 (up2 V2 104 2 ((pE pk (pF pk k) (p + 1)).2.1 + 1)) := AFR.rf.up
            have h3 := c4.af f3 hT (up2_eq rfl rfl) (by omega) (show (pE pk (pF pk k) (p + 1)).2.1 + 1 ≤ n by omega)
            rw [hv2, c2, if_pos e3] at hQ
            have := hQ _ ⟨(f1.xf.tr b1).tr f3.xf, up2_eq rfl rfl, fun _ => ⟨((APP.nil.af f1 t1).app c3).af f3 t1, h3, by show ((pE pk (pF pk k) (p + 1)).2.2.length : Int) ≤ (pE pk (pF pk k) (p + 1)).2.1 + 1 - p; omega, by show p < (pE pk (pF pk k) (p + 1)).2.1 + 1; omega⟩⟩
            have this : Q 1 (up2 V2 104 2 ((pE pk (pF pk k) (p + 1)).2.1 + 1)) S := this
            simp (disch := omega) only [s32_id (x := 1), this, b_s32, b_eq0, b_01, l0, l1, true_and, and_true, and_self, true_implies, false_implies, implies_true, forall_const, not_true_eq_false, not_false_eq_true, reduceIte, ite_true, ite_false, reduceCtorEq, forall_eq, Classical.not_not, true_or, or_true, false_or, or_false, and_false, false_and, Int.reduceEq, Int.reduceLT, Int.reduceLE, Int.reduceAdd, Int.reduceSub, Int.reduceMul, Int.reduceNeg]
          · rw [if_neg e3]
            rw [hv2, c2, if_neg e3] at hQ
            have := hQ V2 ⟨f1.xf.tr b1, b2, fun q => by cases q⟩
            have this : Q 0 V2 S := by rw [if_neg (by simp)] at this; exact this
            simp (disch := omega) only [s32_id (x := 0), this, b_s32, b_eq0, b_01, l0, l1, true_and, and_true, and_self, true_implies, false_implies, implies_true, forall_const, not_true_eq_false, not_false_eq_true, reduceIte, ite_true, ite_false, reduceCtorEq, forall_eq, Classical.not_not, true_or, or_true, false_or, or_false, and_false, false_and, Int.reduceEq, Int.reduceLT, Int.reduceLE, Int.reduceAdd, Int.reduceSub, Int.reduceMul, Int.reduceNeg]
        · have c2' := nf c2
          rw [hv2, c2'] at hQ
          rw [if_neg c2]
          have := hQ V2 ⟨f1.xf.tr b1, b2, fun q => by cases q⟩
          have this : Q 0 V2 S := by rw [if_neg (by simp)] at this; exact this
          simp (disch := omega) only [s32_id (x := 0), this, b_s32, b_eq0, b_01, l0, l1, true_and, and_true, and_self, true_implies, false_implies, implies_true, forall_const, not_true_eq_false, not_false_eq_true, reduceIte, ite_true, ite_false, reduceCtorEq, forall_eq, Classical.not_not, true_or, or_true, false_or, or_false, and_false, false_and, Int.reduceEq, Int.reduceLT, Int.reduceLE, Int.reduceAdd, Int.reduceSub, Int.reduceMul, Int.reduceNeg]
      · have hv2 : pF pk (k + 1) p = pTest pk p := by
          show (if pk p = 33 then _ else if pk p = 40 then _ else _) = _
          rw [if_neg e, if_neg e2]
        rw [if_neg e2]
        rw [hv2] at hQ
        simp (disch := omega) only [s32_id (x := 0), b_s32, b_eq0, b_01, l0, l1, true_and, and_true, and_self, true_implies, false_implies, implies_true, forall_const, not_true_eq_false, not_false_eq_true, reduceIte, ite_true, ite_false, reduceCtorEq, forall_eq, Classical.not_not, true_or, or_true, false_or, or_false, and_false, false_and, Int.reduceEq, Int.reduceLT, Int.reduceLE, Int.reduceAdd, Int.reduceSub, Int.reduceMul, Int.reduceNeg]
        refine c_test (d := d + 4 * k + 8 - 3) hS hT hk h (fun V' r => ?_)
        exact ⟨by split <;> decide, hQ V' r⟩
end CS
