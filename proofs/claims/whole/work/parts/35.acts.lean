/-! commands: act -/
abbrev AR : Type := Int × List Int
def wB (A F i : Int) (V : Mem) (b : Int) : Mem := up2 (up2 V A (V F i) b) F i (V F i + 1)
def wW (A F i : Int) : Mem → List Int → Mem
  | V, [] => V
  | V, b :: r => wW A F i (wB A F i V b) r
theorem wW_app {A F i : Int} : ∀ (l r : List Int) (V : Mem), wW A F i V (l ++ r) = wW A F i (wW A F i V l) r
  | [], _, _ => rfl
  | b :: l, r, V => wW_app l r (wB A F i V b)
theorem wW_cons {A F i b : Int} {r : List Int} {V : Mem} : wW A F i V (b :: r) = wW A F i (wB A F i V b) r := rfl
theorem wW_nil {A F i : Int} {V : Mem} : wW A F i V [] = V := rfl
def fC (L D K x : Int) : AR := if K = 2 then (x * 5 + D, [30, 10]) else if K = 3 then (x * 5 + D, [30, 10]) else if K = 4 then (x - L + D, [50, 10]) else (x + D, [10])
def pO (L D K x : Int) : AR := ((fC L D K x).1 - L, 11 :: (fC L D K x).2)
def dO (L D K x : Int) : AR := (ixorI (pO L D K x).1 3, 20 :: (pO L D K x).2)
def gO (L D K f x : Int) : AR := if f = 1 then dO L D K x else if f = 3 then (-(pO L D K x).1, 40 :: (pO L D K x).2) else if f = 6 then ((dO L D K x).1 + (2 + D), 70 :: ((dO L D K x).2 ++ [10])) else pO L D K x
def pR (L D K x : Int) : AR := ((gO L D K K x).1 * 2, 12 :: (gO L D K K x).2)
def lR (L D K x : Int) : AR := ((pR L D K x).1 + (gO L D K K 1).1, 31 :: ((pR L D K x).2 ++ (gO L D K K 1).2))
def gR (L D K f x : Int) : AR := if f = 2 then lR L D K x else if f = 3 then ((lR L D K (x + 7)).1, 41 :: (lR L D K (x + 7)).2) else if f = 5 then ((gO L D K K x).1 - (pR L D K x).1, 60 :: ((gO L D K K x).2 ++ (pR L D K x).2)) else if f = 6 then ((pR L D K x).1 * 3, 71 :: (pR L D K x).2) else pR L D K x
section AL
variable {L D K f x : Int}
theorem fC_l : (fC L D K x).2.length ≤ 2 := by
  unfold fC
  split
  · exact Nat.le_refl 2
  · split
    · exact Nat.le_refl 2
    · split
      · exact Nat.le_refl 2
      · show 1 ≤ 2; omega
theorem pO_l : (pO L D K x).2.length ≤ 3 := Nat.succ_le_succ fC_l
theorem dO_l : (dO L D K x).2.length ≤ 4 := Nat.succ_le_succ pO_l
theorem gO_l : (gO L D K f x).2.length ≤ 6 := by
  have h1 := @pO_l L D K x
  have h2 := @dO_l L D K x
  unfold gO
  split
  · omega
  · split
    · show (pO L D K x).2.length + 1 ≤ 6; omega
    · split
      · show ((dO L D K x).2 ++ [10]).length + 1 ≤ 6; rw [List.length_append]; show (dO L D K x).2.length + 1 + 1 ≤ 6; omega
      · omega
theorem pR_l : (pR L D K x).2.length ≤ 7 := Nat.succ_le_succ gO_l
theorem lR_l : (lR L D K x).2.length ≤ 14 := by
  have h1 := @pR_l L D K x
  have h2 := @gO_l L D K K 1
  show ((pR L D K x).2 ++ (gO L D K K 1).2).length + 1 ≤ 14
  rw [List.length_append]
  omega
theorem gR_l : (gR L D K f x).2.length ≤ 15 := by
  have h1 := @pR_l L D K x
  have h2 := @lR_l L D K x
  have h3 := @lR_l L D K (x + 7)
  have h4 := @gO_l L D K K x
  unfold gR
  split
  · omega
  · split
    · show (lR L D K (x + 7)).2.length + 1 ≤ 15; omega
    · split
      · show ((gO L D K K x).2 ++ (pR L D K x).2).length + 1 ≤ 15; rw [List.length_append]; omega
      · split
        · show (pR L D K x).2.length + 1 ≤ 15; omega
        · omega
end AL
def MHH (L D K : Int) (k : Nat) (V : Mem) : Prop := FV V ∧ V 137 65 = L ∧ V 137 66 = D ∧ V 137 67 = K ∧ 0 ≤ V 137 64 ∧ V 137 64 + (k : Int) ≤ 20
def CHH (L D K : Int) (k : Nat) (V : Mem) : Prop := FV V ∧ V 119 2 = L ∧ V 119 3 = D ∧ V 119 4 = K ∧ 0 ≤ V 119 0 ∧ V 119 0 + (k : Int) ≤ 20
section AM
variable {L D K : Int} {k j : Nat} {V : Mem}
theorem MHH.w1 (h : MHH L D K k V) {b : Int} (hj : j + 1 ≤ k) : MHH L D K j (wB 178 137 64 V b) := by
  obtain ⟨h1, h2, h3, h4, h5, h6⟩ := h
  unfold wB MHH
  simp (disch := omega) only [up2_ne, up2_eq]
  exact ⟨h1.fr ((FRM.rf.up (by unfold VD; omega)).up (by unfold VD; omega)), h2, h3, h4, by omega, by omega⟩
theorem MHH.wW : ∀ (l : List Int) {V : Mem} {k j : Nat}, MHH L D K k V → l.length + j ≤ k → MHH L D K j (wW 178 137 64 V l)
  | [], V, k, j, h, hj => ⟨h.1, h.2.1, h.2.2.1, h.2.2.2.1, h.2.2.2.2.1, by have := h.2.2.2.2.2; have hj : 0 + j ≤ k := hj; show V 137 64 + (j : Int) ≤ 20; omega⟩
  | b :: l, V, k, j, h, hj => MHH.wW l (h.w1 (j := l.length + j) (by have hj : l.length + 1 + j ≤ k := hj; omega)) (Nat.le_refl _)
theorem CHH.w1 (h : CHH L D K k V) {b : Int} (hj : j + 1 ≤ k) : CHH L D K j (wB 120 119 0 V b) := by
  obtain ⟨h1, h2, h3, h4, h5, h6⟩ := h
  unfold wB CHH
  simp (disch := omega) only [up2_ne, up2_eq]
  exact ⟨h1.fr ((FRM.rf.up (by unfold VD; omega)).up (by unfold VD; omega)), h2, h3, h4, by omega, by omega⟩
theorem CHH.wW : ∀ (l : List Int) {V : Mem} {k j : Nat}, CHH L D K k V → l.length + j ≤ k → CHH L D K j (wW 120 119 0 V l)
  | [], V, k, j, h, hj => ⟨h.1, h.2.1, h.2.2.1, h.2.2.2.1, h.2.2.2.2.1, by have := h.2.2.2.2.2; have hj : 0 + j ≤ k := hj; show V 119 0 + (j : Int) ≤ 20; omega⟩
  | b :: l, V, k, j, h, hj => CHH.wW l (h.w1 (j := l.length + j) (by have hj : l.length + 1 + j ≤ k := hj; omega)) (Nat.le_refl _)
end AM
section AN
variable {d : Nat} {k : Nat} {L D K f x b e y : Int} {V : Mem} {S : Shp} {Q : Int → Mem → Shp → Prop} {U : Mem → Shp → Prop}
theorem m_body (hS : FS S) (h : MHH L D K k V) (hk : 1 ≤ k) : C_m_body (d + 1) 137 b V S U ↔ U (wB 178 137 64 V b) S := by
  obtain ⟨hV, h2, h3, h4, h5, h6⟩ := h
  rw [I_m_body]
  unfold wB
  simp (disch := omega) only [hS.k137, hS.k178, hS.n178, hV.r137_68, s32_id, h5, show V 137 64 < 20 from by omega, up2_ne, b_s32, b_eq0, b_01, l0, l1, true_and, and_true, and_self, true_implies, false_implies, implies_true, forall_const, not_true_eq_false, not_false_eq_true, reduceIte, ite_true, ite_false, reduceCtorEq, forall_eq, Classical.not_not, true_or, or_true, false_or, or_false, and_false, false_and, Int.reduceEq, Int.reduceLT, Int.reduceLE, Int.reduceAdd, Int.reduceSub, Int.reduceMul, Int.reduceNeg]
theorem m_pC (hS : FS S) (h : MHH L D K k V) (hk : 1 ≤ k) : C_m_plainCounts (d + 2) 137 x V S Q ↔ Q (x + D) (wW 178 137 64 V [10]) S := by
  have h1 := (h.w1 (j := 0) (b := 10) hk).2.2.1
  rw [I_m_plainCounts, m_body hS h hk, hS.k137, h1]
  simp only [b_s32, b_eq0, b_01, l0, l1, true_and, and_true, and_self, true_implies, false_implies, implies_true, forall_const, not_true_eq_false, not_false_eq_true, reduceIte, ite_true, ite_false, reduceCtorEq, forall_eq, Classical.not_not, true_or, or_true, false_or, or_false, and_false, false_and, Int.reduceEq, Int.reduceLT, Int.reduceLE, Int.reduceAdd, Int.reduceSub, Int.reduceMul, Int.reduceNeg, wW]
theorem m_fC (hS : FS S) (h : MHH L D K k V) (hk : 2 ≤ k) (hK : s32 K = K) : C_m_countsOf (d + 3) 137 x V S Q ↔ Q (fC L D K x).1 (wW 178 137 64 V (fC L D K x).2) S := by
  have h0 := h.2.2.2.1
  have h1 := fun b => h.w1 (j := 1) (b := b) (by omega)
  have h2 := (h1 50).2.1
  rw [I_m_countsOf]
  unfold fC
  by_cases c2 : K = 2
  · subst c2
    simp (disch := omega) only [hS.k137, h0, s32_id, m_body hS h (show 1 ≤ k by omega), m_pC hS (h1 30) (Nat.le_refl 1), b_s32, b_eq0, b_01, l0, l1, true_and, and_true, and_self, true_implies, false_implies, implies_true, forall_const, not_true_eq_false, not_false_eq_true, reduceIte, ite_true, ite_false, reduceCtorEq, forall_eq, Classical.not_not, true_or, or_true, false_or, or_false, and_false, false_and, Int.reduceEq, Int.reduceLT, Int.reduceLE, Int.reduceAdd, Int.reduceSub, Int.reduceMul, Int.reduceNeg, wW]
  · by_cases c3 : K = 3
    · subst c3
      simp (disch := omega) only [hS.k137, h0, s32_id, m_body hS h (show 1 ≤ k by omega), m_pC hS (h1 30) (Nat.le_refl 1), b_s32, b_eq0, b_01, l0, l1, true_and, and_true, and_self, true_implies, false_implies, implies_true, forall_const, not_true_eq_false, not_false_eq_true, reduceIte, ite_true, ite_false, reduceCtorEq, forall_eq, Classical.not_not, true_or, or_true, false_or, or_false, and_false, false_and, Int.reduceEq, Int.reduceLT, Int.reduceLE, Int.reduceAdd, Int.reduceSub, Int.reduceMul, Int.reduceNeg, wW]
    · by_cases c4 : K = 4
      · subst c4
        simp (disch := omega) only [hS.k137, h0, h2, s32_id, m_body hS h (show 1 ≤ k by omega), m_pC hS (h1 50) (Nat.le_refl 1), b_s32, b_eq0, b_01, l0, l1, true_and, and_true, and_self, true_implies, false_implies, implies_true, forall_const, not_true_eq_false, not_false_eq_true, reduceIte, ite_true, ite_false, reduceCtorEq, forall_eq, Classical.not_not, true_or, or_true, false_or, or_false, and_false, false_and, Int.reduceEq, Int.reduceLT, Int.reduceLE, Int.reduceAdd, Int.reduceSub, Int.reduceMul, Int.reduceNeg, wW]
      · simp (disch := omega) only [hS.k137, h0, hK, c2, c3, c4, s32_id, m_pC hS h (show 1 ≤ k by omega), b_s32, b_eq0, b_01, l0, l1, true_and, and_true, and_self, true_implies, false_implies, implies_true, forall_const, not_true_eq_false, not_false_eq_true, reduceIte, ite_true, ite_false, reduceCtorEq, forall_eq, Classical.not_not, true_or, or_true, false_or, or_false, and_false, false_and, Int.reduceEq, Int.reduceLT, Int.reduceLE, Int.reduceAdd, Int.reduceSub, Int.reduceMul, Int.reduceNeg, wW]
theorem m_pO (hS : FS S) (h : MHH L D K k V) (hk : 3 ≤ k) (hK : s32 K = K) : C_m_plainOwes (d + 4) 137 x V S Q ↔ Q (pO L D K x).1 (wW 178 137 64 V (pO L D K x).2) S := by
  have h1 := h.w1 (j := 2) (b := 11) (by omega)
  have h2 := (h1.wW (fC L D K x).2 (j := 0) fC_l).2.1
  rw [I_m_plainOwes, m_body hS h (by omega), m_fC hS h1 (Nat.le_refl 2) hK, hS.k137, h2]
  simp only [b_s32, b_eq0, b_01, l0, l1, true_and, and_true, and_self, true_implies, false_implies, implies_true, forall_const, not_true_eq_false, not_false_eq_true, reduceIte, ite_true, ite_false, reduceCtorEq, forall_eq, Classical.not_not, true_or, or_true, false_or, or_false, and_false, false_and, Int.reduceEq, Int.reduceLT, Int.reduceLE, Int.reduceAdd, Int.reduceSub, Int.reduceMul, Int.reduceNeg, pO, wW]
theorem m_dO (hS : FS S) (h : MHH L D K k V) (hk : 4 ≤ k) (hK : s32 K = K) : C_m_paidOwes (d + 5) 137 x V S Q ↔ Q (dO L D K x).1 (wW 178 137 64 V (dO L D K x).2) S := by
  have h1 := h.w1 (j := 3) (b := 20) (by omega)
  rw [I_m_paidOwes, m_body hS h (by omega), m_pO hS h1 (Nat.le_refl 3) hK, hS.k137]
  simp only [b_s32, b_eq0, b_01, l0, l1, true_and, and_true, and_self, true_implies, false_implies, implies_true, forall_const, not_true_eq_false, not_false_eq_true, reduceIte, ite_true, ite_false, reduceCtorEq, forall_eq, Classical.not_not, true_or, or_true, false_or, or_false, and_false, false_and, Int.reduceEq, Int.reduceLT, Int.reduceLE, Int.reduceAdd, Int.reduceSub, Int.reduceMul, Int.reduceNeg, dO, wW]
theorem m_fO (hS : FS S) (h : MHH L D K k V) (hk : 6 ≤ k) (hK : s32 K = K) : C_m_owesOf (d + 6) 137 x V S Q ↔ Q (gO L D K K x).1 (wW 178 137 64 V (gO L D K K x).2) S := by
  have h0 := h.2.2.2.1
  have h1 := fun b => h.w1 (j := 5) (b := b) (by omega)
  rw [I_m_owesOf]
  by_cases c1 : K = 1
  · subst c1
    simp (disch := omega) only [hS.k137, h0, s32_id, m_dO hS h (show 4 ≤ k by omega) hK, b_s32, b_eq0, b_01, l0, l1, true_and, and_true, and_self, true_implies, false_implies, implies_true, forall_const, not_true_eq_false, not_false_eq_true, reduceIte, ite_true, ite_false, reduceCtorEq, forall_eq, Classical.not_not, true_or, or_true, false_or, or_false, and_false, false_and, Int.reduceEq, Int.reduceLT, Int.reduceLE, Int.reduceAdd, Int.reduceSub, Int.reduceMul, Int.reduceNeg, gO]
  · by_cases c3 : K = 3
    · subst c3
      simp (disch := omega) only [hS.k137, h0, s32_id, m_body hS h (show 1 ≤ k by omega), m_pO hS (h1 40) (show 3 ≤ 5 by omega) hK, b_s32, b_eq0, b_01, l0, l1, true_and, and_true, and_self, true_implies, false_implies, implies_true, forall_const, not_true_eq_false, not_false_eq_true, reduceIte, ite_true, ite_false, reduceCtorEq, forall_eq, Classical.not_not, true_or, or_true, false_or, or_false, and_false, false_and, Int.reduceEq, Int.reduceLT, Int.reduceLE, Int.reduceAdd, Int.reduceSub, Int.reduceMul, Int.reduceNeg, gO, wW]
    · by_cases c6 : K = 6
      · subst c6
        have h2 := (h1 70).wW (dO L D 6 x).2 (j := 1) (by have := @dO_l L D 6 x; omega)
        simp (disch := omega) only [hS.k137, h0, s32_id, m_body hS h (show 1 ≤ k by omega), m_dO hS (h1 70) (show 4 ≤ 5 by omega) hK, m_pC hS h2 (Nat.le_refl 1), b_s32, b_eq0, b_01, l0, l1, true_and, and_true, and_self, true_implies, false_implies, implies_true, forall_const, not_true_eq_false, not_false_eq_true, reduceIte, ite_true, ite_false, reduceCtorEq, forall_eq, Classical.not_not, true_or, or_true, false_or, or_false, and_false, false_and, Int.reduceEq, Int.reduceLT, Int.reduceLE, Int.reduceAdd, Int.reduceSub, Int.reduceMul, Int.reduceNeg, gO, wW, wW_app]
      · simp (disch := omega) only [hS.k137, h0, hK, c1, c3, c6, s32_id, m_pO hS h (show 3 ≤ k by omega) hK, b_s32, b_eq0, b_01, l0, l1, true_and, and_true, and_self, true_implies, false_implies, implies_true, forall_const, not_true_eq_false, not_false_eq_true, reduceIte, ite_true, ite_false, reduceCtorEq, forall_eq, Classical.not_not, true_or, or_true, false_or, or_false, and_false, false_and, Int.reduceEq, Int.reduceLT, Int.reduceLE, Int.reduceAdd, Int.reduceSub, Int.reduceMul, Int.reduceNeg, gO]
theorem m_pR (hS : FS S) (h : MHH L D K k V) (hk : 7 ≤ k) (hK : s32 K = K) : C_m_plainRanks (d + 7) 137 x V S Q ↔ Q (pR L D K x).1 (wW 178 137 64 V (pR L D K x).2) S := by
  have h1 := h.w1 (j := 6) (b := 12) (by omega)
  rw [I_m_plainRanks, m_body hS h (by omega), m_fO hS h1 (Nat.le_refl 6) hK, hS.k137]
  simp only [b_s32, b_eq0, b_01, l0, l1, true_and, and_true, and_self, true_implies, false_implies, implies_true, forall_const, not_true_eq_false, not_false_eq_true, reduceIte, ite_true, ite_false, reduceCtorEq, forall_eq, Classical.not_not, true_or, or_true, false_or, or_false, and_false, false_and, Int.reduceEq, Int.reduceLT, Int.reduceLE, Int.reduceAdd, Int.reduceSub, Int.reduceMul, Int.reduceNeg, pR, wW]
theorem m_lR (hS : FS S) (h : MHH L D K k V) (hk : 14 ≤ k) (hK : s32 K = K) : C_m_lentRanks (d + 8) 137 x V S Q ↔ Q (lR L D K x).1 (wW 178 137 64 V (lR L D K x).2) S := by
  have h1 := h.w1 (j := 13) (b := 31) (by omega)
  have h2 := h1.wW (pR L D K x).2 (j := 6) (by have := @pR_l L D K x; omega)
  rw [I_m_lentRanks, m_body hS h (by omega), m_pR hS h1 (show 7 ≤ 13 by omega) hK, m_fO hS h2 (Nat.le_refl 6) hK, hS.k137]
  simp only [b_s32, b_eq0, b_01, l0, l1, true_and, and_true, and_self, true_implies, false_implies, implies_true, forall_const, not_true_eq_false, not_false_eq_true, reduceIte, ite_true, ite_false, reduceCtorEq, forall_eq, Classical.not_not, true_or, or_true, false_or, or_false, and_false, false_and, Int.reduceEq, Int.reduceLT, Int.reduceLE, Int.reduceAdd, Int.reduceSub, Int.reduceMul, Int.reduceNeg, lR, wW, wW_app]
theorem m_fR (hS : FS S) (h : MHH L D K k V) (hk : 15 ≤ k) (hK : s32 K = K) : C_m_ranksOf (d + 9) 137 x V S Q ↔ Q (gR L D K K x).1 (wW 178 137 64 V (gR L D K K x).2) S := by
  have h0 := h.2.2.2.1
  have h1 := fun b => h.w1 (j := 14) (b := b) (by omega)
  rw [I_m_ranksOf]
  by_cases c2 : K = 2
  · subst c2
    simp (disch := omega) only [hS.k137, h0, s32_id, m_lR hS h (show 14 ≤ k by omega) hK, b_s32, b_eq0, b_01, l0, l1, true_and, and_true, and_self, true_implies, false_implies, implies_true, forall_const, not_true_eq_false, not_false_eq_true, reduceIte, ite_true, ite_false, reduceCtorEq, forall_eq, Classical.not_not, true_or, or_true, false_or, or_false, and_false, false_and, Int.reduceEq, Int.reduceLT, Int.reduceLE, Int.reduceAdd, Int.reduceSub, Int.reduceMul, Int.reduceNeg, gR]
  · by_cases c3 : K = 3
    · subst c3
      simp (disch := omega) only [hS.k137, h0, s32_id, m_body hS h (show 1 ≤ k by omega), m_lR hS (h1 41) (Nat.le_refl 14) hK, b_s32, b_eq0, b_01, l0, l1, true_and, and_true, and_self, true_implies, false_implies, implies_true, forall_const, not_true_eq_false, not_false_eq_true, reduceIte, ite_true, ite_false, reduceCtorEq, forall_eq, Classical.not_not, true_or, or_true, false_or, or_false, and_false, false_and, Int.reduceEq, Int.reduceLT, Int.reduceLE, Int.reduceAdd, Int.reduceSub, Int.reduceMul, Int.reduceNeg, gR, wW]
    · by_cases c5 : K = 5
      · subst c5
        have h2 := (h1 60).wW (gO L D 5 5 x).2 (j := 7) (by have := @gO_l L D 5 5 x; omega)
        simp (disch := omega) only [hS.k137, h0, s32_id, m_body hS h (show 1 ≤ k by omega), m_fO hS (h1 60) (show 6 ≤ 14 by omega) hK, m_pR hS h2 (Nat.le_refl 7) hK, b_s32, b_eq0, b_01, l0, l1, true_and, and_true, and_self, true_implies, false_implies, implies_true, forall_const, not_true_eq_false, not_false_eq_true, reduceIte, ite_true, ite_false, reduceCtorEq, forall_eq, Classical.not_not, true_or, or_true, false_or, or_false, and_false, false_and, Int.reduceEq, Int.reduceLT, Int.reduceLE, Int.reduceAdd, Int.reduceSub, Int.reduceMul, Int.reduceNeg, gR, wW, wW_app]
      · by_cases c6 : K = 6
        · subst c6
          simp (disch := omega) only [hS.k137, h0, s32_id, m_body hS h (show 1 ≤ k by omega), m_pR hS (h1 71) (show 7 ≤ 14 by omega) hK, b_s32, b_eq0, b_01, l0, l1, true_and, and_true, and_self, true_implies, false_implies, implies_true, forall_const, not_true_eq_false, not_false_eq_true, reduceIte, ite_true, ite_false, reduceCtorEq, forall_eq, Classical.not_not, true_or, or_true, false_or, or_false, and_false, false_and, Int.reduceEq, Int.reduceLT, Int.reduceLE, Int.reduceAdd, Int.reduceSub, Int.reduceMul, Int.reduceNeg, gR, wW]
        · simp (disch := omega) only [hS.k137, h0, hK, c2, c3, c5, c6, s32_id, m_pR hS h (show 7 ≤ k by omega) hK, b_s32, b_eq0, b_01, l0, l1, true_and, and_true, and_self, true_implies, false_implies, implies_true, forall_const, not_true_eq_false, not_false_eq_true, reduceIte, ite_true, ite_false, reduceCtorEq, forall_eq, Classical.not_not, true_or, or_true, false_or, or_false, and_false, false_and, Int.reduceEq, Int.reduceLT, Int.reduceLE, Int.reduceAdd, Int.reduceSub, Int.reduceMul, Int.reduceNeg, gR]
/-- the body for an ACT of a KIND, and the KIND above the one that has it -/
def fbd (f a : Int) : Int × Int := if a = 0 then (if f = 2 ∨ f = 3 then (30, 0) else if f = 4 then (50, 0) else (10, -1)) else if a = 1 then (if f = 1 then (20, 0) else if f = 3 then (40, 2) else if f = 6 then (70, 1) else (11, -1)) else (if f = 2 then (31, 0) else if f = 3 then (41, 2) else if f = 5 then (60, 0) else if f = 6 then (71, 1) else (12, -1))
theorem x_val2 (hS : FS S) : C_x_valueAt (d + 1) (-2) b V S Q ↔ Q (if 0 ≤ s32 b ∧ s32 b < 7 then V (-2) (s32 b) else 0) V S := by
  rw [p_valueAt _ _ _ _ _ _ (Or.inr hS.km2) (by rw [hS.nm2]; omega), hS.nm2]
theorem x_val3 (hS : FS S) : C_x_valueAt (d + 1) (-3) b V S Q ↔ Q (if 0 ≤ s32 b ∧ s32 b < 21 then V (-3) (s32 b) else 0) V S := by
  rw [p_valueAt _ _ _ _ _ _ (Or.inr hS.km3) (by rw [hS.nm3]; omega), hS.nm3]
theorem x_st {g : Cnt} {u1 u7 : XV} {i c : Int} (hS : FS S) (c0 : 0 ≤ c ∧ c ≤ 6) (i0 : 0 ≤ i ∧ i < 7) (b0 : 0 ≤ b ∧ b ≤ 2) : K_Acts_runFrom (d + 1) Q (15, [(2, 119), u1, (0, b), (0, x), (0, e), (0, c), (0, i), u7], [], V, S, g) ↔ if s32 (V (-3) (3 * c + b)) = 0 then K_Acts_runFrom (d + 1) Q (15, [(2, 119), (9, 0), (0, b), (0, x), (0, e), (0, V (-2) c), (0, i + 1), (0, V (-3) (3 * c + b))], [], V, S, g) else C_Acts_runBody (d + 1) 119 (V (-3) (3 * c + b)) (V (-2) c) x (e + 1) V S Q := by
  rw [L_Acts_runFrom_15]
  by_cases h : s32 (V (-3) (3 * c + b)) = 0
  · simp (disch := omega) only [hS.km2, hS.nm2, s32_id, i0, p_isKind, c0, x_val2 hS, x_val3 hS, h, show 0 ≤ 3 * c + b from by omega, show 3 * c + b < 21 from by omega, show c < 7 from by omega, b_s32, b_eq0, b_01, l0, l1, true_and, and_true, and_self, true_implies, false_implies, implies_true, forall_const, not_true_eq_false, not_false_eq_true, reduceIte, ite_true, ite_false, reduceCtorEq, forall_eq, Classical.not_not, true_or, or_true, false_or, or_false, and_false, false_and, Int.reduceEq, Int.reduceLT, Int.reduceLE, Int.reduceAdd, Int.reduceSub, Int.reduceMul, Int.reduceNeg]
  · simp (disch := omega) only [hS.km2, hS.nm2, s32_id (x := i), s32_id (x := c), s32_id (x := 7), s32_id (x := 3 * c + b), i0, p_isKind, c0, x_val2 hS, x_val3 hS, h, show 0 ≤ 3 * c + b from by omega, show 3 * c + b < 21 from by omega, show c < 7 from by omega, b_s32, b_eq0, b_01, l0, l1, true_and, and_true, and_self, true_implies, false_implies, implies_true, forall_const, not_true_eq_false, not_false_eq_true, reduceIte, ite_true, ite_false, reduceCtorEq, forall_eq, Classical.not_not, true_or, or_true, false_or, or_false, and_false, false_and, Int.reduceEq, Int.reduceLT, Int.reduceLE, Int.reduceAdd, Int.reduceSub, Int.reduceMul, Int.reduceNeg]
theorem x_find (hS : FS S) (hV : FV V) (f0 : 0 ≤ f ∧ f ≤ 6) (a0 : 0 ≤ b ∧ b ≤ 2) (e0 : 0 ≤ e ∧ e ≤ 40) : C_Acts_runFrom (d + 2) 119 f b x e V S Q ↔ C_Acts_runBody (d + 1) 119 (fbd f b).1 (fbd f b).2 x (e + 1) V S Q := by
  rw [I_Acts_runFrom, hS.k119, s32_id (x := 40) (by omega) (by omega), s32_id (x := e) (by omega) (by omega)]
  have e1 : ¬ 40 < e := by omega
  simp only [e1, b_s32, b_eq0, b_01, l0, l1, true_and, and_true, and_self, true_implies, false_implies, implies_true, forall_const, not_true_eq_false, not_false_eq_true, reduceIte, ite_true, ite_false, reduceCtorEq, forall_eq, Classical.not_not, true_or, or_true, false_or, or_false, and_false, false_and, Int.reduceEq, Int.reduceLT, Int.reduceLE, Int.reduceAdd, Int.reduceSub, Int.reduceMul, Int.reduceNeg]
  unfold fbd
  rcases (by omega : b = 0 ∨ b = 1 ∨ b = 2) with rfl | rfl | rfl <;> rcases (by omega : f = 0 ∨ f = 1 ∨ f = 2 ∨ f = 3 ∨ f = 4 ∨ f = 5 ∨ f = 6) with rfl | rfl | rfl | rfl | rfl | rfl | rfl <;> simp (disch := omega) only [x_st hS, s32_id, hV.rm2_0, hV.rm2_1, hV.rm2_2, hV.rm2_3, hV.rm2_4, hV.rm2_5, hV.rm2_6, hV.rm3_0, hV.rm3_1, hV.rm3_2, hV.rm3_3, hV.rm3_4, hV.rm3_5, hV.rm3_6, hV.rm3_7, hV.rm3_8, hV.rm3_9, hV.rm3_10, hV.rm3_11, hV.rm3_12, hV.rm3_13, hV.rm3_14, hV.rm3_15, hV.rm3_16, hV.rm3_17, hV.rm3_18, hV.rm3_19, hV.rm3_20, b_s32, b_eq0, b_01, l0, l1, true_and, and_true, and_self, true_implies, false_implies, implies_true, forall_const, not_true_eq_false, not_false_eq_true, reduceIte, ite_true, ite_false, reduceCtorEq, forall_eq, Classical.not_not, true_or, or_true, false_or, or_false, and_false, false_and, Int.reduceEq, Int.reduceLT, Int.reduceLE, Int.reduceAdd, Int.reduceSub, Int.reduceMul, Int.reduceNeg]
theorem x_body (hS : FS S) (h : CHH L D K k V) (hk : 1 ≤ k) : C_Acts_runBody (d + 1) 119 b f x e V S Q ↔ (((s32 b = 10 → (S.1 119 = 0 ∧ Q (x + ((wB 120 119 0 V b) 119 3)) (wB 120 119 0 V b) S)) ∧ (¬ s32 b = 10 → ((s32 b = 11 → (S.1 119 = 0 ∧ (C_Acts_runFrom d 119 ((wB 120 119 0 V b) 119 4) 0 x e (wB 120 119 0 V b) S (fun r2 V2 S2 => (S2.1 119 = 0 ∧ Q (r2 - (V2 119 2)) V2 S2))))) ∧ (¬ s32 b = 11 → ((s32 b = 12 → (S.1 119 = 0 ∧ (C_Acts_runFrom d 119 ((wB 120 119 0 V b) 119 4) 1 x e (wB 120 119 0 V b) S (fun r2 V2 S2 => Q (r2 * 2) V2 S2)))) ∧ (¬ s32 b = 12 → ((s32 b = 20 → (C_Acts_runFrom d 119 f 1 x e (wB 120 119 0 V b) S (fun r2 V2 S2 => Q (ixorI r2 3) V2 S2))) ∧ (¬ s32 b = 20 → ((s32 b = 30 → (C_Acts_runFrom d 119 f 0 (x * 5) e (wB 120 119 0 V b) S (fun r2 V2 S2 => Q r2 V2 S2))) ∧ (¬ s32 b = 30 → ((s32 b = 31 → (C_Acts_runFrom d 119 f 2 x e (wB 120 119 0 V b) S (fun r2 V2 S2 => (S2.1 119 = 0 ∧ (C_Acts_runFrom d 119 (V2 119 4) 1 1 e V2 S2 (fun r3 V3 S3 => Q (r2 + r3) V3 S3)))))) ∧ (¬ s32 b = 31 → ((s32 b = 40 → (C_Acts_runFrom d 119 f 1 x e (wB 120 119 0 V b) S (fun r2 V2 S2 => Q (-r2) V2 S2))) ∧ (¬ s32 b = 40 → ((s32 b = 41 → (C_Acts_runFrom d 119 f 2 (x + 7) e (wB 120 119 0 V b) S (fun r2 V2 S2 => Q r2 V2 S2))) ∧ (¬ s32 b = 41 → ((s32 b = 50 → (S.1 119 = 0 ∧ (C_Acts_runFrom d 119 f 0 (x - ((wB 120 119 0 V b) 119 2)) e (wB 120 119 0 V b) S (fun r2 V2 S2 => Q r2 V2 S2)))) ∧ (¬ s32 b = 50 → ((s32 b = 60 → (S.1 119 = 0 ∧ (C_Acts_runFrom d 119 ((wB 120 119 0 V b) 119 4) 1 x e (wB 120 119 0 V b) S (fun r2 V2 S2 => (C_Acts_runFrom d 119 f 2 x e V2 S2 (fun r3 V3 S3 => Q (r2 - r3) V3 S3)))))) ∧ (¬ s32 b = 60 → ((s32 b = 70 → (C_Acts_runFrom d 119 f 1 x e (wB 120 119 0 V b) S (fun r2 V2 S2 => (C_Acts_runFrom d 119 f 0 2 e V2 S2 (fun r3 V3 S3 => Q (r2 + r3) V3 S3))))) ∧ (¬ s32 b = 70 → ((s32 b = 71 → (C_Acts_runFrom d 119 f 2 x e (wB 120 119 0 V b) S (fun r2 V2 S2 => Q (r2 * 3) V2 S2))) ∧ (¬ s32 b = 71 → Q 0 (wB 120 119 0 V b) S))))))))))))))))))))))))) := by
  obtain ⟨hV, h2, h3, h4, h5, h6⟩ := h
  rw [I_Acts_runBody]
  unfold wB
  simp (disch := omega) only [L_Acts_runBody_29, hS.k119, hV.r119_1, hS.k120, hS.n120, s32_id (x := V 119 0), s32_id (x := 20), show ¬ V 119 0 < 0 from by omega, show V 119 0 < 20 from by omega, h5, up2_ne (b := 119), b_s32, b_eq0, b_01, l0, l1, true_and, and_true, and_self, true_implies, false_implies, implies_true, forall_const, not_true_eq_false, not_false_eq_true, reduceIte, ite_true, ite_false, reduceCtorEq, forall_eq, Classical.not_not, true_or, or_true, false_or, or_false, and_false, false_and, Int.reduceEq, Int.reduceLT, Int.reduceLE, Int.reduceAdd, Int.reduceSub, Int.reduceMul, Int.reduceNeg]
theorem x_C0 (hS : FS S) (h : CHH L D K k V) (hk : 1 ≤ k) (f0 : f = 0 ∨ f = 1 ∨ f = 5 ∨ f = 6) (e0 : 0 ≤ e ∧ e ≤ 40) : C_Acts_runFrom (d + 2) 119 f 0 x e V S Q ↔ Q (x + D) (wW 120 119 0 V [10]) S := by
  have h1 := (h.w1 (j := 0) (b := 10) hk).2.2.1
  rw [x_find hS h.1 (by omega) (by omega) e0]
  have ef : fbd f 0 = (10, -1) := by
    unfold fbd
    rw [if_pos rfl, if_neg (by omega), if_neg (by omega)]
  rw [ef, x_body hS h hk]
  simp (disch := omega) only [s32_id, hS.k119, h1, wW, b_s32, b_eq0, b_01, l0, l1, true_and, and_true, and_self, true_implies, false_implies, implies_true, forall_const, not_true_eq_false, not_false_eq_true, reduceIte, ite_true, ite_false, reduceCtorEq, forall_eq, Classical.not_not, true_or, or_true, false_or, or_false, and_false, false_and, Int.reduceEq, Int.reduceLT, Int.reduceLE, Int.reduceAdd, Int.reduceSub, Int.reduceMul, Int.reduceNeg]
theorem x_C (hS : FS S) (h : CHH L D K k V) (hk : 2 ≤ k) (f0 : 0 ≤ f ∧ f ≤ 6) (e0 : 0 ≤ e ∧ e ≤ 39) : C_Acts_runFrom (d + 4) 119 f 0 x e V S Q ↔ Q (fC L D f x).1 (wW 120 119 0 V (fC L D f x).2) S := by
  have h1 := fun b => h.w1 (j := 1) (b := b) (by omega)
  have h2 := (h1 50).2.1
  by_cases c : f = 0 ∨ f = 1 ∨ f = 5 ∨ f = 6
  · rw [x_C0 hS h (by omega) c (by omega)]
    unfold fC
    rw [if_neg (by omega), if_neg (by omega), if_neg (by omega)]
  · rw [x_find hS h.1 f0 (by omega) (by omega)]
    rcases (by omega : f = 2 ∨ f = 3 ∨ f = 4) with rfl | rfl | rfl
    · rw [show fbd 2 0 = (30, 0) from rfl, x_body hS h (by omega)]
      simp (disch := omega) only [s32_id, hS.k119, x_C0 hS (h1 30) (Nat.le_refl 1), fC, wW, b_s32, b_eq0, b_01, l0, l1, true_and, and_true, and_self, true_implies, false_implies, implies_true, forall_const, not_true_eq_false, not_false_eq_true, reduceIte, ite_true, ite_false, reduceCtorEq, forall_eq, Classical.not_not, true_or, or_true, false_or, or_false, and_false, false_and, Int.reduceEq, Int.reduceLT, Int.reduceLE, Int.reduceAdd, Int.reduceSub, Int.reduceMul, Int.reduceNeg]
    · rw [show fbd 3 0 = (30, 0) from rfl, x_body hS h (by omega)]
      simp (disch := omega) only [s32_id, hS.k119, x_C0 hS (h1 30) (Nat.le_refl 1), fC, wW, b_s32, b_eq0, b_01, l0, l1, true_and, and_true, and_self, true_implies, false_implies, implies_true, forall_const, not_true_eq_false, not_false_eq_true, reduceIte, ite_true, ite_false, reduceCtorEq, forall_eq, Classical.not_not, true_or, or_true, false_or, or_false, and_false, false_and, Int.reduceEq, Int.reduceLT, Int.reduceLE, Int.reduceAdd, Int.reduceSub, Int.reduceMul, Int.reduceNeg]
    · rw [show fbd 4 0 = (50, 0) from rfl, x_body hS h (by omega)]
      simp (disch := omega) only [s32_id, hS.k119, h2, x_C0 hS (h1 50) (Nat.le_refl 1), fC, wW, b_s32, b_eq0, b_01, l0, l1, true_and, and_true, and_self, true_implies, false_implies, implies_true, forall_const, not_true_eq_false, not_false_eq_true, reduceIte, ite_true, ite_false, reduceCtorEq, forall_eq, Classical.not_not, true_or, or_true, false_or, or_false, and_false, false_and, Int.reduceEq, Int.reduceLT, Int.reduceLE, Int.reduceAdd, Int.reduceSub, Int.reduceMul, Int.reduceNeg]
theorem x_O0 (hS : FS S) (h : CHH L D K k V) (hk : 3 ≤ k) (hK : 0 ≤ K ∧ K ≤ 6) (f0 : f = 0 ∨ f = 2 ∨ f = 4 ∨ f = 5) (e0 : 0 ≤ e ∧ e ≤ 38) : C_Acts_runFrom (d + 6) 119 f 1 x e V S Q ↔ Q (pO L D K x).1 (wW 120 119 0 V (pO L D K x).2) S := by
  have h1 := h.w1 (j := 2) (b := 11) (by omega)
  have h4 := h1.2.2.2.1
  have h2 := (h1.wW (fC L D K x).2 (j := 0) fC_l).2.1
  rw [x_find hS h.1 (by omega) (by omega) (by omega)]
  have ef : fbd f 1 = (11, -1) := by
    unfold fbd
    rw [if_neg (by omega), if_pos rfl, if_neg (by omega), if_neg (by omega), if_neg (by omega)]
  rw [ef, x_body hS h (by omega)]
  simp (disch := omega) only [s32_id, hS.k119, h4, x_C hS h1 (Nat.le_refl 2) hK, h2, pO, wW, b_s32, b_eq0, b_01, l0, l1, true_and, and_true, and_self, true_implies, false_implies, implies_true, forall_const, not_true_eq_false, not_false_eq_true, reduceIte, ite_true, ite_false, reduceCtorEq, forall_eq, Classical.not_not, true_or, or_true, false_or, or_false, and_false, false_and, Int.reduceEq, Int.reduceLT, Int.reduceLE, Int.reduceAdd, Int.reduceSub, Int.reduceMul, Int.reduceNeg]
theorem x_O1 (hS : FS S) (h : CHH L D K k V) (hk : 4 ≤ k) (hK : 0 ≤ K ∧ K ≤ 6) (e0 : 0 ≤ e ∧ e ≤ 37) : C_Acts_runFrom (d + 8) 119 1 1 x e V S Q ↔ Q (dO L D K x).1 (wW 120 119 0 V (dO L D K x).2) S := by
  have h1 := h.w1 (j := 3) (b := 20) (by omega)
  rw [x_find hS h.1 (by omega) (by omega) (by omega), show fbd 1 1 = (20, 0) from rfl, x_body hS h (by omega)]
  simp (disch := omega) only [s32_id, x_O0 hS h1 (Nat.le_refl 3) hK, dO, wW, b_s32, b_eq0, b_01, l0, l1, true_and, and_true, and_self, true_implies, false_implies, implies_true, forall_const, not_true_eq_false, not_false_eq_true, reduceIte, ite_true, ite_false, reduceCtorEq, forall_eq, Classical.not_not, true_or, or_true, false_or, or_false, and_false, false_and, Int.reduceEq, Int.reduceLT, Int.reduceLE, Int.reduceAdd, Int.reduceSub, Int.reduceMul, Int.reduceNeg]
theorem x_O (hS : FS S) (h : CHH L D K k V) (hk : 6 ≤ k) (hK : 0 ≤ K ∧ K ≤ 6) (f0 : 0 ≤ f ∧ f ≤ 6) (e0 : 0 ≤ e ∧ e ≤ 36) : C_Acts_runFrom (d + 10) 119 f 1 x e V S Q ↔ Q (gO L D K f x).1 (wW 120 119 0 V (gO L D K f x).2) S := by
  have h1 := fun b => h.w1 (j := 5) (b := b) (by omega)
  by_cases c : f = 0 ∨ f = 2 ∨ f = 4 ∨ f = 5
  · rw [x_O0 hS h (by omega) hK c (by omega)]
    unfold gO
    rw [if_neg (by omega), if_neg (by omega), if_neg (by omega)]
  · rcases (by omega : f = 1 ∨ f = 3 ∨ f = 6) with rfl | rfl | rfl
    · rw [x_O1 hS h (by omega) hK (by omega)]
      simp only [gO, b_s32, b_eq0, b_01, l0, l1, true_and, and_true, and_self, true_implies, false_implies, implies_true, forall_const, not_true_eq_false, not_false_eq_true, reduceIte, ite_true, ite_false, reduceCtorEq, forall_eq, Classical.not_not, true_or, or_true, false_or, or_false, and_false, false_and, Int.reduceEq, Int.reduceLT, Int.reduceLE, Int.reduceAdd, Int.reduceSub, Int.reduceMul, Int.reduceNeg]
    · rw [x_find hS h.1 (by omega) (by omega) (by omega), show fbd 3 1 = (40, 2) from rfl, x_body hS h (by omega)]
      simp (disch := omega) only [s32_id, x_O0 hS (h1 40) (show 3 ≤ 5 by omega) hK, gO, wW, b_s32, b_eq0, b_01, l0, l1, true_and, and_true, and_self, true_implies, false_implies, implies_true, forall_const, not_true_eq_false, not_false_eq_true, reduceIte, ite_true, ite_false, reduceCtorEq, forall_eq, Classical.not_not, true_or, or_true, false_or, or_false, and_false, false_and, Int.reduceEq, Int.reduceLT, Int.reduceLE, Int.reduceAdd, Int.reduceSub, Int.reduceMul, Int.reduceNeg]
    · have h2 := (h1 70).wW (dO L D K x).2 (j := 1) (by have := @dO_l L D K x; omega)
      rw [x_find hS h.1 (by omega) (by omega) (by omega), show fbd 6 1 = (70, 1) from rfl, x_body hS h (by omega)]
      simp (disch := omega) only [s32_id, x_O1 hS (h1 70) (show 4 ≤ 5 by omega) hK, x_C0 hS h2 (Nat.le_refl 1), gO, wW, wW_app, b_s32, b_eq0, b_01, l0, l1, true_and, and_true, and_self, true_implies, false_implies, implies_true, forall_const, not_true_eq_false, not_false_eq_true, reduceIte, ite_true, ite_false, reduceCtorEq, forall_eq, Classical.not_not, true_or, or_true, false_or, or_false, and_false, false_and, Int.reduceEq, Int.reduceLT, Int.reduceLE, Int.reduceAdd, Int.reduceSub, Int.reduceMul, Int.reduceNeg]
theorem x_R0 (hS : FS S) (h : CHH L D K k V) (hk : 7 ≤ k) (hK : 0 ≤ K ∧ K ≤ 6) (f0 : f = 0 ∨ f = 1 ∨ f = 4) (e0 : 0 ≤ e ∧ e ≤ 35) : C_Acts_runFrom (d + 12) 119 f 2 x e V S Q ↔ Q (pR L D K x).1 (wW 120 119 0 V (pR L D K x).2) S := by
  have h1 := h.w1 (j := 6) (b := 12) (by omega)
  have h4 := h1.2.2.2.1
  rw [x_find hS h.1 (by omega) (by omega) (by omega)]
  have ef : fbd f 2 = (12, -1) := by
    unfold fbd
    rw [if_neg (by omega), if_neg (by omega), if_neg (by omega), if_neg (by omega), if_neg (by omega), if_neg (by omega)]
  rw [ef, x_body hS h (by omega)]
  simp (disch := omega) only [s32_id, hS.k119, h4, x_O hS h1 (Nat.le_refl 6) hK hK, pR, wW, b_s32, b_eq0, b_01, l0, l1, true_and, and_true, and_self, true_implies, false_implies, implies_true, forall_const, not_true_eq_false, not_false_eq_true, reduceIte, ite_true, ite_false, reduceCtorEq, forall_eq, Classical.not_not, true_or, or_true, false_or, or_false, and_false, false_and, Int.reduceEq, Int.reduceLT, Int.reduceLE, Int.reduceAdd, Int.reduceSub, Int.reduceMul, Int.reduceNeg]
theorem x_R2 (hS : FS S) (h : CHH L D K k V) (hk : 14 ≤ k) (hK : 0 ≤ K ∧ K ≤ 6) (e0 : 0 ≤ e ∧ e ≤ 34) : C_Acts_runFrom (d + 14) 119 2 2 x e V S Q ↔ Q (lR L D K x).1 (wW 120 119 0 V (lR L D K x).2) S := by
  have h1 := h.w1 (j := 13) (b := 31) (by omega)
  have h2 := h1.wW (pR L D K x).2 (j := 6) (by have := @pR_l L D K x; omega)
  have h4 := h2.2.2.2.1
  rw [x_find hS h.1 (by omega) (by omega) (by omega), show fbd 2 2 = (31, 0) from rfl, x_body hS h (by omega)]
  simp (disch := omega) only [s32_id, hS.k119, h4, x_R0 hS h1 (show 7 ≤ 13 by omega) hK, x_O hS h2 (Nat.le_refl 6) hK hK, lR, wW, wW_app, b_s32, b_eq0, b_01, l0, l1, true_and, and_true, and_self, true_implies, false_implies, implies_true, forall_const, not_true_eq_false, not_false_eq_true, reduceIte, ite_true, ite_false, reduceCtorEq, forall_eq, Classical.not_not, true_or, or_true, false_or, or_false, and_false, false_and, Int.reduceEq, Int.reduceLT, Int.reduceLE, Int.reduceAdd, Int.reduceSub, Int.reduceMul, Int.reduceNeg]
theorem x_R (hS : FS S) (h : CHH L D K k V) (hk : 15 ≤ k) (hK : 0 ≤ K ∧ K ≤ 6) (f0 : 0 ≤ f ∧ f ≤ 6) (e0 : 0 ≤ e ∧ e ≤ 33) : C_Acts_runFrom (d + 16) 119 f 2 x e V S Q ↔ Q (gR L D K f x).1 (wW 120 119 0 V (gR L D K f x).2) S := by
  have h1 := fun b => h.w1 (j := 14) (b := b) (by omega)
  by_cases c : f = 0 ∨ f = 1 ∨ f = 4
  · rw [x_R0 hS h (by omega) hK c (by omega)]
    unfold gR
    rw [if_neg (by omega), if_neg (by omega), if_neg (by omega), if_neg (by omega)]
  · rcases (by omega : f = 2 ∨ f = 3 ∨ f = 5 ∨ f = 6) with rfl | rfl | rfl | rfl
    · rw [x_R2 hS h (by omega) hK (by omega)]
      simp only [gR, b_s32, b_eq0, b_01, l0, l1, true_and, and_true, and_self, true_implies, false_implies, implies_true, forall_const, not_true_eq_false, not_false_eq_true, reduceIte, ite_true, ite_false, reduceCtorEq, forall_eq, Classical.not_not, true_or, or_true, false_or, or_false, and_false, false_and, Int.reduceEq, Int.reduceLT, Int.reduceLE, Int.reduceAdd, Int.reduceSub, Int.reduceMul, Int.reduceNeg]
    · rw [x_find hS h.1 (by omega) (by omega) (by omega), show fbd 3 2 = (41, 2) from rfl, x_body hS h (by omega)]
      simp (disch := omega) only [s32_id, x_R2 hS (h1 41) (Nat.le_refl 14) hK, gR, wW, b_s32, b_eq0, b_01, l0, l1, true_and, and_true, and_self, true_implies, false_implies, implies_true, forall_const, not_true_eq_false, not_false_eq_true, reduceIte, ite_true, ite_false, reduceCtorEq, forall_eq, Classical.not_not, true_or, or_true, false_or, or_false, and_false, false_and, Int.reduceEq, Int.reduceLT, Int.reduceLE, Int.reduceAdd, Int.reduceSub, Int.reduceMul, Int.reduceNeg]
    · have h2 := (h1 60).wW (gO L D K K x).2 (j := 7) (by have := @gO_l L D K K x; omega)
      have h4 := (h1 60).2.2.2.1
      rw [x_find hS h.1 (by omega) (by omega) (by omega), show fbd 5 2 = (60, 0) from rfl, x_body hS h (by omega)]
      simp (disch := omega) only [s32_id, hS.k119, h4, x_O hS (h1 60) (show 6 ≤ 14 by omega) hK hK, x_R0 hS h2 (Nat.le_refl 7) hK, gR, wW, wW_app, b_s32, b_eq0, b_01, l0, l1, true_and, and_true, and_self, true_implies, false_implies, implies_true, forall_const, not_true_eq_false, not_false_eq_true, reduceIte, ite_true, ite_false, reduceCtorEq, forall_eq, Classical.not_not, true_or, or_true, false_or, or_false, and_false, false_and, Int.reduceEq, Int.reduceLT, Int.reduceLE, Int.reduceAdd, Int.reduceSub, Int.reduceMul, Int.reduceNeg]
    · rw [x_find hS h.1 (by omega) (by omega) (by omega), show fbd 6 2 = (71, 1) from rfl, x_body hS h (by omega)]
      simp (disch := omega) only [s32_id, x_R0 hS (h1 71) (show 7 ≤ 14 by omega) hK, gR, wW, b_s32, b_eq0, b_01, l0, l1, true_and, and_true, and_self, true_implies, false_implies, implies_true, forall_const, not_true_eq_false, not_false_eq_true, reduceIte, ite_true, ite_false, reduceCtorEq, forall_eq, Classical.not_not, true_or, or_true, false_or, or_false, and_false, false_and, Int.reduceEq, Int.reduceLT, Int.reduceLE, Int.reduceAdd, Int.reduceSub, Int.reduceMul, Int.reduceNeg]
end AN
