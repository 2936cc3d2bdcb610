/-! the invariant where lamps change; lamps' small methods -/
theorem up2_self {V : Mem} {a k : Int} : up2 V a k (V a k) = V := by
  funext b j
  by_cases e : b = a ∧ j = k
  · rw [up2_eq e.1 e.2, e.1, e.2]
  · rw [up2_ne (by omega)]
def WB (a p q : Int) : Prop := (p = 1000 + 10 * a ∧ 8 ≤ q) ∨ ((p = 142 ∨ p = 144 ∨ p = 145 ∨ p = 152 ∨ p = 156) ∧ q = a)
def WM (a p q : Int) : Prop := (p = 1000 + 10 * a ∧ 8 ≤ q) ∨ ((p = 142 ∨ p = 144 ∨ p = 145 ∨ p = 152 ∨ p = 156) ∧ q = a) ∨ (p = 1001 + 10 * a ∧ q ≤ 2) ∨ (146 ≤ p ∧ p ≤ 148 ∧ q = a)
def WC (a p q : Int) : Prop := (p = 1000 + 10 * a ∧ 8 ≤ q) ∨ ((p = 142 ∨ p = 144 ∨ p = 145 ∨ p = 152 ∨ p = 156) ∧ q = a) ∨ (p = 1001 + 10 * a ∧ q ≤ 2) ∨ (146 ≤ p ∧ p ≤ 150 ∧ q = a) ∨ (p = 1003 + 10 * a ∧ q ≠ 3) ∨ p = 1004 + 10 * a ∨ (153 ≤ p ∧ p ≤ 155 ∧ q = a) ∨ (p = 157 ∧ 64 * a ≤ q ∧ q < 64 * a + 64)
section LM
variable {n m a b i : Int} {V V' : Mem} {S : Shp}
theorem INV.lampB (h : INV n V S) (hn : n ≤ m) (a0 : 0 ≤ a) (a1 : a < V 137 2) (b0 : 0 ≤ b) (b1 : b < V 137 2) (hfr : ∀ p q, ¬ (WB a p q ∨ WB b p q) → V' p q = V p q) (hN : ∀ i, i = a ∨ i = b → LB1 V' i ∧ LO1 V' i) : INV m V' S := by
  have n20 := h.1.n20
  have F : ∀ p q, ¬ (WB a p q ∨ WB b p q) → V' p q = V p q := hfr
  have e1 : V' 137 2 = V 137 2 := F _ _ (by unfold WB; omega)
  obtain ⟨-, hB, -, hO, -⟩ := h.2.2.2.1
  refine h.fr (W := fun p q => WB a p q ∨ WB b p q) hfr hn (cSK := Or.inl (fun p q hw hd => by unfold SKD VD at hd; unfold WB at hw; omega)) (cUN := Or.inl (fun p q hw hd => by unfold UND at hd; unfold WB at hw; omega)) (cHD := Or.inl (fun p q hw hd => by unfold HDD at hd; unfold WB at hw; omega)) (cLA := Or.inl (fun p q hw hd => by unfold LAD at hd; unfold WB at hw; omega)) (cLM := Or.inl (fun p q hw hd => by unfold LMD at hd; unfold WB at hw; omega)) (cLC := Or.inl (fun p q hw hd => by unfold LCD at hd; unfold WB at hw; omega)) (cLK := Or.inl (fun p q hw hd => by unfold LKD at hd; unfold WB at hw; omega)) (cTX := Or.inl (fun p q hw hd => by unfold TXD at hd; unfold WB at hw; omega)) (cRD := Or.inl (fun p q hw hd => by unfold RDD at hd; unfold WB at hw; omega)) (cBK := Or.inl (fun p q hw hd => by unfold BKD at hd; unfold WB at hw; omega)) (cAC := Or.inl (fun p q hw hd => by unfold ACD at hd; unfold WB at hw; omega)) (cTP := Or.inl (fun p q hw hd => by unfold TPD at hd; unfold WB at hw; omega)) (cLB := Or.inr ?_) (cLO := Or.inr ?_) (cLZ := Or.inr ?_)
  · intro i i0 i1
    rw [e1] at i1
    by_cases e : i = a ∨ i = b
    · exact (hN i e).1
    · unfold LB1
      simp (disch := (unfold WB; omega)) only [F]
      exact hB i i0 i1
  · intro i i0 i1
    rw [e1] at i1
    by_cases e : i = a ∨ i = b
    · exact (hN i e).2
    · unfold LO1
      simp (disch := (unfold WB; omega)) only [F]
      exact hO i i0 i1
  · intro i i0 i1
    rw [e1] at i0
    unfold LZ1
    simp (disch := (unfold WB; omega)) only [F]
    exact h.2.2.2.1.2.2.2.2.2.2 i i0 i1
theorem INV.lampM (h : INV n V S) (hn : n ≤ m) (a0 : 0 ≤ a) (a1 : a < V 137 2) (hfr : ∀ p q, ¬ WM a p q → V' p q = V p q) (hN : LB1 V' a ∧ LM1 m V' a ∧ LO1 V' a) : INV m V' S := by
  have n20 := h.1.n20
  have F : ∀ p q, ¬ WM a p q → V' p q = V p q := hfr
  have e1 : V' 137 2 = V 137 2 := F _ _ (by unfold WM; omega)
  obtain ⟨-, hB, hM, hO, -⟩ := h.2.2.2.1
  refine h.fr (W := WM a) hfr hn (cSK := Or.inl (fun p q hw hd => by unfold SKD VD at hd; unfold WM at hw; omega)) (cUN := Or.inl (fun p q hw hd => by unfold UND at hd; unfold WM at hw; omega)) (cHD := Or.inl (fun p q hw hd => by unfold HDD at hd; unfold WM at hw; omega)) (cLA := Or.inl (fun p q hw hd => by unfold LAD at hd; unfold WM at hw; omega)) (cLM := Or.inr ?_) (cLC := Or.inl (fun p q hw hd => by unfold LCD at hd; unfold WM at hw; omega)) (cLK := Or.inl (fun p q hw hd => by unfold LKD at hd; unfold WM at hw; omega)) (cTX := Or.inl (fun p q hw hd => by unfold TXD at hd; unfold WM at hw; omega)) (cRD := Or.inl (fun p q hw hd => by unfold RDD at hd; unfold WM at hw; omega)) (cBK := Or.inl (fun p q hw hd => by unfold BKD at hd; unfold WM at hw; omega)) (cAC := Or.inl (fun p q hw hd => by unfold ACD at hd; unfold WM at hw; omega)) (cTP := Or.inl (fun p q hw hd => by unfold TPD at hd; unfold WM at hw; omega)) (cLB := Or.inr ?_) (cLO := Or.inr ?_) (cLZ := Or.inr ?_)
  · intro i i0 i1
    rw [e1] at i1
    by_cases e : i = a
    · subst e; exact hN.1
    · unfold LB1
      simp (disch := (unfold WM; omega)) only [F]
      exact hB i i0 i1
  · intro i i0 i1
    rw [e1] at i1
    by_cases e : i = a
    · subst e; exact hN.2.1
    · unfold LM1
      simp (disch := (unfold WM; omega)) only [F]
      exact LM1.up hM hn i i0 i1
  · intro i i0 i1
    rw [e1] at i1
    by_cases e : i = a
    · subst e; exact hN.2.2
    · unfold LO1
      simp (disch := (unfold WM; omega)) only [F]
      exact hO i i0 i1
  · intro i i0 i1
    rw [e1] at i0
    unfold LZ1
    simp (disch := (unfold WM; omega)) only [F]
    exact h.2.2.2.1.2.2.2.2.2.2 i i0 i1
theorem INV.lampC (h : INV n V S) (hn : n ≤ m) (a0 : 0 ≤ a) (a1 : a < V 137 2) (hfr : ∀ p q, ¬ WC a p q → V' p q = V p q) (hN : LB1 V' a ∧ LM1 m V' a ∧ LO1 V' a ∧ LC1 V' a) : INV m V' S := by
  have n20 := h.1.n20
  have F : ∀ p q, ¬ WC a p q → V' p q = V p q := hfr
  have e1 : V' 137 2 = V 137 2 := F _ _ (by unfold WC; omega)
  obtain ⟨-, hB, hM, hO, hC, -⟩ := h.2.2.2.1
  refine h.fr (W := WC a) hfr hn (cSK := Or.inl (fun p q hw hd => by unfold SKD VD at hd; unfold WC at hw; omega)) (cUN := Or.inl (fun p q hw hd => by unfold UND at hd; unfold WC at hw; omega)) (cHD := Or.inl (fun p q hw hd => by unfold HDD at hd; unfold WC at hw; omega)) (cLA := Or.inl (fun p q hw hd => by unfold LAD at hd; unfold WC at hw; omega)) (cLM := Or.inr ?_) (cLC := Or.inr ?_) (cLK := Or.inl (fun p q hw hd => by unfold LKD at hd; unfold WC at hw; omega)) (cTX := Or.inl (fun p q hw hd => by unfold TXD at hd; unfold WC at hw; omega)) (cRD := Or.inl (fun p q hw hd => by unfold RDD at hd; unfold WC at hw; omega)) (cBK := Or.inl (fun p q hw hd => by unfold BKD at hd; unfold WC at hw; omega)) (cAC := Or.inl (fun p q hw hd => by unfold ACD at hd; unfold WC at hw; omega)) (cTP := Or.inl (fun p q hw hd => by unfold TPD at hd; unfold WC at hw; omega)) (cLB := Or.inr ?_) (cLO := Or.inr ?_) (cLZ := Or.inr ?_)
  · intro i i0 i1
    rw [e1] at i1
    by_cases e : i = a
    · subst e; exact hN.1
    · unfold LB1
      simp (disch := (unfold WC; omega)) only [F]
      exact hB i i0 i1
  · intro i i0 i1
    rw [e1] at i1
    by_cases e : i = a
    · subst e; exact hN.2.1
    · unfold LM1
      simp (disch := (unfold WC; omega)) only [F]
      exact LM1.up hM hn i i0 i1
  · intro i i0 i1
    rw [e1] at i1
    by_cases e : i = a
    · subst e; exact hN.2.2.1
    · unfold LO1
      simp (disch := (unfold WC; omega)) only [F]
      exact hO i i0 i1
  · intro i i0 i1
    rw [e1] at i1
    by_cases e : i = a
    · subst e; exact hN.2.2.2
    · have q := hC i i0 i1
      unfold LC1 at q ⊢
      simp (disch := (unfold WC; omega)) only [F]
      refine ⟨q.1, q.2.1, q.2.2.1, q.2.2.2.1, q.2.2.2.2.1, fun c c0 c1 => ?_⟩
      rw [F 157 _ (by unfold WC; omega)]
      exact q.2.2.2.2.2 c c0 c1
  · intro i i0 i1
    rw [e1] at i0
    have q := h.2.2.2.1.2.2.2.2.2.2 i i0 i1
    unfold LZ1 at q ⊢
    simp (disch := (unfold WC; omega)) only [F]
    refine ⟨q.1, q.2.1, q.2.2.1, q.2.2.2.1, q.2.2.2.2.1, q.2.2.2.2.2.1, q.2.2.2.2.2.2.1, q.2.2.2.2.2.2.2.1, q.2.2.2.2.2.2.2.2.1, q.2.2.2.2.2.2.2.2.2.1, fun c c0 c1 => ?_⟩
    rw [F 157 _ (by unfold WC; omega)]
    exact q.2.2.2.2.2.2.2.2.2.2 c c0 c1
end LM
section LL
variable {d : Nat} {n m a b c x i : Int} {V : Mem} {S : Shp} {Q : Int → Mem → Shp → Prop} {U : Mem → Shp → Prop}
theorem p_owedOn (hk : SK V S) (i0 : 0 ≤ i) (i1 : i < V 137 2) (hm : S.1 b = 6) : C_Lamp_owedOn (d + 1) (1000 + 10 * i) b V S Q ↔ Q (V (1000 + 10 * i) 8 - V b 2 - V b 0) V S := by
  rw [I_Lamp_owedOn, (hk.lamp i0 i1).1.1, hm]
  simp
theorem p_owed (hk : SK V S) (i0 : 0 ≤ i) (i1 : i < V 137 2) : C_Lamp_owed (d + 2) (1000 + 10 * i) V S Q ↔ Q (V (1000 + 10 * i) 8 - V (1001 + 10 * i) 2 - V (1001 + 10 * i) 0) V S := by
  obtain ⟨⟨k0, k1, -⟩, -, -, r4, -⟩ := hk.lamp i0 i1
  rw [I_Lamp_owed, k0, r4, p_owedOn hk i0 i1 k1]
  simp
theorem p_mowed (hk : SK V S) (i0 : 0 ≤ i) (i1 : i < V 137 2) (hi : s32 i = i) : C_m_owed (d + 1) 137 i V S Q ↔ Q (V 142 i - V 148 i - V 146 i) V S := by
  have hS := hk.1
  have hV := hk.2.1
  have n20 := hk.n20
  rw [I_m_owed]
  simp only [hS.k137, hS.k142, hS.n142, hV.r137_7, hS.k148, hS.n148, hV.r137_13, hS.k146, hS.n146, hV.r137_11, hi, i0, show i < 20 from by omega, b_s32, b_eq0, b_01, l0, l1, true_and, and_true, and_self, true_implies, false_implies, implies_true, forall_const, not_true_eq_false, not_false_eq_true, reduceIte, ite_true, ite_false, reduceCtorEq, forall_eq, Classical.not_not, true_or, or_true, false_or, or_false, and_false, false_and, Int.reduceEq, Int.reduceLT, Int.reduceLE, Int.reduceAdd, Int.reduceSub, Int.reduceMul, Int.reduceNeg]
theorem p_becomeOwned (hk : SK V S) (i0 : 0 ≤ i) (i1 : i < V 137 2) : C_Lamp_becomeOwnedIfPaid (d + 3) (1000 + 10 * i) V S U ↔ U (up2 V (1000 + 10 * i) 9 (if s32 (V (1000 + 10 * i) 9) = 1 ∧ s32 (V (1000 + 10 * i) 8 - V (1001 + 10 * i) 2 - V (1001 + 10 * i) 0) ≤ 0 ∧ s32 (V (1001 + 10 * i) 1) = 0 then 4 else V (1000 + 10 * i) 9)) S := by
  obtain ⟨⟨k0, k1, -⟩, -, -, r4, -⟩ := hk.lamp i0 i1
  rw [I_Lamp_becomeOwnedIfPaid, k0, p_owed hk i0 i1, r4, k1, l1]
  by_cases c1 : s32 (V (1000 + 10 * i) 9) = 1
  · by_cases c2 : 0 < s32 (V (1000 + 10 * i) 8 - V (1001 + 10 * i) 2 - V (1001 + 10 * i) 0)
    · simp only [c1, c2, show ¬ s32 (V (1000 + 10 * i) 8 - V (1001 + 10 * i) 2 - V (1001 + 10 * i) 0) ≤ 0 from by omega, up2_self, b_s32, b_eq0, b_01, l0, l1, true_and, and_true, and_self, true_implies, false_implies, implies_true, forall_const, not_true_eq_false, not_false_eq_true, reduceIte, ite_true, ite_false, reduceCtorEq, forall_eq, Classical.not_not, true_or, or_true, false_or, or_false, and_false, false_and, Int.reduceEq, Int.reduceLT, Int.reduceLE, Int.reduceAdd, Int.reduceSub, Int.reduceMul, Int.reduceNeg]
    · by_cases c3 : s32 (V (1001 + 10 * i) 1) = 0
      · simp only [k0, r4, k1, c1, c2, c3, show s32 (V (1000 + 10 * i) 8 - V (1001 + 10 * i) 2 - V (1001 + 10 * i) 0) ≤ 0 from by omega, up2_self, b_s32, b_eq0, b_01, l0, l1, true_and, and_true, and_self, true_implies, false_implies, implies_true, forall_const, not_true_eq_false, not_false_eq_true, reduceIte, ite_true, ite_false, reduceCtorEq, forall_eq, Classical.not_not, true_or, or_true, false_or, or_false, and_false, false_and, Int.reduceEq, Int.reduceLT, Int.reduceLE, Int.reduceAdd, Int.reduceSub, Int.reduceMul, Int.reduceNeg]
      · simp only [k0, r4, k1, c1, c2, c3, up2_self, b_s32, b_eq0, b_01, l0, l1, true_and, and_true, and_self, true_implies, false_implies, implies_true, forall_const, not_true_eq_false, not_false_eq_true, reduceIte, ite_true, ite_false, reduceCtorEq, forall_eq, Classical.not_not, true_or, or_true, false_or, or_false, and_false, false_and, Int.reduceEq, Int.reduceLT, Int.reduceLE, Int.reduceAdd, Int.reduceSub, Int.reduceMul, Int.reduceNeg]
  · simp only [c1, up2_self, b_s32, b_eq0, b_01, l0, l1, true_and, and_true, and_self, true_implies, false_implies, implies_true, forall_const, not_true_eq_false, not_false_eq_true, reduceIte, ite_true, ite_false, reduceCtorEq, forall_eq, Classical.not_not, true_or, or_true, false_or, or_false, and_false, false_and, Int.reduceEq, Int.reduceLT, Int.reduceLE, Int.reduceAdd, Int.reduceSub, Int.reduceMul, Int.reduceNeg]
theorem p_look (hk : SK V S) (i0 : 0 ≤ i) (i1 : i < V 137 2) (hi : s32 i = i) : C_m_look (d + 2) 137 i V S U ↔ U (up2 V 144 i (if s32 (V 144 i) = 1 ∧ s32 (V 142 i - V 148 i - V 146 i) ≤ 0 ∧ s32 (V 147 i) = 0 then 4 else V 144 i)) S := by
  have hS := hk.1
  have hV := hk.2.1
  have n20 := hk.n20
  rw [I_m_look, p_mowed hk i0 i1 hi, l1]
  by_cases c1 : s32 (V 144 i) = 1
  · by_cases c2 : 0 < s32 (V 142 i - V 148 i - V 146 i)
    · simp only [c1, c2, show ¬ s32 (V 142 i - V 148 i - V 146 i) ≤ 0 from by omega, up2_self, b_s32, b_eq0, b_01, l0, l1, true_and, and_true, and_self, true_implies, false_implies, implies_true, forall_const, not_true_eq_false, not_false_eq_true, reduceIte, ite_true, ite_false, reduceCtorEq, forall_eq, Classical.not_not, true_or, or_true, false_or, or_false, and_false, false_and, Int.reduceEq, Int.reduceLT, Int.reduceLE, Int.reduceAdd, Int.reduceSub, Int.reduceMul, Int.reduceNeg, hS.k137, hS.k144, hS.n144, hV.r137_9, hS.k147, hS.n147, hV.r137_12, hi, i0, show i < 20 from by omega]
    · by_cases c3 : s32 (V 147 i) = 0
      · simp only [c1, c2, c3, show s32 (V 142 i - V 148 i - V 146 i) ≤ 0 from by omega, up2_self, b_s32, b_eq0, b_01, l0, l1, true_and, and_true, and_self, true_implies, false_implies, implies_true, forall_const, not_true_eq_false, not_false_eq_true, reduceIte, ite_true, ite_false, reduceCtorEq, forall_eq, Classical.not_not, true_or, or_true, false_or, or_false, and_false, false_and, Int.reduceEq, Int.reduceLT, Int.reduceLE, Int.reduceAdd, Int.reduceSub, Int.reduceMul, Int.reduceNeg, hS.k137, hS.k144, hS.n144, hV.r137_9, hS.k147, hS.n147, hV.r137_12, hi, i0, show i < 20 from by omega]
      · simp only [c1, c2, c3, up2_self, b_s32, b_eq0, b_01, l0, l1, true_and, and_true, and_self, true_implies, false_implies, implies_true, forall_const, not_true_eq_false, not_false_eq_true, reduceIte, ite_true, ite_false, reduceCtorEq, forall_eq, Classical.not_not, true_or, or_true, false_or, or_false, and_false, false_and, Int.reduceEq, Int.reduceLT, Int.reduceLE, Int.reduceAdd, Int.reduceSub, Int.reduceMul, Int.reduceNeg, hS.k137, hS.k144, hS.n144, hV.r137_9, hS.k147, hS.n147, hV.r137_12, hi, i0, show i < 20 from by omega]
  · simp only [c1, up2_self, b_s32, b_eq0, b_01, l0, l1, true_and, and_true, and_self, true_implies, false_implies, implies_true, forall_const, not_true_eq_false, not_false_eq_true, reduceIte, ite_true, ite_false, reduceCtorEq, forall_eq, Classical.not_not, true_or, or_true, false_or, or_false, and_false, false_and, Int.reduceEq, Int.reduceLT, Int.reduceLE, Int.reduceAdd, Int.reduceSub, Int.reduceMul, Int.reduceNeg, hS.k137, hS.k144, hS.n144, hV.r137_9, hS.k147, hS.n147, hV.r137_12, hi, i0, show i < 20 from by omega]
theorem p_comeOnRoof (hk : SK V S) (i0 : 0 ≤ i) (i1 : i < V 137 2) : C_Lamp_comeOnRoof (d + 4) (1000 + 10 * i) a b V S U ↔ U (up2 (up2 (up2 (up2 (up2 V (1000 + 10 * i) 9 1) (1000 + 10 * i) 10 a) (1000 + 10 * i) 11 0) (1000 + 10 * i) 12 b) (1000 + 10 * i) 9 (if s32 (V (1000 + 10 * i) 8 - V (1001 + 10 * i) 2 - V (1001 + 10 * i) 0) ≤ 0 ∧ s32 (V (1001 + 10 * i) 1) = 0 then 4 else 1)) S := by
  have n20 := hk.n20
  obtain ⟨⟨k0, k1, -⟩, -, -, r4, -⟩ := hk.lamp i0 i1
  have hk1 : SK (up2 (up2 (up2 (up2 V (1000 + 10 * i) 9 1) (1000 + 10 * i) 10 a) (1000 + 10 * i) 11 0) (1000 + 10 * i) 12 b) S := hk.fr ((((FRM.rf.up (by unfold SKD VD; omega)).up (by unfold SKD VD; omega)).up (by unfold SKD VD; omega)).up (by unfold SKD VD; omega))
  rw [I_Lamp_comeOnRoof]
  simp only [k0, b_s32, b_eq0, b_01, l0, l1, true_and, and_true, and_self, true_implies, false_implies, implies_true, forall_const, not_true_eq_false, not_false_eq_true, reduceIte, ite_true, ite_false, reduceCtorEq, forall_eq, Classical.not_not, true_or, or_true, false_or, or_false, and_false, false_and, Int.reduceEq, Int.reduceLT, Int.reduceLE, Int.reduceAdd, Int.reduceSub, Int.reduceMul, Int.reduceNeg]
  rw [p_becomeOwned hk1 i0 (by simp (disch := omega) only [up2_ne]; exact i1)]
  simp (disch := omega) only [up2_eq, up2_ne, l1, b_s32, b_eq0, b_01, l0, l1, true_and, and_true, and_self, true_implies, false_implies, implies_true, forall_const, not_true_eq_false, not_false_eq_true, reduceIte, ite_true, ite_false, reduceCtorEq, forall_eq, Classical.not_not, true_or, or_true, false_or, or_false, and_false, false_and, Int.reduceEq, Int.reduceLT, Int.reduceLE, Int.reduceAdd, Int.reduceSub, Int.reduceMul, Int.reduceNeg]
theorem p_comes (hk : SK V S) (i0 : 0 ≤ i) (i1 : i < V 137 2) (hi : s32 i = i) : C_m_comes (d + 3) 137 i V S U ↔ U (up2 (up2 (up2 (up2 V 144 i 1) 156 i 0) 152 i (V 137 0)) 144 i (if s32 (V 142 i - V 148 i - V 146 i) ≤ 0 ∧ s32 (V 147 i) = 0 then 4 else 1)) S := by
  have hS := hk.1
  have hV := hk.2.1
  have n20 := hk.n20
  have hk1 : SK (up2 (up2 (up2 V 144 i 1) 156 i 0) 152 i (V 137 0)) S := hk.fr (((FRM.rf.up (by unfold SKD VD; omega)).up (by unfold SKD VD; omega)).up (by unfold SKD VD; omega))
  rw [I_m_comes]
  simp (disch := omega) only [hS.k137, hS.k144, hS.n144, hV.r137_9, hS.k156, hS.n156, hV.r137_21, hS.k152, hS.n152, hV.r137_17, hi, i0, show i < 20 from by omega, up2_ne, b_s32, b_eq0, b_01, l0, l1, true_and, and_true, and_self, true_implies, false_implies, implies_true, forall_const, not_true_eq_false, not_false_eq_true, reduceIte, ite_true, ite_false, reduceCtorEq, forall_eq, Classical.not_not, true_or, or_true, false_or, or_false, and_false, false_and, Int.reduceEq, Int.reduceLT, Int.reduceLE, Int.reduceAdd, Int.reduceSub, Int.reduceMul, Int.reduceNeg]
  rw [p_look hk1 i0 (by simp (disch := omega) only [up2_ne]; exact i1) hi]
  simp (disch := omega) only [up2_eq, up2_ne, l1, b_s32, b_eq0, b_01, l0, l1, true_and, and_true, and_self, true_implies, false_implies, implies_true, forall_const, not_true_eq_false, not_false_eq_true, reduceIte, ite_true, ite_false, reduceCtorEq, forall_eq, Classical.not_not, true_or, or_true, false_or, or_false, and_false, false_and, Int.reduceEq, Int.reduceLT, Int.reduceLE, Int.reduceAdd, Int.reduceSub, Int.reduceMul, Int.reduceNeg]
end LL
