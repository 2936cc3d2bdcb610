/-! commands: lamps -/
section C3
variable {d : Nat} {n m a b c e i : Int} {V : Mem} {S : Shp} {Q : Int → Mem → Shp → Prop}
/-- what OWED is, without wrapping -/
theorem LM1.ow (hM : LM1 n V i) (hB : LB1 V i) (hn : n ≤ 40000) : s32 (V 142 i - V 148 i - V 146 i) = V 142 i - V 148 i - V 146 i ∧ s32 (V 147 i) = V 147 i := by
  obtain ⟨-, -, -, r4, r5, r6, r7, r8⟩ := hM
  obtain ⟨⟨-, q1, q2⟩, -⟩ := hB
  exact ⟨s32_id (by omega) (by omega), s32_id (by omega) (by omega)⟩
theorem M_lend (hk : SK V S) (ha : s32 a = a) (hb : s32 b = b) (hr : 0 ≤ a ∧ a < V 137 2 → 0 ≤ V 144 a ∧ V 144 a ≤ 4) : C_m_lend (d + 6) 137 a b V S Q ↔ if ¬ ((0 ≤ a ∧ a < V 137 2) ∧ (0 ≤ b ∧ b < V 137 1)) then Q (-1) V S else if ¬ (V 144 a = 0 ∨ V 144 a = 3) then Q (-3) V S else Q 1 (up2 (up2 (up2 (up2 (up2 V 145 a b) 144 a 1) 156 a 0) 152 a (V 137 0)) 144 a (if s32 (V 142 a - V 148 a - V 146 a) ≤ 0 ∧ s32 (V 147 a) = 0 then 4 else 1)) S := by
  have hS := hk.1
  have hV := hk.2.1
  have n20 := hk.n20
  by_cases h1 : 0 ≤ a ∧ a < V 137 2
  · by_cases h2 : 0 ≤ b ∧ b < V 137 1
    · have r := hr h1
      have hk1 : SK (up2 V 145 a b) S := hk.fr (FRM.rf.up (by unfold SKD VD; omega))
      have e1 : up2 V 145 a b 137 2 = V 137 2 := up2_ne (by omega)
      have g := p_comes (d := d + 2) (U := fun V4 S4 => Q 1 V4 S4) hk1 h1.1 (by rw [e1]; exact h1.2) ha
      simp (disch := omega) only [up2_ne] at g
      by_cases h3 : V 144 a = 0
      · simp (disch := omega) only [I_m_lend, p_isLamp hk, p_isHome hk, ha, hb, h1, h2, hS.k137, hS.k144, hS.n144, hV.r137_9, hS.k145, hS.n145, hV.r137_10, h3, s32_id, b_s32, b_eq0, b_01, l0, l1, true_and, and_true, and_self, true_implies, false_implies, implies_true, forall_const, not_true_eq_false, not_false_eq_true, reduceIte, ite_true, ite_false, reduceCtorEq, forall_eq, Classical.not_not, true_or, or_true, false_or, or_false, and_false, false_and, Int.reduceEq, Int.reduceLT, Int.reduceLE, Int.reduceAdd, Int.reduceSub, Int.reduceMul, Int.reduceNeg, show a < 20 from by omega, g]
      · by_cases h4 : V 144 a = 3
        · simp (disch := omega) only [I_m_lend, p_isLamp hk, p_isHome hk, ha, hb, h1, h2, hS.k137, hS.k144, hS.n144, hV.r137_9, hS.k145, hS.n145, hV.r137_10, h4, s32_id, b_s32, b_eq0, b_01, l0, l1, true_and, and_true, and_self, true_implies, false_implies, implies_true, forall_const, not_true_eq_false, not_false_eq_true, reduceIte, ite_true, ite_false, reduceCtorEq, forall_eq, Classical.not_not, true_or, or_true, false_or, or_false, and_false, false_and, Int.reduceEq, Int.reduceLT, Int.reduceLE, Int.reduceAdd, Int.reduceSub, Int.reduceMul, Int.reduceNeg, show a < 20 from by omega, g]
        · simp (disch := omega) only [I_m_lend, p_isLamp hk, p_isHome hk, ha, hb, h1, h2, hS.k137, hS.k144, hS.n144, hV.r137_9, hS.k145, hS.n145, hV.r137_10, h3, h4, s32_id, b_s32, b_eq0, b_01, l0, l1, true_and, and_true, and_self, true_implies, false_implies, implies_true, forall_const, not_true_eq_false, not_false_eq_true, reduceIte, ite_true, ite_false, reduceCtorEq, forall_eq, Classical.not_not, true_or, or_true, false_or, or_false, and_false, false_and, Int.reduceEq, Int.reduceLT, Int.reduceLE, Int.reduceAdd, Int.reduceSub, Int.reduceMul, Int.reduceNeg, show a < 20 from by omega]
    · simp (disch := omega) only [I_m_lend, p_isLamp hk, p_isHome hk, ha, hb, h1, h2, hS.k137, s32_id, b_s32, b_eq0, b_01, l0, l1, true_and, and_true, and_self, true_implies, false_implies, implies_true, forall_const, not_true_eq_false, not_false_eq_true, reduceIte, ite_true, ite_false, reduceCtorEq, forall_eq, Classical.not_not, true_or, or_true, false_or, or_false, and_false, false_and, Int.reduceEq, Int.reduceLT, Int.reduceLE, Int.reduceAdd, Int.reduceSub, Int.reduceMul, Int.reduceNeg]
  · simp (disch := omega) only [I_m_lend, p_isLamp hk, ha, h1, hS.k137, s32_id, b_s32, b_eq0, b_01, l0, l1, true_and, and_true, and_self, true_implies, false_implies, implies_true, forall_const, not_true_eq_false, not_false_eq_true, reduceIte, ite_true, ite_false, reduceCtorEq, forall_eq, Classical.not_not, true_or, or_true, false_or, or_false, and_false, false_and, Int.reduceEq, Int.reduceLT, Int.reduceLE, Int.reduceAdd, Int.reduceSub, Int.reduceMul, Int.reduceNeg]
theorem X_lend (hk : SK V S) (ha : s32 a = a) (hb : s32 b = b) (hB : 0 ≤ a ∧ a < V 137 2 → LB1 V a ∧ LM1 n V a) : C_x_lend (d + 6) 100 a b V S Q ↔ if ¬ ((0 ≤ a ∧ a < V 137 2) ∧ (0 ≤ b ∧ b < V 137 1)) then Q (-1) V S else if ¬ (V 144 a = 0 ∨ V 144 a = 3) then Q (-3) V S else Q 1 (up2 (up2 (up2 (up2 (up2 V (1000 + 10 * a) 9 1) (1000 + 10 * a) 10 (2000 + 10 * b)) (1000 + 10 * a) 11 0) (1000 + 10 * a) 12 (V 137 0)) (1000 + 10 * a) 9 (if s32 (V 142 a - V 148 a - V 146 a) ≤ 0 ∧ s32 (V 147 a) = 0 then 4 else 1)) S := by
  have hS := hk.1
  have hV := hk.2.1
  have n20 := hk.n20
  have c12 := hk.2.2.1.2.2.1.1
  by_cases h1 : 0 ≤ a ∧ a < V 137 2
  · obtain ⟨⟨⟨q1, q2, q3⟩, ⟨q4, q5, q6⟩, -⟩, m1, m2, m3, -⟩ := hB h1
    have k0 := (hk.lamp h1.1 h1.2).1.1
    have g0 : ¬ 1000 + 10 * a = -1 := by omega
    by_cases h2 : 0 ≤ b ∧ b < V 137 1
    · have g1 : ¬ 2000 + 10 * b = -1 := by omega
      by_cases h3 : V 144 a = 0
      · simp (disch := omega) only [I_x_lend, p_lampAt hk, p_homeAt hk, ha, hb, h1, h2, hS.k100, k0, g0, g1, q1, q4, m1, m2, m3, c12, h3, s32_id, b_s32, b_eq0, b_01, l0, l1, true_and, and_true, and_self, true_implies, false_implies, implies_true, forall_const, not_true_eq_false, not_false_eq_true, reduceIte, ite_true, ite_false, reduceCtorEq, forall_eq, Classical.not_not, true_or, or_true, false_or, or_false, and_false, false_and, Int.reduceEq, Int.reduceLT, Int.reduceLE, Int.reduceAdd, Int.reduceSub, Int.reduceMul, Int.reduceNeg, p_comeOnRoof hk h1.1 h1.2]
      · by_cases h4 : V 144 a = 3
        · simp (disch := omega) only [I_x_lend, p_lampAt hk, p_homeAt hk, ha, hb, h1, h2, hS.k100, k0, g0, g1, q1, q4, m1, m2, m3, c12, h4, s32_id, b_s32, b_eq0, b_01, l0, l1, true_and, and_true, and_self, true_implies, false_implies, implies_true, forall_const, not_true_eq_false, not_false_eq_true, reduceIte, ite_true, ite_false, reduceCtorEq, forall_eq, Classical.not_not, true_or, or_true, false_or, or_false, and_false, false_and, Int.reduceEq, Int.reduceLT, Int.reduceLE, Int.reduceAdd, Int.reduceSub, Int.reduceMul, Int.reduceNeg, p_comeOnRoof hk h1.1 h1.2]
        · simp (disch := omega) only [I_x_lend, p_lampAt hk, p_homeAt hk, ha, hb, h1, h2, hS.k100, k0, g0, g1, q1, q4, h3, h4, s32_id, b_s32, b_eq0, b_01, l0, l1, true_and, and_true, and_self, true_implies, false_implies, implies_true, forall_const, not_true_eq_false, not_false_eq_true, reduceIte, ite_true, ite_false, reduceCtorEq, forall_eq, Classical.not_not, true_or, or_true, false_or, or_false, and_false, false_and, Int.reduceEq, Int.reduceLT, Int.reduceLE, Int.reduceAdd, Int.reduceSub, Int.reduceMul, Int.reduceNeg]
    · simp (disch := omega) only [I_x_lend, p_lampAt hk, p_homeAt hk, ha, hb, h1, h2, hS.k100, g0, s32_id, b_s32, b_eq0, b_01, l0, l1, true_and, and_true, and_self, true_implies, false_implies, implies_true, forall_const, not_true_eq_false, not_false_eq_true, reduceIte, ite_true, ite_false, reduceCtorEq, forall_eq, Classical.not_not, true_or, or_true, false_or, or_false, and_false, false_and, Int.reduceEq, Int.reduceLT, Int.reduceLE, Int.reduceAdd, Int.reduceSub, Int.reduceMul, Int.reduceNeg]
  · simp (disch := omega) only [I_x_lend, p_lampAt hk, p_homeAt hk, ha, hb, h1, hS.k100, s32_id, b_s32, b_eq0, b_01, l0, l1, true_and, and_true, and_self, true_implies, false_implies, implies_true, forall_const, not_true_eq_false, not_false_eq_true, reduceIte, ite_true, ite_false, reduceCtorEq, forall_eq, Classical.not_not, true_or, or_true, false_or, or_false, and_false, false_and, Int.reduceEq, Int.reduceLT, Int.reduceLE, Int.reduceAdd, Int.reduceSub, Int.reduceMul, Int.reduceNeg]
theorem cmd_lend (h : INV n V S) (hn : n ≤ m) (hm : m ≤ 40000) (ha : s32 a = a) (hb : s32 b = b) : C_x_lend (d + 6) 100 a b V S (fun r V1 S1 => C_m_lend (d + 6) 137 a b V1 S1 (fun r' V2 S2 => r = r' ∧ INV m V2 S2)) := by
  have hup := h.up hn
  have hk := h.1
  obtain ⟨hA, hB, hM, hO, -⟩ := h.2.2.2.1
  have n20 := hk.n20
  rw [X_lend hk ha hb (fun q => ⟨hB a q.1 q.2, hM a q.1 q.2⟩)]
  have hr : 0 ≤ a ∧ a < V 137 2 → 0 ≤ V 144 a ∧ V 144 a ≤ 4 := fun q => (hB a q.1 q.2).2.1.2
  by_cases h1 : (0 ≤ a ∧ a < V 137 2) ∧ (0 ≤ b ∧ b < V 137 1)
  · rw [if_neg (fun q => q h1)]
    by_cases h2 : V 144 a = 0 ∨ V 144 a = 3
    · rw [if_neg (fun q => q h2)]
      obtain ⟨⟨a0, a1⟩, b0, b1⟩ := h1
      have hB1 := hB a a0 a1
      have hM1 := hM a a0 a1
      obtain ⟨ow, ol⟩ := LM1.ow hM1 hB1 (by omega)
      have hr1 := hr ⟨a0, a1⟩
      rw [ow, ol]
      generalize hst : (if V 142 a - V 148 a - V 146 a ≤ 0 ∧ V 147 a = 0 then (4 : Int) else 1) = st
      have hs : (st = 4 ∧ V 142 a - V 148 a - V 146 a ≤ 0 ∧ V 147 a = 0) ∨ (st = 1 ∧ ¬ (V 142 a - V 148 a - V 146 a ≤ 0 ∧ V 147 a = 0)) := by
        by_cases g : V 142 a - V 148 a - V 146 a ≤ 0 ∧ V 147 a = 0
        · rw [if_pos g] at hst; exact Or.inl ⟨hst.symm, g⟩
        · rw [if_neg g] at hst; exact Or.inr ⟨hst.symm, g⟩
      generalize hV1 : (up2 (up2 (up2 (up2 (up2 V (1000 + 10 * a) 9 1) (1000 + 10 * a) 10 (2000 + 10 * b)) (1000 + 10 * a) 11 0) (1000 + 10 * a) 12 (V 137 0)) (1000 + 10 * a) 9 st) = V1
      have F : ∀ p q, ¬ (p = 1000 + 10 * a ∧ 8 ≤ q) → V1 p q = V p q := by
        intro p q hw
        subst hV1
        simp (disch := omega) only [up2_ne]
      have hk1 : SK V1 S := hk.fr (fun p q hd => F p q (by unfold SKD VD at hd; omega))
      have e1 : V1 137 2 = V 137 2 := F _ _ (by omega)
      have e2 : V1 137 1 = V 137 1 := F _ _ (by omega)
      have e3 : V1 144 a = V 144 a := F _ _ (by omega)
      have e4 : V1 142 a = V 142 a := F _ _ (by omega)
      have e5 : V1 148 a = V 148 a := F _ _ (by omega)
      have e6 : V1 146 a = V 146 a := F _ _ (by omega)
      have e7 : V1 147 a = V 147 a := F _ _ (by omega)
      have e8 : V1 137 0 = V 137 0 := F _ _ (by omega)
      rw [M_lend hk1 ha hb (by rw [e1, e3]; exact hr), e1, e2, e3, e4, e5, e6, e7, e8, ow, ol, hst, if_neg (fun q => q ⟨⟨a0, a1⟩, b0, b1⟩), if_neg (fun q => q h2)]
      refine ⟨rfl, h.lampB hn a0 a1 a0 a1 (fun p q hw => ?_) (fun i hi => ?_)⟩
      · unfold WB at hw
        simp (disch := omega) only [up2_ne]
        exact F p q (by omega)
      · have hi : i = a := by omega
        subst hi
        obtain ⟨g1, g2, g3, g4, g5⟩ := hB1
        have t0 := hk.n599
        unfold LB1 LO1
        subst hV1
        simp (disch := omega) only [up2_ne, up2_eq]
        exact ⟨⟨g1, ⟨trivial, by omega, by omega⟩, ⟨trivial, by omega, by omega⟩, ⟨trivial, by omega, by omega⟩, Or.inr ⟨b0, b1, trivial⟩⟩, by omega⟩
    · rw [if_pos h2, M_lend hk ha hb hr, if_neg (fun q => q h1), if_pos h2]
      exact ⟨rfl, hup⟩
  · rw [if_pos h1, M_lend hk ha hb hr, if_pos h1]
    exact ⟨rfl, hup⟩
end C3
