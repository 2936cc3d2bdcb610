/-! commands: what is owed -/
section C4
variable {d : Nat} {n m a b c e i : Int} {V : Mem} {S : Shp} {Q : Int → Mem → Shp → Prop}
theorem M_paid (hk : SK V S) (ha : s32 a = a) (hb : s32 b = b) : C_m_paid (d + 6) 137 a b V S Q ↔ if ¬ (0 ≤ a ∧ a < V 137 2) then Q (-1) V S else if ¬ (1 ≤ b ∧ b ≤ 60) then Q (-2) V S else if s32 (V 147 a) < b then Q (-3) V S else Q (V 147 a - b) (up2 (up2 V 147 a (V 147 a - b)) 144 a (if s32 (V 144 a) = 1 ∧ s32 (V 142 a - V 148 a - V 146 a) ≤ 0 ∧ s32 (V 147 a - b) = 0 then 4 else V 144 a)) S := by
  have hS := hk.1
  have hV := hk.2.1
  have n20 := hk.n20
  by_cases h1 : 0 ≤ a ∧ a < V 137 2
  · by_cases h2 : 1 ≤ b ∧ b ≤ 60
    · by_cases h3 : s32 (V 147 a) < b
      · simp (disch := omega) only [I_m_paid, p_isLamp hk, q_in hk, ha, hb, h1, h2, h3, hS.k137, hS.k147, hS.n147, hV.r137_12, s32_id, b_s32, b_eq0, b_01, l0, l1, true_and, and_true, and_self, true_implies, false_implies, implies_true, forall_const, not_true_eq_false, not_false_eq_true, reduceIte, ite_true, ite_false, reduceCtorEq, forall_eq, Classical.not_not, true_or, or_true, false_or, or_false, and_false, false_and, Int.reduceEq, Int.reduceLT, Int.reduceLE, Int.reduceAdd, Int.reduceSub, Int.reduceMul, Int.reduceNeg, show a < 20 from by omega]
      · have hk1 : SK (up2 V 147 a (V 147 a - b)) S := hk.fr (FRM.rf.up (by unfold SKD VD; omega))
        have e1 : up2 V 147 a (V 147 a - b) 137 2 = V 137 2 := up2_ne (by omega)
        have e2 : up2 V 147 a (V 147 a - b) 137 12 = 147 := by rw [up2_ne (by omega)]; exact hV.r137_12
        have g := p_look (d := d + 3) (U := fun V4 S4 => S4.1 137 = 12 ∧ ((S4.1 (V4 137 12) = 100 ∨ S4.1 (V4 137 12) = 104) ∧ 0 ≤ a ∧ a < S4.2.1 (V4 137 12)) ∧ Q (V4 (V4 137 12) a) V4 S4) hk1 h1.1 (by rw [e1]; exact h1.2) ha
        simp (disch := omega) only [up2_ne, up2_eq, hS.k137, hS.k147, hS.n147, hV.r137_12, h1, b_s32, b_eq0, b_01, l0, l1, true_and, and_true, and_self, true_implies, false_implies, implies_true, forall_const, not_true_eq_false, not_false_eq_true, reduceIte, ite_true, ite_false, reduceCtorEq, forall_eq, Classical.not_not, true_or, or_true, false_or, or_false, and_false, false_and, Int.reduceEq, Int.reduceLT, Int.reduceLE, Int.reduceAdd, Int.reduceSub, Int.reduceMul, Int.reduceNeg, show a < 20 from by omega] at g
        simp (disch := omega) only [I_m_paid, p_isLamp hk, q_in hk, ha, hb, h1, h2, h3, hS.k137, hS.k147, hS.n147, hV.r137_12, s32_id, b_s32, b_eq0, b_01, l0, l1, true_and, and_true, and_self, true_implies, false_implies, implies_true, forall_const, not_true_eq_false, not_false_eq_true, reduceIte, ite_true, ite_false, reduceCtorEq, forall_eq, Classical.not_not, true_or, or_true, false_or, or_false, and_false, false_and, Int.reduceEq, Int.reduceLT, Int.reduceLE, Int.reduceAdd, Int.reduceSub, Int.reduceMul, Int.reduceNeg, show a < 20 from by omega, g]
    · simp (disch := omega) only [I_m_paid, p_isLamp hk, q_in hk, ha, hb, h1, h2, hS.k137, s32_id, b_s32, b_eq0, b_01, l0, l1, true_and, and_true, and_self, true_implies, false_implies, implies_true, forall_const, not_true_eq_false, not_false_eq_true, reduceIte, ite_true, ite_false, reduceCtorEq, forall_eq, Classical.not_not, true_or, or_true, false_or, or_false, and_false, false_and, Int.reduceEq, Int.reduceLT, Int.reduceLE, Int.reduceAdd, Int.reduceSub, Int.reduceMul, Int.reduceNeg]
  · simp (disch := omega) only [I_m_paid, p_isLamp hk, ha, h1, hS.k137, s32_id, b_s32, b_eq0, b_01, l0, l1, true_and, and_true, and_self, true_implies, false_implies, implies_true, forall_const, not_true_eq_false, not_false_eq_true, reduceIte, ite_true, ite_false, reduceCtorEq, forall_eq, Classical.not_not, true_or, or_true, false_or, or_false, and_false, false_and, Int.reduceEq, Int.reduceLT, Int.reduceLE, Int.reduceAdd, Int.reduceSub, Int.reduceMul, Int.reduceNeg]
theorem X_paid (hk : SK V S) (ha : s32 a = a) (hb : s32 b = b) (hB : 0 ≤ a ∧ a < V 137 2 → LB1 V a ∧ LM1 n V a) : C_x_paid (d + 6) 100 a b V S Q ↔ if ¬ (0 ≤ a ∧ a < V 137 2) then Q (-1) V S else if ¬ (1 ≤ b ∧ b ≤ 60) then Q (-2) V S else if s32 (V 147 a) < b then Q (-3) V S else Q (V 147 a - b) (up2 (up2 V (1001 + 10 * a) 1 (V 147 a - b)) (1000 + 10 * a) 9 (if s32 (V 144 a) = 1 ∧ s32 (V 142 a - V 148 a - V 146 a) ≤ 0 ∧ s32 (V 147 a - b) = 0 then 4 else V 144 a)) S := by
  have hS := hk.1
  have hV := hk.2.1
  have n20 := hk.n20
  by_cases h1 : 0 ≤ a ∧ a < V 137 2
  · obtain ⟨⟨⟨q1, q2, q3⟩, ⟨q4, q5, q6⟩, -⟩, m1, m2, m3, -⟩ := hB h1
    obtain ⟨⟨k0, k1, -⟩, -, -, r4, -⟩ := hk.lamp h1.1 h1.2
    have g0 : ¬ 1000 + 10 * a = -1 := by omega
    by_cases h2 : 1 ≤ b ∧ b ≤ 60
    · by_cases h3 : s32 (V 147 a) < b
      · simp (disch := omega) only [I_x_paid, p_lampAt hk, p_isWithin, ha, hb, h1, h2, h3, hS.k100, k0, k1, r4, g0, m2, s32_id, b_s32, b_eq0, b_01, l0, l1, true_and, and_true, and_self, true_implies, false_implies, implies_true, forall_const, not_true_eq_false, not_false_eq_true, reduceIte, ite_true, ite_false, reduceCtorEq, forall_eq, Classical.not_not, true_or, or_true, false_or, or_false, and_false, false_and, Int.reduceEq, Int.reduceLT, Int.reduceLE, Int.reduceAdd, Int.reduceSub, Int.reduceMul, Int.reduceNeg]
      · have hk1 : SK (up2 V (1001 + 10 * a) 1 (V 147 a - b)) S := hk.fr (FRM.rf.up (by unfold SKD VD; omega))
        have e1 : up2 V (1001 + 10 * a) 1 (V 147 a - b) 137 2 = V 137 2 := up2_ne (by omega)
        have g := p_becomeOwned (d := d + 2) (U := fun V4 S4 => S4.1 (1000 + 10 * a) = 5 ∧ S4.1 (V4 (1000 + 10 * a) 4) = 6 ∧ Q (V4 (V4 (1000 + 10 * a) 4) 1) V4 S4) hk1 h1.1 (by rw [e1]; exact h1.2)
        simp (disch := omega) only [up2_ne, up2_eq, k0, k1, r4, q1, q4, m1, m2, m3, b_s32, b_eq0, b_01, l0, l1, true_and, and_true, and_self, true_implies, false_implies, implies_true, forall_const, not_true_eq_false, not_false_eq_true, reduceIte, ite_true, ite_false, reduceCtorEq, forall_eq, Classical.not_not, true_or, or_true, false_or, or_false, and_false, false_and, Int.reduceEq, Int.reduceLT, Int.reduceLE, Int.reduceAdd, Int.reduceSub, Int.reduceMul, Int.reduceNeg] at g
        simp (disch := omega) only [I_x_paid, p_lampAt hk, p_isWithin, ha, hb, h1, h2, h3, hS.k100, k0, k1, r4, g0, m2, s32_id, b_s32, b_eq0, b_01, l0, l1, true_and, and_true, and_self, true_implies, false_implies, implies_true, forall_const, not_true_eq_false, not_false_eq_true, reduceIte, ite_true, ite_false, reduceCtorEq, forall_eq, Classical.not_not, true_or, or_true, false_or, or_false, and_false, false_and, Int.reduceEq, Int.reduceLT, Int.reduceLE, Int.reduceAdd, Int.reduceSub, Int.reduceMul, Int.reduceNeg, g]
    · simp (disch := omega) only [I_x_paid, p_lampAt hk, p_isWithin, ha, hb, h1, h2, hS.k100, g0, s32_id, b_s32, b_eq0, b_01, l0, l1, true_and, and_true, and_self, true_implies, false_implies, implies_true, forall_const, not_true_eq_false, not_false_eq_true, reduceIte, ite_true, ite_false, reduceCtorEq, forall_eq, Classical.not_not, true_or, or_true, false_or, or_false, and_false, false_and, Int.reduceEq, Int.reduceLT, Int.reduceLE, Int.reduceAdd, Int.reduceSub, Int.reduceMul, Int.reduceNeg]
  · simp (disch := omega) only [I_x_paid, p_lampAt hk, p_isWithin, ha, hb, h1, hS.k100, s32_id, b_s32, b_eq0, b_01, l0, l1, true_and, and_true, and_self, true_implies, false_implies, implies_true, forall_const, not_true_eq_false, not_false_eq_true, reduceIte, ite_true, ite_false, reduceCtorEq, forall_eq, Classical.not_not, true_or, or_true, false_or, or_false, and_false, false_and, Int.reduceEq, Int.reduceLT, Int.reduceLE, Int.reduceAdd, Int.reduceSub, Int.reduceMul, Int.reduceNeg]
theorem cmd_paid (h : INV n V S) (hn : n ≤ m) (hm : m ≤ 40000) (ha : s32 a = a) (hb : s32 b = b) : C_x_paid (d + 6) 100 a b V S (fun r V1 S1 => C_m_paid (d + 6) 137 a b V1 S1 (fun r' V2 S2 => r = r' ∧ INV m V2 S2)) := by
  have hup := h.up hn
  have hk := h.1
  obtain ⟨hA, hB, hM, hO, -⟩ := h.2.2.2.1
  have n20 := hk.n20
  rw [X_paid hk ha hb (fun q => ⟨hB a q.1 q.2, hM a q.1 q.2⟩)]
  by_cases h1 : 0 ≤ a ∧ a < V 137 2
  · rw [if_neg (fun q => q h1)]
    by_cases h2 : 1 ≤ b ∧ b ≤ 60
    · rw [if_neg (fun q => q h2)]
      by_cases h3 : s32 (V 147 a) < b
      · rw [if_pos h3, M_paid hk ha hb, if_neg (fun q => q h1), if_neg (fun q => q h2), if_pos h3]
        exact ⟨rfl, hup⟩
      · rw [if_neg h3]
        obtain ⟨a0, a1⟩ := h1
        have hB1 := hB a a0 a1
        have hM1 := hM a a0 a1
        have hO1 := hO a a0 a1
        obtain ⟨ow, ol⟩ := LM1.ow hM1 hB1 (by omega)
        obtain ⟨f1, f2, f3, f4, f5, f6, f7, f8⟩ := hM1
        have hr1 := hB1.2.1
        have os : s32 (V 144 a) = V 144 a := s32_id (by omega) (by omega)
        have ob : s32 (V 147 a - b) = V 147 a - b := s32_id (by omega) (by omega)
        rw [ow, os, ob]
        rw [ol] at h3
        generalize hst : (if V 144 a = 1 ∧ V 142 a - V 148 a - V 146 a ≤ 0 ∧ V 147 a - b = 0 then (4 : Int) else V 144 a) = st
        have hs : (st = 4 ∧ V 144 a = 1 ∧ V 142 a - V 148 a - V 146 a ≤ 0 ∧ V 147 a - b = 0) ∨ (st = V 144 a ∧ ¬ (V 144 a = 1 ∧ V 142 a - V 148 a - V 146 a ≤ 0 ∧ V 147 a - b = 0)) := by
          by_cases g : V 144 a = 1 ∧ V 142 a - V 148 a - V 146 a ≤ 0 ∧ V 147 a - b = 0
          · rw [if_pos g] at hst; exact Or.inl ⟨hst.symm, g⟩
          · rw [if_neg g] at hst; exact Or.inr ⟨hst.symm, g⟩
        generalize hV1 : (up2 (up2 V (1001 + 10 * a) 1 (V 147 a - b)) (1000 + 10 * a) 9 st) = V1
        have F : ∀ p q, ¬ ((p = 1000 + 10 * a ∧ 8 ≤ q) ∨ (p = 1001 + 10 * a ∧ q = 1)) → V1 p q = V p q := by
          intro p q hw
          subst hV1
          simp (disch := omega) only [up2_ne]
        have hk1 : SK V1 S := hk.fr (fun p q hd => F p q (by unfold SKD VD at hd; omega))
        have e1 : V1 137 2 = V 137 2 := F _ _ (by omega)
        have e3 : V1 144 a = V 144 a := F _ _ (by omega)
        have e4 : V1 142 a = V 142 a := F _ _ (by omega)
        have e5 : V1 148 a = V 148 a := F _ _ (by omega)
        have e6 : V1 146 a = V 146 a := F _ _ (by omega)
        have e7 : V1 147 a = V 147 a := F _ _ (by omega)
        rw [M_paid hk1 ha hb, e1, e3, e4, e5, e6, e7, ow, ol, os, ob, hst, if_neg (fun q => q ⟨a0, a1⟩), if_neg (fun q => q h2), if_neg h3]
        refine ⟨rfl, h.lampM hn a0 a1 (fun p q hw => ?_) ?_⟩
        · unfold WM at hw
          simp (disch := omega) only [up2_ne]
          exact F p q (by omega)
        · obtain ⟨g1, g2, g3, g4, g5⟩ := hB1
          have t0 := hk.n599
          unfold LO1 at hO1
          unfold LB1 LM1 LO1
          subst hV1
          simp (disch := omega) only [up2_ne, up2_eq]
          exact ⟨⟨g1, ⟨trivial, by omega, by omega⟩, g3, g4, g5⟩, ⟨f1, trivial, f3, f4, f5, by omega, by omega, by omega⟩, by omega⟩
    · rw [if_pos h2, M_paid hk ha hb, if_neg (fun q => q h1), if_pos h2]
      exact ⟨rfl, hup⟩
  · rw [if_pos h1, M_paid hk ha hb, if_pos h1]
    exact ⟨rfl, hup⟩
theorem X_roll (hk : SK V S) (ha : s32 a = a) (hb : s32 b = b) (hB : ∀ i, 0 ≤ i → i < V 137 2 → LB1 V i ∧ LM1 n V i) (hn : n ≤ 40000) : C_x_roll (d + 6) 100 a b V S Q ↔ if ¬ ((0 ≤ a ∧ a < V 137 2) ∧ (0 ≤ b ∧ b < V 137 2)) then Q (-1) V S else if a = b then Q (-2) V S else if ¬ (V 144 a = 1 ∧ 0 < V 142 a - V 148 a - V 146 a ∧ ¬ V 144 b = 4 ∧ V 142 b + (V 142 a - V 148 a - V 146 a) ≤ 9999) then Q (-3) V S else Q (V 142 a - V 148 a - V 146 a) (up2 (up2 (up2 V (1000 + 10 * a) 8 (V 142 a - (V 142 a - V 148 a - V 146 a))) (1000 + 10 * b) 8 (V 142 b + (V 142 a - V 148 a - V 146 a))) (1000 + 10 * a) 9 4) S := by
  have hS := hk.1
  have hV := hk.2.1
  have n20 := hk.n20
  by_cases h1 : 0 ≤ a ∧ a < V 137 2
  · by_cases h2 : 0 ≤ b ∧ b < V 137 2
    · have hB1 := hB a h1.1 h1.2
      have ow := (LM1.ow hB1.2 hB1.1 hn).1
      obtain ⟨⟨⟨q1, q2, q3⟩, ⟨q4, q5, q6⟩, -⟩, m1, m2, m3, m4, m5, m6, -⟩ := hB1
      obtain ⟨⟨⟨u1, u2, u3⟩, ⟨u4, u5, u6⟩, -⟩, -⟩ := hB b h2.1 h2.2
      have k0 := (hk.lamp h1.1 h1.2).1.1
      have k1 := (hk.lamp h2.1 h2.2).1.1
      have g0 : ¬ 1000 + 10 * a = -1 := by omega
      have g1 : ¬ 1000 + 10 * b = -1 := by omega
      by_cases h3 : a = b
      · simp (disch := omega) only [I_x_roll, p_lampAt hk, ha, hb, h1, h2, h3, hS.k100, g0, g1, s32_id, b_s32, b_eq0, b_01, l0, l1, true_and, and_true, and_self, true_implies, false_implies, implies_true, forall_const, not_true_eq_false, not_false_eq_true, reduceIte, ite_true, ite_false, reduceCtorEq, forall_eq, Classical.not_not, true_or, or_true, false_or, or_false, and_false, false_and, Int.reduceEq, Int.reduceLT, Int.reduceLE, Int.reduceAdd, Int.reduceSub, Int.reduceMul, Int.reduceNeg]
      · by_cases h4 : V 144 a = 1
        · by_cases h5 : 0 < V 142 a - V 148 a - V 146 a
          · by_cases h6 : V 144 b = 4
            · simp (disch := omega) only [I_x_roll, p_lampAt hk, ha, hb, h1, h2, h3, hS.k100, g0, g1, p_owed hk h1.1 h1.2, q1, q4, m1, m3, u1, u4, k0, k1, h4, h5, h6, s32_id, b_s32, b_eq0, b_01, l0, l1, true_and, and_true, and_self, true_implies, false_implies, implies_true, forall_const, not_true_eq_false, not_false_eq_true, reduceIte, ite_true, ite_false, reduceCtorEq, forall_eq, Classical.not_not, true_or, or_true, false_or, or_false, and_false, false_and, Int.reduceEq, Int.reduceLT, Int.reduceLE, Int.reduceAdd, Int.reduceSub, Int.reduceMul, Int.reduceNeg]
            · by_cases h7 : V 142 b + (V 142 a - V 148 a - V 146 a) ≤ 9999
              · simp (disch := omega) only [I_x_roll, p_lampAt hk, ha, hb, h1, h2, h3, hS.k100, g0, g1, p_owed hk h1.1 h1.2, q1, q4, m1, m3, u1, u4, k0, k1, h4, h5, h6, h7, s32_id, b_s32, b_eq0, b_01, l0, l1, true_and, and_true, and_self, true_implies, false_implies, implies_true, forall_const, not_true_eq_false, not_false_eq_true, reduceIte, ite_true, ite_false, reduceCtorEq, forall_eq, Classical.not_not, true_or, or_true, false_or, or_false, and_false, false_and, Int.reduceEq, Int.reduceLT, Int.reduceLE, Int.reduceAdd, Int.reduceSub, Int.reduceMul, Int.reduceNeg, show ¬ 9999 - V 142 b < V 142 a - V 148 a - V 146 a from by omega, up2_ne]
              · simp (disch := omega) only [I_x_roll, p_lampAt hk, ha, hb, h1, h2, h3, hS.k100, g0, g1, p_owed hk h1.1 h1.2, q1, q4, m1, m3, u1, u4, k0, k1, h4, h5, h6, h7, s32_id, b_s32, b_eq0, b_01, l0, l1, true_and, and_true, and_self, true_implies, false_implies, implies_true, forall_const, not_true_eq_false, not_false_eq_true, reduceIte, ite_true, ite_false, reduceCtorEq, forall_eq, Classical.not_not, true_or, or_true, false_or, or_false, and_false, false_and, Int.reduceEq, Int.reduceLT, Int.reduceLE, Int.reduceAdd, Int.reduceSub, Int.reduceMul, Int.reduceNeg, show 9999 - V 142 b < V 142 a - V 148 a - V 146 a from by omega]
          · simp (disch := omega) only [I_x_roll, p_lampAt hk, ha, hb, h1, h2, h3, hS.k100, g0, g1, p_owed hk h1.1 h1.2, q1, q4, m1, m3, u1, u4, k0, k1, h4, h5, s32_id, b_s32, b_eq0, b_01, l0, l1, true_and, and_true, and_self, true_implies, false_implies, implies_true, forall_const, not_true_eq_false, not_false_eq_true, reduceIte, ite_true, ite_false, reduceCtorEq, forall_eq, Classical.not_not, true_or, or_true, false_or, or_false, and_false, false_and, Int.reduceEq, Int.reduceLT, Int.reduceLE, Int.reduceAdd, Int.reduceSub, Int.reduceMul, Int.reduceNeg]
        · simp (disch := omega) only [I_x_roll, p_lampAt hk, ha, hb, h1, h2, h3, hS.k100, g0, g1, p_owed hk h1.1 h1.2, q1, q4, m1, m3, u1, u4, k0, k1, h4, s32_id, b_s32, b_eq0, b_01, l0, l1, true_and, and_true, and_self, true_implies, false_implies, implies_true, forall_const, not_true_eq_false, not_false_eq_true, reduceIte, ite_true, ite_false, reduceCtorEq, forall_eq, Classical.not_not, true_or, or_true, false_or, or_false, and_false, false_and, Int.reduceEq, Int.reduceLT, Int.reduceLE, Int.reduceAdd, Int.reduceSub, Int.reduceMul, Int.reduceNeg]
    · simp (disch := omega) only [I_x_roll, p_lampAt hk, ha, hb, h1, h2, hS.k100, show ¬ 1000 + 10 * a = -1 from by omega, s32_id, b_s32, b_eq0, b_01, l0, l1, true_and, and_true, and_self, true_implies, false_implies, implies_true, forall_const, not_true_eq_false, not_false_eq_true, reduceIte, ite_true, ite_false, reduceCtorEq, forall_eq, Classical.not_not, true_or, or_true, false_or, or_false, and_false, false_and, Int.reduceEq, Int.reduceLT, Int.reduceLE, Int.reduceAdd, Int.reduceSub, Int.reduceMul, Int.reduceNeg]
  · simp (disch := omega) only [I_x_roll, p_lampAt hk, ha, hb, h1, hS.k100, s32_id, b_s32, b_eq0, b_01, l0, l1, true_and, and_true, and_self, true_implies, false_implies, implies_true, forall_const, not_true_eq_false, not_false_eq_true, reduceIte, ite_true, ite_false, reduceCtorEq, forall_eq, Classical.not_not, true_or, or_true, false_or, or_false, and_false, false_and, Int.reduceEq, Int.reduceLT, Int.reduceLE, Int.reduceAdd, Int.reduceSub, Int.reduceMul, Int.reduceNeg]
theorem M_roll (hk : SK V S) (ha : s32 a = a) (hb : s32 b = b) (hB : ∀ i, 0 ≤ i → i < V 137 2 → (0 ≤ V 144 i ∧ V 144 i ≤ 4) ∧ (0 ≤ V 142 i ∧ V 142 i ≤ 9999) ∧ -50000000 ≤ V 142 i - V 148 i - V 146 i ∧ V 142 i - V 148 i - V 146 i ≤ 9999) : C_m_roll (d + 6) 137 a b V S Q ↔ if ¬ ((0 ≤ a ∧ a < V 137 2) ∧ (0 ≤ b ∧ b < V 137 2)) then Q (-1) V S else if a = b then Q (-2) V S else if ¬ (V 144 a = 1 ∧ 0 < V 142 a - V 148 a - V 146 a ∧ ¬ V 144 b = 4 ∧ V 142 b + (V 142 a - V 148 a - V 146 a) ≤ 9999) then Q (-3) V S else Q (V 142 a - V 148 a - V 146 a) (up2 (up2 (up2 V 142 a (V 142 a - (V 142 a - V 148 a - V 146 a))) 142 b (V 142 b + (V 142 a - V 148 a - V 146 a))) 144 a 4) S := by
  have hS := hk.1
  have hV := hk.2.1
  have n20 := hk.n20
  by_cases h1 : 0 ≤ a ∧ a < V 137 2
  · by_cases h2 : 0 ≤ b ∧ b < V 137 2
    · obtain ⟨q1, q2, q3⟩ := hB a h1.1 h1.2
      obtain ⟨u1, u2, u3⟩ := hB b h2.1 h2.2
      by_cases h3 : a = b
      · simp (disch := omega) only [I_m_roll, p_isLamp hk, ha, hb, h1, h2, h3, hS.k137, s32_id, b_s32, b_eq0, b_01, l0, l1, true_and, and_true, and_self, true_implies, false_implies, implies_true, forall_const, not_true_eq_false, not_false_eq_true, reduceIte, ite_true, ite_false, reduceCtorEq, forall_eq, Classical.not_not, true_or, or_true, false_or, or_false, and_false, false_and, Int.reduceEq, Int.reduceLT, Int.reduceLE, Int.reduceAdd, Int.reduceSub, Int.reduceMul, Int.reduceNeg]
      · by_cases h4 : V 144 a = 1
        · by_cases h5 : 0 < V 142 a - V 148 a - V 146 a
          · by_cases h6 : V 144 b = 4
            · simp (disch := omega) only [I_m_roll, p_isLamp hk, ha, hb, h1, h2, h3, hS.k137, p_mowed hk h1.1 h1.2 ha, h4, h5, h6, s32_id, b_s32, b_eq0, b_01, l0, l1, true_and, and_true, and_self, true_implies, false_implies, implies_true, forall_const, not_true_eq_false, not_false_eq_true, reduceIte, ite_true, ite_false, reduceCtorEq, forall_eq, Classical.not_not, true_or, or_true, false_or, or_false, and_false, false_and, Int.reduceEq, Int.reduceLT, Int.reduceLE, Int.reduceAdd, Int.reduceSub, Int.reduceMul, Int.reduceNeg, hS.k144, hS.n144, hV.r137_9, hS.k142, hS.n142, hV.r137_7, show a < 20 from by omega, show b < 20 from by omega]
            · by_cases h7 : V 142 b + (V 142 a - V 148 a - V 146 a) ≤ 9999
              · simp (disch := omega) only [I_m_roll, p_isLamp hk, ha, hb, h1, h2, h3, hS.k137, p_mowed hk h1.1 h1.2 ha, h4, h5, h6, h7, s32_id, b_s32, b_eq0, b_01, l0, l1, true_and, and_true, and_self, true_implies, false_implies, implies_true, forall_const, not_true_eq_false, not_false_eq_true, reduceIte, ite_true, ite_false, reduceCtorEq, forall_eq, Classical.not_not, true_or, or_true, false_or, or_false, and_false, false_and, Int.reduceEq, Int.reduceLT, Int.reduceLE, Int.reduceAdd, Int.reduceSub, Int.reduceMul, Int.reduceNeg, hS.k144, hS.n144, hV.r137_9, hS.k142, hS.n142, hV.r137_7, show a < 20 from by omega, show b < 20 from by omega, show ¬ 9999 < V 142 b + (V 142 a - V 148 a - V 146 a) from by omega, up2_ne]
              · simp (disch := omega) only [I_m_roll, p_isLamp hk, ha, hb, h1, h2, h3, hS.k137, p_mowed hk h1.1 h1.2 ha, h4, h5, h6, h7, s32_id, b_s32, b_eq0, b_01, l0, l1, true_and, and_true, and_self, true_implies, false_implies, implies_true, forall_const, not_true_eq_false, not_false_eq_true, reduceIte, ite_true, ite_false, reduceCtorEq, forall_eq, Classical.not_not, true_or, or_true, false_or, or_false, and_false, false_and, Int.reduceEq, Int.reduceLT, Int.reduceLE, Int.reduceAdd, Int.reduceSub, Int.reduceMul, Int.reduceNeg, hS.k144, hS.n144, hV.r137_9, hS.k142, hS.n142, hV.r137_7, show a < 20 from by omega, show b < 20 from by omega, show 9999 < V 142 b + (V 142 a - V 148 a - V 146 a) from by omega]
          · simp (disch := omega) only [I_m_roll, p_isLamp hk, ha, hb, h1, h2, h3, hS.k137, p_mowed hk h1.1 h1.2 ha, h4, h5, s32_id, b_s32, b_eq0, b_01, l0, l1, true_and, and_true, and_self, true_implies, false_implies, implies_true, forall_const, not_true_eq_false, not_false_eq_true, reduceIte, ite_true, ite_false, reduceCtorEq, forall_eq, Classical.not_not, true_or, or_true, false_or, or_false, and_false, false_and, Int.reduceEq, Int.reduceLT, Int.reduceLE, Int.reduceAdd, Int.reduceSub, Int.reduceMul, Int.reduceNeg, hS.k144, hS.n144, hV.r137_9, hS.k142, hS.n142, hV.r137_7, show a < 20 from by omega, show b < 20 from by omega]
        · simp (disch := omega) only [I_m_roll, p_isLamp hk, ha, hb, h1, h2, h3, hS.k137, p_mowed hk h1.1 h1.2 ha, h4, s32_id, b_s32, b_eq0, b_01, l0, l1, true_and, and_true, and_self, true_implies, false_implies, implies_true, forall_const, not_true_eq_false, not_false_eq_true, reduceIte, ite_true, ite_false, reduceCtorEq, forall_eq, Classical.not_not, true_or, or_true, false_or, or_false, and_false, false_and, Int.reduceEq, Int.reduceLT, Int.reduceLE, Int.reduceAdd, Int.reduceSub, Int.reduceMul, Int.reduceNeg, hS.k144, hS.n144, hV.r137_9, hS.k142, hS.n142, hV.r137_7, show a < 20 from by omega, show b < 20 from by omega]
    · simp (disch := omega) only [I_m_roll, p_isLamp hk, ha, hb, h1, h2, hS.k137, s32_id, b_s32, b_eq0, b_01, l0, l1, true_and, and_true, and_self, true_implies, false_implies, implies_true, forall_const, not_true_eq_false, not_false_eq_true, reduceIte, ite_true, ite_false, reduceCtorEq, forall_eq, Classical.not_not, true_or, or_true, false_or, or_false, and_false, false_and, Int.reduceEq, Int.reduceLT, Int.reduceLE, Int.reduceAdd, Int.reduceSub, Int.reduceMul, Int.reduceNeg]
  · simp (disch := omega) only [I_m_roll, p_isLamp hk, ha, hb, h1, hS.k137, s32_id, b_s32, b_eq0, b_01, l0, l1, true_and, and_true, and_self, true_implies, false_implies, implies_true, forall_const, not_true_eq_false, not_false_eq_true, reduceIte, ite_true, ite_false, reduceCtorEq, forall_eq, Classical.not_not, true_or, or_true, false_or, or_false, and_false, false_and, Int.reduceEq, Int.reduceLT, Int.reduceLE, Int.reduceAdd, Int.reduceSub, Int.reduceMul, Int.reduceNeg]
theorem cmd_roll (h : INV n V S) (hn : n ≤ m) (hm : m ≤ 40000) (ha : s32 a = a) (hb : s32 b = b) : C_x_roll (d + 6) 100 a b V S (fun r V1 S1 => C_m_roll (d + 6) 137 a b V1 S1 (fun r' V2 S2 => r = r' ∧ INV m V2 S2)) := by
  have hup := h.up hn
  have hk := h.1
  obtain ⟨hA, hB, hM, hO, -⟩ := h.2.2.2.1
  have n20 := hk.n20
  have hr : ∀ i, 0 ≤ i → i < V 137 2 → (0 ≤ V 144 i ∧ V 144 i ≤ 4) ∧ (0 ≤ V 142 i ∧ V 142 i ≤ 9999) ∧ -50000000 ≤ V 142 i - V 148 i - V 146 i ∧ V 142 i - V 148 i - V 146 i ≤ 9999 := fun i i0 i1 => by
    obtain ⟨⟨q1, q2, q3⟩, ⟨q4, q5, q6⟩, -⟩ := hB i i0 i1
    obtain ⟨m1, m2, m3, m4, m5, m6, -⟩ := hM i i0 i1
    omega
  rw [X_roll hk ha hb (fun i i0 i1 => ⟨hB i i0 i1, hM i i0 i1⟩) (by omega)]
  by_cases h1 : (0 ≤ a ∧ a < V 137 2) ∧ (0 ≤ b ∧ b < V 137 2)
  · rw [if_neg (fun q => q h1)]
    by_cases h2 : a = b
    · rw [if_pos h2, M_roll hk ha hb hr, if_neg (fun q => q h1), if_pos h2]
      exact ⟨rfl, hup⟩
    · rw [if_neg h2]
      by_cases h3 : V 144 a = 1 ∧ 0 < V 142 a - V 148 a - V 146 a ∧ ¬ V 144 b = 4 ∧ V 142 b + (V 142 a - V 148 a - V 146 a) ≤ 9999
      · rw [if_neg (fun q => q h3)]
        obtain ⟨⟨a0, a1⟩, b0, b1⟩ := h1
        generalize hV1 : (up2 (up2 (up2 V (1000 + 10 * a) 8 (V 142 a - (V 142 a - V 148 a - V 146 a))) (1000 + 10 * b) 8 (V 142 b + (V 142 a - V 148 a - V 146 a))) (1000 + 10 * a) 9 4) = V1
        have F : ∀ p q, ¬ ((p = 1000 + 10 * a ∧ 8 ≤ q) ∨ (p = 1000 + 10 * b ∧ 8 ≤ q)) → V1 p q = V p q := by
          intro p q hw
          subst hV1
          simp (disch := omega) only [up2_ne]
        have hk1 : SK V1 S := hk.fr (fun p q hd => F p q (by unfold SKD VD at hd; omega))
        have e1 : V1 137 2 = V 137 2 := F _ _ (by omega)
        have e3 : ∀ i, V1 144 i = V 144 i := fun i => F _ _ (by omega)
        have e4 : ∀ i, V1 142 i = V 142 i := fun i => F _ _ (by omega)
        have e5 : ∀ i, V1 148 i = V 148 i := fun i => F _ _ (by omega)
        have e6 : ∀ i, V1 146 i = V 146 i := fun i => F _ _ (by omega)
        rw [M_roll hk1 ha hb (by simp only [e1, e3, e4, e5, e6]; exact hr)]
        simp only [e1, e3, e4, e5, e6]
        rw [if_neg (fun q => q ⟨⟨a0, a1⟩, b0, b1⟩), if_neg h2, if_neg (fun q => q h3)]
        refine ⟨trivial, h.lampB hn a0 a1 b0 b1 (fun p q hw => ?_) (fun i hi => ?_)⟩
        · unfold WB at hw
          simp (disch := omega) only [up2_ne]
          exact F p q (by omega)
        · obtain ⟨m1, m2, m3, m4, m5, m6, -⟩ := hM a a0 a1
          rcases hi with hi | hi
          · subst hi
            obtain ⟨g1, g2, g3, g4, g5⟩ := hB i a0 a1
            unfold LB1 LO1
            subst hV1
            simp (disch := omega) only [up2_ne, up2_eq]
            exact ⟨⟨⟨trivial, by omega, by omega⟩, ⟨trivial, by omega, by omega⟩, g3, g4, g5⟩, by omega⟩
          · subst hi
            have hO1 := hO i b0 b1
            obtain ⟨g1, g2, g3, g4, g5⟩ := hB i b0 b1
            unfold LO1 at hO1
            unfold LB1 LO1
            subst hV1
            simp (disch := omega) only [up2_ne, up2_eq]
            exact ⟨⟨⟨trivial, by omega, by omega⟩, g2, g3, g4, g5⟩, by omega⟩
      · rw [if_pos h3, M_roll hk ha hb hr, if_neg (fun q => q h1), if_neg h2, if_pos h3]
        exact ⟨rfl, hup⟩
  · rw [if_pos h1, M_roll hk ha hb hr, if_pos h1]
    exact ⟨rfl, hup⟩
end C4
