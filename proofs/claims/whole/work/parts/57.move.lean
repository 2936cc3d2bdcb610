/-! commands: move -/
section MV
variable {d : Nat} {n m a b c e x : Int} {V V' : Mem} {S : Shp} {Q : Int → Mem → Shp → Prop}
theorem cmd_move (h : INV n V S) (hn : n ≤ m) (hm : m ≤ 40000) (ha : s32 a = a) (hb : s32 b = b) : C_x_move (d + 20) 100 a b V S (fun r V1 S1 => C_m_move (d + 20) 137 a b V1 S1 (fun r' V2 S2 => r = r' ∧ INV m V2 S2)) := by
  have hup := h.up hn
  have hk := h.1
  have hS := hk.1
  have hV := hk.2.1
  have n20 := hk.n20
  have n599 := hk.n599
  have c12 := hk.2.2.1.2.2.1.1
  have t1 : s32 1 = 1 := l1
  have t2 : s32 2 = 2 := s32_id (by omega) (by omega)
  by_cases h1 : 0 ≤ a ∧ a < V 137 2
  · have g0 : ¬ 1000 + 10 * a = -1 := by omega
    have g1 : a < 20 := by omega
    obtain ⟨hA, hB, hM, hO, -⟩ := h.2.2.2.1
    have hB1 := hB a h1.1 h1.2
    have hM1 := hM a h1.1 h1.2
    obtain ⟨ow, ol⟩ := LM1.ow hM1 hB1 (by omega)
    obtain ⟨⟨p1, p2, p3⟩, ⟨b1, b2', b3⟩, ⟨b4, b5, b6⟩, b7, b8⟩ := id hB1
    obtain ⟨M1, M2, M3, -⟩ := hM1
    obtain ⟨⟨k0, k1, k2, k3, k4, k5, -⟩, r1, r2, r4, r5, r6, r7, r8⟩ := hk.lamp h1.1 h1.2
    have s4 : s32 (V 144 a) = V 144 a := s32_id (by omega) (by omega)
    have s6 : s32 (V 156 a) = V 156 a := s32_id (by omega) (by omega)
    by_cases h2 : b = 0
    · subst h2
      by_cases h3 : V 144 a = 1
      · obtain ⟨v, v1, v2⟩ := pr_let (w := 3) (day := V 137 0) (d + 6) h h1.1 h1.2 (Or.inl rfl) (by omega)
        simp (disch := omega) only [I_x_move, p_lampAt hk, ha, h1, g0, hS.k100, hV.r100_4, c12, k0, b1, h3, s4, t1, b_s32, b_eq0, b_01, l0, l1, true_and, and_true, and_self, true_implies, false_implies, implies_true, forall_const, not_true_eq_false, not_false_eq_true, reduceIte, ite_true, ite_false, reduceCtorEq, forall_eq, Classical.not_not, true_or, or_true, false_or, or_false, and_false, false_and, Int.reduceEq, Int.reduceLT, Int.reduceLE, Int.reduceAdd, Int.reduceSub, Int.reduceMul, Int.reduceNeg]
        refine v1 _ ?_
        have mm : ∀ (V1 : Mem) (Q : Int → Mem → Shp → Prop), SK V1 S → MEQ V V1 → (∀ V', RFR V1 V' → (if v = true then Q 1 (up2 (up2 V' 144 a 3) 145 a (-1)) S else Q (-3) V' S)) → C_m_move (d + 20) 137 a 0 V1 S Q := by
          intro V1 Q hk1 e hQ
          have hV1 := hk1.2.1
          have hV := hV1
          have e0 : V1 137 0 = V 137 0 := e _ _ (by omega) (by omega)
          have e2 : V1 137 2 = V 137 2 := e _ _ (by omega) (by omega)
          have e4 : V1 144 a = V 144 a := e _ _ (by omega) (by omega)
          simp (disch := omega) only [I_m_move, p_isLamp hk1, r_in hS, ha, e0, e2, e4, h1, g1, h3, hS.k137, hS.k144, hS.n144, hV.r137_9, t2, show ¬ (0 : Int) = 2 from by omega, b_s32, b_eq0, b_01, l0, l1, true_and, and_true, and_self, true_implies, false_implies, implies_true, forall_const, not_true_eq_false, not_false_eq_true, reduceIte, ite_true, ite_false, reduceCtorEq, forall_eq, Classical.not_not, true_or, or_true, false_or, or_false, and_false, false_and, Int.reduceEq, Int.reduceLT, Int.reduceLE, Int.reduceAdd, Int.reduceSub, Int.reduceMul, Int.reduceNeg]
          refine v2 V1 _ hV1 e (fun V' f => ?_)
          have hV := hV1.rr f
          have q := hQ V' f
          cases v
          · have q : Q (-3) V' S := by rw [if_neg (by simp)] at q; exact q
            simp (disch := omega) only [show s32 (b2 false) = 0 from by decide, q, b_s32, b_eq0, b_01, l0, l1, true_and, and_true, and_self, true_implies, false_implies, implies_true, forall_const, not_true_eq_false, not_false_eq_true, reduceIte, ite_true, ite_false, reduceCtorEq, forall_eq, Classical.not_not, true_or, or_true, false_or, or_false, and_false, false_and, Int.reduceEq, Int.reduceLT, Int.reduceLE, Int.reduceAdd, Int.reduceSub, Int.reduceMul, Int.reduceNeg]
          · rw [if_pos rfl] at q
            simp (disch := omega) only [show ¬ s32 (b2 true) = 0 from by decide, hS.k137, hS.k144, hS.n144, hV.r137_9, hS.k145, hS.n145, hV.r137_10, ha, h1, g1, q, up2_ne, b_s32, b_eq0, b_01, l0, l1, true_and, and_true, and_self, true_implies, false_implies, implies_true, forall_const, not_true_eq_false, not_false_eq_true, reduceIte, ite_true, ite_false, reduceCtorEq, forall_eq, Classical.not_not, true_or, or_true, false_or, or_false, and_false, false_and, Int.reduceEq, Int.reduceLT, Int.reduceLE, Int.reduceAdd, Int.reduceSub, Int.reduceMul, Int.reduceNeg]
        cases v
        · refine ⟨fun _ => mm V _ hk MEQ.rf (fun V' f => ?_), fun z => absurd (show s32 (b2 false) = 0 from by decide) z⟩
          rw [if_neg (by simp)]
          exact ⟨rfl, h.rr f hn⟩
        · refine ⟨fun z => absurd z (by decide), fun _ => ?_⟩
          simp (disch := omega) only [I_Lamp_beFetched, k0, b_s32, b_eq0, b_01, l0, l1, true_and, and_true, and_self, true_implies, false_implies, implies_true, forall_const, not_true_eq_false, not_false_eq_true, reduceIte, ite_true, ite_false, reduceCtorEq, forall_eq, Classical.not_not, true_or, or_true, false_or, or_false, and_false, false_and, Int.reduceEq, Int.reduceLT, Int.reduceLE, Int.reduceAdd, Int.reduceSub, Int.reduceMul, Int.reduceNeg]
          generalize hV1 : (up2 (up2 V (1000 + 10 * a) 9 3) (1000 + 10 * a) 10 (-1)) = V1
          have F : ∀ p q, ¬ (p = 1000 + 10 * a ∧ 8 ≤ q) → V1 p q = V p q := by
            intro p q hw
            subst hV1
            simp (disch := omega) only [up2_ne]
          have hk1 : SK V1 S := hk.fr (fun p q hd => F p q (by unfold SKD VD at hd; omega))
          refine mm V1 _ hk1 (fun p q p0 p1 => F p q (by omega)) (fun V' f => ?_)
          rw [if_pos rfl]
          refine ⟨rfl, INV.rr (V := up2 (up2 V1 144 a 3) 145 a (-1)) ?_ (RFR.u2 (RFR.u2 f)) (Int.le_refl _)⟩
          refine h.lampB hn h1.1 h1.2 h1.1 h1.2 (fun p q hw => ?_) (fun i hi => ?_)
          · unfold WB at hw
            simp (disch := omega) only [up2_ne]
            exact F p q (by omega)
          · have hi : i = a := by omega
            subst hi
            unfold LB1 LO1
            subst hV1
            simp (disch := omega) only [up2_ne, up2_eq]
            exact ⟨⟨⟨p1, p2, p3⟩, ⟨trivial, by omega, by omega⟩, ⟨b4, b5, b6⟩, b7, Or.inl ⟨trivial, trivial⟩⟩, by omega⟩
      · simp (disch := omega) only [I_x_move, I_m_move, p_lampAt hk, p_isLamp hk, r_in hS, ha, h1, g0, g1, hS.k100, hS.k137, hS.k144, hS.n144, hV.r137_9, k0, b1, h3, s4, t1, t2, show ¬ (0 : Int) = 2 from by omega, hup, b_s32, b_eq0, b_01, l0, l1, true_and, and_true, and_self, true_implies, false_implies, implies_true, forall_const, not_true_eq_false, not_false_eq_true, reduceIte, ite_true, ite_false, reduceCtorEq, forall_eq, Classical.not_not, true_or, or_true, false_or, or_false, and_false, false_and, Int.reduceEq, Int.reduceLT, Int.reduceLE, Int.reduceAdd, Int.reduceSub, Int.reduceMul, Int.reduceNeg]
    · by_cases h3 : b = 1
      · subst h3
        by_cases h4 : V 144 a = 1
        · by_cases h5 : V 156 a = 0
          · simp (disch := omega) only [I_x_move, I_m_move, p_lampAt hk, p_isLamp hk, r_in hS, ha, h1, g0, g1, hS.k100, hS.k137, hS.k144, hS.n144, hV.r137_9, hS.k156, hS.n156, hV.r137_21, k0, b1, b4, h4, h5, s4, t1, t2, show ¬ (1 : Int) = 2 from by omega, show ¬ (1 : Int) = 0 from by omega, hup, b_s32, b_eq0, b_01, l0, l1, true_and, and_true, and_self, true_implies, false_implies, implies_true, forall_const, not_true_eq_false, not_false_eq_true, reduceIte, ite_true, ite_false, reduceCtorEq, forall_eq, Classical.not_not, true_or, or_true, false_or, or_false, and_false, false_and, Int.reduceEq, Int.reduceLT, Int.reduceLE, Int.reduceAdd, Int.reduceSub, Int.reduceMul, Int.reduceNeg]
          · simp (disch := omega) only [I_x_move, p_lampAt hk, ha, h1, g0, g1, hS.k100, k0, b1, b4, h4, h5, s4, s6, t1, t2, show ¬ (1 : Int) = 2 from by omega, show ¬ (1 : Int) = 0 from by omega, b_s32, b_eq0, b_01, l0, l1, true_and, and_true, and_self, true_implies, false_implies, implies_true, forall_const, not_true_eq_false, not_false_eq_true, reduceIte, ite_true, ite_false, reduceCtorEq, forall_eq, Classical.not_not, true_or, or_true, false_or, or_false, and_false, false_and, Int.reduceEq, Int.reduceLT, Int.reduceLE, Int.reduceAdd, Int.reduceSub, Int.reduceMul, Int.reduceNeg]
            generalize hV1 : (up2 V (1000 + 10 * a) 9 2) = V1
            have F : ∀ p q, ¬ (p = 1000 + 10 * a ∧ 8 ≤ q) → V1 p q = V p q := by
              intro p q hw
              subst hV1
              simp (disch := omega) only [up2_ne]
            have hk1 : SK V1 S := hk.fr (fun p q hd => F p q (by unfold SKD VD at hd; omega))
            have hV := hk1.2.1
            have e2 : V1 137 2 = V 137 2 := F _ _ (by omega)
            have e4 : V1 144 a = V 144 a := F _ _ (by omega)
            have e6 : V1 156 a = V 156 a := F _ _ (by omega)
            simp (disch := omega) only [I_m_move, p_isLamp hk1, r_in hS, ha, e2, e4, e6, h1, g1, hS.k137, hS.k144, hS.n144, hV.r137_9, hS.k156, hS.n156, hV.r137_21, hS.k145, hS.n145, hV.r137_10, h4, h5, s6, t1, t2, show ¬ (1 : Int) = 2 from by omega, show ¬ (1 : Int) = 0 from by omega, b_s32, b_eq0, b_01, l0, l1, true_and, and_true, and_self, true_implies, false_implies, implies_true, forall_const, not_true_eq_false, not_false_eq_true, reduceIte, ite_true, ite_false, reduceCtorEq, forall_eq, Classical.not_not, true_or, or_true, false_or, or_false, and_false, false_and, Int.reduceEq, Int.reduceLT, Int.reduceLE, Int.reduceAdd, Int.reduceSub, Int.reduceMul, Int.reduceNeg]
            refine h.lampB hn h1.1 h1.2 h1.1 h1.2 (fun p q hw => ?_) (fun i hi => ?_)
            · unfold WB at hw
              simp (disch := omega) only [up2_ne]
              exact F p q (by omega)
            · have hi : i = a := by omega
              subst hi
              unfold LB1 LO1
              subst hV1
              simp (disch := omega) only [up2_ne, up2_eq]
              exact ⟨⟨⟨p1, p2, p3⟩, ⟨trivial, by omega, by omega⟩, ⟨b4, b5, b6⟩, b7, b8⟩, by omega⟩
        · simp (disch := omega) only [I_x_move, I_m_move, p_lampAt hk, p_isLamp hk, r_in hS, ha, h1, g0, g1, hS.k100, hS.k137, hS.k144, hS.n144, hV.r137_9, hS.k156, hS.n156, hV.r137_21, k0, b1, b4, h4, s4, t1, t2, show ¬ (1 : Int) = 2 from by omega, show ¬ (1 : Int) = 0 from by omega, hup, b_s32, b_eq0, b_01, l0, l1, true_and, and_true, and_self, true_implies, false_implies, implies_true, forall_const, not_true_eq_false, not_false_eq_true, reduceIte, ite_true, ite_false, reduceCtorEq, forall_eq, Classical.not_not, true_or, or_true, false_or, or_false, and_false, false_and, Int.reduceEq, Int.reduceLT, Int.reduceLE, Int.reduceAdd, Int.reduceSub, Int.reduceMul, Int.reduceNeg]
      · by_cases h4 : b = 2
        · subst h4
          by_cases h5 : V 144 a = 2
          · simp (disch := omega) only [I_x_move, p_lampAt hk, ha, h1, g0, g1, hS.k100, k0, b1, h5, t1, t2, c12, p_comeOnRoof hk h1.1 h1.2, show ¬ (2 : Int) = 1 from by omega, show ¬ (2 : Int) = 0 from by omega, b_s32, b_eq0, b_01, l0, l1, true_and, and_true, and_self, true_implies, false_implies, implies_true, forall_const, not_true_eq_false, not_false_eq_true, reduceIte, ite_true, ite_false, reduceCtorEq, forall_eq, Classical.not_not, true_or, or_true, false_or, or_false, and_false, false_and, Int.reduceEq, Int.reduceLT, Int.reduceLE, Int.reduceAdd, Int.reduceSub, Int.reduceMul, Int.reduceNeg]
            rw [p1, M1, M2, M3, ow, ol]
            generalize hst : (if V 142 a - V 148 a - V 146 a ≤ 0 ∧ V 147 a = 0 then (4 : Int) else 1) = st
            have hs : (st = 4 ∧ V 142 a - V 148 a - V 146 a ≤ 0 ∧ V 147 a = 0) ∨ (st = 1 ∧ ¬ (V 142 a - V 148 a - V 146 a ≤ 0 ∧ V 147 a = 0)) := by
              by_cases g : V 142 a - V 148 a - V 146 a ≤ 0 ∧ V 147 a = 0
              · rw [if_pos g] at hst; exact Or.inl ⟨hst.symm, g⟩
              · rw [if_neg g] at hst; exact Or.inr ⟨hst.symm, g⟩
            generalize hV1 : (up2 (up2 (up2 (up2 (up2 V (1000 + 10 * a) 9 1) (1000 + 10 * a) 10 (V (1000 + 10 * a) 10)) (1000 + 10 * a) 11 0) (1000 + 10 * a) 12 (V 137 0)) (1000 + 10 * a) 9 st) = V1
            have F : ∀ p q, ¬ (p = 1000 + 10 * a ∧ 8 ≤ q) → V1 p q = V p q := by
              intro p q hw
              subst hV1
              simp (disch := omega) only [up2_ne]
            have hk1 : SK V1 S := hk.fr (fun p q hd => F p q (by unfold SKD VD at hd; omega))
            have hV := hk1.2.1
            have e2 : V1 137 2 = V 137 2 := F _ _ (by omega)
            have e0 : V1 137 0 = V 137 0 := F _ _ (by omega)
            have e3 : V1 144 a = V 144 a := F _ _ (by omega)
            have e4 : V1 142 a = V 142 a := F _ _ (by omega)
            have e5 : V1 148 a = V 148 a := F _ _ (by omega)
            have e6 : V1 146 a = V 146 a := F _ _ (by omega)
            have e7 : V1 147 a = V 147 a := F _ _ (by omega)
            have pc := fun (U : Mem → Shp → Prop) => p_comes (d := d + 16) (U := U) hk1 h1.1 (by rw [e2]; exact h1.2) ha
            rw [e0, e4, e5, e6, e7, ow, ol, hst] at pc
            simp (disch := omega) only [I_m_move, p_isLamp hk1, r_in hS, ha, e2, e3, h1, g1, hS.k137, hS.k144, hS.n144, hV.r137_9, h5, t1, t2, pc, b_s32, b_eq0, b_01, l0, l1, true_and, and_true, and_self, true_implies, false_implies, implies_true, forall_const, not_true_eq_false, not_false_eq_true, reduceIte, ite_true, ite_false, reduceCtorEq, forall_eq, Classical.not_not, true_or, or_true, false_or, or_false, and_false, false_and, Int.reduceEq, Int.reduceLT, Int.reduceLE, Int.reduceAdd, Int.reduceSub, Int.reduceMul, Int.reduceNeg]
            refine h.lampB hn h1.1 h1.2 h1.1 h1.2 (fun p q hw => ?_) (fun i hi => ?_)
            · unfold WB at hw
              simp (disch := omega) only [up2_ne]
              exact F p q (by omega)
            · have hi : i = a := by omega
              subst hi
              unfold LB1 LO1
              subst hV1
              simp (disch := omega) only [up2_ne, up2_eq]
              exact ⟨⟨⟨p1, p2, p3⟩, ⟨trivial, by omega, by omega⟩, ⟨trivial, by omega, by omega⟩, ⟨trivial, by omega, by omega⟩, b8⟩, by omega⟩
          · simp (disch := omega) only [I_x_move, I_m_move, p_lampAt hk, p_isLamp hk, r_in hS, ha, h1, g0, g1, hS.k100, hS.k137, hS.k144, hS.n144, hV.r137_9, hS.k156, hS.n156, hV.r137_21, k0, b1, b4, h5, s4, t1, t2, show ¬ (2 : Int) = 1 from by omega, show ¬ (2 : Int) = 0 from by omega, hup, b_s32, b_eq0, b_01, l0, l1, true_and, and_true, and_self, true_implies, false_implies, implies_true, forall_const, not_true_eq_false, not_false_eq_true, reduceIte, ite_true, ite_false, reduceCtorEq, forall_eq, Classical.not_not, true_or, or_true, false_or, or_false, and_false, false_and, Int.reduceEq, Int.reduceLT, Int.reduceLE, Int.reduceAdd, Int.reduceSub, Int.reduceMul, Int.reduceNeg]
        · simp (disch := omega) only [I_x_move, I_m_move, p_lampAt hk, p_isLamp hk, r_in hS, ha, hb, h1, h2, h3, h4, g0, g1, hS.k100, hS.k137, t1, t2, l0, show ¬ (0 ≤ b ∧ b ≤ 2) from by omega, hup, b_s32, b_eq0, b_01, l0, l1, true_and, and_true, and_self, true_implies, false_implies, implies_true, forall_const, not_true_eq_false, not_false_eq_true, reduceIte, ite_true, ite_false, reduceCtorEq, forall_eq, Classical.not_not, true_or, or_true, false_or, or_false, and_false, false_and, Int.reduceEq, Int.reduceLT, Int.reduceLE, Int.reduceAdd, Int.reduceSub, Int.reduceMul, Int.reduceNeg]
  · simp (disch := omega) only [I_x_move, I_m_move, p_lampAt hk, p_isLamp hk, ha, h1, hS.k100, hS.k137, s32_id, hup, b_s32, b_eq0, b_01, l0, l1, true_and, and_true, and_self, true_implies, false_implies, implies_true, forall_const, not_true_eq_false, not_false_eq_true, reduceIte, ite_true, ite_false, reduceCtorEq, forall_eq, Classical.not_not, true_or, or_true, false_or, or_false, and_false, false_and, Int.reduceEq, Int.reduceLT, Int.reduceLE, Int.reduceAdd, Int.reduceSub, Int.reduceMul, Int.reduceNeg]
end MV
