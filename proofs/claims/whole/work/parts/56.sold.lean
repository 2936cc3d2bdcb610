/-! commands: sold, move -/
section SO
variable {d : Nat} {n m a b c e x : Int} {V V' : Mem} {S : Shp} {Q : Int → Mem → Shp → Prop}
theorem bm_id (h0 : 0 ≤ x) (h1 : x ≤ 100) : Int.bmod x 256 = x := by
  rw [Int.bmod_def]
  split <;> omega
theorem cmd_sold (h : INV n V S) (hn : n ≤ m) (ha : s32 a = a) (hb : s32 b = b) : C_x_sold (d + 20) 100 a b V S (fun r V1 S1 => C_m_sold (d + 20) 137 a b V1 S1 (fun r' V2 S2 => r = r' ∧ INV m V2 S2)) := by
  have hup := h.up hn
  have hk := h.1
  have hS := hk.1
  have hV := hk.2.1
  have n20 := hk.n20
  have n599 := hk.n599
  have c12 := hk.2.2.1.2.2.1.1
  have st : s32 (V 137 0) = V 137 0 := s32_id (by omega) (by omega)
  by_cases h1 : 0 ≤ a ∧ a < V 137 2
  · have g0 : ¬ 1000 + 10 * a = -1 := by omega
    have g1 : a < 20 := by omega
    by_cases h2 : 1 ≤ b ∧ b ≤ 999
    · obtain ⟨⟨k0, k1, k2, k3, k4, k5, -⟩, r1, r2, r4, r5, r6, r7, r8⟩ := hk.lamp h1.1 h1.2
      obtain ⟨hA, hB, hM, hO, hC, -⟩ := h.2.2.2.1
      obtain ⟨C1, C2, C3, ⟨C4, C5, C6⟩, C7, C8⟩ := hC a h1.1 h1.2
      have sN : s32 (V 150 a) = V 150 a := s32_id (by omega) (by omega)
      simp (disch := omega) only [I_x_sold, p_lampAt hk, p_isSum, ha, hb, h1, h2, g0, hS.k100, hV.r100_4, c12, b_s32, b_eq0, b_01, l0, l1, true_and, and_true, and_self, true_implies, false_implies, implies_true, forall_const, not_true_eq_false, not_false_eq_true, reduceIte, ite_true, ite_false, reduceCtorEq, forall_eq, Classical.not_not, true_or, or_true, false_or, or_false, and_false, false_and, Int.reduceEq, Int.reduceLT, Int.reduceLE, Int.reduceAdd, Int.reduceSub, Int.reduceMul, Int.reduceNeg]
      refine pc_days (d := d + 12) h st hb ?_
      have rD := h.dy (coins := b) (day := V 137 0) (by omega)
      have mm : ∀ (V1 : Mem) (Q : Int → Mem → Shp → Prop), SK V1 S → MEQ V V1 → (∀ V', RFR V1 V' → (if 1 ≤ s32 (dyS V b (V 137 0)) ∧ s32 (dyS V b (V 137 0)) ≤ 60 then (if s32 (V 150 a) = s32 64 then Q (-4) V' S else Q ((s32 ((((7919 * (a + 1)) + (131 * dyS V b (V 137 0))) + ((17 * V 150 a) * V 150 a)) + V 150 a)).tmod (s32 100000)) (up2 (up2 V' 157 (64 * a + V 150 a) (dyS V b (V 137 0))) 150 a (V 150 a + 1)) S) else Q (-3) V' S)) → C_m_sold (d + 20) 137 a b V1 S Q := by
        intro V1 Q hk1 e hQ
        have hV1 := hk1.2.1
        have e0 : V1 137 0 = V 137 0 := e _ _ (by omega) (by omega)
        have e2 : V1 137 2 = V 137 2 := e _ _ (by omega) (by omega)
        simp (disch := omega) only [I_m_sold, p_isLamp hk1, r_in hS, ha, hb, e0, e2, h1, h2, hS.k137, s32_id (x := 1), s32_id (x := 999), b_s32, b_eq0, b_01, l0, l1, true_and, and_true, and_self, true_implies, false_implies, implies_true, forall_const, not_true_eq_false, not_false_eq_true, reduceIte, ite_true, ite_false, reduceCtorEq, forall_eq, Classical.not_not, true_or, or_true, false_or, or_false, and_false, false_and, Int.reduceEq, Int.reduceLT, Int.reduceLE, Int.reduceAdd, Int.reduceSub, Int.reduceMul, Int.reduceNeg]
        refine daysM hS h.tm hV1 e st hb (fun V' f => ?_)
        have hV := hV1.rr f
        have e150 : V' 150 a = V 150 a := (f _ _ (by unfold RCf; omega)).trans (e _ _ (by omega) (by omega))
        have q := hQ V' f
        by_cases c1 : 1 ≤ s32 (dyS V b (V 137 0)) ∧ s32 (dyS V b (V 137 0)) ≤ 60
        · rw [if_pos c1] at q
          by_cases c2 : s32 (V 150 a) = s32 64
          · rw [if_pos c2] at q
            simp (disch := omega) only [c1, r_in hS, hS.k137, hS.k150, hS.n150, hV.r137_15, ha, h1, g1, e150, c2, s32_id (x := 1), s32_id (x := 60), q, b_s32, b_eq0, b_01, l0, l1, true_and, and_true, and_self, true_implies, false_implies, implies_true, forall_const, not_true_eq_false, not_false_eq_true, reduceIte, ite_true, ite_false, reduceCtorEq, forall_eq, Classical.not_not, true_or, or_true, false_or, or_false, and_false, false_and, Int.reduceEq, Int.reduceLT, Int.reduceLE, Int.reduceAdd, Int.reduceSub, Int.reduceMul, Int.reduceNeg]
          · rw [if_neg c2] at q
            have s64 : s32 64 = 64 := s32_id (by omega) (by omega)
            rw [s64, sN] at c2
            have e9 : s32 (64 * a + V 150 a) = 64 * a + V 150 a := s32_id (by omega) (by omega)
            simp (disch := omega) only [c1, r_in hS, hS.k137, hS.k150, hS.n150, hV.r137_15, hS.k157, hS.n157, hV.r137_22, ha, h1, g1, e150, sN, s64, e9, c2, up2_ne, I_m_codeOf, s32_id (x := 1), s32_id (x := 60), s32_id (x := 100000), show 0 ≤ 64 * a + V 150 a from by omega, show 64 * a + V 150 a < 1280 from by omega, ne_eq, b_s32, b_eq0, b_01, l0, l1, true_and, and_true, and_self, true_implies, false_implies, implies_true, forall_const, not_true_eq_false, not_false_eq_true, reduceIte, ite_true, ite_false, reduceCtorEq, forall_eq, Classical.not_not, true_or, or_true, false_or, or_false, and_false, false_and, Int.reduceEq, Int.reduceLT, Int.reduceLE, Int.reduceAdd, Int.reduceSub, Int.reduceMul, Int.reduceNeg]
            rw [s32_id (x := 100000) (by omega) (by omega)] at q
            exact q
        · rw [if_neg c1] at q
          simp (disch := omega) only [c1, r_in hS, q, s32_id (x := 1), s32_id (x := 60), b_s32, b_eq0, b_01, l0, l1, true_and, and_true, and_self, true_implies, false_implies, implies_true, forall_const, not_true_eq_false, not_false_eq_true, reduceIte, ite_true, ite_false, reduceCtorEq, forall_eq, Classical.not_not, true_or, or_true, false_or, or_false, and_false, false_and, Int.reduceEq, Int.reduceLT, Int.reduceLE, Int.reduceAdd, Int.reduceSub, Int.reduceMul, Int.reduceNeg]
      generalize hD : dyS V b (V 137 0) = D at rD mm
      have sD : s32 D = D := s32_id (by omega) (by omega)
      rw [sD] at mm
      by_cases h3 : 1 ≤ D ∧ D ≤ 60
      · simp only [if_pos h3] at mm
        by_cases h4 : V 150 a < 64
        · have s64 : s32 64 = 64 := s32_id (by omega) (by omega)
          simp only [sN, s64, if_neg (show ¬ V 150 a = 64 by omega)] at mm
          have bD : Int.bmod D 256 = D := bm_id (by omega) (by omega)
          simp (disch := omega) only [p_isWithin, sD, h3, k0, k3, k4, k5, r2, r6, r8, C4, I_Codes_isSoldOut, I_Codes_addSold, I_Codes_reckon, sN, s64, h4, bD, up2_ne, s32_id (x := 1), s32_id (x := 60), s32_id (x := 100000), show ¬ V 150 a < 0 from by omega, show (0 : Int) ≤ V 150 a from C5, ne_eq, b_s32, b_eq0, b_01, l0, l1, true_and, and_true, and_self, true_implies, false_implies, implies_true, forall_const, not_true_eq_false, not_false_eq_true, reduceIte, ite_true, ite_false, reduceCtorEq, forall_eq, Classical.not_not, true_or, or_true, false_or, or_false, and_false, false_and, Int.reduceEq, Int.reduceLT, Int.reduceLE, Int.reduceAdd, Int.reduceSub, Int.reduceMul, Int.reduceNeg]
          generalize hV1 : (up2 (up2 V (1004 + 10 * a) (V 150 a) D) (1003 + 10 * a) 4 (V 150 a + 1)) = V1
          have F : ∀ p q, ¬ (p = 1004 + 10 * a ∨ (p = 1003 + 10 * a ∧ q = 4)) → V1 p q = V p q := by
            intro p q hw
            subst hV1
            simp (disch := omega) only [up2_ne]
          have hk1 : SK V1 S := hk.fr (fun p q hd => F p q (by unfold SKD VD at hd; omega))
          refine mm V1 _ hk1 (fun p q p0 p1 => F p q (by omega)) (fun V' f => ?_)
          refine ⟨by rw [s32_id (x := 100000) (by omega) (by omega)], ?_⟩
          refine INV.rr (V := up2 (up2 V1 157 (64 * a + V 150 a) D) 150 a (V 150 a + 1)) ?_ (RFR.u2 (RFR.u2 f)) (Int.le_refl _)
          refine h.lampC hn h1.1 h1.2 (fun p q hw => ?_) ?_
          · unfold WC at hw
            simp (disch := omega) only [up2_ne]
            exact F p q (by omega)
          · have hB1 := hB a h1.1 h1.2
            have hM1 := (LM1.up hM hn) a h1.1 h1.2
            have hO1 := hO a h1.1 h1.2
            unfold LB1 at hB1 ⊢
            unfold LM1 at hM1 ⊢
            unfold LO1 at hO1 ⊢
            unfold LC1
            subst hV1
            simp (disch := omega) only [up2_ne, up2_eq]
            refine ⟨hB1, hM1, hO1, C1, C2, C3, ⟨trivial, by omega, by omega⟩, C7, fun c c0 c1 => ?_⟩
            by_cases ec : c = V 150 a
            · subst ec
              simp (disch := omega) only [up2_ne, up2_eq]
              exact ⟨trivial, by omega, by omega⟩
            · simp (disch := omega) only [up2_ne]
              exact C8 c c0 c1
        · have s64 : s32 64 = 64 := s32_id (by omega) (by omega)
          simp only [sN, s64, if_pos (show V 150 a = 64 by omega)] at mm
          simp (disch := omega) only [p_isWithin, sD, h3, k0, k3, k4, k5, r2, r6, r8, C4, I_Codes_isSoldOut, sN, s64, h4, s32_id (x := 1), s32_id (x := 60), show ¬ V 150 a < 0 from by omega, b_s32, b_eq0, b_01, l0, l1, true_and, and_true, and_self, true_implies, false_implies, implies_true, forall_const, not_true_eq_false, not_false_eq_true, reduceIte, ite_true, ite_false, reduceCtorEq, forall_eq, Classical.not_not, true_or, or_true, false_or, or_false, and_false, false_and, Int.reduceEq, Int.reduceLT, Int.reduceLE, Int.reduceAdd, Int.reduceSub, Int.reduceMul, Int.reduceNeg]
          exact mm V _ hk MEQ.rf (fun V' f => ⟨rfl, h.rr f hn⟩)
      · simp only [if_neg h3] at mm
        simp (disch := omega) only [p_isWithin, sD, h3, s32_id (x := 1), s32_id (x := 60), b_s32, b_eq0, b_01, l0, l1, true_and, and_true, and_self, true_implies, false_implies, implies_true, forall_const, not_true_eq_false, not_false_eq_true, reduceIte, ite_true, ite_false, reduceCtorEq, forall_eq, Classical.not_not, true_or, or_true, false_or, or_false, and_false, false_and, Int.reduceEq, Int.reduceLT, Int.reduceLE, Int.reduceAdd, Int.reduceSub, Int.reduceMul, Int.reduceNeg]
        exact mm V _ hk MEQ.rf (fun V' f => ⟨rfl, h.rr f hn⟩)
    · simp (disch := omega) only [I_x_sold, I_m_sold, p_lampAt hk, p_isLamp hk, p_isSum, r_in hS, ha, hb, h1, h2, g0, hS.k100, hS.k137, s32_id (x := 1), s32_id (x := 999), hup, b_s32, b_eq0, b_01, l0, l1, true_and, and_true, and_self, true_implies, false_implies, implies_true, forall_const, not_true_eq_false, not_false_eq_true, reduceIte, ite_true, ite_false, reduceCtorEq, forall_eq, Classical.not_not, true_or, or_true, false_or, or_false, and_false, false_and, Int.reduceEq, Int.reduceLT, Int.reduceLE, Int.reduceAdd, Int.reduceSub, Int.reduceMul, Int.reduceNeg]
  · simp (disch := omega) only [I_x_sold, I_m_sold, p_lampAt hk, p_isLamp hk, ha, h1, hS.k100, hS.k137, s32_id, hup, b_s32, b_eq0, b_01, l0, l1, true_and, and_true, and_self, true_implies, false_implies, implies_true, forall_const, not_true_eq_false, not_false_eq_true, reduceIte, ite_true, ite_false, reduceCtorEq, forall_eq, Classical.not_not, true_or, or_true, false_or, or_false, and_false, false_and, Int.reduceEq, Int.reduceLT, Int.reduceLE, Int.reduceAdd, Int.reduceSub, Int.reduceMul, Int.reduceNeg]
end SO
