/-! commands: counts, tapes' items, traces -/
section C2
variable {d : Nat} {n m a b c e : Int} {V : Mem} {S : Shp} {Q : Int → Mem → Shp → Prop}
theorem cmd_count (h : INV n V S) (hn : n ≤ m) (ha : s32 a = a) : C_x_count (d + 5) 100 a V S (fun r V1 S1 => C_m_count (d + 5) 137 a V1 S1 (fun r' V2 S2 => r = r' ∧ INV m V2 S2)) := by
  have hm := h.up hn
  obtain ⟨hk, -, -, -, -, hr, ⟨⟨⟨b1, -⟩, -⟩, ⟨⟨b2, -⟩, -⟩, ⟨⟨b3, -⟩, -⟩⟩, hA, -⟩ := h
  obtain ⟨hS, hV, ⟨⟨q1, -⟩, ⟨q2, -⟩, ⟨q3, -⟩, ⟨q4, -⟩⟩, -⟩ := hk
  have q5 := hr.1.1
  have q6 := hA.1
  rcases (by omega : a = 0 ∨ a = 1 ∨ a = 2 ∨ a = 3 ∨ a = 4 ∨ a = 5 ∨ a = 6 ∨ a = 7 ∨ a = 8 ∨ (a ≠ 0 ∧ a ≠ 1 ∧ a ≠ 2 ∧ a ≠ 3 ∧ a ≠ 4 ∧ a ≠ 5 ∧ a ≠ 6 ∧ a ≠ 7 ∧ a ≠ 8)) with rfl | rfl | rfl | rfl | rfl | rfl | rfl | rfl | rfl | ⟨c0, c1, c2, c3, c4, c5, c6, c7, c8⟩
  all_goals simp (disch := omega) only [I_x_count, I_m_count, s32_id, ha, hS.k100, hS.k137, hS.k106, hS.k104, hS.k113, hS.k115, hS.k117, hS.k119, hS.k100, hS.k137, hV.r100_0, hV.r100_1, hV.r100_2, hV.r100_3, hV.r100_4, hV.r100_5, hV.r100_6, hV.r100_7, hV.r100_8, hV.r100_9, q1, q2, q3, q4, q5, q6, b1, b2, b3, hm, b_s32, b_eq0, b_01, l0, l1, true_and, and_true, and_self, true_implies, false_implies, implies_true, forall_const, not_true_eq_false, not_false_eq_true, reduceIte, ite_true, ite_false, reduceCtorEq, forall_eq, Classical.not_not, true_or, or_true, false_or, or_false, and_false, false_and, Int.reduceEq, Int.reduceLT, Int.reduceLE, Int.reduceAdd, Int.reduceSub, Int.reduceMul, Int.reduceNeg]
  simp only [c0, c1, c2, c3, c4, c5, c6, c7, c8, hm, b_s32, b_eq0, b_01, l0, l1, true_and, and_true, and_self, true_implies, false_implies, implies_true, forall_const, not_true_eq_false, not_false_eq_true, reduceIte, ite_true, ite_false, reduceCtorEq, forall_eq, Classical.not_not, true_or, or_true, false_or, or_false, and_false, false_and, Int.reduceEq, Int.reduceLT, Int.reduceLE, Int.reduceAdd, Int.reduceSub, Int.reduceMul, Int.reduceNeg]
theorem cmd_trace (h : INV n V S) (hn : n ≤ m) (ha : s32 a = a) : C_x_trace (d + 5) 100 a V S (fun r V1 S1 => C_m_trace (d + 5) 137 a V1 S1 (fun r' V2 S2 => r = r' ∧ INV m V2 S2)) := by
  have hm := h.up hn
  obtain ⟨hk, -, -, -, -, -, -, ⟨q1, q2, q3, q4⟩, -⟩ := h
  have hS := hk.1
  have hV := hk.2.1
  have e1 : s32 (V 137 64) = V 137 64 := s32_id (by omega) (by omega)
  have e2 : s32 20 = 20 := s32_id (by omega) (by omega)
  have e3 : s32 19 = 19 := s32_id (by omega) (by omega)
  simp only [I_x_trace, I_m_trace, p_min, q_in hk, ha, e1, e2, e3, hS.k100, hS.k137, hS.k119, hS.k100, hS.k137, hV.r100_0, hV.r100_1, hV.r100_2, hV.r100_3, hV.r100_4, hV.r100_5, hV.r100_6, hV.r100_7, hV.r100_8, hV.r100_9, hV.r119_1, q1, hS.k178, hS.n178, hV.r137_68, p_valueAt _ _ _ _ _ _ (Or.inl hS.k120) (by rw [hS.n120]; omega), hS.n120, b_s32, b_eq0, b_01, l0, l1, true_and, and_true, and_self, true_implies, false_implies, implies_true, forall_const, not_true_eq_false, not_false_eq_true, reduceIte, ite_true, ite_false, reduceCtorEq, forall_eq, Classical.not_not, true_or, or_true, false_or, or_false, and_false, false_and, Int.reduceEq, Int.reduceLT, Int.reduceLE, Int.reduceAdd, Int.reduceSub, Int.reduceMul, Int.reduceNeg, b_s32, s32_ite]
  by_cases c1 : a < 0
  · simp only [c1, show ¬ (0 ≤ a ∧ a ≤ 19) from by omega, hm, b_s32, b_eq0, b_01, l0, l1, true_and, and_true, and_self, true_implies, false_implies, implies_true, forall_const, not_true_eq_false, not_false_eq_true, reduceIte, ite_true, ite_false, reduceCtorEq, forall_eq, Classical.not_not, true_or, or_true, false_or, or_false, and_false, false_and, Int.reduceEq, Int.reduceLT, Int.reduceLE, Int.reduceAdd, Int.reduceSub, Int.reduceMul, Int.reduceNeg]
  · by_cases c2 : 20 < V 137 64
    · by_cases c3 : a < 20
      · simp only [c1, c2, c3, show a < V 137 64 from by omega, show (0 ≤ a ∧ a ≤ 19) from by omega, show 0 ≤ a from by omega, q4 a (by omega) c3 (by omega), hm, b_s32, b_eq0, b_01, l0, l1, true_and, and_true, and_self, true_implies, false_implies, implies_true, forall_const, not_true_eq_false, not_false_eq_true, reduceIte, ite_true, ite_false, reduceCtorEq, forall_eq, Classical.not_not, true_or, or_true, false_or, or_false, and_false, false_and, Int.reduceEq, Int.reduceLT, Int.reduceLE, Int.reduceAdd, Int.reduceSub, Int.reduceMul, Int.reduceNeg]
      · simp only [c1, c2, c3, show ¬ (0 ≤ a ∧ a ≤ 19) from by omega, hm, b_s32, b_eq0, b_01, l0, l1, true_and, and_true, and_self, true_implies, false_implies, implies_true, forall_const, not_true_eq_false, not_false_eq_true, reduceIte, ite_true, ite_false, reduceCtorEq, forall_eq, Classical.not_not, true_or, or_true, false_or, or_false, and_false, false_and, Int.reduceEq, Int.reduceLT, Int.reduceLE, Int.reduceAdd, Int.reduceSub, Int.reduceMul, Int.reduceNeg]
    · by_cases c3 : a < V 137 64
      · simp only [c1, c2, c3, show a < 20 from by omega, show (0 ≤ a ∧ a ≤ 19) from by omega, show 0 ≤ a from by omega, q4 a (by omega) (by omega) c3, hm, b_s32, b_eq0, b_01, l0, l1, true_and, and_true, and_self, true_implies, false_implies, implies_true, forall_const, not_true_eq_false, not_false_eq_true, reduceIte, ite_true, ite_false, reduceCtorEq, forall_eq, Classical.not_not, true_or, or_true, false_or, or_false, and_false, false_and, Int.reduceEq, Int.reduceLT, Int.reduceLE, Int.reduceAdd, Int.reduceSub, Int.reduceMul, Int.reduceNeg]
      · by_cases c4 : a ≤ 19
        · simp only [c1, c2, c3, show (0 ≤ a ∧ a ≤ 19) from by omega, hm, b_s32, b_eq0, b_01, l0, l1, true_and, and_true, and_self, true_implies, false_implies, implies_true, forall_const, not_true_eq_false, not_false_eq_true, reduceIte, ite_true, ite_false, reduceCtorEq, forall_eq, Classical.not_not, true_or, or_true, false_or, or_false, and_false, false_and, Int.reduceEq, Int.reduceLT, Int.reduceLE, Int.reduceAdd, Int.reduceSub, Int.reduceMul, Int.reduceNeg]
        · simp only [c1, c2, c3, show ¬ (0 ≤ a ∧ a ≤ 19) from by omega, hm, b_s32, b_eq0, b_01, l0, l1, true_and, and_true, and_self, true_implies, false_implies, implies_true, forall_const, not_true_eq_false, not_false_eq_true, reduceIte, ite_true, ite_false, reduceCtorEq, forall_eq, Classical.not_not, true_or, or_true, false_or, or_false, and_false, false_and, Int.reduceEq, Int.reduceLT, Int.reduceLE, Int.reduceAdd, Int.reduceSub, Int.reduceMul, Int.reduceNeg]
theorem q_hasPlace (hS : FS S) (hV : FV V) (t0 : 0 ≤ a) (t1 : a < 6) (r0 : 0 ≤ V (125 + 2 * a) 1) (r1 : V (125 + 2 * a) 1 ≤ 60) : C_Tape_hasPlace (d + 1) (125 + 2 * a) b V S Q ↔ Q (if 0 ≤ s32 b ∧ s32 b < V (125 + 2 * a) 1 then 1 else 0) V S := by
  obtain ⟨k1, k2, k3⟩ := hS.tape a t0 t1
  have k4 := (hV.tape a t0 t1).2
  rw [I_Tape_hasPlace, k4]
  simp (disch := omega) only [k1, k2, k3, s32_id, l0, l1, b_s32, b_eq0, b_01, l0, l1, true_and, and_true, and_self, true_implies, false_implies, implies_true, forall_const, not_true_eq_false, not_false_eq_true, reduceIte, ite_true, ite_false, reduceCtorEq, forall_eq, Classical.not_not, true_or, or_true, false_or, or_false, and_false, false_and, Int.reduceEq, Int.reduceLT, Int.reduceLE, Int.reduceAdd, Int.reduceSub, Int.reduceMul, Int.reduceNeg]
  by_cases c1 : s32 b < 0
  · simp only [c1, show ¬ (0 ≤ s32 b ∧ s32 b < V (125 + 2 * a) 1) from by omega, b_s32, b_eq0, b_01, l0, l1, true_and, and_true, and_self, true_implies, false_implies, implies_true, forall_const, not_true_eq_false, not_false_eq_true, reduceIte, ite_true, ite_false, reduceCtorEq, forall_eq, Classical.not_not, true_or, or_true, false_or, or_false, and_false, false_and, Int.reduceEq, Int.reduceLT, Int.reduceLE, Int.reduceAdd, Int.reduceSub, Int.reduceMul, Int.reduceNeg]
  · by_cases c2 : s32 b < V (125 + 2 * a) 1
    · simp only [c1, c2, show (0 ≤ s32 b) from by omega, show (s32 b < 60) from by omega, b_s32, b_eq0, b_01, l0, l1, true_and, and_true, and_self, true_implies, false_implies, implies_true, forall_const, not_true_eq_false, not_false_eq_true, reduceIte, ite_true, ite_false, reduceCtorEq, forall_eq, Classical.not_not, true_or, or_true, false_or, or_false, and_false, false_and, Int.reduceEq, Int.reduceLT, Int.reduceLE, Int.reduceAdd, Int.reduceSub, Int.reduceMul, Int.reduceNeg]
    · simp only [c1, c2, show ¬ (0 ≤ s32 b ∧ s32 b < V (125 + 2 * a) 1) from by omega, b_s32, b_eq0, b_01, l0, l1, true_and, and_true, and_self, true_implies, false_implies, implies_true, forall_const, not_true_eq_false, not_false_eq_true, reduceIte, ite_true, ite_false, reduceCtorEq, forall_eq, Classical.not_not, true_or, or_true, false_or, or_false, and_false, false_and, Int.reduceEq, Int.reduceLT, Int.reduceLE, Int.reduceAdd, Int.reduceSub, Int.reduceMul, Int.reduceNeg]
theorem cmd_read (h : INV n V S) (hn : n ≤ m) (ha : s32 a = a) (hb : s32 b = b) : C_x_read (d + 5) 100 a b V S (fun r V1 S1 => C_m_read (d + 5) 137 a b V1 S1 (fun r' V2 S2 => r = r' ∧ INV m V2 S2)) := by
  have hm := h.up hn
  obtain ⟨hk, -, -, -, -, -, -, -, hT⟩ := h
  have hS := hk.1
  have hV := hk.2.1
  by_cases h1 : 0 ≤ a ∧ a < 6
  · obtain ⟨⟨t1, t2, t3⟩, ⟨t4, t5, t6, t7⟩, t8⟩ := hT a h1.1 h1.2
    obtain ⟨k1, k2, k3⟩ := hS.tape a h1.1 h1.2
    have k4 := (hV.tape a h1.1 h1.2).2
    by_cases h2 : 0 ≤ b ∧ b < V 180 a
    · have h3 : ¬ V 179 a < 0 := by
        intro hh
        have := t7 (by omega)
        omega
      simp (disch := omega) only [I_x_read, I_m_read, p_tapeAt hk, p_isTape hk, ha, hb, h1, hS.k100, hS.k137, q_hasPlace hS hV h1.1 h1.2, t4, q_in hk, h2, h3, I_Tape_itemAt, k1, k2, k3, k4, s32_id, b_s32, b_eq0, b_01, l0, l1, true_and, and_true, and_self, true_implies, false_implies, implies_true, forall_const, not_true_eq_false, not_false_eq_true, reduceIte, ite_true, ite_false, reduceCtorEq, forall_eq, Classical.not_not, true_or, or_true, false_or, or_false, and_false, false_and, Int.reduceEq, Int.reduceLT, Int.reduceLE, Int.reduceAdd, Int.reduceSub, Int.reduceMul, Int.reduceNeg, hS.k179, hS.n179, hV.r137_69, hS.k180, hS.n180, hV.r137_70, hS.k181, hS.n181, hV.r137_71, t8 b, hm, show ¬ b < 0 from by omega, show b < 60 from by omega, show ¬ 125 + 2 * a = -1 from by omega, show b ≤ V 180 a - 1 from by omega, show 60 * a + b < 360 from by omega, show 0 ≤ 60 * a + b from by omega]
    · by_cases h3 : V 179 a < 0
      · simp (disch := omega) only [I_x_read, I_m_read, p_tapeAt hk, p_isTape hk, ha, hb, h1, hS.k100, hS.k137, q_hasPlace hS hV h1.1 h1.2, t4, h2, h3, s32_id, b_s32, b_eq0, b_01, l0, l1, true_and, and_true, and_self, true_implies, false_implies, implies_true, forall_const, not_true_eq_false, not_false_eq_true, reduceIte, ite_true, ite_false, reduceCtorEq, forall_eq, Classical.not_not, true_or, or_true, false_or, or_false, and_false, false_and, Int.reduceEq, Int.reduceLT, Int.reduceLE, Int.reduceAdd, Int.reduceSub, Int.reduceMul, Int.reduceNeg, hS.k179, hS.n179, hV.r137_69, hS.k180, hS.n180, hV.r137_70, hS.k181, hS.n181, hV.r137_71, hm, show ¬ 125 + 2 * a = -1 from by omega]
      · simp (disch := omega) only [I_x_read, I_m_read, p_tapeAt hk, p_isTape hk, ha, hb, h1, hS.k100, hS.k137, q_hasPlace hS hV h1.1 h1.2, t4, q_in hk, h2, h3, s32_id, b_s32, b_eq0, b_01, l0, l1, true_and, and_true, and_self, true_implies, false_implies, implies_true, forall_const, not_true_eq_false, not_false_eq_true, reduceIte, ite_true, ite_false, reduceCtorEq, forall_eq, Classical.not_not, true_or, or_true, false_or, or_false, and_false, false_and, Int.reduceEq, Int.reduceLT, Int.reduceLE, Int.reduceAdd, Int.reduceSub, Int.reduceMul, Int.reduceNeg, hS.k179, hS.n179, hV.r137_69, hS.k180, hS.n180, hV.r137_70, hS.k181, hS.n181, hV.r137_71, hm, show ¬ 125 + 2 * a = -1 from by omega, show ¬ (0 ≤ b ∧ b ≤ V 180 a - 1) from by omega]
  · simp (disch := omega) only [I_x_read, I_m_read, p_tapeAt hk, p_isTape hk, ha, hb, h1, hS.k100, hS.k137, s32_id, b_s32, b_eq0, b_01, l0, l1, true_and, and_true, and_self, true_implies, false_implies, implies_true, forall_const, not_true_eq_false, not_false_eq_true, reduceIte, ite_true, ite_false, reduceCtorEq, forall_eq, Classical.not_not, true_or, or_true, false_or, or_false, and_false, false_and, Int.reduceEq, Int.reduceLT, Int.reduceLE, Int.reduceAdd, Int.reduceSub, Int.reduceMul, Int.reduceNeg, hm]
theorem X_item (hk : SK V S) (hT : TAP V) (ha : s32 a = a) (hb : s32 b = b) : C_x_item (d + 5) 100 a b c V S Q ↔ if ¬ (0 ≤ a ∧ a < 6) then Q (-1) V S else if V 179 a = -1 then Q (-11) V S else if ¬ (0 ≤ b ∧ b < V 180 a) then Q (-13) V S else Q 1 (up2 V (126 + 2 * a) b (if V 179 a = 0 then s32 (Int.bmod c 256) else if V 179 a = 1 then s32 (Int.bmod c 65536) else if V 179 a = 2 then s32 c else if V 179 a = 4 then (if s32 (lcmpI c 0) = 0 then 0 else 1) else c)) S := by
  have hS := hk.1
  have hV := hk.2.1
  by_cases h1 : 0 ≤ a ∧ a < 6
  · obtain ⟨⟨t1, t2, t3⟩, ⟨t4, t5, t6, t7⟩, t8⟩ := hT a h1.1 h1.2
    obtain ⟨k1, k2, k3⟩ := hS.tape a h1.1 h1.2
    have k4 := (hV.tape a h1.1 h1.2).2
    by_cases h2 : V 179 a = -1
    · simp (disch := omega) only [I_x_item, p_tapeAt hk, ha, hb, h1, hS.k100, k1, t1, h2, s32_id, b_s32, b_eq0, b_01, l0, l1, true_and, and_true, and_self, true_implies, false_implies, implies_true, forall_const, not_true_eq_false, not_false_eq_true, reduceIte, ite_true, ite_false, reduceCtorEq, forall_eq, Classical.not_not, true_or, or_true, false_or, or_false, and_false, false_and, Int.reduceEq, Int.reduceLT, Int.reduceLE, Int.reduceAdd, Int.reduceSub, Int.reduceMul, Int.reduceNeg, show ¬ 125 + 2 * a = -1 from by omega]
    · by_cases h3 : 0 ≤ b ∧ b < V 180 a
      · simp (disch := omega) only [I_x_item, p_tapeAt hk, ha, hb, h1, hS.k100, k1, k2, k3, k4, t1, h2, h3, q_hasPlace hS hV h1.1 h1.2, t4, s32_id, b_s32, b_eq0, b_01, l0, l1, true_and, and_true, and_self, true_implies, false_implies, implies_true, forall_const, not_true_eq_false, not_false_eq_true, reduceIte, ite_true, ite_false, reduceCtorEq, forall_eq, Classical.not_not, true_or, or_true, false_or, or_false, and_false, false_and, Int.reduceEq, Int.reduceLT, Int.reduceLE, Int.reduceAdd, Int.reduceSub, Int.reduceMul, Int.reduceNeg, show ¬ 125 + 2 * a = -1 from by omega, I_Tape_putItem, I_Tape_asKept, show ¬ b < 0 from by omega, show b < 60 from by omega]
        by_cases g0 : V 179 a = 0
        · simp only [g0, b_s32, b_eq0, b_01, l0, l1, true_and, and_true, and_self, true_implies, false_implies, implies_true, forall_const, not_true_eq_false, not_false_eq_true, reduceIte, ite_true, ite_false, reduceCtorEq, forall_eq, Classical.not_not, true_or, or_true, false_or, or_false, and_false, false_and, Int.reduceEq, Int.reduceLT, Int.reduceLE, Int.reduceAdd, Int.reduceSub, Int.reduceMul, Int.reduceNeg]
        · by_cases g1 : V 179 a = 1
          · simp only [g1, b_s32, b_eq0, b_01, l0, l1, true_and, and_true, and_self, true_implies, false_implies, implies_true, forall_const, not_true_eq_false, not_false_eq_true, reduceIte, ite_true, ite_false, reduceCtorEq, forall_eq, Classical.not_not, true_or, or_true, false_or, or_false, and_false, false_and, Int.reduceEq, Int.reduceLT, Int.reduceLE, Int.reduceAdd, Int.reduceSub, Int.reduceMul, Int.reduceNeg]
          · by_cases g2 : V 179 a = 2
            · simp only [g2, b_s32, b_eq0, b_01, l0, l1, true_and, and_true, and_self, true_implies, false_implies, implies_true, forall_const, not_true_eq_false, not_false_eq_true, reduceIte, ite_true, ite_false, reduceCtorEq, forall_eq, Classical.not_not, true_or, or_true, false_or, or_false, and_false, false_and, Int.reduceEq, Int.reduceLT, Int.reduceLE, Int.reduceAdd, Int.reduceSub, Int.reduceMul, Int.reduceNeg]
            · by_cases g3 : V 179 a = 3
              · simp only [g3, b_s32, b_eq0, b_01, l0, l1, true_and, and_true, and_self, true_implies, false_implies, implies_true, forall_const, not_true_eq_false, not_false_eq_true, reduceIte, ite_true, ite_false, reduceCtorEq, forall_eq, Classical.not_not, true_or, or_true, false_or, or_false, and_false, false_and, Int.reduceEq, Int.reduceLT, Int.reduceLE, Int.reduceAdd, Int.reduceSub, Int.reduceMul, Int.reduceNeg]
              · have g4 : V 179 a = 4 := by omega
                by_cases g5 : s32 (lcmpI c 0) = 0
                · simp only [g4, g5, b_s32, b_eq0, b_01, l0, l1, true_and, and_true, and_self, true_implies, false_implies, implies_true, forall_const, not_true_eq_false, not_false_eq_true, reduceIte, ite_true, ite_false, reduceCtorEq, forall_eq, Classical.not_not, true_or, or_true, false_or, or_false, and_false, false_and, Int.reduceEq, Int.reduceLT, Int.reduceLE, Int.reduceAdd, Int.reduceSub, Int.reduceMul, Int.reduceNeg]
                · simp only [g4, g5, b_s32, b_eq0, b_01, l0, l1, true_and, and_true, and_self, true_implies, false_implies, implies_true, forall_const, not_true_eq_false, not_false_eq_true, reduceIte, ite_true, ite_false, reduceCtorEq, forall_eq, Classical.not_not, true_or, or_true, false_or, or_false, and_false, false_and, Int.reduceEq, Int.reduceLT, Int.reduceLE, Int.reduceAdd, Int.reduceSub, Int.reduceMul, Int.reduceNeg]
      · simp (disch := omega) only [I_x_item, p_tapeAt hk, ha, hb, h1, hS.k100, k1, t1, h2, h3, q_hasPlace hS hV h1.1 h1.2, t4, s32_id, b_s32, b_eq0, b_01, l0, l1, true_and, and_true, and_self, true_implies, false_implies, implies_true, forall_const, not_true_eq_false, not_false_eq_true, reduceIte, ite_true, ite_false, reduceCtorEq, forall_eq, Classical.not_not, true_or, or_true, false_or, or_false, and_false, false_and, Int.reduceEq, Int.reduceLT, Int.reduceLE, Int.reduceAdd, Int.reduceSub, Int.reduceMul, Int.reduceNeg, show ¬ 125 + 2 * a = -1 from by omega]
  · simp (disch := omega) only [I_x_item, p_tapeAt hk, ha, hb, h1, hS.k100, s32_id, b_s32, b_eq0, b_01, l0, l1, true_and, and_true, and_self, true_implies, false_implies, implies_true, forall_const, not_true_eq_false, not_false_eq_true, reduceIte, ite_true, ite_false, reduceCtorEq, forall_eq, Classical.not_not, true_or, or_true, false_or, or_false, and_false, false_and, Int.reduceEq, Int.reduceLT, Int.reduceLE, Int.reduceAdd, Int.reduceSub, Int.reduceMul, Int.reduceNeg]
theorem M_item (hk : SK V S) (r0 : 0 ≤ a → a < 6 → (-1 ≤ V 179 a ∧ V 179 a ≤ 4) ∧ 0 ≤ V 180 a ∧ V 180 a ≤ 60) (ha : s32 a = a) (hb : s32 b = b) : C_m_item (d + 5) 137 a b c V S Q ↔ if ¬ (0 ≤ a ∧ a < 6) then Q (-1) V S else if V 179 a = -1 then Q (-11) V S else if ¬ (0 ≤ b ∧ b < V 180 a) then Q (-13) V S else Q 1 (up2 V 181 (60 * a + b) (if V 179 a = 0 then s32 (Int.bmod c 256) else if V 179 a = 1 then s32 (Int.bmod c 65536) else if V 179 a = 2 then s32 c else if V 179 a = 4 then (if s32 (lcmpI c 0) = 0 then 0 else 1) else c)) S := by
  have hS := hk.1
  have hV := hk.2.1
  by_cases h1 : 0 ≤ a ∧ a < 6
  · obtain ⟨⟨t2, t3⟩, t5, t6⟩ := r0 h1.1 h1.2
    by_cases h2 : V 179 a = -1
    · simp (disch := omega) only [I_m_item, p_isTape hk, ha, hb, h1, hS.k137, h2, s32_id, b_s32, b_eq0, b_01, l0, l1, true_and, and_true, and_self, true_implies, false_implies, implies_true, forall_const, not_true_eq_false, not_false_eq_true, reduceIte, ite_true, ite_false, reduceCtorEq, forall_eq, Classical.not_not, true_or, or_true, false_or, or_false, and_false, false_and, Int.reduceEq, Int.reduceLT, Int.reduceLE, Int.reduceAdd, Int.reduceSub, Int.reduceMul, Int.reduceNeg, hS.k179, hS.n179, hV.r137_69, hS.k180, hS.n180, hV.r137_70, hS.k181, hS.n181, hV.r137_71]
    · by_cases h3 : 0 ≤ b ∧ b < V 180 a
      · simp (disch := omega) only [I_m_item, p_isTape hk, q_in hk, ha, hb, h1, hS.k137, h2, h3, s32_id, b_s32, b_eq0, b_01, l0, l1, true_and, and_true, and_self, true_implies, false_implies, implies_true, forall_const, not_true_eq_false, not_false_eq_true, reduceIte, ite_true, ite_false, reduceCtorEq, forall_eq, Classical.not_not, true_or, or_true, false_or, or_false, and_false, false_and, Int.reduceEq, Int.reduceLT, Int.reduceLE, Int.reduceAdd, Int.reduceSub, Int.reduceMul, Int.reduceNeg, hS.k179, hS.n179, hV.r137_69, hS.k180, hS.n180, hV.r137_70, hS.k181, hS.n181, hV.r137_71, show ¬ V 179 a < 0 from by omega, show b ≤ V 180 a - 1 from by omega, show 60 * a + b < 360 from by omega, show 0 ≤ 60 * a + b from by omega, I_m_narrow]
        by_cases g0 : V 179 a = 0
        · simp only [g0, b_s32, b_eq0, b_01, l0, l1, true_and, and_true, and_self, true_implies, false_implies, implies_true, forall_const, not_true_eq_false, not_false_eq_true, reduceIte, ite_true, ite_false, reduceCtorEq, forall_eq, Classical.not_not, true_or, or_true, false_or, or_false, and_false, false_and, Int.reduceEq, Int.reduceLT, Int.reduceLE, Int.reduceAdd, Int.reduceSub, Int.reduceMul, Int.reduceNeg]
        · by_cases g1 : V 179 a = 1
          · simp only [g1, b_s32, b_eq0, b_01, l0, l1, true_and, and_true, and_self, true_implies, false_implies, implies_true, forall_const, not_true_eq_false, not_false_eq_true, reduceIte, ite_true, ite_false, reduceCtorEq, forall_eq, Classical.not_not, true_or, or_true, false_or, or_false, and_false, false_and, Int.reduceEq, Int.reduceLT, Int.reduceLE, Int.reduceAdd, Int.reduceSub, Int.reduceMul, Int.reduceNeg]
          · by_cases g2 : V 179 a = 2
            · simp only [g2, b_s32, b_eq0, b_01, l0, l1, true_and, and_true, and_self, true_implies, false_implies, implies_true, forall_const, not_true_eq_false, not_false_eq_true, reduceIte, ite_true, ite_false, reduceCtorEq, forall_eq, Classical.not_not, true_or, or_true, false_or, or_false, and_false, false_and, Int.reduceEq, Int.reduceLT, Int.reduceLE, Int.reduceAdd, Int.reduceSub, Int.reduceMul, Int.reduceNeg]
            · by_cases g4 : V 179 a = 4
              · by_cases g5 : s32 (lcmpI c 0) = 0
                · simp only [g4, g5, b_s32, b_eq0, b_01, l0, l1, true_and, and_true, and_self, true_implies, false_implies, implies_true, forall_const, not_true_eq_false, not_false_eq_true, reduceIte, ite_true, ite_false, reduceCtorEq, forall_eq, Classical.not_not, true_or, or_true, false_or, or_false, and_false, false_and, Int.reduceEq, Int.reduceLT, Int.reduceLE, Int.reduceAdd, Int.reduceSub, Int.reduceMul, Int.reduceNeg]
                · simp only [g4, g5, b_s32, b_eq0, b_01, l0, l1, true_and, and_true, and_self, true_implies, false_implies, implies_true, forall_const, not_true_eq_false, not_false_eq_true, reduceIte, ite_true, ite_false, reduceCtorEq, forall_eq, Classical.not_not, true_or, or_true, false_or, or_false, and_false, false_and, Int.reduceEq, Int.reduceLT, Int.reduceLE, Int.reduceAdd, Int.reduceSub, Int.reduceMul, Int.reduceNeg]
              · simp only [g0, g1, g2, g4, b_s32, b_eq0, b_01, l0, l1, true_and, and_true, and_self, true_implies, false_implies, implies_true, forall_const, not_true_eq_false, not_false_eq_true, reduceIte, ite_true, ite_false, reduceCtorEq, forall_eq, Classical.not_not, true_or, or_true, false_or, or_false, and_false, false_and, Int.reduceEq, Int.reduceLT, Int.reduceLE, Int.reduceAdd, Int.reduceSub, Int.reduceMul, Int.reduceNeg]
      · simp (disch := omega) only [I_m_item, p_isTape hk, q_in hk, ha, hb, h1, hS.k137, h2, h3, s32_id, b_s32, b_eq0, b_01, l0, l1, true_and, and_true, and_self, true_implies, false_implies, implies_true, forall_const, not_true_eq_false, not_false_eq_true, reduceIte, ite_true, ite_false, reduceCtorEq, forall_eq, Classical.not_not, true_or, or_true, false_or, or_false, and_false, false_and, Int.reduceEq, Int.reduceLT, Int.reduceLE, Int.reduceAdd, Int.reduceSub, Int.reduceMul, Int.reduceNeg, hS.k179, hS.n179, hV.r137_69, hS.k180, hS.n180, hV.r137_70, hS.k181, hS.n181, hV.r137_71, show ¬ V 179 a < 0 from by omega, show ¬ (0 ≤ b ∧ b ≤ V 180 a - 1) from by omega]
  · simp (disch := omega) only [I_m_item, p_isTape hk, ha, hb, h1, hS.k137, s32_id, b_s32, b_eq0, b_01, l0, l1, true_and, and_true, and_self, true_implies, false_implies, implies_true, forall_const, not_true_eq_false, not_false_eq_true, reduceIte, ite_true, ite_false, reduceCtorEq, forall_eq, Classical.not_not, true_or, or_true, false_or, or_false, and_false, false_and, Int.reduceEq, Int.reduceLT, Int.reduceLE, Int.reduceAdd, Int.reduceSub, Int.reduceMul, Int.reduceNeg]
theorem cmd_item (h : INV n V S) (hn : n ≤ m) (ha : s32 a = a) (hb : s32 b = b) : C_x_item (d + 5) 100 a b c V S (fun r V1 S1 => C_m_item (d + 5) 137 a b c V1 S1 (fun r' V2 S2 => r = r' ∧ INV m V2 S2)) := by
  have hm := h.up hn
  have hk := h.1
  have hT := h.2.2.2.2.2.2.2.2
  have r0 : 0 ≤ a → a < 6 → (-1 ≤ V 179 a ∧ V 179 a ≤ 4) ∧ 0 ≤ V 180 a ∧ V 180 a ≤ 60 := fun h0 h1 => by
    obtain ⟨⟨t1, t2, t3⟩, ⟨t4, t5, t6, t7⟩, t8⟩ := hT a h0 h1
    omega
  rw [X_item hk hT ha hb]
  by_cases h1 : 0 ≤ a ∧ a < 6
  · rw [if_neg (fun q => q h1)]
    by_cases h2 : V 179 a = -1
    · rw [if_pos h2, M_item hk r0 ha hb, if_neg (fun q => q h1), if_pos h2]
      exact ⟨rfl, hm⟩
    · rw [if_neg h2]
      by_cases h3 : 0 ≤ b ∧ b < V 180 a
      · rw [if_neg (fun q => q h3)]
        generalize hw : (if V 179 a = 0 then s32 (Int.bmod c 256) else if V 179 a = 1 then s32 (Int.bmod c 65536) else if V 179 a = 2 then s32 c else if V 179 a = 4 then (if s32 (lcmpI c 0) = 0 then 0 else 1) else c) = w0
        have hk1 : SK (up2 V (126 + 2 * a) b w0) S := hk.fr (FRM.rf.up (by unfold SKD VD; omega))
        have e1 : up2 V (126 + 2 * a) b w0 179 a = V 179 a := up2_ne (by omega)
        have e2 : up2 V (126 + 2 * a) b w0 180 a = V 180 a := up2_ne (by omega)
        rw [M_item hk1 (by rw [e1, e2]; exact r0) ha hb, e1, e2, hw, if_neg (fun q => q h1), if_neg h2, if_neg (fun q => q h3)]
        refine ⟨rfl, h.fr (W := fun p q => (p = 126 + 2 * a ∧ q = b) ∨ (p = 181 ∧ q = 60 * a + b)) (fun p q hw => ?_) hn (cTP := Or.inr ?_)⟩
        · rw [up2_ne (by omega), up2_ne (by omega)]
        · intro t t0 t1
          obtain ⟨s1, s2, s3⟩ := hT t t0 t1
          refine ⟨by simp (disch := omega) only [up2_ne]; exact s1, by simp (disch := omega) only [up2_ne]; exact s2, fun k k0 k1 => ?_⟩
          by_cases e : t = a ∧ k = b
          · obtain ⟨g1, g2⟩ := e
            subst g1; subst g2
            simp (disch := omega) only [up2_eq, up2_ne]
          · simp (disch := omega) only [up2_ne]
            exact s3 k k0 k1
      · rw [if_pos h3, M_item hk r0 ha hb, if_neg (fun q => q h1), if_neg h2, if_pos h3]
        exact ⟨rfl, hm⟩
  · rw [if_pos h1, M_item hk r0 ha hb, if_pos h1]
    exact ⟨rfl, hm⟩
end C2
