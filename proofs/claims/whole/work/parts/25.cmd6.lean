/-! commands: books -/
section C6
variable {d : Nat} {n m a b c e i k B L : Int} {V : Mem} {S : Shp} {Q : Int → Mem → Shp → Prop} {U : Mem → Shp → Prop}
/-- a book at B -/
def BK (B : Int) (V : Mem) (S : Shp) : Prop := S.1 B = 2 ∧ V B 1 = B + 1 ∧ S.1 (B + 1) = 100 ∧ S.2.1 (B + 1) = 240 ∧ 0 ≤ V B 2 ∧ V B 2 ≤ V B 0 ∧ V B 0 ≤ 60
theorem p_isFull (h : BK B V S) : C_Book_isFull (d + 1) B V S Q ↔ Q (if V B 2 < V B 0 then 0 else 1) V S := by
  obtain ⟨k1, k2, k3, k4, r1, r2, r3⟩ := h
  by_cases c1 : V B 2 < V B 0
  · simp (disch := omega) only [I_Book_isFull, k1, s32_id, c1, show V B 2 < 60 from by omega, b_s32, b_eq0, b_01, l0, l1, true_and, and_true, and_self, true_implies, false_implies, implies_true, forall_const, not_true_eq_false, not_false_eq_true, reduceIte, ite_true, ite_false, reduceCtorEq, forall_eq, Classical.not_not, true_or, or_true, false_or, or_false, and_false, false_and, Int.reduceEq, Int.reduceLT, Int.reduceLE, Int.reduceAdd, Int.reduceSub, Int.reduceMul, Int.reduceNeg]
  · simp (disch := omega) only [I_Book_isFull, k1, s32_id, c1, b_s32, b_eq0, b_01, l0, l1, true_and, and_true, and_self, true_implies, false_implies, implies_true, forall_const, not_true_eq_false, not_false_eq_true, reduceIte, ite_true, ite_false, reduceCtorEq, forall_eq, Classical.not_not, true_or, or_true, false_or, or_false, and_false, false_and, Int.reduceEq, Int.reduceLT, Int.reduceLE, Int.reduceAdd, Int.reduceSub, Int.reduceMul, Int.reduceNeg]
theorem p_cell (h : BK B V S) (e0 : 0 ≤ 4 * e + c) (e1 : 4 * e + c < 240) : C_Book_cell (d + 2) B e c V S Q ↔ Q (V (B + 1) (4 * e + c)) V S := by
  obtain ⟨k1, k2, k3, k4, r1, r2, r3⟩ := h
  have g := p_valueAt d (B + 1) (4 * e + c) V S Q (Or.inl k3) (by rw [k4]; omega)
  rw [I_Book_cell, k2, k1, g, k4]
  simp (disch := omega) only [s32_id, e0, e1, b_s32, b_eq0, b_01, l0, l1, true_and, and_true, and_self, true_implies, false_implies, implies_true, forall_const, not_true_eq_false, not_false_eq_true, reduceIte, ite_true, ite_false, reduceCtorEq, forall_eq, Classical.not_not, true_or, or_true, false_or, or_false, and_false, false_and, Int.reduceEq, Int.reduceLT, Int.reduceLE, Int.reduceAdd, Int.reduceSub, Int.reduceMul, Int.reduceNeg]
theorem p_putCell (h : BK B V S) (e0 : 0 ≤ e) (e1 : e < 240) : C_Book_putCell (d + 1) B e c V S U ↔ U (up2 V (B + 1) e c) S := by
  obtain ⟨k1, k2, k3, k4, r1, r2, r3⟩ := h
  simp (disch := omega) only [I_Book_putCell, k1, k2, k3, k4, s32_id, e0, e1, show ¬ e < 0 from by omega, b_s32, b_eq0, b_01, l0, l1, true_and, and_true, and_self, true_implies, false_implies, implies_true, forall_const, not_true_eq_false, not_false_eq_true, reduceIte, ite_true, ite_false, reduceCtorEq, forall_eq, Classical.not_not, true_or, or_true, false_or, or_false, and_false, false_and, Int.reduceEq, Int.reduceLT, Int.reduceLE, Int.reduceAdd, Int.reduceSub, Int.reduceMul, Int.reduceNeg]
theorem BK.up (h : BK B V S) {p : Int} (hp : p = B + 1) : BK B (up2 V p e c) S := by
  unfold BK
  simp (disch := omega) only [up2_ne]
  exact h
theorem p_append {a1 a2 a3 a4 : Int} (h : BK B V S) (hl : V B 2 < V B 0) : C_Book_append (d + 3) B a1 a2 a3 a4 V S Q ↔ Q (V B 2 + 1) (up2 (up2 (up2 (up2 (up2 V (B + 1) (4 * V B 2) a1) (B + 1) (4 * V B 2 + 1) a2) (B + 1) (4 * V B 2 + 2) a3) (B + 1) (4 * V B 2 + 3) a4) B 2 (V B 2 + 1)) S := by
  have h' := h
  obtain ⟨k1, k2, k3, k4, r1, r2, r3⟩ := h
  rw [I_Book_append, p_isFull h', if_pos hl]
  simp only [k1, b_s32, b_eq0, b_01, l0, l1, true_and, and_true, and_self, true_implies, false_implies, implies_true, forall_const, not_true_eq_false, not_false_eq_true, reduceIte, ite_true, ite_false, reduceCtorEq, forall_eq, Classical.not_not, true_or, or_true, false_or, or_false, and_false, false_and, Int.reduceEq, Int.reduceLT, Int.reduceLE, Int.reduceAdd, Int.reduceSub, Int.reduceMul, Int.reduceNeg]
  rw [p_putCell h' (by omega) (by omega)]
  simp (disch := omega) only [up2_ne, b_s32, b_eq0, b_01, l0, l1, true_and, and_true, and_self, true_implies, false_implies, implies_true, forall_const, not_true_eq_false, not_false_eq_true, reduceIte, ite_true, ite_false, reduceCtorEq, forall_eq, Classical.not_not, true_or, or_true, false_or, or_false, and_false, false_and, Int.reduceEq, Int.reduceLT, Int.reduceLE, Int.reduceAdd, Int.reduceSub, Int.reduceMul, Int.reduceNeg]
  rw [p_putCell (h'.up rfl) (by omega) (by omega)]
  simp (disch := omega) only [up2_ne, b_s32, b_eq0, b_01, l0, l1, true_and, and_true, and_self, true_implies, false_implies, implies_true, forall_const, not_true_eq_false, not_false_eq_true, reduceIte, ite_true, ite_false, reduceCtorEq, forall_eq, Classical.not_not, true_or, or_true, false_or, or_false, and_false, false_and, Int.reduceEq, Int.reduceLT, Int.reduceLE, Int.reduceAdd, Int.reduceSub, Int.reduceMul, Int.reduceNeg]
  rw [p_putCell ((h'.up rfl).up rfl) (by omega) (by omega)]
  simp (disch := omega) only [up2_ne, b_s32, b_eq0, b_01, l0, l1, true_and, and_true, and_self, true_implies, false_implies, implies_true, forall_const, not_true_eq_false, not_false_eq_true, reduceIte, ite_true, ite_false, reduceCtorEq, forall_eq, Classical.not_not, true_or, or_true, false_or, or_false, and_false, false_and, Int.reduceEq, Int.reduceLT, Int.reduceLE, Int.reduceAdd, Int.reduceSub, Int.reduceMul, Int.reduceNeg]
  rw [p_putCell (((h'.up rfl).up rfl).up rfl) (by omega) (by omega)]
  simp (disch := omega) only [k1, up2_ne, up2_eq, b_s32, b_eq0, b_01, l0, l1, true_and, and_true, and_self, true_implies, false_implies, implies_true, forall_const, not_true_eq_false, not_false_eq_true, reduceIte, ite_true, ite_false, reduceCtorEq, forall_eq, Classical.not_not, true_or, or_true, false_or, or_false, and_false, false_and, Int.reduceEq, Int.reduceLT, Int.reduceLE, Int.reduceAdd, Int.reduceSub, Int.reduceMul, Int.reduceNeg]
theorem INV.bk (h : INV n V S) : BK 113 V S ∧ BK 115 V S ∧ BK 117 V S := by
  obtain ⟨hk, -, -, -, -, -, ⟨⟨⟨b1, b2, b3⟩, -⟩, ⟨⟨b4, b5, b6⟩, -⟩, ⟨⟨b7, b8, b9⟩, -⟩⟩, -⟩ := h
  have hS := hk.1
  have hV := hk.2.1
  unfold BK
  refine ⟨⟨hS.k113, hV.r113_1, hS.k114, hS.n114, ?_⟩, ⟨hS.k115, hV.r115_1, hS.k116, hS.n116, ?_⟩, ⟨hS.k117, hV.r117_1, hS.k118, hS.n118, ?_⟩⟩
  · rw [b1, hV.r113_0]; omega
  · rw [b4, hV.r115_0]; omega
  · rw [b7, hV.r117_0]; omega
theorem M_sell (hk : SK V S) (hr : 0 ≤ V 137 53 ∧ V 137 53 ≤ 20) (ha : s32 a = a) (hb : s32 b = b) (hc : s32 c = c) (he : s32 e = e) : C_m_sell (d + 6) 137 a b c e V S Q ↔ if ¬ ((0 ≤ a ∧ a < V 137 2) ∧ (0 ≤ b ∧ b ≤ 3)) then Q (-1) V S else if ¬ ((0 ≤ c ∧ c ≤ 599) ∧ c ≤ e ∧ e ≤ 599) then Q (-2) V S else if V 137 53 = 20 then Q (-4) V S else Q (V 137 53 + 1) (up2 (up2 (up2 (up2 (up2 V 170 (V 137 53) a) 171 (V 137 53) b) 172 (V 137 53) c) 173 (V 137 53) e) 137 53 (V 137 53 + 1)) S := by
  have hS := hk.1
  have hV := hk.2.1
  by_cases h1 : 0 ≤ a ∧ a < V 137 2
  · by_cases h2 : 0 ≤ b ∧ b ≤ 3
    · by_cases h3 : 0 ≤ c ∧ c ≤ 599
      · by_cases h4 : c ≤ e ∧ e ≤ 599
        · by_cases h5 : V 137 53 = 20
          · simp (disch := omega) only [I_m_sell, p_isLamp hk, p_misDay hk, q_in hk, ha, hb, hc, he, h1, h2, h3, h4, h5, hS.k137, s32_id, b_s32, b_eq0, b_01, l0, l1, true_and, and_true, and_self, true_implies, false_implies, implies_true, forall_const, not_true_eq_false, not_false_eq_true, reduceIte, ite_true, ite_false, reduceCtorEq, forall_eq, Classical.not_not, true_or, or_true, false_or, or_false, and_false, false_and, Int.reduceEq, Int.reduceLT, Int.reduceLE, Int.reduceAdd, Int.reduceSub, Int.reduceMul, Int.reduceNeg]
          · simp (disch := omega) only [I_m_sell, p_isLamp hk, p_misDay hk, q_in hk, ha, hb, hc, he, h1, h2, h3, h4, h5, hS.k137, s32_id, b_s32, b_eq0, b_01, l0, l1, true_and, and_true, and_self, true_implies, false_implies, implies_true, forall_const, not_true_eq_false, not_false_eq_true, reduceIte, ite_true, ite_false, reduceCtorEq, forall_eq, Classical.not_not, true_or, or_true, false_or, or_false, and_false, false_and, Int.reduceEq, Int.reduceLT, Int.reduceLE, Int.reduceAdd, Int.reduceSub, Int.reduceMul, Int.reduceNeg, up2_ne, up2_eq, hS.k170, hS.n170, hV.r137_56, hS.k171, hS.n171, hV.r137_57, hS.k172, hS.n172, hV.r137_58, hS.k173, hS.n173, hV.r137_59, show 0 ≤ V 137 53 from hr.1, show V 137 53 < 20 from by omega]
        · simp (disch := omega) only [I_m_sell, p_isLamp hk, p_misDay hk, q_in hk, ha, hb, hc, he, h1, h2, h3, h4, hS.k137, s32_id, b_s32, b_eq0, b_01, l0, l1, true_and, and_true, and_self, true_implies, false_implies, implies_true, forall_const, not_true_eq_false, not_false_eq_true, reduceIte, ite_true, ite_false, reduceCtorEq, forall_eq, Classical.not_not, true_or, or_true, false_or, or_false, and_false, false_and, Int.reduceEq, Int.reduceLT, Int.reduceLE, Int.reduceAdd, Int.reduceSub, Int.reduceMul, Int.reduceNeg]
      · simp (disch := omega) only [I_m_sell, p_isLamp hk, p_misDay hk, q_in hk, ha, hb, hc, he, h1, h2, h3, hS.k137, s32_id, b_s32, b_eq0, b_01, l0, l1, true_and, and_true, and_self, true_implies, false_implies, implies_true, forall_const, not_true_eq_false, not_false_eq_true, reduceIte, ite_true, ite_false, reduceCtorEq, forall_eq, Classical.not_not, true_or, or_true, false_or, or_false, and_false, false_and, Int.reduceEq, Int.reduceLT, Int.reduceLE, Int.reduceAdd, Int.reduceSub, Int.reduceMul, Int.reduceNeg]
    · simp (disch := omega) only [I_m_sell, p_isLamp hk, q_in hk, ha, hb, h1, h2, hS.k137, s32_id, b_s32, b_eq0, b_01, l0, l1, true_and, and_true, and_self, true_implies, false_implies, implies_true, forall_const, not_true_eq_false, not_false_eq_true, reduceIte, ite_true, ite_false, reduceCtorEq, forall_eq, Classical.not_not, true_or, or_true, false_or, or_false, and_false, false_and, Int.reduceEq, Int.reduceLT, Int.reduceLE, Int.reduceAdd, Int.reduceSub, Int.reduceMul, Int.reduceNeg]
  · simp (disch := omega) only [I_m_sell, p_isLamp hk, ha, h1, hS.k137, s32_id, b_s32, b_eq0, b_01, l0, l1, true_and, and_true, and_self, true_implies, false_implies, implies_true, forall_const, not_true_eq_false, not_false_eq_true, reduceIte, ite_true, ite_false, reduceCtorEq, forall_eq, Classical.not_not, true_or, or_true, false_or, or_false, and_false, false_and, Int.reduceEq, Int.reduceLT, Int.reduceLE, Int.reduceAdd, Int.reduceSub, Int.reduceMul, Int.reduceNeg]
theorem X_sell (hk : SK V S) (hb5 : BK 115 V S) (ha : s32 a = a) (hb : s32 b = b) (hc : s32 c = c) (he : s32 e = e) : C_x_sell (d + 6) 100 a b c e V S Q ↔ if ¬ ((0 ≤ a ∧ a < V 137 2) ∧ (0 ≤ b ∧ b ≤ 3)) then Q (-1) V S else if ¬ ((0 ≤ c ∧ c ≤ 599) ∧ c ≤ e ∧ e ≤ 599) then Q (-2) V S else if ¬ V 115 2 < V 115 0 then Q (-4) V S else Q (V 115 2 + 1) (up2 (up2 (up2 (up2 (up2 V 116 (4 * V 115 2) a) 116 (4 * V 115 2 + 1) b) 116 (4 * V 115 2 + 2) c) 116 (4 * V 115 2 + 3) e) 115 2 (V 115 2 + 1)) S := by
  have hS := hk.1
  have hV := hk.2.1
  have g0 : ¬ 1000 + 10 * a = -1 := by omega
  by_cases h1 : 0 ≤ a ∧ a < V 137 2
  · by_cases h2 : 0 ≤ b ∧ b ≤ 3
    · by_cases h3 : 0 ≤ c ∧ c ≤ 599
      · by_cases h4 : c ≤ e ∧ e ≤ 599
        · by_cases h5 : V 115 2 < V 115 0
          · simp (disch := omega) only [I_x_sell, p_lampAt hk, p_isDay, p_isWithin, ha, hb, hc, he, h1, h2, h3, h4, h5, g0, hS.k100, hV.r100_6, s32_id, b_s32, b_eq0, b_01, l0, l1, true_and, and_true, and_self, true_implies, false_implies, implies_true, forall_const, not_true_eq_false, not_false_eq_true, reduceIte, ite_true, ite_false, reduceCtorEq, forall_eq, Classical.not_not, true_or, or_true, false_or, or_false, and_false, false_and, Int.reduceEq, Int.reduceLT, Int.reduceLE, Int.reduceAdd, Int.reduceSub, Int.reduceMul, Int.reduceNeg, p_isFull hb5, p_append hb5 h5, show 0 ≤ e from by omega, show ¬ e < c from by omega]
          · simp (disch := omega) only [I_x_sell, p_lampAt hk, p_isDay, p_isWithin, ha, hb, hc, he, h1, h2, h3, h4, h5, g0, hS.k100, hV.r100_6, s32_id, b_s32, b_eq0, b_01, l0, l1, true_and, and_true, and_self, true_implies, false_implies, implies_true, forall_const, not_true_eq_false, not_false_eq_true, reduceIte, ite_true, ite_false, reduceCtorEq, forall_eq, Classical.not_not, true_or, or_true, false_or, or_false, and_false, false_and, Int.reduceEq, Int.reduceLT, Int.reduceLE, Int.reduceAdd, Int.reduceSub, Int.reduceMul, Int.reduceNeg, p_isFull hb5, show 0 ≤ e from by omega, show ¬ e < c from by omega]
        · by_cases h5 : 0 ≤ e ∧ e ≤ 599
          · simp (disch := omega) only [I_x_sell, p_lampAt hk, p_isDay, p_isWithin, ha, hb, hc, he, h1, h2, h3, h4, h5, g0, hS.k100, s32_id, b_s32, b_eq0, b_01, l0, l1, true_and, and_true, and_self, true_implies, false_implies, implies_true, forall_const, not_true_eq_false, not_false_eq_true, reduceIte, ite_true, ite_false, reduceCtorEq, forall_eq, Classical.not_not, true_or, or_true, false_or, or_false, and_false, false_and, Int.reduceEq, Int.reduceLT, Int.reduceLE, Int.reduceAdd, Int.reduceSub, Int.reduceMul, Int.reduceNeg, show e < c from by omega, show ¬ c ≤ e from by omega]
          · simp (disch := omega) only [I_x_sell, p_lampAt hk, p_isDay, p_isWithin, ha, hb, hc, he, h1, h2, h3, h4, h5, g0, hS.k100, s32_id, b_s32, b_eq0, b_01, l0, l1, true_and, and_true, and_self, true_implies, false_implies, implies_true, forall_const, not_true_eq_false, not_false_eq_true, reduceIte, ite_true, ite_false, reduceCtorEq, forall_eq, Classical.not_not, true_or, or_true, false_or, or_false, and_false, false_and, Int.reduceEq, Int.reduceLT, Int.reduceLE, Int.reduceAdd, Int.reduceSub, Int.reduceMul, Int.reduceNeg]
      · simp (disch := omega) only [I_x_sell, p_lampAt hk, p_isDay, p_isWithin, ha, hb, hc, he, h1, h2, h3, g0, hS.k100, s32_id, b_s32, b_eq0, b_01, l0, l1, true_and, and_true, and_self, true_implies, false_implies, implies_true, forall_const, not_true_eq_false, not_false_eq_true, reduceIte, ite_true, ite_false, reduceCtorEq, forall_eq, Classical.not_not, true_or, or_true, false_or, or_false, and_false, false_and, Int.reduceEq, Int.reduceLT, Int.reduceLE, Int.reduceAdd, Int.reduceSub, Int.reduceMul, Int.reduceNeg]
    · simp (disch := omega) only [I_x_sell, p_lampAt hk, p_isWithin, ha, hb, h1, h2, g0, hS.k100, s32_id, b_s32, b_eq0, b_01, l0, l1, true_and, and_true, and_self, true_implies, false_implies, implies_true, forall_const, not_true_eq_false, not_false_eq_true, reduceIte, ite_true, ite_false, reduceCtorEq, forall_eq, Classical.not_not, true_or, or_true, false_or, or_false, and_false, false_and, Int.reduceEq, Int.reduceLT, Int.reduceLE, Int.reduceAdd, Int.reduceSub, Int.reduceMul, Int.reduceNeg]
  · simp (disch := omega) only [I_x_sell, p_lampAt hk, ha, h1, hS.k100, s32_id, b_s32, b_eq0, b_01, l0, l1, true_and, and_true, and_self, true_implies, false_implies, implies_true, forall_const, not_true_eq_false, not_false_eq_true, reduceIte, ite_true, ite_false, reduceCtorEq, forall_eq, Classical.not_not, true_or, or_true, false_or, or_false, and_false, false_and, Int.reduceEq, Int.reduceLT, Int.reduceLE, Int.reduceAdd, Int.reduceSub, Int.reduceMul, Int.reduceNeg]
theorem cmd_sell (h : INV n V S) (hn : n ≤ m) (ha : s32 a = a) (hb : s32 b = b) (hc : s32 c = c) (he : s32 e = e) : C_x_sell (d + 6) 100 a b c e V S (fun r V1 S1 => C_m_sell (d + 6) 137 a b c e V1 S1 (fun r' V2 S2 => r = r' ∧ INV m V2 S2)) := by
  have hup := h.up hn
  have hk := h.1
  have hV := hk.2.1
  have hB := h.2.2.2.2.2.2.1
  obtain ⟨b1, ⟨⟨r1, r2, r3⟩, r4⟩, b3⟩ := hB
  rw [X_sell hk h.bk.2.1 ha hb hc he, hV.r115_0, r1]
  by_cases h1 : (0 ≤ a ∧ a < V 137 2) ∧ (0 ≤ b ∧ b ≤ 3)
  · rw [if_neg (fun q => q h1)]
    by_cases h2 : (0 ≤ c ∧ c ≤ 599) ∧ c ≤ e ∧ e ≤ 599
    · rw [if_neg (fun q => q h2)]
      by_cases h3 : V 137 53 < 20
      · rw [if_neg (fun q => q h3)]
        generalize hV1 : (up2 (up2 (up2 (up2 (up2 V 116 (4 * V 137 53) a) 116 (4 * V 137 53 + 1) b) 116 (4 * V 137 53 + 2) c) 116 (4 * V 137 53 + 3) e) 115 2 (V 137 53 + 1)) = V1
        have F : ∀ p q, ¬ ((p = 116 ∧ 4 * V 137 53 ≤ q) ∨ (p = 115 ∧ q = 2)) → V1 p q = V p q := by
          intro p q hw
          subst hV1
          simp (disch := omega) only [up2_ne]
        have hk1 : SK V1 S := hk.fr (fun p q hd => F p q (by unfold SKD VD at hd; omega))
        have e1 : V1 137 2 = V 137 2 := F _ _ (by omega)
        have e2 : V1 137 53 = V 137 53 := F _ _ (by omega)
        rw [M_sell hk1 (by rw [e2]; omega) ha hb hc he, e1, e2, if_neg (fun q => q h1), if_neg (fun q => q h2), if_neg (by omega)]
        refine ⟨rfl, h.fr (W := fun p q => (p = 116 ∧ 4 * V 137 53 ≤ q) ∨ (p = 115 ∧ q = 2) ∨ (170 ≤ p ∧ p ≤ 173 ∧ q = V 137 53) ∨ (p = 137 ∧ q = 53)) (fun p q hw => ?_) hn (cBK := Or.inr ?_)⟩
        · simp (disch := omega) only [up2_ne]
          exact F p q (by omega)
        · refine ⟨?_, ⟨?_, fun f f0 f1 => ?_⟩, ?_⟩
          · refine ⟨by simp (disch := omega) only [up2_ne, F]; exact b1.1, fun f f0 f1 => ?_⟩
            simp (disch := omega) only [up2_ne, F] at f1 ⊢
            exact b1.2 f f0 f1
          · subst hV1
            simp (disch := omega) only [up2_ne, up2_eq, b_s32, b_eq0, b_01, l0, l1, true_and, and_true, and_self, true_implies, false_implies, implies_true, forall_const, not_true_eq_false, not_false_eq_true, reduceIte, ite_true, ite_false, reduceCtorEq, forall_eq, Classical.not_not, true_or, or_true, false_or, or_false, and_false, false_and, Int.reduceEq, Int.reduceLT, Int.reduceLE, Int.reduceAdd, Int.reduceSub, Int.reduceMul, Int.reduceNeg]
            omega
          · simp (disch := omega) only [up2_eq] at f1
            by_cases ef : f = V 137 53
            · subst hV1
              subst ef
              simp (disch := omega) only [up2_ne, up2_eq, b_s32, b_eq0, b_01, l0, l1, true_and, and_true, and_self, true_implies, false_implies, implies_true, forall_const, not_true_eq_false, not_false_eq_true, reduceIte, ite_true, ite_false, reduceCtorEq, forall_eq, Classical.not_not, true_or, or_true, false_or, or_false, and_false, false_and, Int.reduceEq, Int.reduceLT, Int.reduceLE, Int.reduceAdd, Int.reduceSub, Int.reduceMul, Int.reduceNeg]
            · subst hV1
              simp (disch := omega) only [up2_ne]
              exact r4 f f0 (by omega)
          · refine ⟨by simp (disch := omega) only [up2_ne, F]; exact b3.1, fun f f0 f1 => ?_⟩
            simp (disch := omega) only [up2_ne, F] at f1 ⊢
            exact b3.2 f f0 f1
      · rw [if_pos h3, M_sell hk ⟨r2, r3⟩ ha hb hc he, if_neg (fun q => q h1), if_neg (fun q => q h2), if_pos (by omega)]
        exact ⟨rfl, hup⟩
    · rw [if_pos h2, M_sell hk ⟨r2, r3⟩ ha hb hc he, if_neg (fun q => q h1), if_pos h2]
      exact ⟨rfl, hup⟩
  · rw [if_pos h1, M_sell hk ⟨r2, r3⟩ ha hb hc he, if_pos h1]
    exact ⟨rfl, hup⟩
theorem M_hear (hk : SK V S) (hr : 0 ≤ V 137 54 ∧ V 137 54 ≤ 60) (ha : s32 a = a) (hb : s32 b = b) (hc : s32 c = c) : C_m_hear (d + 6) 137 a b c V S Q ↔ if ¬ (0 ≤ a ∧ a < V 137 2) then Q (-1) V S else if ¬ ((0 ≤ b ∧ b ≤ V 137 0) ∧ 0 ≤ c ∧ c ≤ 60) then Q (-2) V S else if V 137 54 = 60 then Q (-4) V S else Q (V 137 54 + 1) (up2 (up2 (up2 (up2 V 174 (V 137 54) a) 175 (V 137 54) b) 176 (V 137 54) c) 137 54 (V 137 54 + 1)) S := by
  have hS := hk.1
  have hV := hk.2.1
  have n599 := hk.n599
  by_cases h1 : 0 ≤ a ∧ a < V 137 2
  · by_cases h2 : 0 ≤ b ∧ b ≤ V 137 0
    · by_cases h3 : 0 ≤ c ∧ c ≤ 60
      · by_cases h5 : V 137 54 = 60
        · simp (disch := omega) only [I_m_hear, p_isLamp hk, q_in hk, ha, hb, hc, h1, h2, h3, h5, hS.k137, s32_id, b_s32, b_eq0, b_01, l0, l1, true_and, and_true, and_self, true_implies, false_implies, implies_true, forall_const, not_true_eq_false, not_false_eq_true, reduceIte, ite_true, ite_false, reduceCtorEq, forall_eq, Classical.not_not, true_or, or_true, false_or, or_false, and_false, false_and, Int.reduceEq, Int.reduceLT, Int.reduceLE, Int.reduceAdd, Int.reduceSub, Int.reduceMul, Int.reduceNeg]
        · simp (disch := omega) only [I_m_hear, p_isLamp hk, q_in hk, ha, hb, hc, h1, h2, h3, h5, hS.k137, s32_id, b_s32, b_eq0, b_01, l0, l1, true_and, and_true, and_self, true_implies, false_implies, implies_true, forall_const, not_true_eq_false, not_false_eq_true, reduceIte, ite_true, ite_false, reduceCtorEq, forall_eq, Classical.not_not, true_or, or_true, false_or, or_false, and_false, false_and, Int.reduceEq, Int.reduceLT, Int.reduceLE, Int.reduceAdd, Int.reduceSub, Int.reduceMul, Int.reduceNeg, up2_ne, up2_eq, hS.k174, hS.n174, hV.r137_60, hS.k175, hS.n175, hV.r137_61, hS.k176, hS.n176, hV.r137_62, show 0 ≤ V 137 54 from hr.1, show V 137 54 < 60 from by omega]
      · simp (disch := omega) only [I_m_hear, p_isLamp hk, q_in hk, ha, hb, hc, h1, h2, h3, hS.k137, s32_id, b_s32, b_eq0, b_01, l0, l1, true_and, and_true, and_self, true_implies, false_implies, implies_true, forall_const, not_true_eq_false, not_false_eq_true, reduceIte, ite_true, ite_false, reduceCtorEq, forall_eq, Classical.not_not, true_or, or_true, false_or, or_false, and_false, false_and, Int.reduceEq, Int.reduceLT, Int.reduceLE, Int.reduceAdd, Int.reduceSub, Int.reduceMul, Int.reduceNeg]
    · simp (disch := omega) only [I_m_hear, p_isLamp hk, q_in hk, ha, hb, h1, h2, hS.k137, s32_id, b_s32, b_eq0, b_01, l0, l1, true_and, and_true, and_self, true_implies, false_implies, implies_true, forall_const, not_true_eq_false, not_false_eq_true, reduceIte, ite_true, ite_false, reduceCtorEq, forall_eq, Classical.not_not, true_or, or_true, false_or, or_false, and_false, false_and, Int.reduceEq, Int.reduceLT, Int.reduceLE, Int.reduceAdd, Int.reduceSub, Int.reduceMul, Int.reduceNeg]
  · simp (disch := omega) only [I_m_hear, p_isLamp hk, ha, h1, hS.k137, s32_id, b_s32, b_eq0, b_01, l0, l1, true_and, and_true, and_self, true_implies, false_implies, implies_true, forall_const, not_true_eq_false, not_false_eq_true, reduceIte, ite_true, ite_false, reduceCtorEq, forall_eq, Classical.not_not, true_or, or_true, false_or, or_false, and_false, false_and, Int.reduceEq, Int.reduceLT, Int.reduceLE, Int.reduceAdd, Int.reduceSub, Int.reduceMul, Int.reduceNeg]
theorem X_hear (hk : SK V S) (hb5 : BK 117 V S) (ha : s32 a = a) (hb : s32 b = b) (hc : s32 c = c) : C_x_hear (d + 6) 100 a b c V S Q ↔ if ¬ (0 ≤ a ∧ a < V 137 2) then Q (-1) V S else if ¬ ((0 ≤ b ∧ b ≤ V 137 0) ∧ 0 ≤ c ∧ c ≤ 60) then Q (-2) V S else if ¬ V 117 2 < V 117 0 then Q (-4) V S else Q (V 117 2 + 1) (up2 (up2 (up2 (up2 (up2 V 118 (4 * V 117 2) a) 118 (4 * V 117 2 + 1) b) 118 (4 * V 117 2 + 2) (b + c)) 118 (4 * V 117 2 + 3) 0) 117 2 (V 117 2 + 1)) S := by
  have hS := hk.1
  have hV := hk.2.1
  have n599 := hk.n599
  have c12 := hk.2.2.1.2.2.1.1
  have g0 : ¬ 1000 + 10 * a = -1 := by omega
  by_cases h1 : 0 ≤ a ∧ a < V 137 2
  · by_cases h2 : 0 ≤ b ∧ b ≤ V 137 0
    · by_cases h3 : 0 ≤ c ∧ c ≤ 60
      · by_cases h5 : V 117 2 < V 117 0
        · simp (disch := omega) only [I_x_hear, p_lampAt hk, p_isWithin, ha, hb, hc, c12, h1, h2, h3, h5, g0, hS.k100, hV.r100_7, s32_id, b_s32, b_eq0, b_01, l0, l1, true_and, and_true, and_self, true_implies, false_implies, implies_true, forall_const, not_true_eq_false, not_false_eq_true, reduceIte, ite_true, ite_false, reduceCtorEq, forall_eq, Classical.not_not, true_or, or_true, false_or, or_false, and_false, false_and, Int.reduceEq, Int.reduceLT, Int.reduceLE, Int.reduceAdd, Int.reduceSub, Int.reduceMul, Int.reduceNeg, p_isFull hb5, p_append hb5 h5]
        · simp (disch := omega) only [I_x_hear, p_lampAt hk, p_isWithin, ha, hb, hc, c12, h1, h2, h3, h5, g0, hS.k100, hV.r100_7, s32_id, b_s32, b_eq0, b_01, l0, l1, true_and, and_true, and_self, true_implies, false_implies, implies_true, forall_const, not_true_eq_false, not_false_eq_true, reduceIte, ite_true, ite_false, reduceCtorEq, forall_eq, Classical.not_not, true_or, or_true, false_or, or_false, and_false, false_and, Int.reduceEq, Int.reduceLT, Int.reduceLE, Int.reduceAdd, Int.reduceSub, Int.reduceMul, Int.reduceNeg, p_isFull hb5]
      · simp (disch := omega) only [I_x_hear, p_lampAt hk, p_isWithin, ha, hb, hc, c12, h1, h2, h3, g0, hS.k100, s32_id, b_s32, b_eq0, b_01, l0, l1, true_and, and_true, and_self, true_implies, false_implies, implies_true, forall_const, not_true_eq_false, not_false_eq_true, reduceIte, ite_true, ite_false, reduceCtorEq, forall_eq, Classical.not_not, true_or, or_true, false_or, or_false, and_false, false_and, Int.reduceEq, Int.reduceLT, Int.reduceLE, Int.reduceAdd, Int.reduceSub, Int.reduceMul, Int.reduceNeg]
    · simp (disch := omega) only [I_x_hear, p_lampAt hk, p_isWithin, ha, hb, c12, h1, h2, g0, hS.k100, s32_id, b_s32, b_eq0, b_01, l0, l1, true_and, and_true, and_self, true_implies, false_implies, implies_true, forall_const, not_true_eq_false, not_false_eq_true, reduceIte, ite_true, ite_false, reduceCtorEq, forall_eq, Classical.not_not, true_or, or_true, false_or, or_false, and_false, false_and, Int.reduceEq, Int.reduceLT, Int.reduceLE, Int.reduceAdd, Int.reduceSub, Int.reduceMul, Int.reduceNeg]
  · simp (disch := omega) only [I_x_hear, p_lampAt hk, ha, h1, hS.k100, s32_id, b_s32, b_eq0, b_01, l0, l1, true_and, and_true, and_self, true_implies, false_implies, implies_true, forall_const, not_true_eq_false, not_false_eq_true, reduceIte, ite_true, ite_false, reduceCtorEq, forall_eq, Classical.not_not, true_or, or_true, false_or, or_false, and_false, false_and, Int.reduceEq, Int.reduceLT, Int.reduceLE, Int.reduceAdd, Int.reduceSub, Int.reduceMul, Int.reduceNeg]
theorem cmd_hear (h : INV n V S) (hn : n ≤ m) (ha : s32 a = a) (hb : s32 b = b) (hc : s32 c = c) : C_x_hear (d + 6) 100 a b c V S (fun r V1 S1 => C_m_hear (d + 6) 137 a b c V1 S1 (fun r' V2 S2 => r = r' ∧ INV m V2 S2)) := by
  have hup := h.up hn
  have hk := h.1
  have hV := hk.2.1
  have hB := h.2.2.2.2.2.2.1
  obtain ⟨b1, b3, ⟨⟨r1, r2, r3⟩, r4⟩⟩ := hB
  rw [X_hear hk h.bk.2.2 ha hb hc, hV.r117_0, r1]
  by_cases h1 : (0 ≤ a ∧ a < V 137 2)
  · rw [if_neg (fun q => q h1)]
    by_cases h2 : (0 ≤ b ∧ b ≤ V 137 0) ∧ 0 ≤ c ∧ c ≤ 60
    · rw [if_neg (fun q => q h2)]
      by_cases h3 : V 137 54 < 60
      · rw [if_neg (fun q => q h3)]
        generalize hV1 : (up2 (up2 (up2 (up2 (up2 V 118 (4 * V 137 54) a) 118 (4 * V 137 54 + 1) b) 118 (4 * V 137 54 + 2) (b + c)) 118 (4 * V 137 54 + 3) 0) 117 2 (V 137 54 + 1)) = V1
        have F : ∀ p q, ¬ ((p = 118 ∧ 4 * V 137 54 ≤ q) ∨ (p = 117 ∧ q = 2)) → V1 p q = V p q := by
          intro p q hw
          subst hV1
          simp (disch := omega) only [up2_ne]
        have hk1 : SK V1 S := hk.fr (fun p q hd => F p q (by unfold SKD VD at hd; omega))
        have e1 : V1 137 2 = V 137 2 := F _ _ (by omega)
        have e2 : V1 137 54 = V 137 54 := F _ _ (by omega)
        have e3 : V1 137 0 = V 137 0 := F _ _ (by omega)
        rw [M_hear hk1 (by rw [e2]; omega) ha hb hc, e1, e2, e3, if_neg (fun q => q h1), if_neg (fun q => q h2), if_neg (by omega)]
        refine ⟨rfl, h.fr (W := fun p q => (p = 118 ∧ 4 * V 137 54 ≤ q) ∨ (p = 117 ∧ q = 2) ∨ (174 ≤ p ∧ p ≤ 176 ∧ q = V 137 54) ∨ (p = 137 ∧ q = 54)) (fun p q hw => ?_) hn (cBK := Or.inr ?_)⟩
        · simp (disch := omega) only [up2_ne]
          exact F p q (by omega)
        · refine ⟨?_, ?_, ⟨?_, fun f f0 f1 => ?_⟩⟩
          · refine ⟨by simp (disch := omega) only [up2_ne, F]; exact b1.1, fun f f0 f1 => ?_⟩
            simp (disch := omega) only [up2_ne, F] at f1 ⊢
            exact b1.2 f f0 f1
          · refine ⟨by simp (disch := omega) only [up2_ne, F]; exact b3.1, fun f f0 f1 => ?_⟩
            simp (disch := omega) only [up2_ne, F] at f1 ⊢
            exact b3.2 f f0 f1
          · subst hV1
            simp (disch := omega) only [up2_ne, up2_eq, b_s32, b_eq0, b_01, l0, l1, true_and, and_true, and_self, true_implies, false_implies, implies_true, forall_const, not_true_eq_false, not_false_eq_true, reduceIte, ite_true, ite_false, reduceCtorEq, forall_eq, Classical.not_not, true_or, or_true, false_or, or_false, and_false, false_and, Int.reduceEq, Int.reduceLT, Int.reduceLE, Int.reduceAdd, Int.reduceSub, Int.reduceMul, Int.reduceNeg]
            omega
          · simp (disch := omega) only [up2_eq] at f1
            by_cases ef : f = V 137 54
            · subst hV1
              subst ef
              simp (disch := omega) only [up2_ne, up2_eq, b_s32, b_eq0, b_01, l0, l1, true_and, and_true, and_self, true_implies, false_implies, implies_true, forall_const, not_true_eq_false, not_false_eq_true, reduceIte, ite_true, ite_false, reduceCtorEq, forall_eq, Classical.not_not, true_or, or_true, false_or, or_false, and_false, false_and, Int.reduceEq, Int.reduceLT, Int.reduceLE, Int.reduceAdd, Int.reduceSub, Int.reduceMul, Int.reduceNeg]
            · subst hV1
              simp (disch := omega) only [up2_ne]
              exact r4 f f0 (by omega)
      · rw [if_pos h3, M_hear hk ⟨r2, r3⟩ ha hb hc, if_neg (fun q => q h1), if_neg (fun q => q h2), if_pos (by omega)]
        exact ⟨rfl, hup⟩
    · rw [if_pos h2, M_hear hk ⟨r2, r3⟩ ha hb hc, if_neg (fun q => q h1), if_pos h2]
      exact ⟨rfl, hup⟩
  · rw [if_pos h1, M_hear hk ⟨r2, r3⟩ ha hb hc, if_pos h1]
    exact ⟨rfl, hup⟩
end C6
