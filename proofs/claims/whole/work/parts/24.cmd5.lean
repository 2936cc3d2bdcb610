/-! commands: codes, clocks, kinds, books -/
section C5
variable {d : Nat} {n m a b c e i k B L : Int} {V : Mem} {S : Shp} {Q : Int → Mem → Shp → Prop} {U : Mem → Shp → Prop}
theorem cmd_code (h : INV n V S) (hn : n ≤ m) (ha : s32 a = a) (hb : s32 b = b) (hc : s32 c = c) : C_x_code (d + 6) 100 a b c V S (fun r V1 S1 => C_m_code (d + 6) 137 a b c V1 S1 (fun r' V2 S2 => r = r' ∧ INV m V2 S2)) := by
  have hup := h.up hn
  have hk := h.1
  have hS := hk.1
  have g0 : 0 ≤ a ∧ a < V 137 2 → ¬ 1000 + 10 * a = -1 := fun _ => by omega
  by_cases h1 : 0 ≤ a ∧ a < V 137 2
  · by_cases h2 : 1 ≤ b ∧ b ≤ 60
    · by_cases h3 : 0 ≤ c ∧ c ≤ 63
      · simp (disch := omega) only [I_x_code, I_m_code, p_lampAt hk, p_isLamp hk, p_isWithin, q_in hk, ha, hb, hc, h1, h2, h3, g0 h1, hS.k100, hS.k137, I_Codes_reckon, I_m_codeOf, s32_id, b_s32, b_eq0, b_01, l0, l1, true_and, and_true, and_self, true_implies, false_implies, implies_true, forall_const, not_true_eq_false, not_false_eq_true, reduceIte, ite_true, ite_false, reduceCtorEq, forall_eq, Classical.not_not, true_or, or_true, false_or, or_false, and_false, false_and, Int.reduceEq, Int.reduceLT, Int.reduceLE, Int.reduceAdd, Int.reduceSub, Int.reduceMul, Int.reduceNeg, ne_eq, hup]
      · simp (disch := omega) only [I_x_code, I_m_code, p_lampAt hk, p_isLamp hk, p_isWithin, q_in hk, ha, hb, hc, h1, h2, h3, g0 h1, hS.k100, hS.k137, s32_id, b_s32, b_eq0, b_01, l0, l1, true_and, and_true, and_self, true_implies, false_implies, implies_true, forall_const, not_true_eq_false, not_false_eq_true, reduceIte, ite_true, ite_false, reduceCtorEq, forall_eq, Classical.not_not, true_or, or_true, false_or, or_false, and_false, false_and, Int.reduceEq, Int.reduceLT, Int.reduceLE, Int.reduceAdd, Int.reduceSub, Int.reduceMul, Int.reduceNeg, hup]
    · simp (disch := omega) only [I_x_code, I_m_code, p_lampAt hk, p_isLamp hk, p_isWithin, q_in hk, ha, hb, hc, h1, h2, g0 h1, hS.k100, hS.k137, s32_id, b_s32, b_eq0, b_01, l0, l1, true_and, and_true, and_self, true_implies, false_implies, implies_true, forall_const, not_true_eq_false, not_false_eq_true, reduceIte, ite_true, ite_false, reduceCtorEq, forall_eq, Classical.not_not, true_or, or_true, false_or, or_false, and_false, false_and, Int.reduceEq, Int.reduceLT, Int.reduceLE, Int.reduceAdd, Int.reduceSub, Int.reduceMul, Int.reduceNeg, hup]
  · simp (disch := omega) only [I_x_code, I_m_code, p_lampAt hk, p_isLamp hk, p_isWithin, q_in hk, ha, hb, hc, h1, hS.k100, hS.k137, s32_id, b_s32, b_eq0, b_01, l0, l1, true_and, and_true, and_self, true_implies, false_implies, implies_true, forall_const, not_true_eq_false, not_false_eq_true, reduceIte, ite_true, ite_false, reduceCtorEq, forall_eq, Classical.not_not, true_or, or_true, false_or, or_false, and_false, false_and, Int.reduceEq, Int.reduceLT, Int.reduceLE, Int.reduceAdd, Int.reduceSub, Int.reduceMul, Int.reduceNeg, hup]
theorem cmd_drift (h : INV n V S) (hn : n ≤ m) (ha : s32 a = a) (hb : s32 b = b) : C_x_drift (d + 6) 100 a b V S (fun r V1 S1 => C_m_drift (d + 6) 137 a b V1 S1 (fun r' V2 S2 => r = r' ∧ INV m V2 S2)) := by
  have hup := h.up hn
  have hk := h.1
  have hS := hk.1
  have hV := hk.2.1
  have n20 := hk.n20
  have c12 := hk.2.2.1.2.2.1.1
  obtain ⟨hA, hB, -⟩ := h.2.2.2.1
  by_cases h1 : 0 ≤ a ∧ a < V 137 2
  · obtain ⟨-, ⟨q1, -⟩, -⟩ := hA a h1.1 h1.2
    obtain ⟨-, ⟨q2, q3, q4⟩, -, ⟨q5, -⟩, -⟩ := hB a h1.1 h1.2
    have k0 := (hk.lamp h1.1 h1.2).1.1
    have g0 : ¬ 1000 + 10 * a = -1 := by omega
    have g1 : a < 20 := by omega
    by_cases h2 : 0 ≤ b ∧ b ≤ 1
    · rcases (by omega : b = 0 ∨ b = 1) with rfl | rfl
      · by_cases h3 : V 144 a = 1
        · simp (disch := omega) only [I_x_drift, I_m_drift, p_lampAt hk, p_isLamp hk, p_isWithin, q_in hk, ha, hb, h1, h2, h3, hS.k100, hS.k137, g0, g1, I_Lamp_clockOff, k0, q1, q2, q5, c12, s32_id, b_s32, b_eq0, b_01, l0, l1, true_and, and_true, and_self, true_implies, false_implies, implies_true, forall_const, not_true_eq_false, not_false_eq_true, reduceIte, ite_true, ite_false, reduceCtorEq, forall_eq, Classical.not_not, true_or, or_true, false_or, or_false, and_false, false_and, Int.reduceEq, Int.reduceLT, Int.reduceLE, Int.reduceAdd, Int.reduceSub, Int.reduceMul, Int.reduceNeg, hS.k144, hS.n144, hV.r137_9, hS.k143, hS.n143, hV.r137_8, hS.k152, hS.n152, hV.r137_17, hup]
        · by_cases h4 : V 144 a = 4
          · simp (disch := omega) only [I_x_drift, I_m_drift, p_lampAt hk, p_isLamp hk, p_isWithin, q_in hk, ha, hb, h1, h2, h3, h4, hS.k100, hS.k137, g0, g1, I_Lamp_clockOff, k0, q1, q2, q5, c12, s32_id, b_s32, b_eq0, b_01, l0, l1, true_and, and_true, and_self, true_implies, false_implies, implies_true, forall_const, not_true_eq_false, not_false_eq_true, reduceIte, ite_true, ite_false, reduceCtorEq, forall_eq, Classical.not_not, true_or, or_true, false_or, or_false, and_false, false_and, Int.reduceEq, Int.reduceLT, Int.reduceLE, Int.reduceAdd, Int.reduceSub, Int.reduceMul, Int.reduceNeg, hS.k144, hS.n144, hV.r137_9, hS.k143, hS.n143, hV.r137_8, hS.k152, hS.n152, hV.r137_17, hup]
          · simp (disch := omega) only [I_x_drift, I_m_drift, p_lampAt hk, p_isLamp hk, p_isWithin, q_in hk, ha, hb, h1, h2, h3, h4, hS.k100, hS.k137, g0, g1, I_Lamp_clockOff, k0, q1, q2, q5, c12, s32_id, b_s32, b_eq0, b_01, l0, l1, true_and, and_true, and_self, true_implies, false_implies, implies_true, forall_const, not_true_eq_false, not_false_eq_true, reduceIte, ite_true, ite_false, reduceCtorEq, forall_eq, Classical.not_not, true_or, or_true, false_or, or_false, and_false, false_and, Int.reduceEq, Int.reduceLT, Int.reduceLE, Int.reduceAdd, Int.reduceSub, Int.reduceMul, Int.reduceNeg, hS.k144, hS.n144, hV.r137_9, hS.k143, hS.n143, hV.r137_8, hS.k152, hS.n152, hV.r137_17, hup]
      · have e : ∀ z : Int, z + 1440 - 1 = z + 1439 := fun z => by omega
        by_cases h3 : V 144 a = 1
        · simp (disch := omega) only [I_x_drift, I_m_drift, p_lampAt hk, p_isLamp hk, p_isWithin, q_in hk, ha, hb, h1, h2, h3, hS.k100, hS.k137, g0, g1, I_Lamp_clockOff, k0, q1, q2, q5, c12, s32_id, b_s32, b_eq0, b_01, l0, l1, true_and, and_true, and_self, true_implies, false_implies, implies_true, forall_const, not_true_eq_false, not_false_eq_true, reduceIte, ite_true, ite_false, reduceCtorEq, forall_eq, Classical.not_not, true_or, or_true, false_or, or_false, and_false, false_and, Int.reduceEq, Int.reduceLT, Int.reduceLE, Int.reduceAdd, Int.reduceSub, Int.reduceMul, Int.reduceNeg, hS.k144, hS.n144, hV.r137_9, hS.k143, hS.n143, hV.r137_8, hS.k152, hS.n152, hV.r137_17, hup, p_abs, p_mabs hk, e, ne_eq]
        · by_cases h4 : V 144 a = 4
          · simp (disch := omega) only [I_x_drift, I_m_drift, p_lampAt hk, p_isLamp hk, p_isWithin, q_in hk, ha, hb, h1, h2, h3, h4, hS.k100, hS.k137, g0, g1, I_Lamp_clockOff, k0, q1, q2, q5, c12, s32_id, b_s32, b_eq0, b_01, l0, l1, true_and, and_true, and_self, true_implies, false_implies, implies_true, forall_const, not_true_eq_false, not_false_eq_true, reduceIte, ite_true, ite_false, reduceCtorEq, forall_eq, Classical.not_not, true_or, or_true, false_or, or_false, and_false, false_and, Int.reduceEq, Int.reduceLT, Int.reduceLE, Int.reduceAdd, Int.reduceSub, Int.reduceMul, Int.reduceNeg, hS.k144, hS.n144, hV.r137_9, hS.k143, hS.n143, hV.r137_8, hS.k152, hS.n152, hV.r137_17, hup, p_abs, p_mabs hk, e, ne_eq]
          · simp (disch := omega) only [I_x_drift, I_m_drift, p_lampAt hk, p_isLamp hk, p_isWithin, q_in hk, ha, hb, h1, h2, h3, h4, hS.k100, hS.k137, g0, g1, I_Lamp_clockOff, k0, q1, q2, q5, c12, s32_id, b_s32, b_eq0, b_01, l0, l1, true_and, and_true, and_self, true_implies, false_implies, implies_true, forall_const, not_true_eq_false, not_false_eq_true, reduceIte, ite_true, ite_false, reduceCtorEq, forall_eq, Classical.not_not, true_or, or_true, false_or, or_false, and_false, false_and, Int.reduceEq, Int.reduceLT, Int.reduceLE, Int.reduceAdd, Int.reduceSub, Int.reduceMul, Int.reduceNeg, hS.k144, hS.n144, hV.r137_9, hS.k143, hS.n143, hV.r137_8, hS.k152, hS.n152, hV.r137_17, hup, p_abs, p_mabs hk, e, ne_eq]
    · simp (disch := omega) only [I_x_drift, I_m_drift, p_lampAt hk, p_isLamp hk, p_isWithin, q_in hk, ha, hb, h1, h2, hS.k100, hS.k137, g0, s32_id, b_s32, b_eq0, b_01, l0, l1, true_and, and_true, and_self, true_implies, false_implies, implies_true, forall_const, not_true_eq_false, not_false_eq_true, reduceIte, ite_true, ite_false, reduceCtorEq, forall_eq, Classical.not_not, true_or, or_true, false_or, or_false, and_false, false_and, Int.reduceEq, Int.reduceLT, Int.reduceLE, Int.reduceAdd, Int.reduceSub, Int.reduceMul, Int.reduceNeg, hup]
  · simp (disch := omega) only [I_x_drift, I_m_drift, p_lampAt hk, p_isLamp hk, p_isWithin, q_in hk, ha, hb, h1, hS.k100, hS.k137, s32_id, b_s32, b_eq0, b_01, l0, l1, true_and, and_true, and_self, true_implies, false_implies, implies_true, forall_const, not_true_eq_false, not_false_eq_true, reduceIte, ite_true, ite_false, reduceCtorEq, forall_eq, Classical.not_not, true_or, or_true, false_or, or_false, and_false, false_and, Int.reduceEq, Int.reduceLT, Int.reduceLE, Int.reduceAdd, Int.reduceSub, Int.reduceMul, Int.reduceNeg, hup]
/-- the KIND of a DAY, as both tell it -/
def kd (V : Mem) (a b : Int) : Int := if ¬ (0 ≤ a ∧ a < V 137 2) then -1 else if ¬ (0 ≤ b ∧ b < V 137 0) then -1 else if b < V 151 a then -5 else V 158 (600 * a + b)
theorem p_kindOf (hk : SK V S) (hA : ALL V LA1) (hK : ALL V LK1) (hb : s32 b = b) : C_x_kindOf (d + 6) 100 (if 0 ≤ a ∧ a < V 137 2 then 1000 + 10 * a else -1) b V S Q ↔ Q (kd V a b) V S := by
  have hS := hk.1
  have n599 := hk.n599
  have c12 := hk.2.2.1.2.2.1.1
  unfold kd
  by_cases h1 : 0 ≤ a ∧ a < V 137 2
  · obtain ⟨-, -, ⟨q1, q2, q3⟩⟩ := hA a h1.1 h1.2
    have hK1 := (hK a h1.1 h1.2).1
    obtain ⟨⟨k0, -, -, -, -, -, k5, k6⟩, -, -, -, -, -, r7, -⟩ := hk.lamp h1.1 h1.2
    have g0 : ¬ 1000 + 10 * a = -1 := by omega
    by_cases h2 : b < 0
    · simp (disch := omega) only [I_x_kindOf, hb, h1, hS.k100, g0, h2, b_s32, b_eq0, b_01, l0, l1, true_and, and_true, and_self, true_implies, false_implies, implies_true, forall_const, not_true_eq_false, not_false_eq_true, reduceIte, ite_true, ite_false, reduceCtorEq, forall_eq, Classical.not_not, true_or, or_true, false_or, or_false, and_false, false_and, Int.reduceEq, Int.reduceLT, Int.reduceLE, Int.reduceAdd, Int.reduceSub, Int.reduceMul, Int.reduceNeg, show ¬ (0 ≤ b ∧ b < V 137 0) from by omega]
    · by_cases h3 : b < V 137 0
      · by_cases h4 : b < V 151 a
        · simp (disch := omega) only [I_x_kindOf, hb, h1, hS.k100, g0, h2, h3, h4, c12, k0, q1, s32_id, b_s32, b_eq0, b_01, l0, l1, true_and, and_true, and_self, true_implies, false_implies, implies_true, forall_const, not_true_eq_false, not_false_eq_true, reduceIte, ite_true, ite_false, reduceCtorEq, forall_eq, Classical.not_not, true_or, or_true, false_or, or_false, and_false, false_and, Int.reduceEq, Int.reduceLT, Int.reduceLE, Int.reduceAdd, Int.reduceSub, Int.reduceMul, Int.reduceNeg, show (0 ≤ b) from by omega]
        · simp (disch := omega) only [I_x_kindOf, hb, h1, hS.k100, g0, h2, h3, h4, c12, k0, q1, s32_id, b_s32, b_eq0, b_01, l0, l1, true_and, and_true, and_self, true_implies, false_implies, implies_true, forall_const, not_true_eq_false, not_false_eq_true, reduceIte, ite_true, ite_false, reduceCtorEq, forall_eq, Classical.not_not, true_or, or_true, false_or, or_false, and_false, false_and, Int.reduceEq, Int.reduceLT, Int.reduceLE, Int.reduceAdd, Int.reduceSub, Int.reduceMul, Int.reduceNeg, show (0 ≤ b) from by omega, I_Lamp_kindKept, r7, k5, k6, show b < 600 from by omega, (hK1 b (by omega) h3).1]
      · simp (disch := omega) only [I_x_kindOf, hb, h1, hS.k100, g0, h2, h3, c12, s32_id, b_s32, b_eq0, b_01, l0, l1, true_and, and_true, and_self, true_implies, false_implies, implies_true, forall_const, not_true_eq_false, not_false_eq_true, reduceIte, ite_true, ite_false, reduceCtorEq, forall_eq, Classical.not_not, true_or, or_true, false_or, or_false, and_false, false_and, Int.reduceEq, Int.reduceLT, Int.reduceLE, Int.reduceAdd, Int.reduceSub, Int.reduceMul, Int.reduceNeg]
  · simp (disch := omega) only [I_x_kindOf, hb, h1, hS.k100, b_s32, b_eq0, b_01, l0, l1, true_and, and_true, and_self, true_implies, false_implies, implies_true, forall_const, not_true_eq_false, not_false_eq_true, reduceIte, ite_true, ite_false, reduceCtorEq, forall_eq, Classical.not_not, true_or, or_true, false_or, or_false, and_false, false_and, Int.reduceEq, Int.reduceLT, Int.reduceLE, Int.reduceAdd, Int.reduceSub, Int.reduceMul, Int.reduceNeg]
theorem q_kindOf (hk : SK V S) (hA : ∀ i, 0 ≤ i → i < V 137 2 → 0 ≤ V 151 i ∧ V 151 i ≤ 599) (ha : s32 a = a) (hb : s32 b = b) : C_m_kindOf (d + 6) 137 a b V S Q ↔ Q (kd V a b) V S := by
  have hS := hk.1
  have hV := hk.2.1
  have n599 := hk.n599
  have n20 := hk.n20
  unfold kd
  by_cases h1 : 0 ≤ a ∧ a < V 137 2
  · have q1 := hA a h1.1 h1.2
    by_cases h2 : 0 ≤ b ∧ b < V 137 0
    · by_cases h4 : b < V 151 a
      · simp (disch := omega) only [I_m_kindOf, p_isLamp hk, q_in hk, ha, hb, h1, h2, h4, hS.k137, s32_id, b_s32, b_eq0, b_01, l0, l1, true_and, and_true, and_self, true_implies, false_implies, implies_true, forall_const, not_true_eq_false, not_false_eq_true, reduceIte, ite_true, ite_false, reduceCtorEq, forall_eq, Classical.not_not, true_or, or_true, false_or, or_false, and_false, false_and, Int.reduceEq, Int.reduceLT, Int.reduceLE, Int.reduceAdd, Int.reduceSub, Int.reduceMul, Int.reduceNeg, hS.k151, hS.n151, hV.r137_16, hS.k158, hS.n158, hV.r137_23, show a < 20 from by omega, show b ≤ V 137 0 - 1 from by omega]
      · simp (disch := omega) only [I_m_kindOf, p_isLamp hk, q_in hk, ha, hb, h1, h2, h4, hS.k137, s32_id, b_s32, b_eq0, b_01, l0, l1, true_and, and_true, and_self, true_implies, false_implies, implies_true, forall_const, not_true_eq_false, not_false_eq_true, reduceIte, ite_true, ite_false, reduceCtorEq, forall_eq, Classical.not_not, true_or, or_true, false_or, or_false, and_false, false_and, Int.reduceEq, Int.reduceLT, Int.reduceLE, Int.reduceAdd, Int.reduceSub, Int.reduceMul, Int.reduceNeg, hS.k151, hS.n151, hV.r137_16, hS.k158, hS.n158, hV.r137_23, show a < 20 from by omega, show b ≤ V 137 0 - 1 from by omega, show 600 * a + b < 12000 from by omega, show 0 ≤ 600 * a + b from by omega]
    · simp (disch := omega) only [I_m_kindOf, p_isLamp hk, q_in hk, ha, hb, h1, h2, hS.k137, s32_id, b_s32, b_eq0, b_01, l0, l1, true_and, and_true, and_self, true_implies, false_implies, implies_true, forall_const, not_true_eq_false, not_false_eq_true, reduceIte, ite_true, ite_false, reduceCtorEq, forall_eq, Classical.not_not, true_or, or_true, false_or, or_false, and_false, false_and, Int.reduceEq, Int.reduceLT, Int.reduceLE, Int.reduceAdd, Int.reduceSub, Int.reduceMul, Int.reduceNeg, show ¬ (0 ≤ b ∧ b ≤ V 137 0 - 1) from by omega]
  · simp (disch := omega) only [I_m_kindOf, p_isLamp hk, ha, hb, h1, hS.k137, b_s32, b_eq0, b_01, l0, l1, true_and, and_true, and_self, true_implies, false_implies, implies_true, forall_const, not_true_eq_false, not_false_eq_true, reduceIte, ite_true, ite_false, reduceCtorEq, forall_eq, Classical.not_not, true_or, or_true, false_or, or_false, and_false, false_and, Int.reduceEq, Int.reduceLT, Int.reduceLE, Int.reduceAdd, Int.reduceSub, Int.reduceMul, Int.reduceNeg]
theorem INV.came (h : INV n V S) : ∀ i, 0 ≤ i → i < V 137 2 → 0 ≤ V 151 i ∧ V 151 i ≤ 599 := fun i i0 i1 => by
  obtain ⟨-, -, ⟨q1, q2, q3⟩⟩ := h.2.2.2.1.1 i i0 i1
  have := h.1.n599
  omega
theorem INV.kdr (h : INV n V S) : kd V a b = -1 ∨ kd V a b = -5 ∨ (0 ≤ kd V a b ∧ kd V a b ≤ 6) := by
  unfold kd
  by_cases h1 : 0 ≤ a ∧ a < V 137 2
  · by_cases h2 : 0 ≤ b ∧ b < V 137 0
    · by_cases h3 : b < V 151 a
      · rw [if_neg (fun q => q h1), if_neg (fun q => q h2), if_pos h3]; exact Or.inr (Or.inl rfl)
      · rw [if_neg (fun q => q h1), if_neg (fun q => q h2), if_neg h3]; exact Or.inr (Or.inr ((h.2.2.2.1.2.2.2.2.2.1 a h1.1 h1.2).1 b (by omega) h2.2).2)
    · rw [if_neg (fun q => q h1), if_pos h2]; exact Or.inl rfl
  · rw [if_pos h1]; exact Or.inl rfl
theorem cmd_kind (h : INV n V S) (hn : n ≤ m) (ha : s32 a = a) (hb : s32 b = b) : C_x_kind (d + 8) 100 a b V S (fun r V1 S1 => C_m_kind (d + 8) 137 a b V1 S1 (fun r' V2 S2 => r = r' ∧ INV m V2 S2)) := by
  have hup := h.up hn
  have hk := h.1
  have hS := hk.1
  simp only [I_x_kind, I_m_kind, p_lampAt hk, ha, p_kindOf hk h.2.2.2.1.1 h.2.2.2.1.2.2.2.2.2.1 hb, q_kindOf hk h.came ha hb, hS.k100, hS.k137, hup, b_s32, b_eq0, b_01, l0, l1, true_and, and_true, and_self, true_implies, false_implies, implies_true, forall_const, not_true_eq_false, not_false_eq_true, reduceIte, ite_true, ite_false, reduceCtorEq, forall_eq, Classical.not_not, true_or, or_true, false_or, or_false, and_false, false_and, Int.reduceEq, Int.reduceLT, Int.reduceLE, Int.reduceAdd, Int.reduceSub, Int.reduceMul, Int.reduceNeg]
theorem isU_st {u0 : XV} {g : Cnt} (hS : FS S) (hV : FV V) (hi0 : 0 ≤ i) (hi1 : i < 7) (c0 : 0 ≤ c) (c1 : c ≤ 6) (hkk : s32 k = k) : K_Acts_isUnder (d + 2) Q (4, [u0, (0, k), (0, c), (0, i)], [], V, S, g) ↔ if c = k then Q 1 V S else K_Acts_isUnder (d + 2) Q (4, [(9, 0), (0, k), (0, V (-2) c), (0, i + 1)], [], V, S, g) := by
  rw [L_Acts_isUnder_4]
  by_cases e : c = k
  · simp (disch := omega) only [hS.km2, hS.nm2, s32_id, hi1, p_isKind, hkk, e, b_s32, b_eq0, b_01, l0, l1, true_and, and_true, and_self, true_implies, false_implies, implies_true, forall_const, not_true_eq_false, not_false_eq_true, reduceIte, ite_true, ite_false, reduceCtorEq, forall_eq, Classical.not_not, true_or, or_true, false_or, or_false, and_false, false_and, Int.reduceEq, Int.reduceLT, Int.reduceLE, Int.reduceAdd, Int.reduceSub, Int.reduceMul, Int.reduceNeg, show 0 ≤ k ∧ k ≤ 6 from by omega]
  · simp (disch := omega) only [hS.km2, hS.nm2, s32_id, hi1, p_isKind, hkk, e, b_s32, b_eq0, b_01, l0, l1, true_and, and_true, and_self, true_implies, false_implies, implies_true, forall_const, not_true_eq_false, not_false_eq_true, reduceIte, ite_true, ite_false, reduceCtorEq, forall_eq, Classical.not_not, true_or, or_true, false_or, or_false, and_false, false_and, Int.reduceEq, Int.reduceLT, Int.reduceLE, Int.reduceAdd, Int.reduceSub, Int.reduceMul, Int.reduceNeg, show 0 ≤ c ∧ c ≤ 6 from by omega, p_valueAt _ _ _ _ _ _ (Or.inr hS.km2) (by rw [hS.nm2]; omega), show c < 7 from by omega, c0]
theorem isU_no {u0 : XV} {g : Cnt} (hS : FS S) (hi0 : 0 ≤ i) (hi1 : i < 7) (c0 : c < 0) (c1 : -10 ≤ c) : K_Acts_isUnder (d + 2) Q (4, [u0, (0, k), (0, c), (0, i)], [], V, S, g) ↔ Q 0 V S := by
  rw [L_Acts_isUnder_4]
  simp (disch := omega) only [hS.km2, hS.nm2, s32_id, hi1, p_isKind, b_s32, b_eq0, b_01, l0, l1, true_and, and_true, and_self, true_implies, false_implies, implies_true, forall_const, not_true_eq_false, not_false_eq_true, reduceIte, ite_true, ite_false, reduceCtorEq, forall_eq, Classical.not_not, true_or, or_true, false_or, or_false, and_false, false_and, Int.reduceEq, Int.reduceLT, Int.reduceLE, Int.reduceAdd, Int.reduceSub, Int.reduceMul, Int.reduceNeg, show ¬ (0 ≤ c ∧ c ≤ 6) from by omega]
theorem isU_0 {u0 : XV} {g : Cnt} (hS : FS S) (hV : FV V) (hi0 : 0 ≤ i) (hi1 : i < 6) (hkk : s32 k = k) : K_Acts_isUnder (d + 2) Q (4, [u0, (0, k), (0, 0), (0, i)], [], V, S, g) ↔ Q (if 0 = k then 1 else 0) V S := by
  rw [isU_st hS hV hi0 (by omega) (by omega) (by omega) hkk, hV.rm2_0]
  by_cases e : 0 = k
  · rw [if_pos e, if_pos e]
  · rw [if_neg e, if_neg e, isU_no hS (by omega) (by omega) (by omega) (by omega)]
theorem isU_d {u0 : XV} {g : Cnt} (hS : FS S) (hV : FV V) (hi0 : 0 ≤ i) (hi1 : i < 5) (c0 : 0 ≤ c) (c1 : c ≤ 6) (ca : V (-2) c = 0) (hkk : s32 k = k) : K_Acts_isUnder (d + 2) Q (4, [u0, (0, k), (0, c), (0, i)], [], V, S, g) ↔ Q (if c = k ∨ 0 = k then 1 else 0) V S := by
  rw [isU_st hS hV hi0 (by omega) c0 c1 hkk, ca, isU_0 hS hV (by omega) (by omega) hkk]
  by_cases e : c = k
  · rw [if_pos e, if_pos (Or.inl e)]
  · rw [if_neg e]
    by_cases e2 : 0 = k
    · rw [if_pos e2, if_pos (Or.inr e2)]
    · rw [if_neg e2, if_neg (by omega)]
theorem p_isUnder (hS : FS S) (hV : FV V) (hc : -10 ≤ c ∧ c ≤ 6) (hk0 : 0 ≤ k) (hk6 : k ≤ 6) : C_Acts_isUnder (d + 3) c k V S Q ↔ Q (if 0 ≤ c ∧ uk c k then 1 else 0) V S := by
  rw [I_Acts_isUnder]
  have hkk : s32 k = k := s32_id (by omega) (by omega)
  by_cases c0 : c < 0
  · rw [isU_no hS (by omega) (by omega) c0 hc.1, if_neg (by omega)]
  · have ee : ∀ (p : Prop) [Decidable p], (p ↔ (0 ≤ c ∧ uk c k = true)) → ((if p then (1 : Int) else 0) = if 0 ≤ c ∧ uk c k = true then 1 else 0) := by
      intro p _ hp
      by_cases q : p
      · rw [if_pos q, if_pos (hp.mp q)]
      · rw [if_neg q, if_neg (fun z => q (hp.mpr z))]
    have ku : uk c k = true ↔ (k = 0 ∨ c = k ∨ (k = 1 ∧ c = 6) ∨ (k = 2 ∧ c = 3)) := by
      unfold uk
      simp only [Bool.or_eq_true, Bool.and_eq_true, beq_iff_eq, or_assoc]
    rcases (by omega : c = 0 ∨ c = 1 ∨ c = 2 ∨ c = 3 ∨ c = 4 ∨ c = 5 ∨ c = 6) with rfl | rfl | rfl | rfl | rfl | rfl | rfl
    · rw [isU_0 hS hV (by omega) (by omega) hkk, ee _ (by rw [ku]; omega)]
    · rw [isU_d hS hV (by omega) (by omega) (by omega) (by omega) hV.rm2_1 hkk, ee _ (by rw [ku]; omega)]
    · rw [isU_d hS hV (by omega) (by omega) (by omega) (by omega) hV.rm2_2 hkk, ee _ (by rw [ku]; omega)]
    · rw [isU_st hS hV (by omega) (by omega) (by omega) (by omega) hkk, hV.rm2_3, isU_d hS hV (by omega) (by omega) (by omega) (by omega) hV.rm2_2 hkk]
      by_cases e : 3 = k
      · rw [if_pos e, if_pos (by rw [ku]; omega)]
      · rw [if_neg e, ee _ (by rw [ku]; omega)]
    · rw [isU_d hS hV (by omega) (by omega) (by omega) (by omega) hV.rm2_4 hkk, ee _ (by rw [ku]; omega)]
    · rw [isU_d hS hV (by omega) (by omega) (by omega) (by omega) hV.rm2_5 hkk, ee _ (by rw [ku]; omega)]
    · rw [isU_st hS hV (by omega) (by omega) (by omega) (by omega) hkk, hV.rm2_6, isU_d hS hV (by omega) (by omega) (by omega) (by omega) hV.rm2_1 hkk]
      by_cases e : 6 = k
      · rw [if_pos e, if_pos (by rw [ku]; omega)]
      · rw [if_neg e, ee _ (by rw [ku]; omega)]
theorem M_taken (hk : SK V S) (hA : ∀ i, 0 ≤ i → i < V 137 2 → 0 ≤ V 151 i ∧ V 151 i ≤ 599) (hr : kd V a b = -1 ∨ kd V a b = -5 ∨ (0 ≤ kd V a b ∧ kd V a b ≤ 6)) (ha : s32 a = a) (hb : s32 b = b) (hc : s32 c = c) : C_m_taken (d + 8) 137 a b c V S Q ↔ if ¬ (0 ≤ c ∧ c ≤ 6) then Q (-2) V S else if kd V a b < 0 then Q (-11) V S else if uk (kd V a b) c = true then Q (kd V a b) V S else Q (-12) V S := by
  have hS := hk.1
  have hx : s32 (kd V a b) = kd V a b := s32_id (by omega) (by omega)
  by_cases h1 : 0 ≤ c ∧ c ≤ 6
  · by_cases h2 : kd V a b < 0
    · simp (disch := omega) only [I_m_taken, q_in hk, hc, h1, hS.k137, s32_id, q_kindOf hk hA ha hb, hx, h2, b_s32, b_eq0, b_01, l0, l1, true_and, and_true, and_self, true_implies, false_implies, implies_true, forall_const, not_true_eq_false, not_false_eq_true, reduceIte, ite_true, ite_false, reduceCtorEq, forall_eq, Classical.not_not, true_or, or_true, false_or, or_false, and_false, false_and, Int.reduceEq, Int.reduceLT, Int.reduceLE, Int.reduceAdd, Int.reduceSub, Int.reduceMul, Int.reduceNeg]
    · by_cases h3 : uk (kd V a b) c = true
      · simp (disch := omega) only [I_m_taken, q_in hk, hc, h1, hS.k137, s32_id, q_kindOf hk hA ha hb, hx, h2, h3, p_misUnder hk hx hc, b_s32, b_eq0, b_01, l0, l1, true_and, and_true, and_self, true_implies, false_implies, implies_true, forall_const, not_true_eq_false, not_false_eq_true, reduceIte, ite_true, ite_false, reduceCtorEq, forall_eq, Classical.not_not, true_or, or_true, false_or, or_false, and_false, false_and, Int.reduceEq, Int.reduceLT, Int.reduceLE, Int.reduceAdd, Int.reduceSub, Int.reduceMul, Int.reduceNeg]
      · simp (disch := omega) only [I_m_taken, q_in hk, hc, h1, hS.k137, s32_id, q_kindOf hk hA ha hb, hx, h2, h3, p_misUnder hk hx hc, b_s32, b_eq0, b_01, l0, l1, true_and, and_true, and_self, true_implies, false_implies, implies_true, forall_const, not_true_eq_false, not_false_eq_true, reduceIte, ite_true, ite_false, reduceCtorEq, forall_eq, Classical.not_not, true_or, or_true, false_or, or_false, and_false, false_and, Int.reduceEq, Int.reduceLT, Int.reduceLE, Int.reduceAdd, Int.reduceSub, Int.reduceMul, Int.reduceNeg]
  · simp (disch := omega) only [I_m_taken, q_in hk, hc, h1, hS.k137, s32_id, b_s32, b_eq0, b_01, l0, l1, true_and, and_true, and_self, true_implies, false_implies, implies_true, forall_const, not_true_eq_false, not_false_eq_true, reduceIte, ite_true, ite_false, reduceCtorEq, forall_eq, Classical.not_not, true_or, or_true, false_or, or_false, and_false, false_and, Int.reduceEq, Int.reduceLT, Int.reduceLE, Int.reduceAdd, Int.reduceSub, Int.reduceMul, Int.reduceNeg]
theorem X_taken (hk : SK V S) (hA : ALL V LA1) (hK : ALL V LK1) (hr : kd V a b = -1 ∨ kd V a b = -5 ∨ (0 ≤ kd V a b ∧ kd V a b ≤ 6)) (ha : s32 a = a) (hb : s32 b = b) (hc : s32 c = c) : C_x_taken (d + 8) 100 a b c V S Q ↔ if ¬ (0 ≤ c ∧ c ≤ 6) then Q (-2) V S else if kd V a b < 0 then Q (-11) V S else if uk (kd V a b) c = true then Q (kd V a b) V S else Q (-12) V S := by
  have hS := hk.1
  have hV := hk.2.1
  have hx : s32 (kd V a b) = kd V a b := s32_id (by omega) (by omega)
  by_cases h1 : 0 ≤ c ∧ c ≤ 6
  · by_cases h2 : kd V a b < 0
    · simp (disch := omega) only [I_x_taken, p_isKind, ha, hc, h1, p_lampAt hk, p_kindOf hk hA hK hb, hS.k100, s32_id, hx, h2, show ¬ (0 ≤ kd V a b ∧ kd V a b ≤ 6) from by omega, b_s32, b_eq0, b_01, l0, l1, true_and, and_true, and_self, true_implies, false_implies, implies_true, forall_const, not_true_eq_false, not_false_eq_true, reduceIte, ite_true, ite_false, reduceCtorEq, forall_eq, Classical.not_not, true_or, or_true, false_or, or_false, and_false, false_and, Int.reduceEq, Int.reduceLT, Int.reduceLE, Int.reduceAdd, Int.reduceSub, Int.reduceMul, Int.reduceNeg]
    · by_cases h3 : uk (kd V a b) c = true
      · simp (disch := omega) only [I_x_taken, p_isKind, ha, hc, h1, p_lampAt hk, p_kindOf hk hA hK hb, hS.k100, s32_id, hx, h2, h3, show (0 ≤ kd V a b ∧ kd V a b ≤ 6) from by omega, p_isUnder hS hV (show -10 ≤ kd V a b ∧ kd V a b ≤ 6 from by omega) h1.1 h1.2, b_s32, b_eq0, b_01, l0, l1, true_and, and_true, and_self, true_implies, false_implies, implies_true, forall_const, not_true_eq_false, not_false_eq_true, reduceIte, ite_true, ite_false, reduceCtorEq, forall_eq, Classical.not_not, true_or, or_true, false_or, or_false, and_false, false_and, Int.reduceEq, Int.reduceLT, Int.reduceLE, Int.reduceAdd, Int.reduceSub, Int.reduceMul, Int.reduceNeg]
      · simp (disch := omega) only [I_x_taken, p_isKind, ha, hc, h1, p_lampAt hk, p_kindOf hk hA hK hb, hS.k100, s32_id, hx, h2, h3, show (0 ≤ kd V a b ∧ kd V a b ≤ 6) from by omega, p_isUnder hS hV (show -10 ≤ kd V a b ∧ kd V a b ≤ 6 from by omega) h1.1 h1.2, b_s32, b_eq0, b_01, l0, l1, true_and, and_true, and_self, true_implies, false_implies, implies_true, forall_const, not_true_eq_false, not_false_eq_true, reduceIte, ite_true, ite_false, reduceCtorEq, forall_eq, Classical.not_not, true_or, or_true, false_or, or_false, and_false, false_and, Int.reduceEq, Int.reduceLT, Int.reduceLE, Int.reduceAdd, Int.reduceSub, Int.reduceMul, Int.reduceNeg]
  · simp (disch := omega) only [I_x_taken, p_isKind, ha, hc, h1, hS.k100, s32_id, b_s32, b_eq0, b_01, l0, l1, true_and, and_true, and_self, true_implies, false_implies, implies_true, forall_const, not_true_eq_false, not_false_eq_true, reduceIte, ite_true, ite_false, reduceCtorEq, forall_eq, Classical.not_not, true_or, or_true, false_or, or_false, and_false, false_and, Int.reduceEq, Int.reduceLT, Int.reduceLE, Int.reduceAdd, Int.reduceSub, Int.reduceMul, Int.reduceNeg]
theorem cmd_taken (h : INV n V S) (hn : n ≤ m) (ha : s32 a = a) (hb : s32 b = b) (hc : s32 c = c) : C_x_taken (d + 8) 100 a b c V S (fun r V1 S1 => C_m_taken (d + 8) 137 a b c V1 S1 (fun r' V2 S2 => r = r' ∧ INV m V2 S2)) := by
  have hup := h.up hn
  have hk := h.1
  rw [X_taken hk h.2.2.2.1.1 h.2.2.2.1.2.2.2.2.2.1 h.kdr ha hb hc]
  simp only [M_taken hk h.came h.kdr ha hb hc]
  by_cases h1 : 0 ≤ c ∧ c ≤ 6
  · by_cases h2 : kd V a b < 0
    · simp only [h1, h2, hup, b_s32, b_eq0, b_01, l0, l1, true_and, and_true, and_self, true_implies, false_implies, implies_true, forall_const, not_true_eq_false, not_false_eq_true, reduceIte, ite_true, ite_false, reduceCtorEq, forall_eq, Classical.not_not, true_or, or_true, false_or, or_false, and_false, false_and, Int.reduceEq, Int.reduceLT, Int.reduceLE, Int.reduceAdd, Int.reduceSub, Int.reduceMul, Int.reduceNeg]
    · by_cases h3 : uk (kd V a b) c = true
      · simp only [h1, h2, h3, hup, b_s32, b_eq0, b_01, l0, l1, true_and, and_true, and_self, true_implies, false_implies, implies_true, forall_const, not_true_eq_false, not_false_eq_true, reduceIte, ite_true, ite_false, reduceCtorEq, forall_eq, Classical.not_not, true_or, or_true, false_or, or_false, and_false, false_and, Int.reduceEq, Int.reduceLT, Int.reduceLE, Int.reduceAdd, Int.reduceSub, Int.reduceMul, Int.reduceNeg]
      · simp only [h1, h2, h3, hup, b_s32, b_eq0, b_01, l0, l1, true_and, and_true, and_self, true_implies, false_implies, implies_true, forall_const, not_true_eq_false, not_false_eq_true, reduceIte, ite_true, ite_false, reduceCtorEq, forall_eq, Classical.not_not, true_or, or_true, false_or, or_false, and_false, false_and, Int.reduceEq, Int.reduceLT, Int.reduceLE, Int.reduceAdd, Int.reduceSub, Int.reduceMul, Int.reduceNeg]
  · simp only [h1, hup, b_s32, b_eq0, b_01, l0, l1, true_and, and_true, and_self, true_implies, false_implies, implies_true, forall_const, not_true_eq_false, not_false_eq_true, reduceIte, ite_true, ite_false, reduceCtorEq, forall_eq, Classical.not_not, true_or, or_true, false_or, or_false, and_false, false_and, Int.reduceEq, Int.reduceLT, Int.reduceLE, Int.reduceAdd, Int.reduceSub, Int.reduceMul, Int.reduceNeg]
end C5
