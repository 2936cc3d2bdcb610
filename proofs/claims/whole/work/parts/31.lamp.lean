/-! commands: lamp -/
def LVh (V : Mem) (z c a b e f : Int) : Mem := up2 (up2 (up2 (up2 (up2 (up2 (up2 (upo (up2 (up2 (upo (upo (up2 (upo (up2 (upo V (z + 1) (dfl 6)) z 4 (z + 1)) (z + 1 + 1) (dfl 6)) z 5 (z + 1 + 1)) (z + 1 + 1 + 1) (dfl 3)) (z + 1 + 1 + 1 + 1) (fun _ => 0)) (z + 1 + 1 + 1) 3 (z + 1 + 1 + 1 + 1)) z 6 (z + 1 + 1 + 1)) (z + 1 + 1 + 1 + 1 + 1) (fun _ => 0)) z 7 (z + 1 + 1 + 1 + 1 + 1)) z 9 0) z 0 c) z 1 a) z 8 b) z 2 e) z 3 f
def LSh (S : Shp) (z : Int) : Shp := (upk (upk (upk (upk (upk S.1 (z + 1) 6) (z + 1 + 1) 6) (z + 1 + 1 + 1) 3) (z + 1 + 1 + 1 + 1) 101) (z + 1 + 1 + 1 + 1 + 1) 101, upk (upk S.2.1 (z + 1 + 1 + 1 + 1) 64) (z + 1 + 1 + 1 + 1 + 1) 600, z + 1 + 1 + 1 + 1 + 1 + 1)
section CA
variable {d : Nat} {n m a b c e f i k z : Int} {V : Mem} {S : Shp} {Q : Int → Mem → Shp → Prop} {U : Mem → Shp → Prop}
theorem p_MeterInit (hk : S.1 z = 6) : C_Meter_init (d + 1) z V S U ↔ U V S := by
  rw [I_Meter_init, hk]
  simp only [b_s32, b_eq0, b_01, l0, l1, true_and, and_true, and_self, true_implies, false_implies, implies_true, forall_const, not_true_eq_false, not_false_eq_true, reduceIte, ite_true, ite_false, reduceCtorEq, forall_eq, Classical.not_not, true_or, or_true, false_or, or_false, and_false, false_and, Int.reduceEq, Int.reduceLT, Int.reduceLE, Int.reduceAdd, Int.reduceSub, Int.reduceMul, Int.reduceNeg]
theorem p_CodesInit (hz : S.2.2 = z + 1) (hk : S.1 z = 3) : C_Codes_init (d + 1) z V S U ↔ U (up2 (upo V (z + 1) (fun _ => 0)) z 3 (z + 1)) (upk S.1 (z + 1) 101, upk S.2.1 (z + 1) 64, z + 1 + 1) := by
  have e : upk S.1 (z + 1) 101 z = 3 := by rw [upk_ne (by omega)]; exact hk
  have e2 : s32 64 = 64 := s32_id (by omega) (by omega)
  rw [I_Codes_init, hz]
  simp only [hk, e2, fa2, e, forall_eq, b_s32, b_eq0, b_01, l0, l1, true_and, and_true, and_self, true_implies, false_implies, implies_true, forall_const, not_true_eq_false, not_false_eq_true, reduceIte, ite_true, ite_false, reduceCtorEq, forall_eq, Classical.not_not, true_or, or_true, false_or, or_false, and_false, false_and, Int.reduceEq, Int.reduceLT, Int.reduceLE, Int.reduceAdd, Int.reduceSub, Int.reduceMul, Int.reduceNeg, Int.reduceToNat, Nat.reduceAdd, Nat.reduceLeDiff, Nat.zero_add, Nat.le_refl]
theorem p_LampInit (hz : S.2.2 = z + 1) (hk : S.1 z = 5) : C_Lamp_init (d + 2) z c a b e f V S U ↔ U (LVh V z c a b e f) (LSh S z) := by
  have e2 : s32 600 = 600 := s32_id (by omega) (by omega)
  have g : ∀ (V1 : Mem) (S1 : Shp) (U : Mem → Shp → Prop) (y : Int), S1.2.2 = y + 1 → S1.1 y = 3 → (C_Codes_init (d + 1) y V1 S1 U ↔ U (up2 (upo V1 (y + 1) (fun _ => 0)) y 3 (y + 1)) (upk S1.1 (y + 1) 101, upk S1.2.1 (y + 1) 64, y + 1 + 1)) := fun V1 S1 U y h1 h2 => p_CodesInit h1 h2
  have g0 : ∀ (V1 : Mem) (S1 : Shp) (U : Mem → Shp → Prop) (y : Int), S1.1 y = 6 → (C_Meter_init (d + 1) y V1 S1 U ↔ U V1 S1) := fun V1 S1 U y h1 => p_MeterInit h1
  rw [I_Lamp_init, hz]
  simp (disch := first | omega | rfl | (simp (disch := omega) only [upk_ne, upk_eq])) only [hk, e2, fa2, g, g0, upk_ne, upk_eq, forall_eq, b_s32, b_eq0, b_01, l0, l1, true_and, and_true, and_self, true_implies, false_implies, implies_true, forall_const, not_true_eq_false, not_false_eq_true, reduceIte, ite_true, ite_false, reduceCtorEq, forall_eq, Classical.not_not, true_or, or_true, false_or, or_false, and_false, false_and, Int.reduceEq, Int.reduceLT, Int.reduceLE, Int.reduceAdd, Int.reduceSub, Int.reduceMul, Int.reduceNeg, show nfC 6 = 4 from rfl, show nfC 3 = 5 from rfl, Int.reduceToNat, Nat.reduceAdd, Nat.reduceLeDiff, Nat.zero_add, Nat.le_refl]
  rfl
theorem X_lamp (hk : SK V S) (ha : s32 a = a) (hb : s32 b = b) (hc : s32 c = c) (hz : S.2.2 = 1000 + 10 * V 137 2) : C_x_lamp (d + 5) 100 a b c V S Q ↔ if ¬ ((0 ≤ a ∧ a ≤ 7) ∧ (1 ≤ b ∧ b ≤ 999) ∧ (-9 ≤ c ∧ c ≤ 9)) then Q (-2) V S else if V 137 2 = 20 then Q (-4) V S else Q (V 137 2) (up2 (up2 (LVh (upo V (1000 + 10 * V 137 2) (dfl 5)) (1000 + 10 * V 137 2) (V 137 2) a b c (V 137 0)) 102 (V 137 2) (1000 + 10 * V 137 2)) 100 11 (V 137 2 + 1)) (LSh (upk S.1 (1000 + 10 * V 137 2) 5, S.2.1, 1000 + 10 * V 137 2 + 1) (1000 + 10 * V 137 2)) := by
  have hS := hk.1
  have hV := hk.2.1
  obtain ⟨-, ⟨c1, c2, c3⟩, ⟨t1, t2, t3⟩, -⟩ := hk.2.2.1
  by_cases h1 : 0 ≤ a ∧ a ≤ 7
  · by_cases h2 : 1 ≤ b ∧ b ≤ 999
    · by_cases h5 : -9 ≤ c ∧ c ≤ 9
      · by_cases h3 : V 137 2 = 20
        · simp (disch := omega) only [I_x_lamp, p_isWithin, ha, hb, hc, h1, h2, h3, h5, c1, hS.k100, hS.k102, hS.n102, hV.r100_1, s32_id, b_s32, b_eq0, b_01, l0, l1, true_and, and_true, and_self, true_implies, false_implies, implies_true, forall_const, not_true_eq_false, not_false_eq_true, reduceIte, ite_true, ite_false, reduceCtorEq, forall_eq, Classical.not_not, true_or, or_true, false_or, or_false, and_false, false_and, Int.reduceEq, Int.reduceLT, Int.reduceLE, Int.reduceAdd, Int.reduceSub, Int.reduceMul, Int.reduceNeg]
        · have h4 : V 137 2 < 20 := by omega
          have hL : ∀ p, (p = 100 ∨ p = 102) → (LSh (upk S.1 (1000 + 10 * V 137 2) 5, S.2.1, 1000 + 10 * V 137 2 + 1) (1000 + 10 * V 137 2)).1 p = S.1 p := by
            intro p hp
            unfold LSh
            simp (disch := omega) only [upk_ne]
          have hL2 : (LSh (upk S.1 (1000 + 10 * V 137 2) 5, S.2.1, 1000 + 10 * V 137 2 + 1) (1000 + 10 * V 137 2)).2.1 102 = S.2.1 102 := by
            unfold LSh
            simp (disch := omega) only [upk_ne]
          have hL3 : (LSh (upk S.1 (1000 + 10 * V 137 2) 5, S.2.1, 1000 + 10 * V 137 2 + 1) (1000 + 10 * V 137 2)).1 (1000 + 10 * V 137 2) = 5 := by
            unfold LSh
            simp (disch := omega) only [upk_ne, upk_eq]
          have hV1 : (LVh (upo V (1000 + 10 * V 137 2) (dfl 5)) (1000 + 10 * V 137 2) (V 137 2) a b c (V 137 0)) 100 11 = V 137 2 := by
            unfold LVh
            simp (disch := omega) only [up2_ne, upo_ne]
            exact c1
          have g1 := fun (V1 : Mem) (U : Mem → Shp → Prop) (c' f' : Int) => p_LampInit (d := d + 2) (c := c') (a := a) (b := b) (e := c) (f := f') (V := V1) (U := U) (S := (upk S.1 (1000 + 10 * V 137 2) 5, S.2.1, 1000 + 10 * V 137 2 + 1)) (z := 1000 + 10 * V 137 2) rfl (upk_eq rfl)
          simp (disch := omega) only [I_x_lamp, p_isWithin, ha, hb, hc, h1, h2, h3, h4, h5, c1, t1, hS.k100, hS.k102, hS.n102, hV.r100_1, hz, fa2, g1, hL 100, hL 102, hL2, hL3, hV1, upk_ne, upk_eq, upo_ne, up2_ne, up2_eq, s32_id, b_s32, b_eq0, b_01, l0, l1, true_and, and_true, and_self, true_implies, false_implies, implies_true, forall_const, not_true_eq_false, not_false_eq_true, reduceIte, ite_true, ite_false, reduceCtorEq, forall_eq, Classical.not_not, true_or, or_true, false_or, or_false, and_false, false_and, Int.reduceEq, Int.reduceLT, Int.reduceLE, Int.reduceAdd, Int.reduceSub, Int.reduceMul, Int.reduceNeg, show nfC 5 = 13 from rfl, Nat.reduceAdd, Nat.reduceLeDiff, Nat.le_refl, show V 137 2 + 1 - 1 = V 137 2 from by omega, show ¬ V 137 2 < 0 from by omega, c2]
      · simp (disch := omega) only [I_x_lamp, p_isWithin, ha, hb, hc, h1, h2, h5, hS.k100, s32_id, b_s32, b_eq0, b_01, l0, l1, true_and, and_true, and_self, true_implies, false_implies, implies_true, forall_const, not_true_eq_false, not_false_eq_true, reduceIte, ite_true, ite_false, reduceCtorEq, forall_eq, Classical.not_not, true_or, or_true, false_or, or_false, and_false, false_and, Int.reduceEq, Int.reduceLT, Int.reduceLE, Int.reduceAdd, Int.reduceSub, Int.reduceMul, Int.reduceNeg]
    · simp (disch := omega) only [I_x_lamp, p_isWithin, ha, hb, h1, h2, hS.k100, s32_id, b_s32, b_eq0, b_01, l0, l1, true_and, and_true, and_self, true_implies, false_implies, implies_true, forall_const, not_true_eq_false, not_false_eq_true, reduceIte, ite_true, ite_false, reduceCtorEq, forall_eq, Classical.not_not, true_or, or_true, false_or, or_false, and_false, false_and, Int.reduceEq, Int.reduceLT, Int.reduceLE, Int.reduceAdd, Int.reduceSub, Int.reduceMul, Int.reduceNeg]
  · simp (disch := omega) only [I_x_lamp, p_isWithin, ha, h1, hS.k100, s32_id, b_s32, b_eq0, b_01, l0, l1, true_and, and_true, and_self, true_implies, false_implies, implies_true, forall_const, not_true_eq_false, not_false_eq_true, reduceIte, ite_true, ite_false, reduceCtorEq, forall_eq, Classical.not_not, true_or, or_true, false_or, or_false, and_false, false_and, Int.reduceEq, Int.reduceLT, Int.reduceLE, Int.reduceAdd, Int.reduceSub, Int.reduceMul, Int.reduceNeg]
theorem M_lamp (hS : FS S) (hV : FV V) (ha : s32 a = a) (hb : s32 b = b) (hc : s32 c = c) (c2 : 0 ≤ V 137 2) (c3 : V 137 2 ≤ 20) : C_m_lamp (d + 5) 137 a b c V S Q ↔ if ¬ ((0 ≤ a ∧ a ≤ 7) ∧ (1 ≤ b ∧ b ≤ 999) ∧ (-9 ≤ c ∧ c ≤ 9)) then Q (-2) V S else if V 137 2 = 20 then Q (-4) V S else Q (V 137 2) (up2 (up2 (up2 (up2 (up2 (up2 (up2 V 141 (V 137 2) a) 142 (V 137 2) b) 143 (V 137 2) c) 144 (V 137 2) 0) 145 (V 137 2) (-1)) 151 (V 137 2) (V 137 0)) 137 2 (V 137 2 + 1)) S := by
  by_cases h1 : 0 ≤ a ∧ a ≤ 7
  · by_cases h2 : 1 ≤ b ∧ b ≤ 999
    · by_cases h5 : -9 ≤ c ∧ c ≤ 9
      · by_cases h3 : V 137 2 = 20
        · simp (disch := omega) only [I_m_lamp, r_in hS, ha, hb, hc, h1, h2, h3, h5, hS.k137, s32_id, b_s32, b_eq0, b_01, l0, l1, true_and, and_true, and_self, true_implies, false_implies, implies_true, forall_const, not_true_eq_false, not_false_eq_true, reduceIte, ite_true, ite_false, reduceCtorEq, forall_eq, Classical.not_not, true_or, or_true, false_or, or_false, and_false, false_and, Int.reduceEq, Int.reduceLT, Int.reduceLE, Int.reduceAdd, Int.reduceSub, Int.reduceMul, Int.reduceNeg]
        · simp (disch := omega) only [I_m_lamp, r_in hS, ha, hb, hc, h1, h2, h3, h5, hS.k137, hS.k141, hS.n141, hV.r137_6, hS.k142, hS.n142, hV.r137_7, hS.k143, hS.n143, hV.r137_8, hS.k144, hS.n144, hV.r137_9, hS.k145, hS.n145, hV.r137_10, hS.k151, hS.n151, hV.r137_16, up2_ne, up2_eq, s32_id, b_s32, b_eq0, b_01, l0, l1, true_and, and_true, and_self, true_implies, false_implies, implies_true, forall_const, not_true_eq_false, not_false_eq_true, reduceIte, ite_true, ite_false, reduceCtorEq, forall_eq, Classical.not_not, true_or, or_true, false_or, or_false, and_false, false_and, Int.reduceEq, Int.reduceLT, Int.reduceLE, Int.reduceAdd, Int.reduceSub, Int.reduceMul, Int.reduceNeg, show V 137 2 < 20 from by omega, c2, show V 137 2 + 1 - 1 = V 137 2 from by omega]
      · simp (disch := omega) only [I_m_lamp, r_in hS, ha, hb, hc, h1, h2, h5, hS.k137, s32_id, b_s32, b_eq0, b_01, l0, l1, true_and, and_true, and_self, true_implies, false_implies, implies_true, forall_const, not_true_eq_false, not_false_eq_true, reduceIte, ite_true, ite_false, reduceCtorEq, forall_eq, Classical.not_not, true_or, or_true, false_or, or_false, and_false, false_and, Int.reduceEq, Int.reduceLT, Int.reduceLE, Int.reduceAdd, Int.reduceSub, Int.reduceMul, Int.reduceNeg]
    · simp (disch := omega) only [I_m_lamp, r_in hS, ha, hb, h1, h2, hS.k137, s32_id, b_s32, b_eq0, b_01, l0, l1, true_and, and_true, and_self, true_implies, false_implies, implies_true, forall_const, not_true_eq_false, not_false_eq_true, reduceIte, ite_true, ite_false, reduceCtorEq, forall_eq, Classical.not_not, true_or, or_true, false_or, or_false, and_false, false_and, Int.reduceEq, Int.reduceLT, Int.reduceLE, Int.reduceAdd, Int.reduceSub, Int.reduceMul, Int.reduceNeg]
  · simp (disch := omega) only [I_m_lamp, r_in hS, ha, h1, hS.k137, s32_id, b_s32, b_eq0, b_01, l0, l1, true_and, and_true, and_self, true_implies, false_implies, implies_true, forall_const, not_true_eq_false, not_false_eq_true, reduceIte, ite_true, ite_false, reduceCtorEq, forall_eq, Classical.not_not, true_or, or_true, false_or, or_false, and_false, false_and, Int.reduceEq, Int.reduceLT, Int.reduceLE, Int.reduceAdd, Int.reduceSub, Int.reduceMul, Int.reduceNeg]
theorem bt00 : bt 0 0 = false := by decide
theorem d6_0 {k : Int} (h : 0 ≤ k ∧ k ≤ 3) : dfl 6 k = 0 := by
  rcases (by omega : k = 0 ∨ k = 1 ∨ k = 2 ∨ k = 3) with rfl | rfl | rfl | rfl <;> decide
theorem d3_0 {k : Int} (h : k = 0 ∨ k = 1 ∨ k = 2 ∨ k = 4) : dfl 3 k = 0 := by
  rcases h with rfl | rfl | rfl | rfl <;> decide
theorem cmd_lamp (h : INV n V S) (hn : n ≤ m) (ha : s32 a = a) (hb : s32 b = b) (hc : s32 c = c) (hz : S.2.2 = 1000 + 10 * V 137 2) (m0 : 0 ≤ m) : C_x_lamp (d + 5) 100 a b c V S (fun r V1 S1 => C_m_lamp (d + 5) 137 a b c V1 S1 (fun r' V2 S2 => r = r' ∧ INV m V2 S2)) := by
  have hup := h.up hn
  have hk := h.1
  have hS := hk.1
  have hV := hk.2.1
  obtain ⟨c1, c2, c3⟩ := hk.2.2.1.2.1
  have n599 := hk.n599
  rw [X_lamp hk ha hb hc hz]
  by_cases h1 : (0 ≤ a ∧ a ≤ 7) ∧ (1 ≤ b ∧ b ≤ 999) ∧ (-9 ≤ c ∧ c ≤ 9)
  · rw [if_neg (fun q => q h1)]
    by_cases h3 : V 137 2 = 20
    · rw [if_pos h3, M_lamp hS hV ha hb hc c2 c3, if_neg (fun q => q h1), if_pos h3]
      exact ⟨rfl, hup⟩
    · rw [if_neg h3]
      generalize hV1 : (up2 (up2 (LVh (upo V (1000 + 10 * V 137 2) (dfl 5)) (1000 + 10 * V 137 2) (V 137 2) a b c (V 137 0)) 102 (V 137 2) (1000 + 10 * V 137 2)) 100 11 (V 137 2 + 1)) = V1
      unfold LVh at hV1
      have F : ∀ p q, ¬ ((1000 + 10 * V 137 2 ≤ p ∧ p ≤ 1005 + 10 * V 137 2) ∨ (p = 102 ∧ q = V 137 2) ∨ (p = 100 ∧ q = 11)) → V1 p q = V p q := by
        intro p q hw
        subst hV1
        simp (disch := omega) only [up2_ne, upo_ne]
      have N0 : V1 (1000 + 10 * V 137 2) 0 = V 137 2 ∧ V1 (1000 + 10 * V 137 2) 1 = a ∧ V1 (1000 + 10 * V 137 2) 2 = c ∧ V1 (1000 + 10 * V 137 2) 3 = V 137 0 ∧ V1 (1000 + 10 * V 137 2) 4 = 1001 + 10 * V 137 2 ∧ V1 (1000 + 10 * V 137 2) 5 = 1002 + 10 * V 137 2 ∧ V1 (1000 + 10 * V 137 2) 6 = 1003 + 10 * V 137 2 ∧ V1 (1000 + 10 * V 137 2) 7 = 1005 + 10 * V 137 2 ∧ V1 (1000 + 10 * V 137 2) 8 = b ∧ V1 (1000 + 10 * V 137 2) 9 = 0 := by
        subst hV1
        simp (disch := omega) only [up2_ne, up2_eq, upo_ne, b_s32, b_eq0, b_01, l0, l1, true_and, and_true, and_self, true_implies, false_implies, implies_true, forall_const, not_true_eq_false, not_false_eq_true, reduceIte, ite_true, ite_false, reduceCtorEq, forall_eq, Classical.not_not, true_or, or_true, false_or, or_false, and_false, false_and, Int.reduceEq, Int.reduceLT, Int.reduceLE, Int.reduceAdd, Int.reduceSub, Int.reduceMul, Int.reduceNeg]
        omega
      have N1 : V1 (1000 + 10 * V 137 2) 10 = -1 ∧ V1 (1000 + 10 * V 137 2) 11 = 0 ∧ V1 (1000 + 10 * V 137 2) 12 = 0 := by
        subst hV1
        simp (disch := omega) only [up2_ne, upo_ne, upo_eq]
        decide
      have N2 : V1 (1001 + 10 * V 137 2) 0 = 0 ∧ V1 (1001 + 10 * V 137 2) 1 = 0 ∧ V1 (1001 + 10 * V 137 2) 2 = 0 ∧ V1 (1001 + 10 * V 137 2) 3 = 0 := by
        subst hV1
        simp (disch := omega) only [up2_ne, upo_ne, upo_eq, d6_0, b_s32, b_eq0, b_01, l0, l1, true_and, and_true, and_self, true_implies, false_implies, implies_true, forall_const, not_true_eq_false, not_false_eq_true, reduceIte, ite_true, ite_false, reduceCtorEq, forall_eq, Classical.not_not, true_or, or_true, false_or, or_false, and_false, false_and, Int.reduceEq, Int.reduceLT, Int.reduceLE, Int.reduceAdd, Int.reduceSub, Int.reduceMul, Int.reduceNeg]
      have N3 : V1 (1003 + 10 * V 137 2) 0 = 0 ∧ V1 (1003 + 10 * V 137 2) 1 = 0 ∧ V1 (1003 + 10 * V 137 2) 2 = 0 ∧ V1 (1003 + 10 * V 137 2) 3 = 1004 + 10 * V 137 2 ∧ V1 (1003 + 10 * V 137 2) 4 = 0 := by
        subst hV1
        simp (disch := omega) only [up2_ne, up2_eq, upo_ne, upo_eq, d3_0, b_s32, b_eq0, b_01, l0, l1, true_and, and_true, and_self, true_implies, false_implies, implies_true, forall_const, not_true_eq_false, not_false_eq_true, reduceIte, ite_true, ite_false, reduceCtorEq, forall_eq, Classical.not_not, true_or, or_true, false_or, or_false, and_false, false_and, Int.reduceEq, Int.reduceLT, Int.reduceLE, Int.reduceAdd, Int.reduceSub, Int.reduceMul, Int.reduceNeg]
        omega
      have N4 : ∀ k, V1 (1004 + 10 * V 137 2) k = 0 := by
        intro k
        subst hV1
        simp (disch := omega) only [up2_ne, upo_ne, upo_eq]
      have N5 : V1 102 (V 137 2) = 1000 + 10 * V 137 2 ∧ V1 100 11 = V 137 2 + 1 := by
        subst hV1
        simp (disch := omega) only [up2_ne, up2_eq, b_s32, b_eq0, b_01, l0, l1, true_and, and_true, and_self, true_implies, false_implies, implies_true, forall_const, not_true_eq_false, not_false_eq_true, reduceIte, ite_true, ite_false, reduceCtorEq, forall_eq, Classical.not_not, true_or, or_true, false_or, or_false, and_false, false_and, Int.reduceEq, Int.reduceLT, Int.reduceLE, Int.reduceAdd, Int.reduceSub, Int.reduceMul, Int.reduceNeg]
      clear hV1
      have e1 : V1 137 2 = V 137 2 := F _ _ (by omega)
      have e0 : V1 137 0 = V 137 0 := F _ _ (by omega)
      generalize hS1 : (LSh (upk S.1 (1000 + 10 * V 137 2) 5, S.2.1, 1000 + 10 * V 137 2 + 1) (1000 + 10 * V 137 2)) = S1
      unfold LSh at hS1
      have K3 : ∀ p, ¬ (1000 + 10 * V 137 2 ≤ p ∧ p ≤ 1005 + 10 * V 137 2) → S1.1 p = S.1 p ∧ S1.2.1 p = S.2.1 p := by
        intro p hp
        subst hS1
        simp (disch := omega) only [upk_ne, b_s32, b_eq0, b_01, l0, l1, true_and, and_true, and_self, true_implies, false_implies, implies_true, forall_const, not_true_eq_false, not_false_eq_true, reduceIte, ite_true, ite_false, reduceCtorEq, forall_eq, Classical.not_not, true_or, or_true, false_or, or_false, and_false, false_and, Int.reduceEq, Int.reduceLT, Int.reduceLE, Int.reduceAdd, Int.reduceSub, Int.reduceMul, Int.reduceNeg]
      have K0 : S1.1 (1000 + 10 * V 137 2) = 5 ∧ S1.1 (1001 + 10 * V 137 2) = 6 ∧ S1.1 (1002 + 10 * V 137 2) = 6 ∧ S1.1 (1003 + 10 * V 137 2) = 3 ∧ S1.1 (1004 + 10 * V 137 2) = 101 ∧ S1.2.1 (1004 + 10 * V 137 2) = 64 ∧ S1.1 (1005 + 10 * V 137 2) = 101 ∧ S1.2.1 (1005 + 10 * V 137 2) = 600 := by
        subst hS1
        simp (disch := omega) only [upk_ne, upk_eq, b_s32, b_eq0, b_01, l0, l1, true_and, and_true, and_self, true_implies, false_implies, implies_true, forall_const, not_true_eq_false, not_false_eq_true, reduceIte, ite_true, ite_false, reduceCtorEq, forall_eq, Classical.not_not, true_or, or_true, false_or, or_false, and_false, false_and, Int.reduceEq, Int.reduceLT, Int.reduceLE, Int.reduceAdd, Int.reduceSub, Int.reduceMul, Int.reduceNeg]
      clear hS1
      have eS : EXT S S1 := by
        intro p hp
        exact K3 p (fun q => hp (h.2.1.1 p q.1 (by omega)))
      have hV1 : FV V1 := hV.fr (fun p q hd => F p q (by unfold VD at hd; omega))
      rw [M_lamp (hS.ext eS) hV1 ha hb hc (by omega) (by omega), e1, e0, if_neg (fun q => q h1), if_neg h3]
      generalize hV2 : (up2 (up2 (up2 (up2 (up2 (up2 (up2 V1 141 (V 137 2) a) 142 (V 137 2) b) 143 (V 137 2) c) 144 (V 137 2) 0) 145 (V 137 2) (-1)) 151 (V 137 2) (V 137 0)) 137 2 (V 137 2 + 1)) = V2
      have G1 : ∀ p q, ¬ (((141 ≤ p ∧ p ≤ 145 ∨ p = 151) ∧ q = V 137 2) ∨ (p = 137 ∧ q = 2)) → V2 p q = V1 p q := by
        intro p q hw
        subst hV2
        simp (disch := omega) only [up2_ne]
      have M0 : V2 141 (V 137 2) = a ∧ V2 142 (V 137 2) = b ∧ V2 143 (V 137 2) = c ∧ V2 144 (V 137 2) = 0 ∧ V2 145 (V 137 2) = -1 ∧ V2 151 (V 137 2) = V 137 0 ∧ V2 137 2 = V 137 2 + 1 := by
        subst hV2
        simp (disch := omega) only [up2_ne, up2_eq, b_s32, b_eq0, b_01, l0, l1, true_and, and_true, and_self, true_implies, false_implies, implies_true, forall_const, not_true_eq_false, not_false_eq_true, reduceIte, ite_true, ite_false, reduceCtorEq, forall_eq, Classical.not_not, true_or, or_true, false_or, or_false, and_false, false_and, Int.reduceEq, Int.reduceLT, Int.reduceLE, Int.reduceAdd, Int.reduceSub, Int.reduceMul, Int.reduceNeg]
      clear hV2
      have G : ∀ p q, ¬ ((1000 + 10 * V 137 2 ≤ p ∧ p ≤ 1005 + 10 * V 137 2) ∨ (p = 102 ∧ q = V 137 2) ∨ (p = 100 ∧ q = 11) ∨ ((141 ≤ p ∧ p ≤ 145 ∨ p = 151) ∧ q = V 137 2) ∨ (p = 137 ∧ q = 2)) → V2 p q = V p q := fun p q hw => (G1 p q (by omega)).trans (F p q (by omega))
      have hke := hk.ext eS
      have n20 := hk.n20
      have n12 := hk.n12
      have n12' : 0 ≤ V 137 1 := hk.2.2.1.1.2.1
      have E : ∀ i, i ≠ V 137 2 → 0 ≤ i → i < 20 → ∀ p q, ((p = 1000 + 10 * i ∨ p = 1001 + 10 * i ∨ p = 1002 + 10 * i ∨ p = 1003 + 10 * i ∨ p = 1004 + 10 * i ∨ p = 1005 + 10 * i) ∨ (p ≠ 102 ∧ p ≠ 100 ∧ p ≠ 137 ∧ 138 ≤ p ∧ p < 200 ∧ (q = i ∨ p = 158 ∨ p = 157))) → V2 p q = V p q := fun i hi i0 i1 p q hw => G p q (by omega)
      obtain ⟨A1, A2, A3, A4, A5, A6, A7⟩ := h.2.2.2.1
      obtain ⟨z0, z1, z2, z3, z4, z5, z6, z7, z8, z9, z10⟩ := A7 (V 137 2) (by omega) (by omega)
      have e145 : V2 137 1 = V 137 1 := G _ _ (by omega)
      have et : V2 137 0 = V 137 0 := G _ _ (by omega)
      refine ⟨rfl, h.frS (W := fun p q => (1000 + 10 * V 137 2 ≤ p ∧ p ≤ 1005 + 10 * V 137 2) ∨ (p = 102 ∧ q = V 137 2) ∨ (p = 100 ∧ q = 11) ∨ ((141 ≤ p ∧ p ≤ 145 ∨ p = 151) ∧ q = V 137 2) ∨ (p = 137 ∧ q = 2)) G hn ?_ ?_ (cLA := Or.inr ?_) (cLB := Or.inr ?_) (cLM := Or.inr ?_) (cLO := Or.inr ?_) (cLC := Or.inr ?_) (cLK := Or.inr ?_) (cLZ := Or.inr ?_)⟩
      · obtain ⟨g1, g2, ⟨⟨b1, b2, b3⟩, -, ⟨f1, f2, f3⟩, ⟨i1, i2, i3⟩⟩, g4, g5, g6, g7, g8⟩ := hke
        refine ⟨g1, g2.fr (fun p q hd => G p q (by unfold VD at hd; omega)), ⟨?_, ⟨?_, by omega, by omega⟩, ?_, ?_⟩, ?_, ?_, ?_, ?_, ?_⟩
        · simp (disch := omega) only [G]; exact ⟨b1, b2, b3⟩
        · rw [G1 _ _ (by omega)]; omega
        · simp (disch := omega) only [G]; exact ⟨f1, f2, f3⟩
        · simp (disch := omega) only [G]; exact ⟨i1, i2, i3⟩
        · intro j j0 j1
          rw [G _ _ (by omega)] at j1
          obtain ⟨r1, r2⟩ := g4 j j0 (by omega)
          refine ⟨r1, ?_⟩
          simp (disch := omega) only [G]
          exact r2
        · intro i i0 i1
          by_cases e : i = V 137 2
          · subst e
            refine ⟨K0, ?_⟩
            simp (disch := omega) only [G1]
            omega
          · obtain ⟨r1, r2⟩ := g5 i i0 (by omega)
            refine ⟨r1, ?_⟩
            simp (disch := omega) only [G]
            exact r2
        · intro t t0 t1
          rw [G _ _ (by omega)] at t1 ⊢
          exact g6 t t0 t1
        · rw [G _ _ (by omega), G _ _ (by omega)]
          exact g7
        · intro t t0 t1
          rw [G _ _ (by omega)] at t1
          obtain ⟨r1, r2⟩ := g8 t t0 t1
          refine ⟨r1, ?_⟩
          unfold TA at r2 ⊢
          simp (disch := omega) only [G]
          exact r2
      · obtain ⟨u1, u2, u3⟩ := h.2.1
        refine ⟨fun p p0 p1 => ?_, fun p p0 p1 => ?_, fun t p t0 t1 p0 p1 => ?_⟩
        · rw [(K3 p (by omega)).1]
          exact u1 p (by omega) p1
        · rw [G _ _ (by omega)] at p0
          rw [(K3 p (by omega)).1]
          exact u2 p (by omega) p1
        · rw [G _ _ (by omega)] at t0
          unfold TA at p0 p1
          rw [(K3 p (by omega)).1]
          exact u3 t p t0 t1 p0 p1
      · intro i i0 i1
        by_cases e : i = V 137 2
        · subst e
          unfold LA1
          simp (disch := omega) only [G1 (1000 + 10 * V 137 2)]
          omega
        · have q := A1 i i0 (by omega)
          have E' := E i e i0 (by omega)
          unfold LA1 at q ⊢
          simp (disch := omega) only [E', et]
          exact q
      · intro i i0 i1
        by_cases e : i = V 137 2
        · subst e
          unfold LB1
          simp (disch := omega) only [G1 (1000 + 10 * V 137 2), G 156, G 152]
          omega
        · have q := A2 i i0 (by omega)
          have E' := E i e i0 (by omega)
          unfold LB1 at q ⊢
          simp (disch := omega) only [E', et, e145]
          exact q
      · intro i i0 i1
        by_cases e : i = V 137 2
        · subst e
          unfold LM1
          simp (disch := omega) only [G1 (1001 + 10 * V 137 2), G 146, G 147, G 148]
          omega
        · have q := LM1.up A3 hn i i0 (by omega)
          have E' := E i e i0 (by omega)
          unfold LM1 at q ⊢
          simp (disch := omega) only [E']
          exact q
      · intro i i0 i1
        by_cases e : i = V 137 2
        · subst e
          unfold LO1
          omega
        · have q := A4 i i0 (by omega)
          have E' := E i e i0 (by omega)
          unfold LO1 at q ⊢
          simp (disch := omega) only [E']
          exact q
      · intro i i0 i1
        by_cases e : i = V 137 2
        · subst e
          unfold LC1
          simp (disch := omega) only [G1 (1003 + 10 * V 137 2), G1 (1004 + 10 * V 137 2), G 155, G 153, G 154, G 150, G 149, G 157, z4, z3, z8, z7, z6, N3, N4, bt00]
          refine ⟨trivial, trivial, trivial, by decide, ⟨by decide, by decide, fun c q0 q1 => by omega, fun _ => trivial⟩, fun c q0 q1 => ?_⟩
          rw [z10 c q0 q1]
          omega
        · have q := A5 i i0 (by omega)
          have E' := E i e i0 (by omega)
          unfold LC1 at q ⊢
          simp (disch := omega) only [E']
          exact q
      · intro i i0 i1
        by_cases e : i = V 137 2
        · subst e
          unfold LK1 DK
          simp (disch := omega) only [G1 (1001 + 10 * V 137 2), M0, N2, et]
          refine ⟨fun t t0 t1 => by omega, by omega, by omega, fun n n0 n1 => by omega, fun q => by omega⟩
        · have q := A6 i i0 (by omega)
          have E' := E i e i0 (by omega)
          unfold LK1 DK at q ⊢
          simp (disch := omega) only [E', et]
          exact q
      · intro i i0 i1
        have q := A7 i (by omega) i1
        have E' := E i (by omega) (by omega) i1
        unfold LZ1 at q ⊢
        simp (disch := omega) only [E']
        exact q
  · rw [if_pos h1, M_lamp hS hV ha hb hc c2 c3, if_pos h1]
    exact ⟨rfl, hup⟩
end CA
