/-! commands: homes -/
section C1
variable {d : Nat} {n m a b c : Int} {V : Mem} {S : Shp} {Q : Int → Mem → Shp → Prop}
theorem p_coinsIn (h : SK V S) (j0 : 0 ≤ a) (j1 : a < V 137 1) : C_Home_coinsIn (d + 2) (2000 + 10 * a) b V S Q ↔ Q (if 0 ≤ s32 b ∧ s32 b < 20 then V (2001 + 10 * a) (s32 b) else 0) V S := by
  obtain ⟨⟨k1, k2, k3⟩, -, -, r⟩ := h.home j0 j1
  rw [I_Home_coinsIn, r, p_valueAt _ _ _ _ _ _ (Or.inl k2) (by rw [k3]; omega), k3, k1]
  simp
theorem X_month (hk : SK V S) (ha : s32 a = a) (hb : s32 b = b) (hc : s32 c = c) : C_x_month (d + 5) 100 a b c V S Q ↔ if ¬ ((0 ≤ a ∧ a < V 137 1) ∧ (0 ≤ b ∧ b ≤ 19)) then Q (-1) V S else if ¬ (0 ≤ c ∧ c ≤ 999) then Q (-2) V S else Q (V (2001 + 10 * a) b) (up2 V (2001 + 10 * a) b c) S := by
  have hS := hk.1
  have hV := hk.2.1
  rw [I_x_month]
  by_cases h1 : 0 ≤ a ∧ a < V 137 1
  · obtain ⟨⟨k1, k2, k3⟩, -, -, r⟩ := hk.home h1.1 h1.2
    have h0 : ¬ 2000 + 10 * a = -1 := by omega
    by_cases h2 : 0 ≤ b ∧ b ≤ 19
    · have h4 : b < 20 := by omega
      have h5 : ¬ b < 0 := by omega
      by_cases h3 : 0 ≤ c ∧ c ≤ 999
      · simp (disch := omega) only [p_homeAt hk, ha, hb, hc, h0, h1, h2, h3, h4, h5, p_isWithin, hS.k100, s32_id, b_s32, b_eq0, b_01, l0, l1, true_and, and_true, and_self, true_implies, false_implies, implies_true, forall_const, not_true_eq_false, not_false_eq_true, reduceIte, ite_true, ite_false, reduceCtorEq, forall_eq, Classical.not_not, true_or, or_true, false_or, or_false, and_false, false_and, Int.reduceEq, Int.reduceLT, Int.reduceLE, Int.reduceAdd, Int.reduceSub, Int.reduceMul, Int.reduceNeg, p_coinsIn hk h1.1 h1.2, I_Home_putCoins, r, k1, k2, k3]
      · simp (disch := omega) only [p_homeAt hk, ha, hb, hc, h0, h1, h2, h3, h4, h5, p_isWithin, hS.k100, s32_id, b_s32, b_eq0, b_01, l0, l1, true_and, and_true, and_self, true_implies, false_implies, implies_true, forall_const, not_true_eq_false, not_false_eq_true, reduceIte, ite_true, ite_false, reduceCtorEq, forall_eq, Classical.not_not, true_or, or_true, false_or, or_false, and_false, false_and, Int.reduceEq, Int.reduceLT, Int.reduceLE, Int.reduceAdd, Int.reduceSub, Int.reduceMul, Int.reduceNeg]
    · simp (disch := omega) only [p_homeAt hk, ha, hb, hc, h0, h1, h2, p_isWithin, hS.k100, s32_id, b_s32, b_eq0, b_01, l0, l1, true_and, and_true, and_self, true_implies, false_implies, implies_true, forall_const, not_true_eq_false, not_false_eq_true, reduceIte, ite_true, ite_false, reduceCtorEq, forall_eq, Classical.not_not, true_or, or_true, false_or, or_false, and_false, false_and, Int.reduceEq, Int.reduceLT, Int.reduceLE, Int.reduceAdd, Int.reduceSub, Int.reduceMul, Int.reduceNeg]
  · simp (disch := omega) only [p_homeAt hk, ha, hb, hc, h1, p_isWithin, hS.k100, s32_id, b_s32, b_eq0, b_01, l0, l1, true_and, and_true, and_self, true_implies, false_implies, implies_true, forall_const, not_true_eq_false, not_false_eq_true, reduceIte, ite_true, ite_false, reduceCtorEq, forall_eq, Classical.not_not, true_or, or_true, false_or, or_false, and_false, false_and, Int.reduceEq, Int.reduceLT, Int.reduceLE, Int.reduceAdd, Int.reduceSub, Int.reduceMul, Int.reduceNeg]
theorem M_month (hk : SK V S) (ha : s32 a = a) (hb : s32 b = b) (hc : s32 c = c) : C_m_month (d + 5) 137 a b c V S Q ↔ if ¬ ((0 ≤ a ∧ a < V 137 1) ∧ (0 ≤ b ∧ b ≤ 19)) then Q (-1) V S else if ¬ (0 ≤ c ∧ c ≤ 999) then Q (-2) V S else Q (V 140 (20 * a + b)) (up2 V 140 (20 * a + b) c) S := by
  have hS := hk.1
  have hV := hk.2.1
  have hn := hk.n12
  rw [I_m_month]
  by_cases h1 : 0 ≤ a ∧ a < V 137 1
  · by_cases h2 : 0 ≤ b ∧ b ≤ 19
    · have h4 : 20 * a + b < 240 := by omega
      have h5 : 0 ≤ 20 * a + b := by omega
      by_cases h3 : 0 ≤ c ∧ c ≤ 999
      · simp (disch := omega) only [p_isHome hk, q_in hk, ha, hb, hc, h1, h2, h3, h4, h5, hS.k137, s32_id, b_s32, b_eq0, b_01, l0, l1, true_and, and_true, and_self, true_implies, false_implies, implies_true, forall_const, not_true_eq_false, not_false_eq_true, reduceIte, ite_true, ite_false, reduceCtorEq, forall_eq, Classical.not_not, true_or, or_true, false_or, or_false, and_false, false_and, Int.reduceEq, Int.reduceLT, Int.reduceLE, Int.reduceAdd, Int.reduceSub, Int.reduceMul, Int.reduceNeg, hS.k140, hS.n140, hV.r137_5]
      · simp (disch := omega) only [p_isHome hk, q_in hk, ha, hb, hc, h1, h2, h3, h4, h5, hS.k137, s32_id, b_s32, b_eq0, b_01, l0, l1, true_and, and_true, and_self, true_implies, false_implies, implies_true, forall_const, not_true_eq_false, not_false_eq_true, reduceIte, ite_true, ite_false, reduceCtorEq, forall_eq, Classical.not_not, true_or, or_true, false_or, or_false, and_false, false_and, Int.reduceEq, Int.reduceLT, Int.reduceLE, Int.reduceAdd, Int.reduceSub, Int.reduceMul, Int.reduceNeg, hS.k140, hS.n140, hV.r137_5]
    · simp (disch := omega) only [p_isHome hk, q_in hk, ha, hb, hc, h1, h2, hS.k137, s32_id, b_s32, b_eq0, b_01, l0, l1, true_and, and_true, and_self, true_implies, false_implies, implies_true, forall_const, not_true_eq_false, not_false_eq_true, reduceIte, ite_true, ite_false, reduceCtorEq, forall_eq, Classical.not_not, true_or, or_true, false_or, or_false, and_false, false_and, Int.reduceEq, Int.reduceLT, Int.reduceLE, Int.reduceAdd, Int.reduceSub, Int.reduceMul, Int.reduceNeg, hS.k140, hS.n140, hV.r137_5]
  · simp (disch := omega) only [p_isHome hk, q_in hk, ha, hb, hc, h1, hS.k137, s32_id, b_s32, b_eq0, b_01, l0, l1, true_and, and_true, and_self, true_implies, false_implies, implies_true, forall_const, not_true_eq_false, not_false_eq_true, reduceIte, ite_true, ite_false, reduceCtorEq, forall_eq, Classical.not_not, true_or, or_true, false_or, or_false, and_false, false_and, Int.reduceEq, Int.reduceLT, Int.reduceLE, Int.reduceAdd, Int.reduceSub, Int.reduceMul, Int.reduceNeg, hS.k140, hS.n140, hV.r137_5]
theorem cmd_month (h : INV n V S) (hn : n ≤ m) (ha : s32 a = a) (hb : s32 b = b) (hc : s32 c = c) : C_x_month (d + 5) 100 a b c V S (fun r V1 S1 => C_m_month (d + 5) 137 a b c V1 S1 (fun r' V2 S2 => r = r' ∧ INV m V2 S2)) := by
  have hk := h.1
  have hS := hk.1
  have hV := hk.2.1
  have n12 := hk.n12
  rw [X_month hk ha hb hc]
  by_cases h1 : (0 ≤ a ∧ a < V 137 1) ∧ (0 ≤ b ∧ b ≤ 19)
  · by_cases h2 : 0 ≤ c ∧ c ≤ 999
    · rw [if_neg (fun q => q h1), if_neg (fun q => q h2)]
      have hk1 : SK (up2 V (2001 + 10 * a) b c) S := hk.fr (FRM.rf.up (by unfold SKD VD; omega))
      have e1 : up2 V (2001 + 10 * a) b c 137 1 = V 137 1 := up2_ne (by omega)
      rw [M_month hk1 ha hb hc, e1, if_neg (fun q => q h1), if_neg (fun q => q h2), up2_ne (by omega)]
      obtain ⟨hh, hz⟩ := h.2.2.1
      refine ⟨((hh a h1.1.1 h1.1.2).2 b (by omega) (by omega)).1, ?_⟩
      refine h.fr (W := fun p q => (p = 2001 + 10 * a ∧ q = b) ∨ (p = 140 ∧ q = 20 * a + b)) (fun p q hw => ?_) hn (cHD := Or.inr ?_)
      · rw [up2_ne (by omega), up2_ne (by omega)]
      · unfold HDT
        rw [up2_ne (by omega), e1]
        refine ⟨fun j j0 j1 => ⟨?_, fun k k0 k1 => ?_⟩, fun j k j0 j1 k0 k1 => ?_⟩
        · simp (disch := omega) only [up2_ne]
          exact (hh j j0 j1).1
        · by_cases e : j = a ∧ k = b
          · obtain ⟨e1, e2⟩ := e
            subst e1; subst e2
            simp (disch := omega) only [up2_eq, up2_ne, true_and]
            omega
          · simp (disch := omega) only [up2_ne]
            exact (hh j j0 j1).2 k k0 k1
        · rw [up2_ne (by omega), up2_ne (by omega)]
          exact hz j k j0 j1 k0 k1
    · rw [if_neg (fun q => q h1), if_pos h2, M_month hk ha hb hc, if_neg (fun q => q h1), if_pos h2]
      exact ⟨rfl, h.up hn⟩
  · rw [if_pos h1, M_month hk ha hb hc, if_pos h1]
    exact ⟨rfl, h.up hn⟩
end C1
