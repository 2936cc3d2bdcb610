/-! commands: act -/
theorem wW_p {A F i : Int} (hAF : A ≠ F) : ∀ (l : List Int) (V : Mem), (wW A F i V l) F i = V F i + (l.length : Int) ∧ (∀ (k : Nat) (hk : k < l.length), (wW A F i V l) A (V F i + (k : Int)) = l[k]) ∧ (∀ p q, ¬ (p = A ∧ V F i ≤ q) → ¬ (p = F ∧ q = i) → (wW A F i V l) p q = V p q)
  | [], V => ⟨by show V F i = V F i + ((0 : Nat) : Int); omega, fun k hk => absurd hk (Nat.not_lt_zero k), fun _ _ _ _ => rfl⟩
  | b :: l, V => by
    obtain ⟨h1, h2, h3⟩ := wW_p hAF l (wB A F i V b)
    have e : wB A F i V b F i = V F i + 1 := up2_eq rfl rfl
    rw [e] at h1 h2 h3
    refine ⟨?_, fun k hk => ?_, fun p q n1 n2 => ?_⟩
    · show (wW A F i (wB A F i V b) l) F i = _
      rw [h1]
      show _ = V F i + ((l.length + 1 : Nat) : Int)
      omega
    · show (wW A F i (wB A F i V b) l) A _ = _
      cases k with
      | zero =>
        rw [h3 _ _ (by omega) (by omega)]
        show up2 (up2 V A (V F i) b) F i (V F i + 1) A (V F i + ((0 : Nat) : Int)) = b
        rw [up2_ne (Or.inl hAF), up2_eq rfl (by omega)]
      | succ k =>
        have := h2 k (Nat.lt_of_succ_lt_succ hk)
        rw [show V F i + ((k + 1 : Nat) : Int) = V F i + 1 + (k : Int) from by omega, this]
        rfl
    · show (wW A F i (wB A F i V b) l) p q = _
      rw [h3 p q (by omega) n2]
      show up2 (up2 V A (V F i) b) F i (V F i + 1) p q = _
      rw [up2_ne (by omega), up2_ne (by omega)]
def gA (L D K c x : Int) : AR := if c = 0 then fC L D K x else if c = 1 then gO L D K K x else gR L D K K x
theorem gA_l {L D K c x : Int} : (gA L D K c x).2.length ≤ 15 := by
  have h1 := @fC_l L D K x
  have h2 := @gO_l L D K K x
  have h3 := @gR_l L D K K x
  unfold gA
  split
  · omega
  · split <;> omega
section AC
variable {d : Nat} {n m a b c e f i j k t L : Int} {V Vm : Mem} {S : Shp} {Q : Int → Mem → Shp → Prop} {U : Mem → Shp → Prop}
theorem kd_eq {V1 : Mem} (h1 : V1 137 2 = V 137 2) (h2 : V1 137 0 = V 137 0) (h3 : V1 151 a = V 151 a) (h4 : ∀ k, V1 158 k = V 158 k) : kd V1 a b = kd V a b := by
  unfold kd
  rw [h1, h2, h3, h4]
theorem X_act (h : INV n V S) (ha : s32 a = a) (hb : s32 b = b) (hc : s32 c = c) : C_x_act (d + 20) 100 a b c e V S Q ↔ if kd V a b < 0 ∨ ¬ (0 ≤ c ∧ c ≤ 2) then Q 0 (up2 V 119 0 0) S else Q (gA a b (kd V a b) c e).1 (wW 120 119 0 (up2 (up2 (up2 (up2 V 119 0 0) 119 2 a) 119 3 b) 119 4 (kd V a b)) (gA a b (kd V a b) c e).2) S := by
  have hk := h.1
  have hS := hk.1
  have hV := hk.2.1
  have n20 := hk.n20
  have hr := h.kdr (a := a) (b := b)
  have hx : s32 (kd V a b) = kd V a b := s32_id (by omega) (by omega)
  have hk1 : SK (up2 V 119 0 0) S := hk.fr (FRM.rf.up (by unfold SKD VD; omega))
  have hA1 : ALL (up2 V 119 0 0) LA1 := LA1.fr h.2.2.2.1.1 n20 (FRM.rf.up (by unfold LAD; omega))
  have hK1 : ALL (up2 V 119 0 0) LK1 := LK1.fr h.2.2.2.1.2.2.2.2.2.1 n20 (FRM.rf.up (by unfold LKD; omega))
  have ek : kd (up2 V 119 0 0) a b = kd V a b := kd_eq (up2_ne (by omega)) (up2_ne (by omega)) (up2_ne (by omega)) (fun k => up2_ne (by omega))
  have e2 : up2 V 119 0 0 137 2 = V 137 2 := up2_ne (by omega)
  have pk := fun (Q : Int → Mem → Shp → Prop) => p_kindOf (d := d + 13) (a := a) (b := b) (Q := Q) hk1 hA1 hK1 hb
  rw [ek, e2] at pk
  by_cases h1 : kd V a b < 0
  · simp (disch := omega) only [I_x_act, I_Acts_forget, hS.k100, hS.k119, hV.r100_8, p_lampAt hk1, e2, ha, pk, p_isKind, hx, h1, show ¬ (0 ≤ kd V a b ∧ kd V a b ≤ 6) from by omega, b_s32, b_eq0, b_01, l0, l1, true_and, and_true, and_self, true_implies, false_implies, implies_true, forall_const, not_true_eq_false, not_false_eq_true, reduceIte, ite_true, ite_false, reduceCtorEq, forall_eq, Classical.not_not, true_or, or_true, false_or, or_false, and_false, false_and, Int.reduceEq, Int.reduceLT, Int.reduceLE, Int.reduceAdd, Int.reduceSub, Int.reduceMul, Int.reduceNeg]
  · by_cases h2 : 0 ≤ c ∧ c ≤ 2
    · have hK : 0 ≤ kd V a b ∧ kd V a b ≤ 6 := by omega
      have hC : CHH a b (kd V a b) 15 (up2 (up2 (up2 (up2 V 119 0 0) 119 2 a) 119 3 b) 119 4 (kd V a b)) := by
        refine ⟨hV.fr ((((FRM.rf.up (by unfold VD; omega)).up (by unfold VD; omega)).up (by unfold VD; omega)).up (by unfold VD; omega)), ?_, ?_, ?_, ?_, ?_⟩
        · simp (disch := omega) only [up2_ne, up2_eq]
        · simp (disch := omega) only [up2_ne, up2_eq]
        · simp (disch := omega) only [up2_ne, up2_eq]
        · simp (disch := omega) only [up2_ne, up2_eq]; omega
        · simp (disch := omega) only [up2_ne, up2_eq]; omega
      have e8 : up2 V 119 0 0 100 8 = 119 := by rw [up2_ne (by omega)]; exact hV.r100_8
      rcases (by omega : c = 0 ∨ c = 1 ∨ c = 2) with rfl | rfl | rfl
      · simp (disch := omega) only [I_x_act, I_Acts_forget, hS.k100, hS.k119, hV.r100_8, e8, p_lampAt hk1, e2, ha, pk, p_isKind, p_isWithin, hx, hc, h1, hK, I_Acts_perform, x_C hS hC (show 2 ≤ 15 by omega) hK, gA, s32_id, b_s32, b_eq0, b_01, l0, l1, true_and, and_true, and_self, true_implies, false_implies, implies_true, forall_const, not_true_eq_false, not_false_eq_true, reduceIte, ite_true, ite_false, reduceCtorEq, forall_eq, Classical.not_not, true_or, or_true, false_or, or_false, and_false, false_and, Int.reduceEq, Int.reduceLT, Int.reduceLE, Int.reduceAdd, Int.reduceSub, Int.reduceMul, Int.reduceNeg]
      · simp (disch := omega) only [I_x_act, I_Acts_forget, hS.k100, hS.k119, hV.r100_8, e8, p_lampAt hk1, e2, ha, pk, p_isKind, p_isWithin, hx, hc, h1, hK, I_Acts_perform, x_O hS hC (show 6 ≤ 15 by omega) hK hK, gA, s32_id, b_s32, b_eq0, b_01, l0, l1, true_and, and_true, and_self, true_implies, false_implies, implies_true, forall_const, not_true_eq_false, not_false_eq_true, reduceIte, ite_true, ite_false, reduceCtorEq, forall_eq, Classical.not_not, true_or, or_true, false_or, or_false, and_false, false_and, Int.reduceEq, Int.reduceLT, Int.reduceLE, Int.reduceAdd, Int.reduceSub, Int.reduceMul, Int.reduceNeg]
      · simp (disch := omega) only [I_x_act, I_Acts_forget, hS.k100, hS.k119, hV.r100_8, e8, p_lampAt hk1, e2, ha, pk, p_isKind, p_isWithin, hx, hc, h1, hK, I_Acts_perform, x_R hS hC (show 15 ≤ 15 by omega) hK hK, gA, s32_id, b_s32, b_eq0, b_01, l0, l1, true_and, and_true, and_self, true_implies, false_implies, implies_true, forall_const, not_true_eq_false, not_false_eq_true, reduceIte, ite_true, ite_false, reduceCtorEq, forall_eq, Classical.not_not, true_or, or_true, false_or, or_false, and_false, false_and, Int.reduceEq, Int.reduceLT, Int.reduceLE, Int.reduceAdd, Int.reduceSub, Int.reduceMul, Int.reduceNeg]
    · by_cases hK : 0 ≤ kd V a b ∧ kd V a b ≤ 6
      · simp (disch := omega) only [I_x_act, I_Acts_forget, hS.k100, hS.k119, hV.r100_8, p_lampAt hk1, e2, ha, pk, p_isKind, p_isWithin, hx, hc, h1, h2, hK, s32_id, b_s32, b_eq0, b_01, l0, l1, true_and, and_true, and_self, true_implies, false_implies, implies_true, forall_const, not_true_eq_false, not_false_eq_true, reduceIte, ite_true, ite_false, reduceCtorEq, forall_eq, Classical.not_not, true_or, or_true, false_or, or_false, and_false, false_and, Int.reduceEq, Int.reduceLT, Int.reduceLE, Int.reduceAdd, Int.reduceSub, Int.reduceMul, Int.reduceNeg]
      · omega
theorem M_act (hk : SK V S) (hA : ∀ i, 0 ≤ i → i < V 137 2 → 0 ≤ V 151 i ∧ V 151 i ≤ 599) (hr : kd V a b = -1 ∨ kd V a b = -5 ∨ (0 ≤ kd V a b ∧ kd V a b ≤ 6)) (ha : s32 a = a) (hb : s32 b = b) (hc : s32 c = c) : C_m_act (d + 20) 137 a b c e V S Q ↔ if kd V a b < 0 ∨ ¬ (0 ≤ c ∧ c ≤ 2) then Q 0 (up2 V 137 64 0) S else Q (gA a b (kd V a b) c e).1 (wW 178 137 64 (up2 (up2 (up2 (up2 V 137 64 0) 137 65 a) 137 66 b) 137 67 (kd V a b)) (gA a b (kd V a b) c e).2) S := by
  have hS := hk.1
  have hV := hk.2.1
  have hx : s32 (kd V a b) = kd V a b := s32_id (by omega) (by omega)
  have hk1 : SK (up2 V 137 64 0) S := hk.fr (FRM.rf.up (by unfold SKD VD; omega))
  have ek : kd (up2 V 137 64 0) a b = kd V a b := kd_eq (up2_ne (by omega)) (up2_ne (by omega)) (up2_ne (by omega)) (fun k => up2_ne (by omega))
  have pk := fun (Q : Int → Mem → Shp → Prop) => q_kindOf (d := d + 13) (a := a) (b := b) (Q := Q) hk1 (by simp (disch := omega) only [up2_ne]; exact hA) ha hb
  rw [ek] at pk
  have hk2 : SK (up2 (up2 (up2 V 137 64 0) 137 65 a) 137 66 b) S := hk1.fr ((FRM.rf.up (by unfold SKD VD; omega)).up (by unfold SKD VD; omega))
  have ek2 : kd (up2 (up2 (up2 V 137 64 0) 137 65 a) 137 66 b) a b = kd V a b := kd_eq (by simp (disch := omega) only [up2_ne]) (by simp (disch := omega) only [up2_ne]) (by simp (disch := omega) only [up2_ne]) (fun k => by simp (disch := omega) only [up2_ne])
  have pk2 := fun (Q : Int → Mem → Shp → Prop) => q_kindOf (d := d + 13) (a := a) (b := b) (Q := Q) hk2 (by simp (disch := omega) only [up2_ne]; exact hA) ha hb
  rw [ek2] at pk2
  by_cases h1 : kd V a b < 0
  · simp (disch := omega) only [I_m_act, hS.k137, pk, hx, h1, b_s32, b_eq0, b_01, l0, l1, true_and, and_true, and_self, true_implies, false_implies, implies_true, forall_const, not_true_eq_false, not_false_eq_true, reduceIte, ite_true, ite_false, reduceCtorEq, forall_eq, Classical.not_not, true_or, or_true, false_or, or_false, and_false, false_and, Int.reduceEq, Int.reduceLT, Int.reduceLE, Int.reduceAdd, Int.reduceSub, Int.reduceMul, Int.reduceNeg]
  · by_cases h2 : 0 ≤ c ∧ c ≤ 2
    · have hM : MHH a b (kd V a b) 15 (up2 (up2 (up2 (up2 V 137 64 0) 137 65 a) 137 66 b) 137 67 (kd V a b)) := by
        refine ⟨hV.fr ((((FRM.rf.up (by unfold VD; omega)).up (by unfold VD; omega)).up (by unfold VD; omega)).up (by unfold VD; omega)), ?_, ?_, ?_, ?_, ?_⟩
        · simp (disch := omega) only [up2_ne, up2_eq]
        · simp (disch := omega) only [up2_ne, up2_eq]
        · simp (disch := omega) only [up2_ne, up2_eq]
        · simp (disch := omega) only [up2_ne, up2_eq]; omega
        · simp (disch := omega) only [up2_ne, up2_eq]; omega
      rcases (by omega : c = 0 ∨ c = 1 ∨ c = 2) with rfl | rfl | rfl
      · simp (disch := omega) only [I_m_act, hS.k137, pk, pk2, hx, hc, h1, r_in hS, m_fC hS hM (show 2 ≤ 15 by omega) hx, gA, s32_id, b_s32, b_eq0, b_01, l0, l1, true_and, and_true, and_self, true_implies, false_implies, implies_true, forall_const, not_true_eq_false, not_false_eq_true, reduceIte, ite_true, ite_false, reduceCtorEq, forall_eq, Classical.not_not, true_or, or_true, false_or, or_false, and_false, false_and, Int.reduceEq, Int.reduceLT, Int.reduceLE, Int.reduceAdd, Int.reduceSub, Int.reduceMul, Int.reduceNeg]
      · simp (disch := omega) only [I_m_act, hS.k137, pk, pk2, hx, hc, h1, r_in hS, m_fO hS hM (show 6 ≤ 15 by omega) hx, gA, s32_id, b_s32, b_eq0, b_01, l0, l1, true_and, and_true, and_self, true_implies, false_implies, implies_true, forall_const, not_true_eq_false, not_false_eq_true, reduceIte, ite_true, ite_false, reduceCtorEq, forall_eq, Classical.not_not, true_or, or_true, false_or, or_false, and_false, false_and, Int.reduceEq, Int.reduceLT, Int.reduceLE, Int.reduceAdd, Int.reduceSub, Int.reduceMul, Int.reduceNeg]
      · simp (disch := omega) only [I_m_act, hS.k137, pk, pk2, hx, hc, h1, r_in hS, m_fR hS hM (show 15 ≤ 15 by omega) hx, gA, s32_id, b_s32, b_eq0, b_01, l0, l1, true_and, and_true, and_self, true_implies, false_implies, implies_true, forall_const, not_true_eq_false, not_false_eq_true, reduceIte, ite_true, ite_false, reduceCtorEq, forall_eq, Classical.not_not, true_or, or_true, false_or, or_false, and_false, false_and, Int.reduceEq, Int.reduceLT, Int.reduceLE, Int.reduceAdd, Int.reduceSub, Int.reduceMul, Int.reduceNeg]
    · simp (disch := omega) only [I_m_act, hS.k137, pk, hx, hc, h1, h2, r_in hS, s32_id, b_s32, b_eq0, b_01, l0, l1, true_and, and_true, and_self, true_implies, false_implies, implies_true, forall_const, not_true_eq_false, not_false_eq_true, reduceIte, ite_true, ite_false, reduceCtorEq, forall_eq, Classical.not_not, true_or, or_true, false_or, or_false, and_false, false_and, Int.reduceEq, Int.reduceLT, Int.reduceLE, Int.reduceAdd, Int.reduceSub, Int.reduceMul, Int.reduceNeg]
theorem cmd_act (h : INV n V S) (hn : n ≤ m) (ha : s32 a = a) (hb : s32 b = b) (hc : s32 c = c) : C_x_act (d + 20) 100 a b c e V S (fun r V1 S1 => C_m_act (d + 20) 137 a b c e V1 S1 (fun r' V2 S2 => r = r' ∧ INV m V2 S2)) := by
  have hk := h.1
  have hr := h.kdr (a := a) (b := b)
  rw [X_act h ha hb hc]
  by_cases h1 : kd V a b < 0 ∨ ¬ (0 ≤ c ∧ c ≤ 2)
  · rw [if_pos h1]
    have hk1 : SK (up2 V 119 0 0) S := hk.fr (FRM.rf.up (by unfold SKD VD; omega))
    have ek : kd (up2 V 119 0 0) a b = kd V a b := kd_eq (up2_ne (by omega)) (up2_ne (by omega)) (up2_ne (by omega)) (fun k => up2_ne (by omega))
    rw [M_act hk1 (by simp (disch := omega) only [up2_ne]; exact h.came) (by rw [ek]; exact hr) ha hb hc, ek, if_pos h1]
    refine ⟨rfl, h.fr (W := fun p q => (p = 119 ∧ q = 0) ∨ (p = 137 ∧ q = 64)) (fun p q hw => ?_) hn (cAC := Or.inr ?_)⟩
    · simp (disch := omega) only [up2_ne]
    · unfold ACT
      simp (disch := omega) only [up2_ne, up2_eq]
      exact ⟨trivial, by omega, by omega, fun k k0 k1 k2 => by omega⟩
  · rw [if_neg h1]
    obtain ⟨p1, p2, p3⟩ := wW_p (A := 120) (F := 119) (i := 0) (by omega) (gA a b (kd V a b) c e).2 (up2 (up2 (up2 (up2 V 119 0 0) 119 2 a) 119 3 b) 119 4 (kd V a b))
    have ev : up2 (up2 (up2 (up2 V 119 0 0) 119 2 a) 119 3 b) 119 4 (kd V a b) 119 0 = 0 := by simp (disch := omega) only [up2_ne, up2_eq]
    rw [ev] at p1 p2 p3
    generalize hV1 : wW 120 119 0 (up2 (up2 (up2 (up2 V 119 0 0) 119 2 a) 119 3 b) 119 4 (kd V a b)) (gA a b (kd V a b) c e).2 = V1 at p1 p2 p3
    clear hV1
    have F : ∀ p q, ¬ (p = 119 ∧ (q = 0 ∨ q = 2 ∨ q = 3 ∨ q = 4)) → ¬ (p = 120 ∧ 0 ≤ q) → V1 p q = V p q := by
      intro p q n1 n2
      rw [p3 p q n2 (by omega)]
      simp (disch := omega) only [up2_ne]
    have hk1 : SK V1 S := hk.fr (fun p q hd => F p q (by unfold SKD VD at hd; omega) (by unfold SKD VD at hd; omega))
    have ek : kd V1 a b = kd V a b := kd_eq (F _ _ (by omega) (by omega)) (F _ _ (by omega) (by omega)) (F _ _ (by omega) (by omega)) (fun k => F _ _ (by omega) (by omega))
    rw [M_act hk1 (by simp (disch := omega) only [F]; exact h.came) (by rw [ek]; exact hr) ha hb hc, ek, if_neg h1]
    obtain ⟨m1, m2, m3⟩ := wW_p (A := 178) (F := 137) (i := 64) (by omega) (gA a b (kd V a b) c e).2 (up2 (up2 (up2 (up2 V1 137 64 0) 137 65 a) 137 66 b) 137 67 (kd V a b))
    have em : up2 (up2 (up2 (up2 V1 137 64 0) 137 65 a) 137 66 b) 137 67 (kd V a b) 137 64 = 0 := by simp (disch := omega) only [up2_ne, up2_eq]
    rw [em] at m1 m2 m3
    generalize hV2 : wW 178 137 64 (up2 (up2 (up2 (up2 V1 137 64 0) 137 65 a) 137 66 b) 137 67 (kd V a b)) (gA a b (kd V a b) c e).2 = V2 at m1 m2 m3
    clear hV2
    have hl := @gA_l a b (kd V a b) c e
    have G : ∀ p q, ¬ (p = 137 ∧ 64 ≤ q ∧ q ≤ 67) → ¬ (p = 178 ∧ 0 ≤ q) → V2 p q = V1 p q := by
      intro p q n1 n2
      rw [m3 p q n2 (by omega)]
      simp (disch := omega) only [up2_ne]
    refine ⟨rfl, h.fr (W := fun p q => (p = 119 ∧ (q = 0 ∨ q = 2 ∨ q = 3 ∨ q = 4)) ∨ (p = 120 ∧ 0 ≤ q) ∨ (p = 137 ∧ 64 ≤ q ∧ q ≤ 67) ∨ (p = 178 ∧ 0 ≤ q)) (fun p q hw => ?_) hn (cAC := Or.inr ?_)⟩
    · rw [G p q (by omega) (by omega), F p q (by omega) (by omega)]
    · refine ⟨by rw [G 119 0 (by omega) (by omega), p1, m1], by omega, by omega, fun k k0 k1 k2 => ?_⟩
      rw [m1] at k2
      rw [G 120 k (by omega) (by omega)]
      have e1 := p2 k.toNat (by omega)
      have e2 := m2 k.toNat (by omega)
      rw [show (0 : Int) + ((k.toNat : Nat) : Int) = k from by omega] at e1 e2
      rw [e1, e2]
end AC
