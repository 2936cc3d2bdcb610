/-! commands: list -/
theorem s64_id {x : Int} (h0 : -9223372036854775808 ≤ x) (h1 : x < 9223372036854775808) : s64 x = x := by
  show (Int64.ofInt x).toInt = x
  rw [Int64.toInt_ofInt]
  have h64 : Int64.size = 18446744073709551616 := rfl
  exact Int.bmod_eq_of_le (by omega) (by omega)
theorem s64_rng (x : Int) : -9223372036854775808 ≤ s64 x ∧ s64 x < 9223372036854775808 := by
  have h1 := Int64.le_toInt (Int64.ofInt x)
  have h2 := Int64.toInt_lt (Int64.ofInt x)
  constructor
  · show -9223372036854775808 ≤ (Int64.ofInt x).toInt
    have : (-2 ^ 63 : Int) = -9223372036854775808 := by decide
    omega
  · show (Int64.ofInt x).toInt < 9223372036854775808
    have : (2 ^ 63 : Int) = 9223372036854775808 := by decide
    omega
theorem lcm_lt {x y : Int} : s32 (lcmpI x y) < 0 ↔ s64 x < s64 y := by
  unfold lcmpI
  by_cases h : s64 x < s64 y
  · rw [if_pos h, s32_id (by omega) (by omega)]; exact ⟨fun _ => h, fun _ => by omega⟩
  · rw [if_neg h]
    by_cases h2 : s64 x = s64 y
    · rw [if_pos h2, l0]; exact ⟨fun q => by omega, fun q => (h q).elim⟩
    · rw [if_neg h2, l1]; exact ⟨fun q => by omega, fun q => (h q).elim⟩
theorem lcm_eq {x y : Int} : s32 (lcmpI x y) = 0 ↔ s64 x = s64 y := by
  unfold lcmpI
  by_cases h : s64 x < s64 y
  · rw [if_pos h, s32_id (by omega) (by omega)]; exact ⟨fun q => by omega, fun q => by omega⟩
  · rw [if_neg h]
    by_cases h2 : s64 x = s64 y
    · rw [if_pos h2, l0]; exact ⟨fun _ => h2, fun _ => rfl⟩
    · rw [if_neg h2, l1]; exact ⟨fun q => by omega, fun q => (h2 q).elim⟩
theorem lxor_sg (a b : Int) (hb : 0 ≤ s64 b) : s64 (lxorI a b) < 0 ↔ s64 a < 0 := by
  have e : s64 (lxorI a b) = ((i64 a).toBitVec ^^^ (i64 b).toBitVec).toInt := by
    show (i64 (i64 a ^^^ i64 b).toInt).toInt = _
    rw [i64_toInt]
    show ((i64 a ^^^ i64 b).toBitVec).toInt = _
    rw [Int64.toBitVec_xor]
  have m1 := BitVec.msb_eq_toInt (x := (i64 a).toBitVec ^^^ (i64 b).toBitVec)
  have m2 := BitVec.msb_eq_toInt (x := (i64 a).toBitVec)
  have m3 := BitVec.msb_eq_toInt (x := (i64 b).toBitVec)
  have ea : s64 a = ((i64 a).toBitVec).toInt := rfl
  have eb : s64 b = ((i64 b).toBitVec).toInt := rfl
  rw [← eb, decide_eq_false (by omega)] at m3
  rw [← e, BitVec.msb_xor, m3, Bool.xor_false, m2, ← ea] at m1
  exact (decide_eq_decide.mp m1).symm
theorem tq {a : Int} : a.tdiv 100000 = (if a % 100000 = 0 ∨ 0 ≤ a then a / 100000 else a / 100000 + 1) ∧ a.tmod 100000 = (if a % 100000 = 0 ∨ 0 ≤ a then a % 100000 else a % 100000 - 100000) := by
  have h := Int.tmod_add_mul_tdiv a 100000
  have e : a.tmod 100000 = if a % 100000 = 0 ∨ 0 ≤ a then a % 100000 else a % 100000 - 100000 := by
    rw [Int.tmod_eq_emod]
    by_cases hd : a % 100000 = 0 ∨ 0 ≤ a
    · rw [if_pos hd, if_pos (by omega)]; omega
    · rw [if_neg hd, if_neg (by omega)]; rfl
  refine ⟨?_, e⟩
  rw [e] at h
  by_cases hd : a % 100000 = 0 ∨ 0 ≤ a
  · rw [if_pos hd] at h ⊢; omega
  · rw [if_neg hd] at h ⊢; omega
section LI
variable {d : Nat} {n m a b c e f i j k t L : Int} {V Vm : Mem} {S : Shp} {Q : Int → Mem → Shp → Prop} {U : Mem → Shp → Prop}
theorem p_floorDivJ : C_Math_floorDiv_JJ (d + 1) a 100000 V S Q ↔ Q (s64 a / 100000) V S := by
  have e1 : s64 100000 = 100000 := s64_id (by omega) (by omega)
  have e0 : s64 0 = 0 := s64_id (by omega) (by omega)
  have r := s64_rng a
  rw [I_Math_floorDiv_JJ, e1, lcm_lt, e0, lxor_sg a 100000 (by omega), lcm_eq]
  obtain ⟨t1, t2⟩ := tq (a := s64 a)
  by_cases h : s64 a < 0
  · by_cases hd : s64 a % 100000 = 0
    · rw [if_pos (Or.inl hd)] at t1
      have : s64 (s64 a / 100000 * 100000) = s64 a := by rw [s64_id (by omega) (by omega)]; omega
      simp only [t1, h, this, b_s32, b_eq0, b_01, l0, l1, true_and, and_true, and_self, true_implies, false_implies, implies_true, forall_const, not_true_eq_false, not_false_eq_true, reduceIte, ite_true, ite_false, reduceCtorEq, forall_eq, Classical.not_not, true_or, or_true, false_or, or_false, and_false, false_and, Int.reduceEq, Int.reduceLT, Int.reduceLE, Int.reduceAdd, Int.reduceSub, Int.reduceMul, Int.reduceNeg, ne_eq]
    · rw [if_neg (by omega)] at t1
      have : ¬ s64 ((s64 a / 100000 + 1) * 100000) = s64 a := by rw [s64_id (by omega) (by omega)]; omega
      simp only [t1, h, this, b_s32, b_eq0, b_01, l0, l1, true_and, and_true, and_self, true_implies, false_implies, implies_true, forall_const, not_true_eq_false, not_false_eq_true, reduceIte, ite_true, ite_false, reduceCtorEq, forall_eq, Classical.not_not, true_or, or_true, false_or, or_false, and_false, false_and, Int.reduceEq, Int.reduceLT, Int.reduceLE, Int.reduceAdd, Int.reduceSub, Int.reduceMul, Int.reduceNeg, ne_eq, Int.add_sub_cancel]
  · rw [if_pos (by omega)] at t1
    simp only [t1, h, b_s32, b_eq0, b_01, l0, l1, true_and, and_true, and_self, true_implies, false_implies, implies_true, forall_const, not_true_eq_false, not_false_eq_true, reduceIte, ite_true, ite_false, reduceCtorEq, forall_eq, Classical.not_not, true_or, or_true, false_or, or_false, and_false, false_and, Int.reduceEq, Int.reduceLT, Int.reduceLE, Int.reduceAdd, Int.reduceSub, Int.reduceMul, Int.reduceNeg, ne_eq]
theorem p_floorModJ : C_Math_floorMod_JJ (d + 1) a 100000 V S Q ↔ Q (s64 a % 100000) V S := by
  have e1 : s64 100000 = 100000 := s64_id (by omega) (by omega)
  have e0 : s64 0 = 0 := s64_id (by omega) (by omega)
  have r := s64_rng a
  rw [I_Math_floorMod_JJ, e1, lcm_lt, e0, lxor_sg a 100000 (by omega), lcm_eq, e0]
  obtain ⟨t1, t2⟩ := tq (a := s64 a)
  by_cases h : s64 a < 0
  · by_cases hd : s64 a % 100000 = 0
    · rw [if_pos (Or.inl hd)] at t2
      have : s64 (s64 a % 100000) = 0 := by rw [s64_id (by omega) (by omega)]; omega
      simp only [t2, h, this, b_s32, b_eq0, b_01, l0, l1, true_and, and_true, and_self, true_implies, false_implies, implies_true, forall_const, not_true_eq_false, not_false_eq_true, reduceIte, ite_true, ite_false, reduceCtorEq, forall_eq, Classical.not_not, true_or, or_true, false_or, or_false, and_false, false_and, Int.reduceEq, Int.reduceLT, Int.reduceLE, Int.reduceAdd, Int.reduceSub, Int.reduceMul, Int.reduceNeg, ne_eq]
    · rw [if_neg (by omega)] at t2
      have : ¬ s64 (s64 a % 100000 - 100000) = 0 := by rw [s64_id (by omega) (by omega)]; omega
      simp only [t2, h, this, b_s32, b_eq0, b_01, l0, l1, true_and, and_true, and_self, true_implies, false_implies, implies_true, forall_const, not_true_eq_false, not_false_eq_true, reduceIte, ite_true, ite_false, reduceCtorEq, forall_eq, Classical.not_not, true_or, or_true, false_or, or_false, and_false, false_and, Int.reduceEq, Int.reduceLT, Int.reduceLE, Int.reduceAdd, Int.reduceSub, Int.reduceMul, Int.reduceNeg, ne_eq, show s64 a % 100000 - 100000 + 100000 = s64 a % 100000 from by omega]
  · rw [if_pos (by omega)] at t2
    simp only [t2, h, b_s32, b_eq0, b_01, l0, l1, true_and, and_true, and_self, true_implies, false_implies, implies_true, forall_const, not_true_eq_false, not_false_eq_true, reduceIte, ite_true, ite_false, reduceCtorEq, forall_eq, Classical.not_not, true_or, or_true, false_or, or_false, and_false, false_and, Int.reduceEq, Int.reduceLT, Int.reduceLE, Int.reduceAdd, Int.reduceSub, Int.reduceMul, Int.reduceNeg, ne_eq]
theorem km_107 {g : Cnt} {y0 y1 y2 y3 y4 y6 y7 : Int} {u5 u8 u9 u10 u11 u12 : XV} (h : ∀ u8 u10 u12, K_m_list d Q (144, [(2, y0), (0, y1), (0, y2), (0, y3), (1, y4), u5, (0, y6), (1, y7), u8, (1, s64 y7 / 100000), u10, (1, s64 y7 % 100000), u12], [], V, S, g)) : K_m_list d Q (107, [(2, y0), (0, y1), (0, y2), (0, y3), (1, y4), u5, (0, y6), (1, y7), u8, u9, u10, u11, u12], [], V, S, g) := by
  have e1 : s64 100000 = 100000 := s64_id (by omega) (by omega)
  have e0 : s64 0 = 0 := s64_id (by omega) (by omega)
  have r := s64_rng y7
  rw [L_m_list_107, e1, lcm_lt, e0]
  obtain ⟨t1, t2⟩ := tq (a := s64 y7)
  by_cases hn : s64 y7 % 100000 = 0 ∨ 0 ≤ s64 y7
  · rw [if_pos hn] at t1 t2
    have : ¬ s64 (s64 y7 % 100000) < 0 := by rw [s64_id (by omega) (by omega)]; omega
    simp only [t1, t2, this, b_s32, b_eq0, b_01, l0, l1, true_and, and_true, and_self, true_implies, false_implies, implies_true, forall_const, not_true_eq_false, not_false_eq_true, reduceIte, ite_true, ite_false, reduceCtorEq, forall_eq, Classical.not_not, true_or, or_true, false_or, or_false, and_false, false_and, Int.reduceEq, Int.reduceLT, Int.reduceLE, Int.reduceAdd, Int.reduceSub, Int.reduceMul, Int.reduceNeg, ne_eq]
    exact h _ _ _
  · rw [if_neg hn] at t1 t2
    have : s64 (s64 y7 % 100000 - 100000) < 0 := by rw [s64_id (by omega) (by omega)]; omega
    simp only [t1, t2, this, b_s32, b_eq0, b_01, l0, l1, true_and, and_true, and_self, true_implies, false_implies, implies_true, forall_const, not_true_eq_false, not_false_eq_true, reduceIte, ite_true, ite_false, reduceCtorEq, forall_eq, Classical.not_not, true_or, or_true, false_or, or_false, and_false, false_and, Int.reduceEq, Int.reduceLT, Int.reduceLE, Int.reduceAdd, Int.reduceSub, Int.reduceMul, Int.reduceNeg, ne_eq, show s64 y7 % 100000 - 100000 + 100000 = s64 y7 % 100000 from by omega, Int.add_sub_cancel]
    exact h _ _ _
theorem list_loop (d : Nat) (t0 : 0 ≤ t) (t1 : t < 6) (hi : s32 i = i) (c20 : c ≤ 20) : ∀ (N : Nat) (V Vm : Mem) (n k s : Int) (u1 u2 u8 u9 u10 u11 u12 : XV) (g : Cnt) (Q : Int → Mem → Shp → Prop), INV n (mix V Vm) S → SK V S → n + (N : Int) ≤ 40000 → (∀ k, Vm 137 k = V 137 k) → (N : Int) + k = c → 0 ≤ k → (k = 0 ∨ (0 ≤ i ∧ i + k ≤ 60)) → 0 ≤ s → s ≤ 60 * k → (∀ (r : Int) (V1 Vm1 : Mem), INV (n + (N : Int)) (mix V1 Vm1) S → (∀ a k, ¬ (1000 ≤ a ∧ a < 1200) → V1 a k = V a k) → (∀ (W : Mem) (u5 u7 u8 u9 u10 u11 u12 : XV) (g : Cnt) (Qm : Int → Mem → Shp → Prop), FV W → Qm r (mix W Vm1) S → K_m_list (d + 6) Qm (52, [(2, 137), (0, t), (0, i), (0, c), (1, s), u5, (0, k), u7, u8, u9, u10, u11, u12], [], mix W Vm, S, g)) → Q r V1 S) → K_x_list (d + 6) Q (57, [(2, 100), u1, u2, (0, c), (2, 125 + 2 * t), (0, s), (0, i + k), (0, k), u8, u9, u10, u11, u12], [], V, S, g) := by
  have ri := s32_rng i
  rw [hi] at ri
  intro N
  induction N with
  | zero =>
    intro V Vm n k s u1 u2 u8 u9 u10 u11 u12 g Q h hk hn hm hN k0 hik s0 s1 hQ
    rw [L_x_list_57]
    simp (disch := omega) only [s32_id, show ¬ k < c from by omega, b_s32, b_eq0, b_01, l0, l1, true_and, and_true, and_self, true_implies, false_implies, implies_true, forall_const, not_true_eq_false, not_false_eq_true, reduceIte, ite_true, ite_false, reduceCtorEq, forall_eq, Classical.not_not, true_or, or_true, false_or, or_false, and_false, false_and, Int.reduceEq, Int.reduceLT, Int.reduceLE, Int.reduceAdd, Int.reduceSub, Int.reduceMul, Int.reduceNeg]
    refine hQ s V Vm (h.up (by omega)) (fun _ _ _ => rfl) (fun W u5 u7 u8 u9 u10 u11 u12 g Qm hW hQm => ?_)
    rw [L_m_list_52]
    simp (disch := omega) only [s32_id, show ¬ k < c from by omega, b_s32, b_eq0, b_01, l0, l1, true_and, and_true, and_self, true_implies, false_implies, implies_true, forall_const, not_true_eq_false, not_false_eq_true, reduceIte, ite_true, ite_false, reduceCtorEq, forall_eq, Classical.not_not, true_or, or_true, false_or, or_false, and_false, false_and, Int.reduceEq, Int.reduceLT, Int.reduceLE, Int.reduceAdd, Int.reduceSub, Int.reduceMul, Int.reduceNeg]
    exact hQm
  | succ N ih =>
    intro V Vm n k s u1 u2 u8 u9 u10 u11 u12 g Q h hk hn hm hN k0 hik s0 s1 hQ
    have hS := hk.1
    have hV := hk.2.1
    obtain ⟨k1, k2, k3⟩ := hS.tape t t0 t1
    have k4 := (hV.tape t t0 t1).2
    have hT := h.2.2.2.2.2.2.2.2 t t0 t1
    simp (disch := omega) only [mix_m, mix_c] at hT
    obtain ⟨⟨q1, q2, q3⟩, ⟨q4, q5, q6, q7⟩, q8⟩ := hT
    obtain ⟨c1, c2, c3⟩ := hk.2.2.1.2.1
    have r0 : 0 ≤ V (125 + 2 * t) 1 := by omega
    have r1 : V (125 + 2 * t) 1 ≤ 60 := by omega
    have sik : s32 (i + k) = i + k := by
      rcases hik with q | q
      · subst q; rw [Int.add_zero]; exact hi
      · exact s32_id (by omega) (by omega)
    have ht : s32 t = t := s32_id (by omega) (by omega)
    rw [L_x_list_57]
    have hend : (∀ (W : Mem) (u5 u7 u8 u9 u10 u11 u12 : XV) (g : Cnt) (Qm : Int → Mem → Shp → Prop), FV W → Qm (s + 1000000) (mix W Vm) S → K_m_list (d + 6) Qm (52, [(2, 137), (0, t), (0, i), (0, c), (1, s), u5, (0, k), u7, u8, u9, u10, u11, u12], [], mix W Vm, S, g)) → Q (s + 1000000) V S := fun hh => hQ _ V Vm (h.up (by omega)) (fun _ _ _ => rfl) hh
    by_cases hp : 0 ≤ i + k ∧ i + k < V (125 + 2 * t) 1
    · have hi0 : 0 ≤ i := by omega
      have hns : ¬ Vm 179 t < 0 := fun q => by have := q7 (by omega); omega
      have item : V (126 + 2 * t) (i + k) = Vm 181 (60 * t + (i + k)) := q8 _ hp.1 (by omega)
      have e181 : 60 * t + i + k = 60 * t + (i + k) := by omega
      have rv := s64_rng (Vm 181 (60 * t + (i + k)))
      have m52 : ∀ (W : Mem) (u5 u7 u8 u9 u10 u11 u12 : XV) (g : Cnt) (Qm : Int → Mem → Shp → Prop), FV W → (∀ u5 u8 u10 u12, K_m_list (d + 6) Qm (144, [(2, 137), (0, t), (0, i), (0, c), (1, s), u5, (0, k), (1, Vm 181 (60 * t + (i + k))), u8, (1, s64 (Vm 181 (60 * t + (i + k))) / 100000), u10, (1, s64 (Vm 181 (60 * t + (i + k))) % 100000), u12], [], mix W Vm, S, g)) → K_m_list (d + 6) Qm (52, [(2, 137), (0, t), (0, i), (0, c), (1, s), u5, (0, k), u7, u8, u9, u10, u11, u12], [], mix W Vm, S, g) := by
        intro W u5 u7 u8 u9 u10 u11 u12 g Qm hW hh
        have hV := h.1.2.1.mm hW
        have m1 : mix W Vm 179 t = Vm 179 t := mix_m (by omega)
        have m2 : mix W Vm 180 t = Vm 180 t := mix_m (by omega)
        have m3 : mix W Vm 181 (60 * t + (i + k)) = Vm 181 (60 * t + (i + k)) := mix_m (by omega)
        rw [L_m_list_52]
        simp (disch := omega) only [hS.k137, hS.k179, hS.n179, hV.r137_69, hS.k180, hS.n180, hV.r137_70, hS.k181, hS.n181, hV.r137_71, ht, hi, t0, t1, s32_id, m1, m2, m3, hns, show k < c from by omega, show ¬ i < 0 from by omega, show i < Vm 180 t - k from by omega, e181, show 0 ≤ 60 * t + (i + k) from by omega, show 60 * t + (i + k) < 360 from by omega, b_s32, b_eq0, b_01, l0, l1, true_and, and_true, and_self, true_implies, false_implies, implies_true, forall_const, not_true_eq_false, not_false_eq_true, reduceIte, ite_true, ite_false, reduceCtorEq, forall_eq, Classical.not_not, true_or, or_true, false_or, or_false, and_false, false_and, Int.reduceEq, Int.reduceLT, Int.reduceLE, Int.reduceAdd, Int.reduceSub, Int.reduceMul, Int.reduceNeg]
        exact km_107 (fun u8 u10 u12 => hh _ u8 u10 u12)
      simp (disch := omega) only [s32_id (x := k), s32_id (x := c), show k < c from by omega, q_hasPlace hS hV t0 t1 r0 r1, sik, hp, I_Tape_itemAt, k1, k2, k3, k4, s32_id (x := 60), show ¬ i + k < 0 from by omega, show i + k < 60 from by omega, p_floorDivJ, item, lcm_lt, hS.k100, b_s32, b_eq0, b_01, l0, l1, true_and, and_true, and_self, true_implies, false_implies, implies_true, forall_const, not_true_eq_false, not_false_eq_true, reduceIte, ite_true, ite_false, reduceCtorEq, forall_eq, Classical.not_not, true_or, or_true, false_or, or_false, and_false, false_and, Int.reduceEq, Int.reduceLT, Int.reduceLE, Int.reduceAdd, Int.reduceSub, Int.reduceMul, Int.reduceNeg]
      rw [s64_id (x := s64 (Vm 181 (60 * t + (i + k))) / 100000) (by omega) (by omega), s64_id (x := 0) (by omega) (by omega), s64_id (x := s32 (V 100 11)) (by rw [c1, s32_id (by omega) (by omega)]; omega) (by rw [c1, s32_id (by omega) (by omega)]; omega), c1, s32_id (x := V 137 2) (by omega) (by omega), s32_id (x := s + 1000000) (by omega) (by omega)]
      by_cases hl : s64 (Vm 181 (60 * t + (i + k))) / 100000 < 0
      · simp only [hl, b_s32, b_eq0, b_01, l0, l1, true_and, and_true, and_self, true_implies, false_implies, implies_true, forall_const, not_true_eq_false, not_false_eq_true, reduceIte, ite_true, ite_false, reduceCtorEq, forall_eq, Classical.not_not, true_or, or_true, false_or, or_false, and_false, false_and, Int.reduceEq, Int.reduceLT, Int.reduceLE, Int.reduceAdd, Int.reduceSub, Int.reduceMul, Int.reduceNeg]
        refine hend (fun W u5 u7 u8 u9 u10 u11 u12 g Qm hW hQm => m52 W u5 u7 u8 u9 u10 u11 u12 g Qm hW (fun u5 u8 u10 u12 => ?_))
        rw [L_m_list_144, lcm_lt, s64_id (x := s64 (Vm 181 (60 * t + (i + k))) / 100000) (by omega) (by omega), s64_id (x := 0) (by omega) (by omega)]
        simp only [hl, b_s32, b_eq0, b_01, l0, l1, true_and, and_true, and_self, true_implies, false_implies, implies_true, forall_const, not_true_eq_false, not_false_eq_true, reduceIte, ite_true, ite_false, reduceCtorEq, forall_eq, Classical.not_not, true_or, or_true, false_or, or_false, and_false, false_and, Int.reduceEq, Int.reduceLT, Int.reduceLE, Int.reduceAdd, Int.reduceSub, Int.reduceMul, Int.reduceNeg]
        exact hQm
      · have m144 : ∀ (W : Mem) (u5 u7 u8 u10 u12 : XV) (g : Cnt) (Qm : Int → Mem → Shp → Prop), (if s64 (Vm 181 (60 * t + (i + k))) / 100000 < V 137 2 then C_m_takesCode (d + 6) 137 (s64 (Vm 181 (60 * t + (i + k))) / 100000) (s64 (Vm 181 (60 * t + (i + k))) % 100000) (mix W Vm) S (fun r1 V1 S1 => K_m_list (d + 6) Qm (52, [(2, 137), (0, t), (0, i), (0, c), (1, s + (s32 r1)), (9, 0), (0, k + 1), u7, u8, (1, s64 (Vm 181 (60 * t + (i + k))) / 100000), u10, (1, s64 (Vm 181 (60 * t + (i + k))) % 100000), u12], [], V1, S1, g)) else Qm (s + 1000000) (mix W Vm) S) → K_m_list (d + 6) Qm (144, [(2, 137), (0, t), (0, i), (0, c), (1, s), u5, (0, k), u7, u8, (1, s64 (Vm 181 (60 * t + (i + k))) / 100000), u10, (1, s64 (Vm 181 (60 * t + (i + k))) % 100000), u12], [], mix W Vm, S, g) := by
          intro W u5 u7 u8 u10 u12 g Qm hh
          have m1 : mix W Vm 137 2 = V 137 2 := (mix_m (by omega)).trans (hm 2)
          rw [L_m_list_144, lcm_lt, lcm_lt, m1, s32_id (x := V 137 2) (by omega) (by omega), s64_id (x := s64 (Vm 181 (60 * t + (i + k))) / 100000) (by omega) (by omega), s64_id (x := 0) (by omega) (by omega), s64_id (x := V 137 2) (by omega) (by omega)]
          by_cases h2 : s64 (Vm 181 (60 * t + (i + k))) / 100000 < V 137 2
          · rw [if_pos h2] at hh
            simp only [hl, h2, hS.k137, b_s32, b_eq0, b_01, l0, l1, true_and, and_true, and_self, true_implies, false_implies, implies_true, forall_const, not_true_eq_false, not_false_eq_true, reduceIte, ite_true, ite_false, reduceCtorEq, forall_eq, Classical.not_not, true_or, or_true, false_or, or_false, and_false, false_and, Int.reduceEq, Int.reduceLT, Int.reduceLE, Int.reduceAdd, Int.reduceSub, Int.reduceMul, Int.reduceNeg]
            exact hh
          · rw [if_neg h2] at hh
            simp only [hl, h2, hS.k137, b_s32, b_eq0, b_01, l0, l1, true_and, and_true, and_self, true_implies, false_implies, implies_true, forall_const, not_true_eq_false, not_false_eq_true, reduceIte, ite_true, ite_false, reduceCtorEq, forall_eq, Classical.not_not, true_or, or_true, false_or, or_false, and_false, false_and, Int.reduceEq, Int.reduceLT, Int.reduceLE, Int.reduceAdd, Int.reduceSub, Int.reduceMul, Int.reduceNeg]
            exact hh
        by_cases h2 : s64 (Vm 181 (60 * t + (i + k))) / 100000 < V 137 2
        · obtain ⟨r, V1, Vm1, r2, i1, i2, i3, i4, i5, i6⟩ := hear_pair d (x := s64 (Vm 181 (60 * t + (i + k))) % 100000) h (by omega) (show 0 ≤ s64 (Vm 181 (60 * t + (i + k))) / 100000 by omega) (by rw [hm 2]; exact h2) (s32_id (by omega) (by omega))
          have hk1 : SK V1 S := i1.1.fr (fun p q hd => by
            by_cases e : 137 ≤ p ∧ p ≤ 199
            · have e2 : p = 137 := by unfold SKD VD at hd; omega
              subst e2
              rw [mix_m e, i3, hm]
              exact i2 _ _ (by omega)
            · rw [mix_c e])
          simp (disch := omega) only [hl, h2, p_lampAt hk, s32_id (x := s64 (Vm 181 (60 * t + (i + k))) / 100000), show 0 ≤ s64 (Vm 181 (60 * t + (i + k))) / 100000 from by omega, show ¬ 1000 + 10 * (s64 (Vm 181 (60 * t + (i + k))) / 100000) = -1 from by omega, p_floorModJ, b_s32, b_eq0, b_01, l0, l1, true_and, and_true, and_self, true_implies, false_implies, implies_true, forall_const, not_true_eq_false, not_false_eq_true, reduceIte, ite_true, ite_false, reduceCtorEq, forall_eq, Classical.not_not, true_or, or_true, false_or, or_false, and_false, false_and, Int.reduceEq, Int.reduceLT, Int.reduceLE, Int.reduceAdd, Int.reduceSub, Int.reduceMul, Int.reduceNeg]
          apply i5
          rw [show i + k + 1 = i + (k + 1) from by omega]
          refine ih V1 Vm1 (n + 1) (k + 1) (s + r) _ _ _ _ _ _ _ _ _ i1 hk1 (by omega) (fun k => by rw [i3 k, hm k, i2 137 k (by omega)]) (by omega) (by omega) (by omega) (by omega) (by omega) ?_
          intro r' V2 Vm2 j1 j2 j3
          refine hQ r' V2 Vm2 (by rw [show n + ((N + 1 : Nat) : Int) = n + 1 + (N : Int) from by omega]; exact j1) (fun a k hak => (j2 a k hak).trans (i2 a k hak)) (fun W u5 u7 u8 u9 u10 u11 u12 g Qm hW hQm => m52 W u5 u7 u8 u9 u10 u11 u12 g Qm hW (fun u5 u8 u10 u12 => m144 W u5 _ u8 u10 u12 g Qm ?_))
          rw [if_pos h2]
          apply i6 W _ hW
          rw [s32_id (x := r) (by omega) (by omega)]
          exact j3 W _ _ _ _ _ _ _ g Qm hW hQm
        · simp only [hl, h2, b_s32, b_eq0, b_01, l0, l1, true_and, and_true, and_self, true_implies, false_implies, implies_true, forall_const, not_true_eq_false, not_false_eq_true, reduceIte, ite_true, ite_false, reduceCtorEq, forall_eq, Classical.not_not, true_or, or_true, false_or, or_false, and_false, false_and, Int.reduceEq, Int.reduceLT, Int.reduceLE, Int.reduceAdd, Int.reduceSub, Int.reduceMul, Int.reduceNeg]
          refine hend (fun W u5 u7 u8 u9 u10 u11 u12 g Qm hW hQm => m52 W u5 u7 u8 u9 u10 u11 u12 g Qm hW (fun u5 u8 u10 u12 => m144 W u5 _ u8 u10 u12 g Qm ?_))
          rw [if_neg h2]
          exact hQm
    · simp (disch := omega) only [s32_id (x := k), s32_id (x := c), show k < c from by omega, q_hasPlace hS hV t0 t1 r0 r1, sik, hp, s32_id (x := s + 1000000), b_s32, b_eq0, b_01, l0, l1, true_and, and_true, and_self, true_implies, false_implies, implies_true, forall_const, not_true_eq_false, not_false_eq_true, reduceIte, ite_true, ite_false, reduceCtorEq, forall_eq, Classical.not_not, true_or, or_true, false_or, or_false, and_false, false_and, Int.reduceEq, Int.reduceLT, Int.reduceLE, Int.reduceAdd, Int.reduceSub, Int.reduceMul, Int.reduceNeg]
      refine hend (fun W u5 u7 u8 u9 u10 u11 u12 g Qm hW hQm => ?_)
      have hV := h.1.2.1.mm hW
      have m1 : mix W Vm 179 t = Vm 179 t := mix_m (by omega)
      have m2 : mix W Vm 180 t = Vm 180 t := mix_m (by omega)
      rw [L_m_list_52]
      by_cases hs : Vm 179 t < 0
      · simp (disch := omega) only [hS.k137, hS.k179, hS.n179, hV.r137_69, hS.k180, hS.n180, hV.r137_70, ht, hi, t0, t1, s32_id, m1, m2, hs, show k < c from by omega, hQm, b_s32, b_eq0, b_01, l0, l1, true_and, and_true, and_self, true_implies, false_implies, implies_true, forall_const, not_true_eq_false, not_false_eq_true, reduceIte, ite_true, ite_false, reduceCtorEq, forall_eq, Classical.not_not, true_or, or_true, false_or, or_false, and_false, false_and, Int.reduceEq, Int.reduceLT, Int.reduceLE, Int.reduceAdd, Int.reduceSub, Int.reduceMul, Int.reduceNeg]
      · by_cases hi0 : i < 0
        · simp (disch := omega) only [hS.k137, hS.k179, hS.n179, hV.r137_69, hS.k180, hS.n180, hV.r137_70, ht, hi, t0, t1, s32_id, m1, m2, hs, hi0, show k < c from by omega, hQm, b_s32, b_eq0, b_01, l0, l1, true_and, and_true, and_self, true_implies, false_implies, implies_true, forall_const, not_true_eq_false, not_false_eq_true, reduceIte, ite_true, ite_false, reduceCtorEq, forall_eq, Classical.not_not, true_or, or_true, false_or, or_false, and_false, false_and, Int.reduceEq, Int.reduceLT, Int.reduceLE, Int.reduceAdd, Int.reduceSub, Int.reduceMul, Int.reduceNeg]
        · simp (disch := omega) only [hS.k137, hS.k179, hS.n179, hV.r137_69, hS.k180, hS.n180, hV.r137_70, ht, hi, t0, t1, s32_id, m1, m2, hs, hi0, show k < c from by omega, show ¬ i < Vm 180 t - k from by omega, hQm, b_s32, b_eq0, b_01, l0, l1, true_and, and_true, and_self, true_implies, false_implies, implies_true, forall_const, not_true_eq_false, not_false_eq_true, reduceIte, ite_true, ite_false, reduceCtorEq, forall_eq, Classical.not_not, true_or, or_true, false_or, or_false, and_false, false_and, Int.reduceEq, Int.reduceLT, Int.reduceLE, Int.reduceAdd, Int.reduceSub, Int.reduceMul, Int.reduceNeg]
theorem cmd_list (h : INV n V S) (hn : n + 20 ≤ m) (hm : m ≤ 40000) (ha : s32 a = a) (hb : s32 b = b) (hc : s32 c = c) : C_x_list (d + 8) 100 a b c V S (fun r V1 S1 => C_m_list (d + 8) 137 a b c V1 S1 (fun r' V2 S2 => r = r' ∧ INV m V2 S2)) := by
  have hup := h.up (show n ≤ m by omega)
  have hk := h.1
  have hS := hk.1
  have hT := h.2.2.2.2.2.2.2.2
  by_cases h1 : 0 ≤ a ∧ a < 6
  · have g0 : ¬ 125 + 2 * a = -1 := by omega
    obtain ⟨⟨t1, t2, t3⟩, -⟩ := hT a h1.1 h1.2
    have k1 := (hS.tape a h1.1 h1.2).1
    by_cases h2 : 1 ≤ c ∧ c ≤ 20
    · by_cases h3 : V 179 a = -1 ∨ V 179 a = 3
      · rw [← mix_self (V := V)] at h
        have K : ∀ u1 u2, K_x_list (d + 7) (fun r V1 S1 => C_m_list (d + 8) 137 a b c V1 S1 (fun r' V2 S2 => r = r' ∧ INV m V2 S2)) (57, [(2, 100), u1, u2, (0, c), (2, 125 + 2 * a), (0, 0), (0, b), (0, 0), (9, 0), (9, 0), (9, 0), (9, 0), (9, 0)], [], V, S, (0, 0)) := by
          intro u1 u2
          have L := list_loop (d + 1) h1.1 h1.2 hb h2.2 c.toNat V V n 0 0 u1 u2 (9, 0) (9, 0) (9, 0) (9, 0) (9, 0) (0, 0) (fun r V1 S1 => C_m_list (d + 8) 137 a b c V1 S1 (fun r' V2 S2 => r = r' ∧ INV m V2 S2)) h hk (by omega) (fun _ => rfl) (by omega) (by omega) (by omega) (by omega) (by omega)
          rw [Int.add_zero] at L
          apply L
          intro r V1 Vm1 j1 j2 j3
          have hV1 : FV V1 := hk.2.1.fr (fun p q hd => j2 p q (by unfold VD at hd; omega))
          have e1 : V1 179 a = V 179 a := j2 _ _ (by omega)
          have q1 : ∀ Q : Int → Mem → Shp → Prop, C_m_isTape (d + 7) 137 a V1 S Q ↔ Q (if 0 ≤ a ∧ a < 6 then 1 else 0) V1 S := by
            intro Q
            rw [I_m_isTape, r_in hS, b_s32, b_01, l0, ha, s32_id (x := 5) (by omega) (by omega), hS.k137]
            have e : (0 ≤ a ∧ a ≤ 5) ↔ (0 ≤ a ∧ a < 6) := by omega
            simp [e]
          have g := j3 V1 (9, 0) (9, 0) (9, 0) (9, 0) (9, 0) (9, 0) (9, 0) (0, 0) (fun r2 V2 S2 => r = r2 ∧ INV m V2 S2) hV1 ⟨rfl, j1.up (by omega)⟩
          rw [mix_eq (fun a k q => j2 a k (by omega))] at g
          rcases h3 with h3 | h3
          · simp (disch := omega) only [I_m_list, q1, r_in hS, ha, hc, h1, h2, h3, e1, hS.k137, hV1.r137_69, hS.k179, hS.n179, s32_id, b_s32, b_eq0, b_01, l0, l1, true_and, and_true, and_self, true_implies, false_implies, implies_true, forall_const, not_true_eq_false, not_false_eq_true, reduceIte, ite_true, ite_false, reduceCtorEq, forall_eq, Classical.not_not, true_or, or_true, false_or, or_false, and_false, false_and, Int.reduceEq, Int.reduceLT, Int.reduceLE, Int.reduceAdd, Int.reduceSub, Int.reduceMul, Int.reduceNeg]
            exact g
          · simp (disch := omega) only [I_m_list, q1, r_in hS, ha, hc, h1, h2, h3, e1, hS.k137, hV1.r137_69, hS.k179, hS.n179, s32_id, b_s32, b_eq0, b_01, l0, l1, true_and, and_true, and_self, true_implies, false_implies, implies_true, forall_const, not_true_eq_false, not_false_eq_true, reduceIte, ite_true, ite_false, reduceCtorEq, forall_eq, Classical.not_not, true_or, or_true, false_or, or_false, and_false, false_and, Int.reduceEq, Int.reduceLT, Int.reduceLE, Int.reduceAdd, Int.reduceSub, Int.reduceMul, Int.reduceNeg]
            exact g
        rcases h3 with h3 | h3
        · simp (disch := omega) only [I_x_list, p_tapeAt hk, p_isWithin, ha, hc, h1, h2, h3, g0, hS.k100, k1, t1, s32_id, K, b_s32, b_eq0, b_01, l0, l1, true_and, and_true, and_self, true_implies, false_implies, implies_true, forall_const, not_true_eq_false, not_false_eq_true, reduceIte, ite_true, ite_false, reduceCtorEq, forall_eq, Classical.not_not, true_or, or_true, false_or, or_false, and_false, false_and, Int.reduceEq, Int.reduceLT, Int.reduceLE, Int.reduceAdd, Int.reduceSub, Int.reduceMul, Int.reduceNeg]
        · simp (disch := omega) only [I_x_list, p_tapeAt hk, p_isWithin, ha, hc, h1, h2, h3, g0, hS.k100, k1, t1, s32_id, K, b_s32, b_eq0, b_01, l0, l1, true_and, and_true, and_self, true_implies, false_implies, implies_true, forall_const, not_true_eq_false, not_false_eq_true, reduceIte, ite_true, ite_false, reduceCtorEq, forall_eq, Classical.not_not, true_or, or_true, false_or, or_false, and_false, false_and, Int.reduceEq, Int.reduceLT, Int.reduceLE, Int.reduceAdd, Int.reduceSub, Int.reduceMul, Int.reduceNeg]
      · have h4 : ¬ V 179 a < 0 := by omega
        have h5 : ¬ V 179 a = -1 := by omega
        have h6 : ¬ V 179 a = 3 := by omega
        simp (disch := omega) only [I_x_list, I_m_list, p_tapeAt hk, p_isTape hk, p_isWithin, q_in hk, ha, hc, h1, h2, h4, h5, h6, g0, hS.k100, hS.k137, k1, t1, hS.k179, hS.n179, hk.2.1.r137_69, s32_id, hup, b_s32, b_eq0, b_01, l0, l1, true_and, and_true, and_self, true_implies, false_implies, implies_true, forall_const, not_true_eq_false, not_false_eq_true, reduceIte, ite_true, ite_false, reduceCtorEq, forall_eq, Classical.not_not, true_or, or_true, false_or, or_false, and_false, false_and, Int.reduceEq, Int.reduceLT, Int.reduceLE, Int.reduceAdd, Int.reduceSub, Int.reduceMul, Int.reduceNeg]
    · simp (disch := omega) only [I_x_list, I_m_list, p_tapeAt hk, p_isTape hk, p_isWithin, q_in hk, ha, hc, h1, h2, g0, hS.k100, hS.k137, s32_id, hup, b_s32, b_eq0, b_01, l0, l1, true_and, and_true, and_self, true_implies, false_implies, implies_true, forall_const, not_true_eq_false, not_false_eq_true, reduceIte, ite_true, ite_false, reduceCtorEq, forall_eq, Classical.not_not, true_or, or_true, false_or, or_false, and_false, false_and, Int.reduceEq, Int.reduceLT, Int.reduceLE, Int.reduceAdd, Int.reduceSub, Int.reduceMul, Int.reduceNeg]
  · simp (disch := omega) only [I_x_list, I_m_list, p_tapeAt hk, p_isTape hk, ha, h1, hS.k100, hS.k137, s32_id, hup, b_s32, b_eq0, b_01, l0, l1, true_and, and_true, and_self, true_implies, false_implies, implies_true, forall_const, not_true_eq_false, not_false_eq_true, reduceIte, ite_true, ite_false, reduceCtorEq, forall_eq, Classical.not_not, true_or, or_true, false_or, or_false, and_false, false_and, Int.reduceEq, Int.reduceLT, Int.reduceLE, Int.reduceAdd, Int.reduceSub, Int.reduceMul, Int.reduceNeg]
end LI
