/-! commands: whose, known, broke -/
section C7
variable {d : Nat} {n m a b c e i k B L : Int} {V : Mem} {S : Shp} {Q : Int → Mem → Shp → Prop} {U : Mem → Shp → Prop}
abbrev whoM (V : Mem) (a b k : Int) : Prop := s32 (V 170 k) = a ∧ s32 (V 172 k) ≤ b ∧ b ≤ s32 (V 173 k)
def whoN (V : Mem) (a b : Int) : Nat → Int
  | 0 => -5
  | n + 1 => if whoM V a b (n : Int) then V 171 (n : Int) else whoN V a b n
theorem kx_whose {g : Cnt} {u4 : XV} (hk : SK V S) (h5 : BK 115 V S) (hr : ∀ f, 0 ≤ f → f < V 115 2 → V 116 (4 * f) = V 170 f ∧ V 116 (4 * f + 1) = V 171 f ∧ V 116 (4 * f + 2) = V 172 f ∧ V 116 (4 * f + 3) = V 173 f) (ha : s32 a = a) (hb : s32 b = b) : ∀ (N : Nat) (u4 : XV), (N : Int) ≤ V 115 2 → (K_x_whose (d + 2) Q (27, [(2, 100), (0, a), (0, b), (0, (N : Int) - 1), u4], [], V, S, g) ↔ Q (whoN V a b N) V S) := by
  have hS := hk.1
  have hV := hk.2.1
  have h50 := h5.2.2.2.2.2.1
  have h51 := h5.2.2.2.2.2.2
  intro N
  induction N with
  | zero =>
    intro u4 hN
    rw [L_x_whose_27]
    simp (disch := omega) only [s32_id, show ((0 : Nat) : Int) - 1 < 0 from by omega, b_s32, b_eq0, b_01, l0, l1, true_and, and_true, and_self, true_implies, false_implies, implies_true, forall_const, not_true_eq_false, not_false_eq_true, reduceIte, ite_true, ite_false, reduceCtorEq, forall_eq, Classical.not_not, true_or, or_true, false_or, or_false, and_false, false_and, Int.reduceEq, Int.reduceLT, Int.reduceLE, Int.reduceAdd, Int.reduceSub, Int.reduceMul, Int.reduceNeg, whoN]
  | succ N ih =>
    intro u4 hN
    have hN2 : ((N + 1 : Nat) : Int) - 1 = (N : Int) := by omega
    have hN3 : (N : Int) < V 115 2 := by omega
    obtain ⟨r1, r2, r3, r4⟩ := hr N (by omega) hN3
    have ih' := fun u => ih u (by omega)
    have ee : (N : Int) + -1 = (N : Int) - 1 := by omega
    have q0 : ∀ Q', C_Book_cell (d + 2) 115 (N : Int) 0 V S Q' ↔ Q' (V 170 N) V S := fun Q' => by rw [p_cell h5 (by omega) (by omega), show (115 : Int) + 1 = 116 from by omega, show 4 * (N : Int) + 0 = 4 * (N : Int) from by omega, r1]
    have q1 : ∀ Q', C_Book_cell (d + 2) 115 (N : Int) 1 V S Q' ↔ Q' (V 171 N) V S := fun Q' => by rw [p_cell h5 (by omega) (by omega), show (115 : Int) + 1 = 116 from by omega, r2]
    have q2 : ∀ Q', C_Book_cell (d + 2) 115 (N : Int) 2 V S Q' ↔ Q' (V 172 N) V S := fun Q' => by rw [p_cell h5 (by omega) (by omega), show (115 : Int) + 1 = 116 from by omega, r3]
    have q3 : ∀ Q', C_Book_cell (d + 2) 115 (N : Int) 3 V S Q' ↔ Q' (V 173 N) V S := fun Q' => by rw [p_cell h5 (by omega) (by omega), show (115 : Int) + 1 = 116 from by omega, r4]
    rw [hN2, L_x_whose_27, whoN]
    by_cases c1 : s32 (V 170 (N : Int)) = a
    · by_cases c2 : s32 (V 172 (N : Int)) ≤ b ∧ b ≤ s32 (V 173 (N : Int))
      · simp (disch := omega) only [s32_id, show ¬ (N : Int) < 0 from by omega, hS.k100, hV.r100_6, q0, q1, q2, q3, ha, hb, c1, c2, p_isWithin, ee, ih', whoM, b_s32, b_eq0, b_01, l0, l1, true_and, and_true, and_self, true_implies, false_implies, implies_true, forall_const, not_true_eq_false, not_false_eq_true, reduceIte, ite_true, ite_false, reduceCtorEq, forall_eq, Classical.not_not, true_or, or_true, false_or, or_false, and_false, false_and, Int.reduceEq, Int.reduceLT, Int.reduceLE, Int.reduceAdd, Int.reduceSub, Int.reduceMul, Int.reduceNeg]
      · simp (disch := omega) only [s32_id, show ¬ (N : Int) < 0 from by omega, hS.k100, hV.r100_6, q0, q1, q2, q3, ha, hb, c1, c2, p_isWithin, ee, ih', whoM, b_s32, b_eq0, b_01, l0, l1, true_and, and_true, and_self, true_implies, false_implies, implies_true, forall_const, not_true_eq_false, not_false_eq_true, reduceIte, ite_true, ite_false, reduceCtorEq, forall_eq, Classical.not_not, true_or, or_true, false_or, or_false, and_false, false_and, Int.reduceEq, Int.reduceLT, Int.reduceLE, Int.reduceAdd, Int.reduceSub, Int.reduceMul, Int.reduceNeg]
    · simp (disch := omega) only [s32_id, show ¬ (N : Int) < 0 from by omega, hS.k100, hV.r100_6, q0, q1, q2, q3, ha, hb, c1, p_isWithin, ee, ih', whoM, b_s32, b_eq0, b_01, l0, l1, true_and, and_true, and_self, true_implies, false_implies, implies_true, forall_const, not_true_eq_false, not_false_eq_true, reduceIte, ite_true, ite_false, reduceCtorEq, forall_eq, Classical.not_not, true_or, or_true, false_or, or_false, and_false, false_and, Int.reduceEq, Int.reduceLT, Int.reduceLE, Int.reduceAdd, Int.reduceSub, Int.reduceMul, Int.reduceNeg]
theorem km_whose {g : Cnt} (hk : SK V S) (ha : s32 a = a) (hb : s32 b = b) (hr : 0 ≤ V 137 53 ∧ V 137 53 ≤ 20) : ∀ (N k : Nat), (N : Int) + (k : Int) = V 137 53 → (K_m_whose (d + 2) Q (24, [(2, 137), (0, a), (0, b), (0, whoN V a b k), (0, (k : Int))], [], V, S, g) ↔ Q (whoN V a b (N + k)) V S) := by
  have hS := hk.1
  have hV := hk.2.1
  intro N
  induction N with
  | zero =>
    intro k hN
    rw [L_m_whose_24]
    simp (disch := omega) only [s32_id, hS.k137, show ¬ (k : Int) < V 137 53 from by omega, b_s32, b_eq0, b_01, l0, l1, true_and, and_true, and_self, true_implies, false_implies, implies_true, forall_const, not_true_eq_false, not_false_eq_true, reduceIte, ite_true, ite_false, reduceCtorEq, forall_eq, Classical.not_not, true_or, or_true, false_or, or_false, and_false, false_and, Int.reduceEq, Int.reduceLT, Int.reduceLE, Int.reduceAdd, Int.reduceSub, Int.reduceMul, Int.reduceNeg, Nat.zero_add]
  | succ N ih =>
    intro k hN
    have ih' := ih (k + 1) (by omega)
    rw [show N + (k + 1) = N + 1 + k from by omega, whoN] at ih'
    rw [L_m_whose_24]
    have ee : ((k + 1 : Nat) : Int) = (k : Int) + 1 := by omega
    rw [ee] at ih'
    by_cases c1 : s32 (V 170 (k : Int)) = a
    · by_cases c2 : s32 (V 172 (k : Int)) ≤ b ∧ b ≤ s32 (V 173 (k : Int))
      · simp only [whoM, c1, c2, b_s32, b_eq0, b_01, l0, l1, true_and, and_true, and_self, true_implies, false_implies, implies_true, forall_const, not_true_eq_false, not_false_eq_true, reduceIte, ite_true, ite_false, reduceCtorEq, forall_eq, Classical.not_not, true_or, or_true, false_or, or_false, and_false, false_and, Int.reduceEq, Int.reduceLT, Int.reduceLE, Int.reduceAdd, Int.reduceSub, Int.reduceMul, Int.reduceNeg] at ih'
        simp (disch := omega) only [s32_id, show (k : Int) < V 137 53 from by omega, hS.k137, ha, hb, c1, c2, q_in hk, hS.k170, hS.n170, hV.r137_56, hS.k171, hS.n171, hV.r137_57, hS.k172, hS.n172, hV.r137_58, hS.k173, hS.n173, hV.r137_59, show (0 ≤ (k : Int)) from by omega, show (k : Int) < 20 from by omega, ih', b_s32, b_eq0, b_01, l0, l1, true_and, and_true, and_self, true_implies, false_implies, implies_true, forall_const, not_true_eq_false, not_false_eq_true, reduceIte, ite_true, ite_false, reduceCtorEq, forall_eq, Classical.not_not, true_or, or_true, false_or, or_false, and_false, false_and, Int.reduceEq, Int.reduceLT, Int.reduceLE, Int.reduceAdd, Int.reduceSub, Int.reduceMul, Int.reduceNeg]
      · simp only [whoM, c1, c2, b_s32, b_eq0, b_01, l0, l1, true_and, and_true, and_self, true_implies, false_implies, implies_true, forall_const, not_true_eq_false, not_false_eq_true, reduceIte, ite_true, ite_false, reduceCtorEq, forall_eq, Classical.not_not, true_or, or_true, false_or, or_false, and_false, false_and, Int.reduceEq, Int.reduceLT, Int.reduceLE, Int.reduceAdd, Int.reduceSub, Int.reduceMul, Int.reduceNeg] at ih'
        simp (disch := omega) only [s32_id, show (k : Int) < V 137 53 from by omega, hS.k137, ha, hb, c1, c2, q_in hk, hS.k170, hS.n170, hV.r137_56, hS.k171, hS.n171, hV.r137_57, hS.k172, hS.n172, hV.r137_58, hS.k173, hS.n173, hV.r137_59, show (0 ≤ (k : Int)) from by omega, show (k : Int) < 20 from by omega, ih', b_s32, b_eq0, b_01, l0, l1, true_and, and_true, and_self, true_implies, false_implies, implies_true, forall_const, not_true_eq_false, not_false_eq_true, reduceIte, ite_true, ite_false, reduceCtorEq, forall_eq, Classical.not_not, true_or, or_true, false_or, or_false, and_false, false_and, Int.reduceEq, Int.reduceLT, Int.reduceLE, Int.reduceAdd, Int.reduceSub, Int.reduceMul, Int.reduceNeg]
    · simp only [whoM, c1, b_s32, b_eq0, b_01, l0, l1, true_and, and_true, and_self, true_implies, false_implies, implies_true, forall_const, not_true_eq_false, not_false_eq_true, reduceIte, ite_true, ite_false, reduceCtorEq, forall_eq, Classical.not_not, true_or, or_true, false_or, or_false, and_false, false_and, Int.reduceEq, Int.reduceLT, Int.reduceLE, Int.reduceAdd, Int.reduceSub, Int.reduceMul, Int.reduceNeg] at ih'
      simp (disch := omega) only [s32_id, show (k : Int) < V 137 53 from by omega, hS.k137, ha, hb, c1, q_in hk, hS.k170, hS.n170, hV.r137_56, hS.k171, hS.n171, hV.r137_57, hS.k172, hS.n172, hV.r137_58, hS.k173, hS.n173, hV.r137_59, show (0 ≤ (k : Int)) from by omega, show (k : Int) < 20 from by omega, ih', b_s32, b_eq0, b_01, l0, l1, true_and, and_true, and_self, true_implies, false_implies, implies_true, forall_const, not_true_eq_false, not_false_eq_true, reduceIte, ite_true, ite_false, reduceCtorEq, forall_eq, Classical.not_not, true_or, or_true, false_or, or_false, and_false, false_and, Int.reduceEq, Int.reduceLT, Int.reduceLE, Int.reduceAdd, Int.reduceSub, Int.reduceMul, Int.reduceNeg]
theorem cmd_whose (h : INV n V S) (hn : n ≤ m) (ha : s32 a = a) (hb : s32 b = b) : C_x_whose (d + 6) 100 a b V S (fun r V1 S1 => C_m_whose (d + 6) 137 a b V1 S1 (fun r' V2 S2 => r = r' ∧ INV m V2 S2)) := by
  have hup := h.up hn
  have hk := h.1
  have hS := hk.1
  have hV := hk.2.1
  have h5 := h.bk.2.1
  obtain ⟨-, ⟨⟨b1, b2, b3⟩, b4⟩, -⟩ := h.2.2.2.2.2.2.1
  have g0 : ¬ 1000 + 10 * a = -1 := by omega
  obtain ⟨N, hN⟩ := Int.eq_ofNat_of_zero_le b2
  have kx := fun (Q : Int → Mem → Shp → Prop) g => kx_whose (d := d + 3) (Q := Q) (g := g) (u4 := (9, 0)) hk h5 (by rw [b1]; exact b4) ha hb N (9, 0) (by omega)
  have km := fun (Q : Int → Mem → Shp → Prop) g => km_whose (d := d + 3) (Q := Q) (g := g) hk ha hb ⟨b2, b3⟩ N 0 (by omega)
  by_cases h1 : 0 ≤ a ∧ a < V 137 2
  · by_cases h2 : 0 ≤ b ∧ b ≤ 599
    · simp only [I_x_whose, p_lampAt hk, p_isDay, ha, hb, h1, h2, g0, hS.k100, hV.r100_6, hS.k115, b1, hN, b_s32, b_eq0, b_01, l0, l1, true_and, and_true, and_self, true_implies, false_implies, implies_true, forall_const, not_true_eq_false, not_false_eq_true, reduceIte, ite_true, ite_false, reduceCtorEq, forall_eq, Classical.not_not, true_or, or_true, false_or, or_false, and_false, false_and, Int.reduceEq, Int.reduceLT, Int.reduceLE, Int.reduceAdd, Int.reduceSub, Int.reduceMul, Int.reduceNeg]
      refine (kx (fun r V1 S1 => C_m_whose (d + 6) 137 a b V1 S1 (fun r' V2 S2 => r = r' ∧ INV m V2 S2)) (0, 0)).mpr ?_
      simp (disch := omega) only [I_m_whose, p_isLamp hk, p_misDay hk, ha, hb, h1, h2, hS.k137, b_s32, b_eq0, b_01, l0, l1, true_and, and_true, and_self, true_implies, false_implies, implies_true, forall_const, not_true_eq_false, not_false_eq_true, reduceIte, ite_true, ite_false, reduceCtorEq, forall_eq, Classical.not_not, true_or, or_true, false_or, or_false, and_false, false_and, Int.reduceEq, Int.reduceLT, Int.reduceLE, Int.reduceAdd, Int.reduceSub, Int.reduceMul, Int.reduceNeg]
      exact (km (fun r' V2 S2 => whoN V a b N = r' ∧ INV m V2 S2) (0, 0)).mpr ⟨rfl, hup⟩
    · simp (disch := omega) only [I_x_whose, I_m_whose, p_lampAt hk, p_isLamp hk, p_isDay, p_misDay hk, ha, hb, h1, h2, g0, hS.k100, hS.k137, hup, s32_id, b_s32, b_eq0, b_01, l0, l1, true_and, and_true, and_self, true_implies, false_implies, implies_true, forall_const, not_true_eq_false, not_false_eq_true, reduceIte, ite_true, ite_false, reduceCtorEq, forall_eq, Classical.not_not, true_or, or_true, false_or, or_false, and_false, false_and, Int.reduceEq, Int.reduceLT, Int.reduceLE, Int.reduceAdd, Int.reduceSub, Int.reduceMul, Int.reduceNeg]
  · simp (disch := omega) only [I_x_whose, I_m_whose, p_lampAt hk, p_isLamp hk, ha, h1, hS.k100, hS.k137, hup, s32_id, b_s32, b_eq0, b_01, l0, l1, true_and, and_true, and_self, true_implies, false_implies, implies_true, forall_const, not_true_eq_false, not_false_eq_true, reduceIte, ite_true, ite_false, reduceCtorEq, forall_eq, Classical.not_not, true_or, or_true, false_or, or_false, and_false, false_and, Int.reduceEq, Int.reduceLT, Int.reduceLE, Int.reduceAdd, Int.reduceSub, Int.reduceMul, Int.reduceNeg]
abbrev knM (V : Mem) (a b k : Int) : Prop := s32 (V 174 k) = a ∧ ¬ b < s32 (V 175 k + V 176 k)
def knN (V : Mem) (a b : Int) : Nat → Int
  | 0 => -5
  | n + 1 => if knM V a b (n : Int) then (if s32 (knN V a b n) < s32 (V 175 (n : Int)) then V 175 (n : Int) else knN V a b n) else knN V a b n
theorem kx_known {g : Cnt} (hk : SK V S) (h5 : BK 117 V S) (hr : ∀ f, 0 ≤ f → f < V 117 2 → V 118 (4 * f) = V 174 f ∧ V 118 (4 * f + 1) = V 175 f ∧ V 118 (4 * f + 2) = V 175 f + V 176 f) (ha : s32 a = a) (hb : s32 b = b) : ∀ (N k : Nat) (u5 : XV), (N : Int) + (k : Int) = V 117 2 → (K_x_known (d + 2) Q (23, [(2, 100), (0, a), (0, b), (0, knN V a b k), (0, (k : Int)), u5], [], V, S, g) ↔ Q (knN V a b (N + k)) V S) := by
  have hS := hk.1
  have hV := hk.2.1
  have h50 := h5.2.2.2.2.2.1
  have h51 := h5.2.2.2.2.2.2
  intro N
  induction N with
  | zero =>
    intro k u5 hN
    rw [L_x_known_23]
    simp (disch := omega) only [s32_id, hS.k100, hV.r100_7, hS.k117, show ¬ (k : Int) < V 117 2 from by omega, b_s32, b_eq0, b_01, l0, l1, true_and, and_true, and_self, true_implies, false_implies, implies_true, forall_const, not_true_eq_false, not_false_eq_true, reduceIte, ite_true, ite_false, reduceCtorEq, forall_eq, Classical.not_not, true_or, or_true, false_or, or_false, and_false, false_and, Int.reduceEq, Int.reduceLT, Int.reduceLE, Int.reduceAdd, Int.reduceSub, Int.reduceMul, Int.reduceNeg, Nat.zero_add]
  | succ N ih =>
    intro k u5 hN
    have hN3 : (k : Int) < V 117 2 := by omega
    obtain ⟨r1, r2, r3⟩ := hr k (by omega) hN3
    have ih' := fun u => ih (k + 1) u (by omega)
    rw [show N + (k + 1) = N + 1 + k from by omega] at ih'
    have ee : ((k + 1 : Nat) : Int) = (k : Int) + 1 := by omega
    rw [ee] at ih'
    have q0 : ∀ Q', C_Book_cell (d + 2) 117 (k : Int) 0 V S Q' ↔ Q' (V 174 k) V S := fun Q' => by rw [p_cell h5 (by omega) (by omega), show (117 : Int) + 1 = 118 from by omega, show 4 * (k : Int) + 0 = 4 * (k : Int) from by omega, r1]
    have q1 : ∀ Q', C_Book_cell (d + 2) 117 (k : Int) 1 V S Q' ↔ Q' (V 175 k) V S := fun Q' => by rw [p_cell h5 (by omega) (by omega), show (117 : Int) + 1 = 118 from by omega, r2]
    have q2 : ∀ Q', C_Book_cell (d + 2) 117 (k : Int) 2 V S Q' ↔ Q' (V 175 k + V 176 k) V S := fun Q' => by rw [p_cell h5 (by omega) (by omega), show (117 : Int) + 1 = 118 from by omega, r3]
    rw [L_x_known_23]
    rw [knN] at ih'
    by_cases c1 : s32 (V 174 (k : Int)) = a
    · by_cases c2 : b < s32 (V 175 (k : Int) + V 176 (k : Int))
      · simp only [knM, c1, c2, b_s32, b_eq0, b_01, l0, l1, true_and, and_true, and_self, true_implies, false_implies, implies_true, forall_const, not_true_eq_false, not_false_eq_true, reduceIte, ite_true, ite_false, reduceCtorEq, forall_eq, Classical.not_not, true_or, or_true, false_or, or_false, and_false, false_and, Int.reduceEq, Int.reduceLT, Int.reduceLE, Int.reduceAdd, Int.reduceSub, Int.reduceMul, Int.reduceNeg] at ih'
        simp (disch := omega) only [s32_id, hN3, hS.k100, hV.r100_7, hS.k117, q0, q1, q2, ha, hb, c1, c2, p_max, ih', b_s32, b_eq0, b_01, l0, l1, true_and, and_true, and_self, true_implies, false_implies, implies_true, forall_const, not_true_eq_false, not_false_eq_true, reduceIte, ite_true, ite_false, reduceCtorEq, forall_eq, Classical.not_not, true_or, or_true, false_or, or_false, and_false, false_and, Int.reduceEq, Int.reduceLT, Int.reduceLE, Int.reduceAdd, Int.reduceSub, Int.reduceMul, Int.reduceNeg]
      · simp only [knM, c1, c2, b_s32, b_eq0, b_01, l0, l1, true_and, and_true, and_self, true_implies, false_implies, implies_true, forall_const, not_true_eq_false, not_false_eq_true, reduceIte, ite_true, ite_false, reduceCtorEq, forall_eq, Classical.not_not, true_or, or_true, false_or, or_false, and_false, false_and, Int.reduceEq, Int.reduceLT, Int.reduceLE, Int.reduceAdd, Int.reduceSub, Int.reduceMul, Int.reduceNeg] at ih'
        simp (disch := omega) only [s32_id, hN3, hS.k100, hV.r100_7, hS.k117, q0, q1, q2, ha, hb, c1, c2, p_max, ih', b_s32, b_eq0, b_01, l0, l1, true_and, and_true, and_self, true_implies, false_implies, implies_true, forall_const, not_true_eq_false, not_false_eq_true, reduceIte, ite_true, ite_false, reduceCtorEq, forall_eq, Classical.not_not, true_or, or_true, false_or, or_false, and_false, false_and, Int.reduceEq, Int.reduceLT, Int.reduceLE, Int.reduceAdd, Int.reduceSub, Int.reduceMul, Int.reduceNeg, show ¬ (1 : Int) = 0 from by omega]
    · simp only [knM, c1, b_s32, b_eq0, b_01, l0, l1, true_and, and_true, and_self, true_implies, false_implies, implies_true, forall_const, not_true_eq_false, not_false_eq_true, reduceIte, ite_true, ite_false, reduceCtorEq, forall_eq, Classical.not_not, true_or, or_true, false_or, or_false, and_false, false_and, Int.reduceEq, Int.reduceLT, Int.reduceLE, Int.reduceAdd, Int.reduceSub, Int.reduceMul, Int.reduceNeg] at ih'
      simp (disch := omega) only [s32_id, hN3, hS.k100, hV.r100_7, hS.k117, q0, q1, q2, ha, hb, c1, p_max, ih', b_s32, b_eq0, b_01, l0, l1, true_and, and_true, and_self, true_implies, false_implies, implies_true, forall_const, not_true_eq_false, not_false_eq_true, reduceIte, ite_true, ite_false, reduceCtorEq, forall_eq, Classical.not_not, true_or, or_true, false_or, or_false, and_false, false_and, Int.reduceEq, Int.reduceLT, Int.reduceLE, Int.reduceAdd, Int.reduceSub, Int.reduceMul, Int.reduceNeg]
theorem km_known {g : Cnt} (hk : SK V S) (ha : s32 a = a) (hb : s32 b = b) (hr : 0 ≤ V 137 54 ∧ V 137 54 ≤ 60) : ∀ (N k : Nat), (N : Int) + (k : Int) = V 137 54 → (K_m_known (d + 2) Q (24, [(2, 137), (0, a), (0, b), (0, knN V a b k), (0, (k : Int))], [], V, S, g) ↔ Q (knN V a b (N + k)) V S) := by
  have hS := hk.1
  have hV := hk.2.1
  intro N
  induction N with
  | zero =>
    intro k hN
    rw [L_m_known_24]
    simp (disch := omega) only [s32_id, hS.k137, show ¬ (k : Int) < V 137 54 from by omega, b_s32, b_eq0, b_01, l0, l1, true_and, and_true, and_self, true_implies, false_implies, implies_true, forall_const, not_true_eq_false, not_false_eq_true, reduceIte, ite_true, ite_false, reduceCtorEq, forall_eq, Classical.not_not, true_or, or_true, false_or, or_false, and_false, false_and, Int.reduceEq, Int.reduceLT, Int.reduceLE, Int.reduceAdd, Int.reduceSub, Int.reduceMul, Int.reduceNeg, Nat.zero_add]
  | succ N ih =>
    intro k hN
    have ih' := ih (k + 1) (by omega)
    rw [show N + (k + 1) = N + 1 + k from by omega, knN] at ih'
    rw [L_m_known_24]
    have ee : ((k + 1 : Nat) : Int) = (k : Int) + 1 := by omega
    rw [ee] at ih'
    by_cases c1 : s32 (V 174 (k : Int)) = a
    · by_cases c2 : b < s32 (V 175 (k : Int) + V 176 (k : Int))
      · simp only [knM, c1, c2, b_s32, b_eq0, b_01, l0, l1, true_and, and_true, and_self, true_implies, false_implies, implies_true, forall_const, not_true_eq_false, not_false_eq_true, reduceIte, ite_true, ite_false, reduceCtorEq, forall_eq, Classical.not_not, true_or, or_true, false_or, or_false, and_false, false_and, Int.reduceEq, Int.reduceLT, Int.reduceLE, Int.reduceAdd, Int.reduceSub, Int.reduceMul, Int.reduceNeg] at ih'
        simp (disch := omega) only [s32_id, show (k : Int) < V 137 54 from by omega, hS.k137, ha, hb, c1, c2, hS.k174, hS.n174, hV.r137_60, hS.k175, hS.n175, hV.r137_61, hS.k176, hS.n176, hV.r137_62, show (0 ≤ (k : Int)) from by omega, show (k : Int) < 60 from by omega, ih', b_s32, b_eq0, b_01, l0, l1, true_and, and_true, and_self, true_implies, false_implies, implies_true, forall_const, not_true_eq_false, not_false_eq_true, reduceIte, ite_true, ite_false, reduceCtorEq, forall_eq, Classical.not_not, true_or, or_true, false_or, or_false, and_false, false_and, Int.reduceEq, Int.reduceLT, Int.reduceLE, Int.reduceAdd, Int.reduceSub, Int.reduceMul, Int.reduceNeg]
      · by_cases c3 : s32 (knN V a b k) < s32 (V 175 (k : Int))
        · simp only [knM, c1, c2, c3, b_s32, b_eq0, b_01, l0, l1, true_and, and_true, and_self, true_implies, false_implies, implies_true, forall_const, not_true_eq_false, not_false_eq_true, reduceIte, ite_true, ite_false, reduceCtorEq, forall_eq, Classical.not_not, true_or, or_true, false_or, or_false, and_false, false_and, Int.reduceEq, Int.reduceLT, Int.reduceLE, Int.reduceAdd, Int.reduceSub, Int.reduceMul, Int.reduceNeg] at ih'
          simp (disch := omega) only [s32_id, show (k : Int) < V 137 54 from by omega, hS.k137, ha, hb, c1, c2, c3, hS.k174, hS.n174, hV.r137_60, hS.k175, hS.n175, hV.r137_61, hS.k176, hS.n176, hV.r137_62, show (0 ≤ (k : Int)) from by omega, show (k : Int) < 60 from by omega, ih', b_s32, b_eq0, b_01, l0, l1, true_and, and_true, and_self, true_implies, false_implies, implies_true, forall_const, not_true_eq_false, not_false_eq_true, reduceIte, ite_true, ite_false, reduceCtorEq, forall_eq, Classical.not_not, true_or, or_true, false_or, or_false, and_false, false_and, Int.reduceEq, Int.reduceLT, Int.reduceLE, Int.reduceAdd, Int.reduceSub, Int.reduceMul, Int.reduceNeg]
        · simp only [knM, c1, c2, c3, b_s32, b_eq0, b_01, l0, l1, true_and, and_true, and_self, true_implies, false_implies, implies_true, forall_const, not_true_eq_false, not_false_eq_true, reduceIte, ite_true, ite_false, reduceCtorEq, forall_eq, Classical.not_not, true_or, or_true, false_or, or_false, and_false, false_and, Int.reduceEq, Int.reduceLT, Int.reduceLE, Int.reduceAdd, Int.reduceSub, Int.reduceMul, Int.reduceNeg] at ih'
          simp (disch := omega) only [s32_id, show (k : Int) < V 137 54 from by omega, hS.k137, ha, hb, c1, c2, c3, hS.k174, hS.n174, hV.r137_60, hS.k175, hS.n175, hV.r137_61, hS.k176, hS.n176, hV.r137_62, show (0 ≤ (k : Int)) from by omega, show (k : Int) < 60 from by omega, ih', b_s32, b_eq0, b_01, l0, l1, true_and, and_true, and_self, true_implies, false_implies, implies_true, forall_const, not_true_eq_false, not_false_eq_true, reduceIte, ite_true, ite_false, reduceCtorEq, forall_eq, Classical.not_not, true_or, or_true, false_or, or_false, and_false, false_and, Int.reduceEq, Int.reduceLT, Int.reduceLE, Int.reduceAdd, Int.reduceSub, Int.reduceMul, Int.reduceNeg]
    · simp only [knM, c1, b_s32, b_eq0, b_01, l0, l1, true_and, and_true, and_self, true_implies, false_implies, implies_true, forall_const, not_true_eq_false, not_false_eq_true, reduceIte, ite_true, ite_false, reduceCtorEq, forall_eq, Classical.not_not, true_or, or_true, false_or, or_false, and_false, false_and, Int.reduceEq, Int.reduceLT, Int.reduceLE, Int.reduceAdd, Int.reduceSub, Int.reduceMul, Int.reduceNeg] at ih'
      simp (disch := omega) only [s32_id, show (k : Int) < V 137 54 from by omega, hS.k137, ha, hb, c1, hS.k174, hS.n174, hV.r137_60, hS.k175, hS.n175, hV.r137_61, hS.k176, hS.n176, hV.r137_62, show (0 ≤ (k : Int)) from by omega, show (k : Int) < 60 from by omega, ih', b_s32, b_eq0, b_01, l0, l1, true_and, and_true, and_self, true_implies, false_implies, implies_true, forall_const, not_true_eq_false, not_false_eq_true, reduceIte, ite_true, ite_false, reduceCtorEq, forall_eq, Classical.not_not, true_or, or_true, false_or, or_false, and_false, false_and, Int.reduceEq, Int.reduceLT, Int.reduceLE, Int.reduceAdd, Int.reduceSub, Int.reduceMul, Int.reduceNeg]
theorem cmd_known (h : INV n V S) (hn : n ≤ m) (ha : s32 a = a) (hb : s32 b = b) : C_x_known (d + 6) 100 a b V S (fun r V1 S1 => C_m_known (d + 6) 137 a b V1 S1 (fun r' V2 S2 => r = r' ∧ INV m V2 S2)) := by
  have hup := h.up hn
  have hk := h.1
  have hS := hk.1
  have hV := hk.2.1
  have h5 := h.bk.2.2
  obtain ⟨-, -, ⟨⟨b1, b2, b3⟩, b4⟩⟩ := h.2.2.2.2.2.2.1
  have g0 : ¬ 1000 + 10 * a = -1 := by omega
  obtain ⟨N, hN⟩ := Int.eq_ofNat_of_zero_le b2
  have kx := fun (Q : Int → Mem → Shp → Prop) g => kx_known (d := d + 3) (Q := Q) (g := g) hk h5 (by rw [b1]; exact b4) ha hb N 0 (9, 0) (by omega)
  have km := fun (Q : Int → Mem → Shp → Prop) g => km_known (d := d + 3) (Q := Q) (g := g) hk ha hb ⟨b2, b3⟩ N 0 (by omega)
  by_cases h1 : 0 ≤ a ∧ a < V 137 2
  · by_cases h2 : 0 ≤ b ∧ b ≤ 599
    · simp only [I_x_known, p_lampAt hk, p_isDay, ha, hb, h1, h2, g0, hS.k100, hV.r100_7, hS.k117, b1, hN, b_s32, b_eq0, b_01, l0, l1, true_and, and_true, and_self, true_implies, false_implies, implies_true, forall_const, not_true_eq_false, not_false_eq_true, reduceIte, ite_true, ite_false, reduceCtorEq, forall_eq, Classical.not_not, true_or, or_true, false_or, or_false, and_false, false_and, Int.reduceEq, Int.reduceLT, Int.reduceLE, Int.reduceAdd, Int.reduceSub, Int.reduceMul, Int.reduceNeg]
      refine (kx (fun r V1 S1 => C_m_known (d + 6) 137 a b V1 S1 (fun r' V2 S2 => r = r' ∧ INV m V2 S2)) (0, 0)).mpr ?_
      simp (disch := omega) only [I_m_known, p_isLamp hk, p_misDay hk, ha, hb, h1, h2, hS.k137, b_s32, b_eq0, b_01, l0, l1, true_and, and_true, and_self, true_implies, false_implies, implies_true, forall_const, not_true_eq_false, not_false_eq_true, reduceIte, ite_true, ite_false, reduceCtorEq, forall_eq, Classical.not_not, true_or, or_true, false_or, or_false, and_false, false_and, Int.reduceEq, Int.reduceLT, Int.reduceLE, Int.reduceAdd, Int.reduceSub, Int.reduceMul, Int.reduceNeg]
      exact (km (fun r' V2 S2 => knN V a b N = r' ∧ INV m V2 S2) (0, 0)).mpr ⟨rfl, hup⟩
    · simp (disch := omega) only [I_x_known, I_m_known, p_lampAt hk, p_isLamp hk, p_isDay, p_misDay hk, ha, hb, h1, h2, g0, hS.k100, hS.k137, hup, s32_id, b_s32, b_eq0, b_01, l0, l1, true_and, and_true, and_self, true_implies, false_implies, implies_true, forall_const, not_true_eq_false, not_false_eq_true, reduceIte, ite_true, ite_false, reduceCtorEq, forall_eq, Classical.not_not, true_or, or_true, false_or, or_false, and_false, false_and, Int.reduceEq, Int.reduceLT, Int.reduceLE, Int.reduceAdd, Int.reduceSub, Int.reduceMul, Int.reduceNeg]
  · simp (disch := omega) only [I_x_known, I_m_known, p_lampAt hk, p_isLamp hk, ha, h1, hS.k100, hS.k137, hup, s32_id, b_s32, b_eq0, b_01, l0, l1, true_and, and_true, and_self, true_implies, false_implies, implies_true, forall_const, not_true_eq_false, not_false_eq_true, reduceIte, ite_true, ite_false, reduceCtorEq, forall_eq, Classical.not_not, true_or, or_true, false_or, or_false, and_false, false_and, Int.reduceEq, Int.reduceLT, Int.reduceLE, Int.reduceAdd, Int.reduceSub, Int.reduceMul, Int.reduceNeg]
end C7
