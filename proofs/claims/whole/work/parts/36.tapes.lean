/-! commands: tape, shift, feed, broke -/
def zf (V : Mem) (A lo : Int) (n : Nat) : Mem := fun a k => if a = A ∧ lo ≤ k ∧ k < lo + (n : Int) then 0 else V a k
section TPS
variable {d : Nat} {n m a b c e f i j k t L : Int} {V : Mem} {S : Shp} {Q : Int → Mem → Shp → Prop} {U : Mem → Shp → Prop}
theorem zf_0 {A lo : Int} : zf V A lo 0 = V := by
  funext a k
  unfold zf
  rw [if_neg (by omega)]
theorem zf_s {A lo : Int} {N : Nat} : zf (up2 V A lo 0) A (lo + 1) N = zf V A lo (N + 1) := by
  funext a k
  unfold zf up2
  by_cases h : a = A ∧ lo ≤ k ∧ k < lo + ((N + 1 : Nat) : Int)
  · rw [if_pos h]
    by_cases h2 : k = lo
    · rw [if_neg (by omega), if_pos (by omega)]
    · rw [if_pos (by omega)]
  · rw [if_neg h, if_neg (by omega), if_neg (by omega)]
theorem zf_in {A lo p q : Int} {N : Nat} (h : p = A ∧ lo ≤ q ∧ q < lo + (N : Int)) : zf V A lo N p q = 0 := if_pos h
theorem zf_out {A lo p q : Int} {N : Nat} (h : ¬ (p = A ∧ lo ≤ q ∧ q < lo + (N : Int))) : zf V A lo N p q = V p q := if_neg h
theorem kx_become {g : Cnt} (hS : FS S) (t0 : 0 ≤ t) (t1 : t < 6) : ∀ (N : Nat) (V : Mem) (k : Int) (u1 u2 : XV), FV V → 0 ≤ k → (N : Int) + k = 60 → (K_Tape_become d U (12, [(2, 125 + 2 * t), u1, u2, (0, k)], [], V, S, g) ↔ U (zf V (126 + 2 * t) k N) S) := by
  obtain ⟨k1, k2, k3⟩ := hS.tape t t0 t1
  intro N
  induction N with
  | zero =>
    intro V k u1 u2 hV k0 hN
    have k4 := (hV.tape t t0 t1).2
    rw [L_Tape_become_12, zf_0]
    simp (disch := omega) only [k1, k2, k3, k4, s32_id, show ¬ k < 60 from by omega, b_s32, b_eq0, b_01, l0, l1, true_and, and_true, and_self, true_implies, false_implies, implies_true, forall_const, not_true_eq_false, not_false_eq_true, reduceIte, ite_true, ite_false, reduceCtorEq, forall_eq, Classical.not_not, true_or, or_true, false_or, or_false, and_false, false_and, Int.reduceEq, Int.reduceLT, Int.reduceLE, Int.reduceAdd, Int.reduceSub, Int.reduceMul, Int.reduceNeg]
  | succ N ih =>
    intro V k u1 u2 hV k0 hN
    have k4 := (hV.tape t t0 t1).2
    rw [L_Tape_become_12, ← zf_s, ← ih (up2 V (126 + 2 * t) k 0) (k + 1) (9, 0) (9, 0) (hV.fr (FRM.rf.up (by unfold VD; omega))) (by omega) (by omega)]
    simp (disch := omega) only [k1, k2, k3, k4, s32_id, show k < 60 from by omega, k0, b_s32, b_eq0, b_01, l0, l1, true_and, and_true, and_self, true_implies, false_implies, implies_true, forall_const, not_true_eq_false, not_false_eq_true, reduceIte, ite_true, ite_false, reduceCtorEq, forall_eq, Classical.not_not, true_or, or_true, false_or, or_false, and_false, false_and, Int.reduceEq, Int.reduceLT, Int.reduceLE, Int.reduceAdd, Int.reduceSub, Int.reduceMul, Int.reduceNeg]
theorem km_tape {g : Cnt} (hS : FS S) (t0 : 0 ≤ t) (t1 : t < 6) : ∀ (N : Nat) (V : Mem) (k : Int) (u1 u2 : XV), FV V → 0 ≤ k → (N : Int) + k = 60 → (K_m_tape d Q (69, [(2, 137), (0, t), u1, u2, (0, k)], [], V, S, g) ↔ Q 1 (zf V 181 (60 * t + k) N) S) := by
  intro N
  induction N with
  | zero =>
    intro V k u1 u2 hV k0 hN
    rw [L_m_tape_69, zf_0]
    simp (disch := omega) only [s32_id, show ¬ k < 60 from by omega, b_s32, b_eq0, b_01, l0, l1, true_and, and_true, and_self, true_implies, false_implies, implies_true, forall_const, not_true_eq_false, not_false_eq_true, reduceIte, ite_true, ite_false, reduceCtorEq, forall_eq, Classical.not_not, true_or, or_true, false_or, or_false, and_false, false_and, Int.reduceEq, Int.reduceLT, Int.reduceLE, Int.reduceAdd, Int.reduceSub, Int.reduceMul, Int.reduceNeg]
  | succ N ih =>
    intro V k u1 u2 hV k0 hN
    rw [L_m_tape_69, ← zf_s, show 60 * t + k + 1 = 60 * t + (k + 1) from by omega, ← ih (up2 V 181 (60 * t + k) 0) (k + 1) (9, 0) (9, 0) (hV.fr (FRM.rf.up (by unfold VD; omega))) (by omega) (by omega)]
    simp (disch := omega) only [hS.k137, hS.k181, hS.n181, hV.r137_71, s32_id, show k < 60 from by omega, show 0 ≤ 60 * t + k from by omega, show 60 * t + k < 360 from by omega, b_s32, b_eq0, b_01, l0, l1, true_and, and_true, and_self, true_implies, false_implies, implies_true, forall_const, not_true_eq_false, not_false_eq_true, reduceIte, ite_true, ite_false, reduceCtorEq, forall_eq, Classical.not_not, true_or, or_true, false_or, or_false, and_false, false_and, Int.reduceEq, Int.reduceLT, Int.reduceLE, Int.reduceAdd, Int.reduceSub, Int.reduceMul, Int.reduceNeg]
theorem p_become (hS : FS S) (hV : FV V) (t0 : 0 ≤ t) (t1 : t < 6) : C_Tape_become (d + 1) (125 + 2 * t) b c V S U ↔ U (zf (up2 (up2 V (125 + 2 * t) 0 b) (125 + 2 * t) 1 c) (126 + 2 * t) 0 60) S := by
  have k1 := (hS.tape t t0 t1).1
  rw [I_Tape_become, k1]
  simp only [b_s32, b_eq0, b_01, l0, l1, true_and, and_true, and_self, true_implies, false_implies, implies_true, forall_const, not_true_eq_false, not_false_eq_true, reduceIte, ite_true, ite_false, reduceCtorEq, forall_eq, Classical.not_not, true_or, or_true, false_or, or_false, and_false, false_and, Int.reduceEq, Int.reduceLT, Int.reduceLE, Int.reduceAdd, Int.reduceSub, Int.reduceMul, Int.reduceNeg]
  exact kx_become hS t0 t1 60 _ 0 _ _ (hV.fr ((FRM.rf.up (by unfold VD; omega)).up (by unfold VD; omega))) (by omega) (by omega)
theorem X_tape (hk : SK V S) (ha : s32 a = a) (hb : s32 b = b) (hc : s32 c = c) : C_x_tape (d + 5) 100 a b c V S Q ↔ if ¬ (0 ≤ a ∧ a < 6) then Q (-1) V S else if ¬ (-1 ≤ b ∧ b ≤ 4) ∨ (0 ≤ b ∧ 60 < c) then Q (-2) V S else if 0 ≤ b ∧ c < 0 then Q (-14) V S else Q 1 (zf (up2 (up2 V (125 + 2 * a) 0 b) (125 + 2 * a) 1 (if b < 0 then 0 else c)) (126 + 2 * a) 0 60) S := by
  have hS := hk.1
  have hV := hk.2.1
  by_cases h1 : 0 ≤ a ∧ a < 6
  · have g0 : ¬ 125 + 2 * a = -1 := by omega
    by_cases h2 : b = -1
    · simp (disch := omega) only [I_x_tape, p_tapeAt hk, ha, hb, hc, h1, h2, g0, hS.k100, s32_id, p_become hS hV h1.1 h1.2, b_s32, b_eq0, b_01, l0, l1, true_and, and_true, and_self, true_implies, false_implies, implies_true, forall_const, not_true_eq_false, not_false_eq_true, reduceIte, ite_true, ite_false, reduceCtorEq, forall_eq, Classical.not_not, true_or, or_true, false_or, or_false, and_false, false_and, Int.reduceEq, Int.reduceLT, Int.reduceLE, Int.reduceAdd, Int.reduceSub, Int.reduceMul, Int.reduceNeg]
    · by_cases h3 : 0 ≤ b ∧ b ≤ 4
      · by_cases h4 : 60 < c
        · simp (disch := omega) only [I_x_tape, p_tapeAt hk, p_isWithin, ha, hb, hc, h1, h2, h3, h4, g0, hS.k100, s32_id, b_s32, b_eq0, b_01, l0, l1, true_and, and_true, and_self, true_implies, false_implies, implies_true, forall_const, not_true_eq_false, not_false_eq_true, reduceIte, ite_true, ite_false, reduceCtorEq, forall_eq, Classical.not_not, true_or, or_true, false_or, or_false, and_false, false_and, Int.reduceEq, Int.reduceLT, Int.reduceLE, Int.reduceAdd, Int.reduceSub, Int.reduceMul, Int.reduceNeg, show -1 ≤ b from by omega]
        · by_cases h5 : c < 0
          · simp (disch := omega) only [I_x_tape, p_tapeAt hk, p_isWithin, ha, hb, hc, h1, h2, h3, h4, h5, g0, hS.k100, s32_id, b_s32, b_eq0, b_01, l0, l1, true_and, and_true, and_self, true_implies, false_implies, implies_true, forall_const, not_true_eq_false, not_false_eq_true, reduceIte, ite_true, ite_false, reduceCtorEq, forall_eq, Classical.not_not, true_or, or_true, false_or, or_false, and_false, false_and, Int.reduceEq, Int.reduceLT, Int.reduceLE, Int.reduceAdd, Int.reduceSub, Int.reduceMul, Int.reduceNeg, show -1 ≤ b from by omega]
          · simp (disch := omega) only [I_x_tape, p_tapeAt hk, p_isWithin, ha, hb, hc, h1, h2, h3, h4, h5, g0, hS.k100, s32_id, p_become hS hV h1.1 h1.2, b_s32, b_eq0, b_01, l0, l1, true_and, and_true, and_self, true_implies, false_implies, implies_true, forall_const, not_true_eq_false, not_false_eq_true, reduceIte, ite_true, ite_false, reduceCtorEq, forall_eq, Classical.not_not, true_or, or_true, false_or, or_false, and_false, false_and, Int.reduceEq, Int.reduceLT, Int.reduceLE, Int.reduceAdd, Int.reduceSub, Int.reduceMul, Int.reduceNeg, show -1 ≤ b from by omega, show ¬ b < 0 from by omega]
      · have : ¬ (-1 ≤ b ∧ b ≤ 4) := by omega
        simp (disch := omega) only [I_x_tape, p_tapeAt hk, p_isWithin, ha, hb, hc, h1, h2, h3, this, g0, hS.k100, s32_id, b_s32, b_eq0, b_01, l0, l1, true_and, and_true, and_self, true_implies, false_implies, implies_true, forall_const, not_true_eq_false, not_false_eq_true, reduceIte, ite_true, ite_false, reduceCtorEq, forall_eq, Classical.not_not, true_or, or_true, false_or, or_false, and_false, false_and, Int.reduceEq, Int.reduceLT, Int.reduceLE, Int.reduceAdd, Int.reduceSub, Int.reduceMul, Int.reduceNeg]
  · simp (disch := omega) only [I_x_tape, p_tapeAt hk, ha, h1, hS.k100, s32_id, b_s32, b_eq0, b_01, l0, l1, true_and, and_true, and_self, true_implies, false_implies, implies_true, forall_const, not_true_eq_false, not_false_eq_true, reduceIte, ite_true, ite_false, reduceCtorEq, forall_eq, Classical.not_not, true_or, or_true, false_or, or_false, and_false, false_and, Int.reduceEq, Int.reduceLT, Int.reduceLE, Int.reduceAdd, Int.reduceSub, Int.reduceMul, Int.reduceNeg]
theorem M_tape (hk : SK V S) (ha : s32 a = a) (hb : s32 b = b) (hc : s32 c = c) : C_m_tape (d + 5) 137 a b c V S Q ↔ if ¬ (0 ≤ a ∧ a < 6) then Q (-1) V S else if ¬ (-1 ≤ b ∧ b ≤ 4) ∨ (0 ≤ b ∧ 60 < c) then Q (-2) V S else if 0 ≤ b ∧ c < 0 then Q (-14) V S else Q 1 (zf (up2 (up2 V 179 a b) 180 a (if b < 0 then 0 else c)) 181 (60 * a) 60) S := by
  have hS := hk.1
  have hV := hk.2.1
  by_cases h1 : 0 ≤ a ∧ a < 6
  · have kt := fun (b c : Int) => km_tape (d := d + 4) (Q := Q) (g := (0, 0)) (t := a) hS h1.1 h1.2 60 (up2 (up2 V 179 a b) 180 a c) 0
    have hV2 : ∀ b c : Int, FV (up2 (up2 V 179 a b) 180 a c) := fun b c => hV.fr ((FRM.rf.up (by unfold VD; omega)).up (by unfold VD; omega))
    have kt2 := fun (b c : Int) (u1 u2 : XV) => kt b c u1 u2 (hV2 b c) (by omega) (by omega)
    simp only [Int.add_zero] at kt2
    by_cases h3 : -1 ≤ b ∧ b ≤ 4
    · by_cases h2 : b < 0
      · have : ¬ 0 ≤ b := by omega
        simp (disch := omega) only [I_m_tape, p_isTape hk, q_in hk, ha, hb, hc, h1, h2, h3, this, hS.k137, s32_id, hS.k179, hS.n179, hV.r137_69, hS.k180, hS.n180, hV.r137_70, up2_ne, kt2, b_s32, b_eq0, b_01, l0, l1, true_and, and_true, and_self, true_implies, false_implies, implies_true, forall_const, not_true_eq_false, not_false_eq_true, reduceIte, ite_true, ite_false, reduceCtorEq, forall_eq, Classical.not_not, true_or, or_true, false_or, or_false, and_false, false_and, Int.reduceEq, Int.reduceLT, Int.reduceLE, Int.reduceAdd, Int.reduceSub, Int.reduceMul, Int.reduceNeg]
      · have : 0 ≤ b := by omega
        by_cases h4 : 60 < c
        · simp (disch := omega) only [I_m_tape, p_isTape hk, q_in hk, ha, hb, hc, h1, h2, h3, h4, this, hS.k137, s32_id, b_s32, b_eq0, b_01, l0, l1, true_and, and_true, and_self, true_implies, false_implies, implies_true, forall_const, not_true_eq_false, not_false_eq_true, reduceIte, ite_true, ite_false, reduceCtorEq, forall_eq, Classical.not_not, true_or, or_true, false_or, or_false, and_false, false_and, Int.reduceEq, Int.reduceLT, Int.reduceLE, Int.reduceAdd, Int.reduceSub, Int.reduceMul, Int.reduceNeg]
        · by_cases h5 : c < 0
          · simp (disch := omega) only [I_m_tape, p_isTape hk, q_in hk, ha, hb, hc, h1, h2, h3, h4, h5, this, hS.k137, s32_id, b_s32, b_eq0, b_01, l0, l1, true_and, and_true, and_self, true_implies, false_implies, implies_true, forall_const, not_true_eq_false, not_false_eq_true, reduceIte, ite_true, ite_false, reduceCtorEq, forall_eq, Classical.not_not, true_or, or_true, false_or, or_false, and_false, false_and, Int.reduceEq, Int.reduceLT, Int.reduceLE, Int.reduceAdd, Int.reduceSub, Int.reduceMul, Int.reduceNeg]
          · simp (disch := omega) only [I_m_tape, p_isTape hk, q_in hk, ha, hb, hc, h1, h2, h3, h4, h5, this, hS.k137, s32_id, hS.k179, hS.n179, hV.r137_69, hS.k180, hS.n180, hV.r137_70, up2_ne, kt2, b_s32, b_eq0, b_01, l0, l1, true_and, and_true, and_self, true_implies, false_implies, implies_true, forall_const, not_true_eq_false, not_false_eq_true, reduceIte, ite_true, ite_false, reduceCtorEq, forall_eq, Classical.not_not, true_or, or_true, false_or, or_false, and_false, false_and, Int.reduceEq, Int.reduceLT, Int.reduceLE, Int.reduceAdd, Int.reduceSub, Int.reduceMul, Int.reduceNeg]
    · simp (disch := omega) only [I_m_tape, p_isTape hk, q_in hk, ha, hb, hc, h1, h3, hS.k137, s32_id, b_s32, b_eq0, b_01, l0, l1, true_and, and_true, and_self, true_implies, false_implies, implies_true, forall_const, not_true_eq_false, not_false_eq_true, reduceIte, ite_true, ite_false, reduceCtorEq, forall_eq, Classical.not_not, true_or, or_true, false_or, or_false, and_false, false_and, Int.reduceEq, Int.reduceLT, Int.reduceLE, Int.reduceAdd, Int.reduceSub, Int.reduceMul, Int.reduceNeg]
  · simp (disch := omega) only [I_m_tape, p_isTape hk, ha, h1, hS.k137, s32_id, b_s32, b_eq0, b_01, l0, l1, true_and, and_true, and_self, true_implies, false_implies, implies_true, forall_const, not_true_eq_false, not_false_eq_true, reduceIte, ite_true, ite_false, reduceCtorEq, forall_eq, Classical.not_not, true_or, or_true, false_or, or_false, and_false, false_and, Int.reduceEq, Int.reduceLT, Int.reduceLE, Int.reduceAdd, Int.reduceSub, Int.reduceMul, Int.reduceNeg]
theorem cmd_tape (h : INV n V S) (hn : n ≤ m) (ha : s32 a = a) (hb : s32 b = b) (hc : s32 c = c) : C_x_tape (d + 5) 100 a b c V S (fun r V1 S1 => C_m_tape (d + 5) 137 a b c V1 S1 (fun r' V2 S2 => r = r' ∧ INV m V2 S2)) := by
  have hup := h.up hn
  have hk := h.1
  have hT := h.2.2.2.2.2.2.2.2
  rw [X_tape hk ha hb hc]
  by_cases h1 : 0 ≤ a ∧ a < 6
  · rw [if_neg (fun q => q h1)]
    by_cases h2 : ¬ (-1 ≤ b ∧ b ≤ 4) ∨ (0 ≤ b ∧ 60 < c)
    · rw [if_pos h2, M_tape hk ha hb hc, if_neg (fun q => q h1), if_pos h2]
      exact ⟨rfl, hup⟩
    · rw [if_neg h2]
      by_cases h3 : 0 ≤ b ∧ c < 0
      · rw [if_pos h3, M_tape hk ha hb hc, if_neg (fun q => q h1), if_neg h2, if_pos h3]
        exact ⟨rfl, hup⟩
      · rw [if_neg h3]
        generalize hL : (if b < 0 then (0 : Int) else c) = L
        have hL' : (b < 0 ∧ L = 0) ∨ (0 ≤ b ∧ L = c) := by
          by_cases q : b < 0
          · rw [if_pos q] at hL; omega
          · rw [if_neg q] at hL; omega
        have F : ∀ p q, ¬ ((p = 125 + 2 * a ∧ q ≤ 1) ∨ p = 126 + 2 * a) → zf (up2 (up2 V (125 + 2 * a) 0 b) (125 + 2 * a) 1 L) (126 + 2 * a) 0 60 p q = V p q := by
          intro p q hw
          rw [zf_out (by omega)]
          simp (disch := omega) only [up2_ne]
        have hk1 : SK (zf (up2 (up2 V (125 + 2 * a) 0 b) (125 + 2 * a) 1 L) (126 + 2 * a) 0 60) S := hk.fr (fun p q hd => F p q (by unfold SKD VD at hd; omega))
        rw [M_tape hk1 ha hb hc, if_neg (fun q => q h1), if_neg h2, if_neg h3, hL]
        refine ⟨rfl, h.fr (W := fun p q => (p = 125 + 2 * a ∧ q ≤ 1) ∨ p = 126 + 2 * a ∨ (p = 179 ∧ q = a) ∨ (p = 180 ∧ q = a) ∨ (p = 181 ∧ 60 * a ≤ q ∧ q < 60 * a + 60)) (fun p q hw => ?_) hn (cTP := Or.inr ?_)⟩
        · rw [zf_out (by omega)]
          simp (disch := omega) only [up2_ne]
          exact F p q (by omega)
        · intro t t0 t1
          obtain ⟨s1, s2, s3⟩ := hT t t0 t1
          by_cases e : t = a
          · subst e
            refine ⟨?_, ?_, fun k k0 k1 => ?_⟩
            · simp (disch := omega) only [zf_out, up2_ne, up2_eq, b_s32, b_eq0, b_01, l0, l1, true_and, and_true, and_self, true_implies, false_implies, implies_true, forall_const, not_true_eq_false, not_false_eq_true, reduceIte, ite_true, ite_false, reduceCtorEq, forall_eq, Classical.not_not, true_or, or_true, false_or, or_false, and_false, false_and, Int.reduceEq, Int.reduceLT, Int.reduceLE, Int.reduceAdd, Int.reduceSub, Int.reduceMul, Int.reduceNeg]
              omega
            · simp (disch := omega) only [zf_out, up2_ne, up2_eq, b_s32, b_eq0, b_01, l0, l1, true_and, and_true, and_self, true_implies, false_implies, implies_true, forall_const, not_true_eq_false, not_false_eq_true, reduceIte, ite_true, ite_false, reduceCtorEq, forall_eq, Classical.not_not, true_or, or_true, false_or, or_false, and_false, false_and, Int.reduceEq, Int.reduceLT, Int.reduceLE, Int.reduceAdd, Int.reduceSub, Int.reduceMul, Int.reduceNeg]
              omega
            · rw [zf_out (by omega)]
              simp (disch := omega) only [up2_ne]
              rw [zf_in (by omega), zf_in (by omega)]
          · refine ⟨by simp (disch := omega) only [zf_out, up2_ne]; exact s1, by simp (disch := omega) only [zf_out, up2_ne]; exact s2, fun k k0 k1 => ?_⟩
            simp (disch := omega) only [zf_out, up2_ne]
            exact s3 k k0 k1
  · rw [if_pos h1, M_tape hk ha hb hc, if_pos h1]
    exact ⟨rfl, hup⟩
theorem p_hasPlaces (hS : FS S) (hV : FV V) (t0 : 0 ≤ a) (t1 : a < 6) (r0 : 0 ≤ V (125 + 2 * a) 1) (r1 : V (125 + 2 * a) 1 ≤ 60) (hb : s32 b = b) (hc : s32 c = c) : C_Tape_hasPlaces (d + 1) (125 + 2 * a) b c V S Q ↔ Q (if 0 ≤ b ∧ 0 ≤ c ∧ c ≤ V (125 + 2 * a) 1 - b then 1 else 0) V S := by
  obtain ⟨k1, k2, k3⟩ := hS.tape a t0 t1
  have k4 := (hV.tape a t0 t1).2
  have rb := s32_rng b
  rw [hb] at rb
  rw [I_Tape_hasPlaces, k4, hb, hc]
  by_cases h1 : b < 0
  · simp (disch := omega) only [k1, h1, show ¬ (0 ≤ b ∧ 0 ≤ c ∧ c ≤ V (125 + 2 * a) 1 - b) from by omega, b_s32, b_eq0, b_01, l0, l1, true_and, and_true, and_self, true_implies, false_implies, implies_true, forall_const, not_true_eq_false, not_false_eq_true, reduceIte, ite_true, ite_false, reduceCtorEq, forall_eq, Classical.not_not, true_or, or_true, false_or, or_false, and_false, false_and, Int.reduceEq, Int.reduceLT, Int.reduceLE, Int.reduceAdd, Int.reduceSub, Int.reduceMul, Int.reduceNeg]
  · by_cases h2 : c < 0
    · simp (disch := omega) only [k1, h1, h2, show ¬ (0 ≤ b ∧ 0 ≤ c ∧ c ≤ V (125 + 2 * a) 1 - b) from by omega, b_s32, b_eq0, b_01, l0, l1, true_and, and_true, and_self, true_implies, false_implies, implies_true, forall_const, not_true_eq_false, not_false_eq_true, reduceIte, ite_true, ite_false, reduceCtorEq, forall_eq, Classical.not_not, true_or, or_true, false_or, or_false, and_false, false_and, Int.reduceEq, Int.reduceLT, Int.reduceLE, Int.reduceAdd, Int.reduceSub, Int.reduceMul, Int.reduceNeg]
    · by_cases h3 : V (125 + 2 * a) 1 - b < c
      · simp (disch := omega) only [k1, h1, h2, h3, s32_id, show ¬ (0 ≤ b ∧ 0 ≤ c ∧ c ≤ V (125 + 2 * a) 1 - b) from by omega, b_s32, b_eq0, b_01, l0, l1, true_and, and_true, and_self, true_implies, false_implies, implies_true, forall_const, not_true_eq_false, not_false_eq_true, reduceIte, ite_true, ite_false, reduceCtorEq, forall_eq, Classical.not_not, true_or, or_true, false_or, or_false, and_false, false_and, Int.reduceEq, Int.reduceLT, Int.reduceLE, Int.reduceAdd, Int.reduceSub, Int.reduceMul, Int.reduceNeg]
      · simp (disch := omega) only [k1, k2, k3, h1, h2, h3, s32_id, show (0 ≤ b ∧ 0 ≤ c ∧ c ≤ V (125 + 2 * a) 1 - b) ↔ True from by simp only [iff_true]; omega, show ¬ 60 < V (125 + 2 * a) 1 from by omega, b_s32, b_eq0, b_01, l0, l1, true_and, and_true, and_self, true_implies, false_implies, implies_true, forall_const, not_true_eq_false, not_false_eq_true, reduceIte, ite_true, ite_false, reduceCtorEq, forall_eq, Classical.not_not, true_or, or_true, false_or, or_false, and_false, false_and, Int.reduceEq, Int.reduceLT, Int.reduceLE, Int.reduceAdd, Int.reduceSub, Int.reduceMul, Int.reduceNeg]
theorem cpy_0 {A B : Int} : cpyI V A i B j 0 = V := by
  funext c k
  unfold cpyI
  rw [if_neg (by omega)]
theorem cpy_s {A B : Int} (hAB : A ≠ B) {N : Nat} : cpyI (up2 V B j (V A i)) A (i + 1) B (j + 1) (N : Int) = cpyI V A i B j ((N + 1 : Nat) : Int) := by
  funext c k
  unfold cpyI
  by_cases h : c = B ∧ j ≤ k ∧ k < j + ((N + 1 : Nat) : Int)
  · rw [if_pos h]
    by_cases h2 : k = j
    · rw [if_neg (by omega), up2_eq h.1 h2, h2]; congr 1; omega
    · rw [if_pos (by omega), up2_ne (Or.inl hAB)]; congr 1; omega
  · rw [if_neg h, if_neg (by omega), up2_ne (by omega)]
theorem cpy_out {A B p q N : Int} (h : ¬ (p = B ∧ j ≤ q ∧ q < j + N)) : cpyI V A i B j N p q = V p q := if_neg h
theorem cpy_in {A B p q N : Int} (h : p = B ∧ j ≤ q ∧ q < j + N) : cpyI V A i B j N p q = V A (i + (q - j)) := if_pos h
theorem km_sh1 {g : Cnt} {o : Int} (hS : FS S) (t0 : 0 ≤ t) (t1 : t < 6) (i0 : 0 ≤ i) (c0 : 0 ≤ c) (c1 : c ≤ 60 - i) : ∀ (N : Nat) (V : Mem) (k : Int), FV V → 0 ≤ k → (N : Int) + k = c → (K_m_shift d Q (104, [(2, 137), (0, t), (0, i), (0, o), (0, j), (0, c), (0, k)], [], V, S, g) ↔ K_m_shift d Q (141, [(2, 137), (0, t), (0, i), (0, o), (0, j), (0, c), (0, 0)], [], cpyI V 181 (60 * t + i + k) 182 k (N : Int), S, g)) := by
  intro N
  induction N with
  | zero =>
    intro V k hV k0 hN
    rw [L_m_shift_104, show ((0 : Nat) : Int) = 0 from rfl, cpy_0]
    simp (disch := omega) only [s32_id, show ¬ k < c from by omega, b_s32, b_eq0, b_01, l0, l1, true_and, and_true, and_self, true_implies, false_implies, implies_true, forall_const, not_true_eq_false, not_false_eq_true, reduceIte, ite_true, ite_false, reduceCtorEq, forall_eq, Classical.not_not, true_or, or_true, false_or, or_false, and_false, false_and, Int.reduceEq, Int.reduceLT, Int.reduceLE, Int.reduceAdd, Int.reduceSub, Int.reduceMul, Int.reduceNeg]
  | succ N ih =>
    intro V k hV k0 hN
    rw [L_m_shift_104, ← cpy_s (by omega), show 60 * t + i + k + 1 = 60 * t + i + (k + 1) from by omega, ← ih (up2 V 182 k (V 181 (60 * t + i + k))) (k + 1) (hV.fr (FRM.rf.up (by unfold VD; omega))) (by omega) (by omega)]
    simp (disch := omega) only [hS.k137, hS.k181, hS.n181, hV.r137_71, hS.k182, hS.n182, hV.r137_72, s32_id, show k < c from by omega, k0, show k < 60 from by omega, show 0 ≤ 60 * t + i + k from by omega, show 60 * t + i + k < 360 from by omega, b_s32, b_eq0, b_01, l0, l1, true_and, and_true, and_self, true_implies, false_implies, implies_true, forall_const, not_true_eq_false, not_false_eq_true, reduceIte, ite_true, ite_false, reduceCtorEq, forall_eq, Classical.not_not, true_or, or_true, false_or, or_false, and_false, false_and, Int.reduceEq, Int.reduceLT, Int.reduceLE, Int.reduceAdd, Int.reduceSub, Int.reduceMul, Int.reduceNeg]
theorem km_sh2 {g : Cnt} (hS : FS S) (t0 : 0 ≤ t) (t1 : t < 6) (j0 : 0 ≤ j) (c0 : 0 ≤ c) (c1 : c ≤ 60 - j) : ∀ (N : Nat) (V : Mem) (k : Int) (u1 u2 : XV), FV V → 0 ≤ k → (N : Int) + k = c → (K_m_shift d Q (141, [(2, 137), u1, u2, (0, t), (0, j), (0, c), (0, k)], [], V, S, g) ↔ Q c (cpyI V 182 k 181 (60 * t + j + k) (N : Int)) S) := by
  intro N
  induction N with
  | zero =>
    intro V k u1 u2 hV k0 hN
    rw [L_m_shift_141, show ((0 : Nat) : Int) = 0 from rfl, cpy_0]
    simp (disch := omega) only [s32_id, show ¬ k < c from by omega, b_s32, b_eq0, b_01, l0, l1, true_and, and_true, and_self, true_implies, false_implies, implies_true, forall_const, not_true_eq_false, not_false_eq_true, reduceIte, ite_true, ite_false, reduceCtorEq, forall_eq, Classical.not_not, true_or, or_true, false_or, or_false, and_false, false_and, Int.reduceEq, Int.reduceLT, Int.reduceLE, Int.reduceAdd, Int.reduceSub, Int.reduceMul, Int.reduceNeg]
  | succ N ih =>
    intro V k u1 u2 hV k0 hN
    rw [L_m_shift_141, ← cpy_s (by omega), show 60 * t + j + k + 1 = 60 * t + j + (k + 1) from by omega, ← ih (up2 V 181 (60 * t + j + k) (V 182 k)) (k + 1) (9, 0) (9, 0) (hV.fr (FRM.rf.up (by unfold VD; omega))) (by omega) (by omega)]
    simp (disch := omega) only [hS.k137, hS.k181, hS.n181, hV.r137_71, hS.k182, hS.n182, hV.r137_72, s32_id, show k < c from by omega, k0, show k < 60 from by omega, show 0 ≤ 60 * t + j + k from by omega, show 60 * t + j + k < 360 from by omega, b_s32, b_eq0, b_01, l0, l1, true_and, and_true, and_self, true_implies, false_implies, implies_true, forall_const, not_true_eq_false, not_false_eq_true, reduceIte, ite_true, ite_false, reduceCtorEq, forall_eq, Classical.not_not, true_or, or_true, false_or, or_false, and_false, false_and, Int.reduceEq, Int.reduceLT, Int.reduceLE, Int.reduceAdd, Int.reduceSub, Int.reduceMul, Int.reduceNeg]
theorem X_shift (hk : SK V S) (hT : TAP V) (ha : s32 a = a) (hb : s32 b = b) (hc : s32 c = c) (he : s32 e = e) (hf : s32 f = f) : C_x_shift (d + 5) 100 a b c e f V S Q ↔ if ¬ ((0 ≤ a ∧ a < 6) ∧ (0 ≤ c ∧ c < 6)) then Q (-1) V S else if V 179 a = -1 ∨ V 179 c = -1 then Q (-11) V S else if ¬ V 179 a = V 179 c then Q (-12) V S else if ¬ ((0 ≤ b ∧ 0 ≤ f ∧ f ≤ V 180 a - b) ∧ (0 ≤ e ∧ 0 ≤ f ∧ f ≤ V 180 c - e)) then Q (-13) V S else Q f (cpyI V (126 + 2 * a) b (126 + 2 * c) e f) S := by
  have hS := hk.1
  have hV := hk.2.1
  by_cases h1 : 0 ≤ a ∧ a < 6
  · have g0 : ¬ 125 + 2 * a = -1 := by omega
    by_cases h2 : 0 ≤ c ∧ c < 6
    · have g1 : ¬ 125 + 2 * c = -1 := by omega
      obtain ⟨⟨t1, t2, t3⟩, ⟨t4, t5, t6, t7⟩, t8⟩ := hT a h1.1 h1.2
      obtain ⟨⟨u1, u2, u3⟩, ⟨u4, u5, u6, u7⟩, u8⟩ := hT c h2.1 h2.2
      obtain ⟨k1, k2, k3⟩ := hS.tape a h1.1 h1.2
      obtain ⟨l1, l2, l3⟩ := hS.tape c h2.1 h2.2
      have k4 := (hV.tape a h1.1 h1.2).2
      have l4 := (hV.tape c h2.1 h2.2).2
      by_cases h3 : V 179 a = -1
      · simp (disch := omega) only [I_x_shift, p_tapeAt hk, ha, hc, h1, h2, h3, g0, g1, hS.k100, k1, t1, s32_id, b_s32, b_eq0, b_01, l0, l1, true_and, and_true, and_self, true_implies, false_implies, implies_true, forall_const, not_true_eq_false, not_false_eq_true, reduceIte, ite_true, ite_false, reduceCtorEq, forall_eq, Classical.not_not, true_or, or_true, false_or, or_false, and_false, false_and, Int.reduceEq, Int.reduceLT, Int.reduceLE, Int.reduceAdd, Int.reduceSub, Int.reduceMul, Int.reduceNeg]
      · by_cases h4 : V 179 c = -1
        · simp (disch := omega) only [I_x_shift, p_tapeAt hk, ha, hc, h1, h2, h3, h4, g0, g1, hS.k100, k1, t1, l1, u1, s32_id, b_s32, b_eq0, b_01, l0, l1, true_and, and_true, and_self, true_implies, false_implies, implies_true, forall_const, not_true_eq_false, not_false_eq_true, reduceIte, ite_true, ite_false, reduceCtorEq, forall_eq, Classical.not_not, true_or, or_true, false_or, or_false, and_false, false_and, Int.reduceEq, Int.reduceLT, Int.reduceLE, Int.reduceAdd, Int.reduceSub, Int.reduceMul, Int.reduceNeg]
        · by_cases h5 : V 179 a = V 179 c
          · by_cases p1 : 0 ≤ b ∧ 0 ≤ f ∧ f ≤ V 180 a - b
            · by_cases p2 : 0 ≤ e ∧ 0 ≤ f ∧ f ≤ V 180 c - e
              · simp (disch := omega) only [I_x_shift, p_tapeAt hk, ha, hb, hc, he, hf, h1, h2, h4, h5, g0, g1, hS.k100, k1, k2, k3, k4, l1, l2, l3, l4, t1, u1, s32_id, p_hasPlaces hS hV h1.1 h1.2, p_hasPlaces hS hV h2.1 h2.2, t4, u4, p1, p2, b_s32, b_eq0, b_01, l0, l1, true_and, and_true, and_self, true_implies, false_implies, implies_true, forall_const, not_true_eq_false, not_false_eq_true, reduceIte, ite_true, ite_false, reduceCtorEq, forall_eq, Classical.not_not, true_or, or_true, false_or, or_false, and_false, false_and, Int.reduceEq, Int.reduceLT, Int.reduceLE, Int.reduceAdd, Int.reduceSub, Int.reduceMul, Int.reduceNeg, show b + f ≤ 60 from by omega, show e + f ≤ 60 from by omega]
              · simp (disch := omega) only [I_x_shift, p_tapeAt hk, ha, hb, hc, he, hf, h1, h2, h4, h5, g0, g1, hS.k100, k1, l1, t1, u1, s32_id, p_hasPlaces hS hV h1.1 h1.2, p_hasPlaces hS hV h2.1 h2.2, t4, u4, p1, p2, show ¬ (0 ≤ e ∧ f ≤ V 180 c - e) from by omega, b_s32, b_eq0, b_01, l0, l1, true_and, and_true, and_self, true_implies, false_implies, implies_true, forall_const, not_true_eq_false, not_false_eq_true, reduceIte, ite_true, ite_false, reduceCtorEq, forall_eq, Classical.not_not, true_or, or_true, false_or, or_false, and_false, false_and, Int.reduceEq, Int.reduceLT, Int.reduceLE, Int.reduceAdd, Int.reduceSub, Int.reduceMul, Int.reduceNeg]
            · simp (disch := omega) only [I_x_shift, p_tapeAt hk, ha, hb, hc, he, hf, h1, h2, h4, h5, g0, g1, hS.k100, k1, l1, t1, u1, s32_id, p_hasPlaces hS hV h1.1 h1.2, t4, p1, b_s32, b_eq0, b_01, l0, l1, true_and, and_true, and_self, true_implies, false_implies, implies_true, forall_const, not_true_eq_false, not_false_eq_true, reduceIte, ite_true, ite_false, reduceCtorEq, forall_eq, Classical.not_not, true_or, or_true, false_or, or_false, and_false, false_and, Int.reduceEq, Int.reduceLT, Int.reduceLE, Int.reduceAdd, Int.reduceSub, Int.reduceMul, Int.reduceNeg]
          · simp (disch := omega) only [I_x_shift, p_tapeAt hk, ha, hc, h1, h2, h3, h4, h5, g0, g1, hS.k100, k1, t1, l1, u1, s32_id, b_s32, b_eq0, b_01, l0, l1, true_and, and_true, and_self, true_implies, false_implies, implies_true, forall_const, not_true_eq_false, not_false_eq_true, reduceIte, ite_true, ite_false, reduceCtorEq, forall_eq, Classical.not_not, true_or, or_true, false_or, or_false, and_false, false_and, Int.reduceEq, Int.reduceLT, Int.reduceLE, Int.reduceAdd, Int.reduceSub, Int.reduceMul, Int.reduceNeg]
    · simp (disch := omega) only [I_x_shift, p_tapeAt hk, ha, hc, h1, h2, g0, hS.k100, s32_id, b_s32, b_eq0, b_01, l0, l1, true_and, and_true, and_self, true_implies, false_implies, implies_true, forall_const, not_true_eq_false, not_false_eq_true, reduceIte, ite_true, ite_false, reduceCtorEq, forall_eq, Classical.not_not, true_or, or_true, false_or, or_false, and_false, false_and, Int.reduceEq, Int.reduceLT, Int.reduceLE, Int.reduceAdd, Int.reduceSub, Int.reduceMul, Int.reduceNeg]
  · simp (disch := omega) only [I_x_shift, p_tapeAt hk, ha, hc, h1, hS.k100, s32_id, b_s32, b_eq0, b_01, l0, l1, true_and, and_true, and_self, true_implies, false_implies, implies_true, forall_const, not_true_eq_false, not_false_eq_true, reduceIte, ite_true, ite_false, reduceCtorEq, forall_eq, Classical.not_not, true_or, or_true, false_or, or_false, and_false, false_and, Int.reduceEq, Int.reduceLT, Int.reduceLE, Int.reduceAdd, Int.reduceSub, Int.reduceMul, Int.reduceNeg]
theorem M_shift (hk : SK V S) (hr : ∀ t, 0 ≤ t → t < 6 → (-1 ≤ V 179 t ∧ V 179 t ≤ 4) ∧ 0 ≤ V 180 t ∧ V 180 t ≤ 60) (ha : s32 a = a) (hb : s32 b = b) (hc : s32 c = c) (he : s32 e = e) (hf : s32 f = f) : C_m_shift (d + 5) 137 a b c e f V S Q ↔ if ¬ ((0 ≤ a ∧ a < 6) ∧ (0 ≤ c ∧ c < 6)) then Q (-1) V S else if V 179 a = -1 ∨ V 179 c = -1 then Q (-11) V S else if ¬ V 179 a = V 179 c then Q (-12) V S else if ¬ ((0 ≤ b ∧ 0 ≤ f ∧ f ≤ V 180 a - b) ∧ (0 ≤ e ∧ 0 ≤ f ∧ f ≤ V 180 c - e)) then Q (-13) V S else Q f (cpyI (cpyI V 181 (60 * a + b) 182 0 f) 182 0 181 (60 * c + e) f) S := by
  have hS := hk.1
  have hV := hk.2.1
  have rf := s32_rng f
  rw [hf] at rf
  by_cases h1 : 0 ≤ a ∧ a < 6
  · by_cases h2 : 0 ≤ c ∧ c < 6
    · obtain ⟨t1, t2⟩ := hr a h1.1 h1.2
      obtain ⟨u1, u2⟩ := hr c h2.1 h2.2
      by_cases h3 : V 179 a = -1
      · simp (disch := omega) only [I_m_shift, p_isTape hk, ha, hc, h1, h2, h3, hS.k137, s32_id, hS.k179, hS.n179, hV.r137_69, b_s32, b_eq0, b_01, l0, l1, true_and, and_true, and_self, true_implies, false_implies, implies_true, forall_const, not_true_eq_false, not_false_eq_true, reduceIte, ite_true, ite_false, reduceCtorEq, forall_eq, Classical.not_not, true_or, or_true, false_or, or_false, and_false, false_and, Int.reduceEq, Int.reduceLT, Int.reduceLE, Int.reduceAdd, Int.reduceSub, Int.reduceMul, Int.reduceNeg]
      · have h30 : ¬ V 179 a < 0 := by omega
        by_cases h4 : V 179 c = -1
        · simp (disch := omega) only [I_m_shift, p_isTape hk, ha, hc, h1, h2, h3, h30, h4, hS.k137, s32_id, hS.k179, hS.n179, hV.r137_69, b_s32, b_eq0, b_01, l0, l1, true_and, and_true, and_self, true_implies, false_implies, implies_true, forall_const, not_true_eq_false, not_false_eq_true, reduceIte, ite_true, ite_false, reduceCtorEq, forall_eq, Classical.not_not, true_or, or_true, false_or, or_false, and_false, false_and, Int.reduceEq, Int.reduceLT, Int.reduceLE, Int.reduceAdd, Int.reduceSub, Int.reduceMul, Int.reduceNeg]
        · have h40 : ¬ V 179 c < 0 := by omega
          by_cases h5 : V 179 a = V 179 c
          · by_cases q1 : f < 0
            · have h6 : ¬ ((0 ≤ b ∧ 0 ≤ f ∧ f ≤ V 180 a - b) ∧ (0 ≤ e ∧ 0 ≤ f ∧ f ≤ V 180 c - e)) := by omega
              simp (disch := omega) only [I_m_shift, p_isTape hk, ha, hb, hc, he, hf, h1, h2, h4, h40, h5, h6, q1, hS.k137, s32_id, hS.k179, hS.n179, hV.r137_69, b_s32, b_eq0, b_01, l0, l1, true_and, and_true, and_self, true_implies, false_implies, implies_true, forall_const, not_true_eq_false, not_false_eq_true, reduceIte, ite_true, ite_false, reduceCtorEq, forall_eq, Classical.not_not, true_or, or_true, false_or, or_false, and_false, false_and, Int.reduceEq, Int.reduceLT, Int.reduceLE, Int.reduceAdd, Int.reduceSub, Int.reduceMul, Int.reduceNeg]
            · by_cases q2 : b < 0
              · have h6 : ¬ ((0 ≤ b ∧ 0 ≤ f ∧ f ≤ V 180 a - b) ∧ (0 ≤ e ∧ 0 ≤ f ∧ f ≤ V 180 c - e)) := by omega
                simp (disch := omega) only [I_m_shift, p_isTape hk, ha, hb, hc, he, hf, h1, h2, h4, h40, h5, h6, q1, q2, hS.k137, s32_id, hS.k179, hS.n179, hV.r137_69, b_s32, b_eq0, b_01, l0, l1, true_and, and_true, and_self, true_implies, false_implies, implies_true, forall_const, not_true_eq_false, not_false_eq_true, reduceIte, ite_true, ite_false, reduceCtorEq, forall_eq, Classical.not_not, true_or, or_true, false_or, or_false, and_false, false_and, Int.reduceEq, Int.reduceLT, Int.reduceLE, Int.reduceAdd, Int.reduceSub, Int.reduceMul, Int.reduceNeg]
              · by_cases q3 : e < 0
                · have h6 : ¬ ((0 ≤ b ∧ 0 ≤ f ∧ f ≤ V 180 a - b) ∧ (0 ≤ e ∧ 0 ≤ f ∧ f ≤ V 180 c - e)) := by omega
                  simp (disch := omega) only [I_m_shift, p_isTape hk, ha, hb, hc, he, hf, h1, h2, h4, h40, h5, h6, q1, q2, q3, hS.k137, s32_id, hS.k179, hS.n179, hV.r137_69, b_s32, b_eq0, b_01, l0, l1, true_and, and_true, and_self, true_implies, false_implies, implies_true, forall_const, not_true_eq_false, not_false_eq_true, reduceIte, ite_true, ite_false, reduceCtorEq, forall_eq, Classical.not_not, true_or, or_true, false_or, or_false, and_false, false_and, Int.reduceEq, Int.reduceLT, Int.reduceLE, Int.reduceAdd, Int.reduceSub, Int.reduceMul, Int.reduceNeg]
                · by_cases q4 : V 180 a - f < b
                  · have h6 : ¬ ((0 ≤ b ∧ 0 ≤ f ∧ f ≤ V 180 a - b) ∧ (0 ≤ e ∧ 0 ≤ f ∧ f ≤ V 180 c - e)) := by omega
                    simp (disch := omega) only [I_m_shift, p_isTape hk, ha, hb, hc, he, hf, h1, h2, h4, h40, h5, h6, q1, q2, q3, q4, hS.k137, s32_id, hS.k179, hS.n179, hV.r137_69, hS.k180, hS.n180, hV.r137_70, b_s32, b_eq0, b_01, l0, l1, true_and, and_true, and_self, true_implies, false_implies, implies_true, forall_const, not_true_eq_false, not_false_eq_true, reduceIte, ite_true, ite_false, reduceCtorEq, forall_eq, Classical.not_not, true_or, or_true, false_or, or_false, and_false, false_and, Int.reduceEq, Int.reduceLT, Int.reduceLE, Int.reduceAdd, Int.reduceSub, Int.reduceMul, Int.reduceNeg]
                  · by_cases q5 : V 180 c - f < e
                    · have h6 : ¬ ((0 ≤ b ∧ 0 ≤ f ∧ f ≤ V 180 a - b) ∧ (0 ≤ e ∧ 0 ≤ f ∧ f ≤ V 180 c - e)) := by omega
                      simp (disch := omega) only [I_m_shift, p_isTape hk, ha, hb, hc, he, hf, h1, h2, h4, h40, h5, h6, q1, q2, q3, q4, q5, hS.k137, s32_id, hS.k179, hS.n179, hV.r137_69, hS.k180, hS.n180, hV.r137_70, b_s32, b_eq0, b_01, l0, l1, true_and, and_true, and_self, true_implies, false_implies, implies_true, forall_const, not_true_eq_false, not_false_eq_true, reduceIte, ite_true, ite_false, reduceCtorEq, forall_eq, Classical.not_not, true_or, or_true, false_or, or_false, and_false, false_and, Int.reduceEq, Int.reduceLT, Int.reduceLE, Int.reduceAdd, Int.reduceSub, Int.reduceMul, Int.reduceNeg]
                    · have h6 : ((0 ≤ b ∧ 0 ≤ f ∧ f ≤ V 180 a - b) ∧ (0 ≤ e ∧ 0 ≤ f ∧ f ≤ V 180 c - e)) := by omega
                      rw [if_neg (fun q => q ⟨h1, h2⟩), if_neg (by omega), if_neg (fun q => q h5), if_neg (fun q => q h6)]
                      have s1 := fun (Q : Int → Mem → Shp → Prop) => km_sh1 (d := d + 4) (Q := Q) (g := (0, 0)) (t := a) (i := b) (j := e) (o := c) (c := f) hS h1.1 h1.2 h6.1.1 h6.1.2.1 (by omega) f.toNat V 0 hV (by omega) (by omega)
                      have hV2 : FV (cpyI V 181 (60 * a + b + 0) 182 0 ((f.toNat : Nat) : Int)) := hV.fr (fun p q hd => cpy_out (by unfold VD at hd; omega))
                      have s2 := fun (Q : Int → Mem → Shp → Prop) => km_sh2 (d := d + 4) (Q := Q) (g := (0, 0)) (t := c) (j := e) (c := f) hS h2.1 h2.2 h6.2.1 h6.2.2.1 (by omega) f.toNat (cpyI V 181 (60 * a + b + 0) 182 0 ((f.toNat : Nat) : Int)) 0 (0, a) (0, b) hV2 (by omega) (by omega)
                      have ef : ((f.toNat : Nat) : Int) = f := by omega
                      rw [ef, Int.add_zero] at s1 s2
                      rw [Int.add_zero] at s2
                      rw [← s2 Q, ← s1 Q]
                      simp (disch := omega) only [I_m_shift, p_isTape hk, ha, hb, hc, he, hf, h1, h2, h4, h40, h5, q1, q2, q3, q4, q5, hS.k137, s32_id, hS.k179, hS.n179, hV.r137_69, hS.k180, hS.n180, hV.r137_70, b_s32, b_eq0, b_01, l0, l1, true_and, and_true, and_self, true_implies, false_implies, implies_true, forall_const, not_true_eq_false, not_false_eq_true, reduceIte, ite_true, ite_false, reduceCtorEq, forall_eq, Classical.not_not, true_or, or_true, false_or, or_false, and_false, false_and, Int.reduceEq, Int.reduceLT, Int.reduceLE, Int.reduceAdd, Int.reduceSub, Int.reduceMul, Int.reduceNeg]
          · simp (disch := omega) only [I_m_shift, p_isTape hk, ha, hc, h1, h2, h3, h30, h4, h40, h5, hS.k137, s32_id, hS.k179, hS.n179, hV.r137_69, b_s32, b_eq0, b_01, l0, l1, true_and, and_true, and_self, true_implies, false_implies, implies_true, forall_const, not_true_eq_false, not_false_eq_true, reduceIte, ite_true, ite_false, reduceCtorEq, forall_eq, Classical.not_not, true_or, or_true, false_or, or_false, and_false, false_and, Int.reduceEq, Int.reduceLT, Int.reduceLE, Int.reduceAdd, Int.reduceSub, Int.reduceMul, Int.reduceNeg]
    · simp (disch := omega) only [I_m_shift, p_isTape hk, ha, hc, h1, h2, hS.k137, s32_id, b_s32, b_eq0, b_01, l0, l1, true_and, and_true, and_self, true_implies, false_implies, implies_true, forall_const, not_true_eq_false, not_false_eq_true, reduceIte, ite_true, ite_false, reduceCtorEq, forall_eq, Classical.not_not, true_or, or_true, false_or, or_false, and_false, false_and, Int.reduceEq, Int.reduceLT, Int.reduceLE, Int.reduceAdd, Int.reduceSub, Int.reduceMul, Int.reduceNeg]
  · simp (disch := omega) only [I_m_shift, p_isTape hk, ha, hc, h1, hS.k137, s32_id, b_s32, b_eq0, b_01, l0, l1, true_and, and_true, and_self, true_implies, false_implies, implies_true, forall_const, not_true_eq_false, not_false_eq_true, reduceIte, ite_true, ite_false, reduceCtorEq, forall_eq, Classical.not_not, true_or, or_true, false_or, or_false, and_false, false_and, Int.reduceEq, Int.reduceLT, Int.reduceLE, Int.reduceAdd, Int.reduceSub, Int.reduceMul, Int.reduceNeg]
theorem cmd_shift (h : INV n V S) (hn : n ≤ m) (ha : s32 a = a) (hb : s32 b = b) (hc : s32 c = c) (he : s32 e = e) (hf : s32 f = f) : C_x_shift (d + 5) 100 a b c e f V S (fun r V1 S1 => C_m_shift (d + 5) 137 a b c e f V1 S1 (fun r' V2 S2 => r = r' ∧ INV m V2 S2)) := by
  have hup := h.up hn
  have hk := h.1
  have hT := h.2.2.2.2.2.2.2.2
  have hr : ∀ t, 0 ≤ t → t < 6 → (-1 ≤ V 179 t ∧ V 179 t ≤ 4) ∧ 0 ≤ V 180 t ∧ V 180 t ≤ 60 := fun t t0 t1 => by
    obtain ⟨⟨q1, q2, q3⟩, ⟨q4, q5, q6, q7⟩, -⟩ := hT t t0 t1
    omega
  rw [X_shift hk hT ha hb hc he hf]
  by_cases h1 : (0 ≤ a ∧ a < 6) ∧ (0 ≤ c ∧ c < 6)
  · rw [if_neg (fun q => q h1)]
    by_cases h2 : V 179 a = -1 ∨ V 179 c = -1
    · rw [if_pos h2, M_shift hk hr ha hb hc he hf, if_neg (fun q => q h1), if_pos h2]
      exact ⟨rfl, hup⟩
    · rw [if_neg h2]
      by_cases h3 : V 179 a = V 179 c
      · rw [if_neg (fun q => q h3)]
        by_cases h4 : (0 ≤ b ∧ 0 ≤ f ∧ f ≤ V 180 a - b) ∧ (0 ≤ e ∧ 0 ≤ f ∧ f ≤ V 180 c - e)
        · rw [if_neg (fun q => q h4)]
          obtain ⟨⟨t1, t2, t3⟩, ⟨t4, t5, t6, t7⟩, t8⟩ := hT a h1.1.1 h1.1.2
          obtain ⟨⟨u1, u2, u3⟩, ⟨u4, u5, u6, u7⟩, u8⟩ := hT c h1.2.1 h1.2.2
          generalize hV1 : cpyI V (126 + 2 * a) b (126 + 2 * c) e f = V1
          have F : ∀ p q, ¬ (p = 126 + 2 * c) → V1 p q = V p q := by
            intro p q hw
            subst hV1
            exact cpy_out (by omega)
          have N : ∀ k, 0 ≤ k → k < 60 → V1 (126 + 2 * c) k = if e ≤ k ∧ k < e + f then V 181 (60 * a + (b + (k - e))) else V 181 (60 * c + k) := by
            intro k k0 k1'
            subst hV1
            by_cases q : e ≤ k ∧ k < e + f
            · rw [if_pos q, cpy_in (by omega)]
              exact t8 _ (by omega) (by omega)
            · rw [if_neg q, cpy_out (by omega)]
              exact u8 k k0 k1'
          have hk1 : SK V1 S := hk.fr (fun p q hd => F p q (by unfold SKD VD at hd; omega))
          have e0 : ∀ t, V1 179 t = V 179 t := fun t => F _ _ (by omega)
          have e1 : ∀ t, V1 180 t = V 180 t := fun t => F _ _ (by omega)
          rw [M_shift hk1 (by simp only [e0, e1]; exact hr) ha hb hc he hf]
          simp only [e0, e1]
          rw [if_neg (fun q => q h1), if_neg h2, if_neg (fun q => q h3), if_neg (fun q => q h4)]
          have R : ∀ p q, ¬ (p = 126 + 2 * c ∨ p = 182 ∨ (p = 181 ∧ 60 * c ≤ q ∧ q < 60 * c + 60)) → cpyI (cpyI V1 181 (60 * a + b) 182 0 f) 182 0 181 (60 * c + e) f p q = V p q := fun p q hw => by
            rw [cpy_out (by omega), cpy_out (by omega)]
            exact F p q (by omega)
          refine ⟨trivial, h.fr (W := fun p q => p = 126 + 2 * c ∨ p = 182 ∨ (p = 181 ∧ 60 * c ≤ q ∧ q < 60 * c + 60)) R hn (cTP := Or.inr ?_)⟩
          intro t t0 t1'
          obtain ⟨s1, s2, s3⟩ := hT t t0 t1'
          by_cases ec : t = c
          · subst ec
            refine ⟨?_, ?_, fun k k0 k1' => ?_⟩
            · simp (disch := omega) only [R]; exact s1
            · simp (disch := omega) only [R]; exact s2
            · rw [cpy_out (p := 126 + 2 * t) (by omega), cpy_out (p := 126 + 2 * t) (by omega), N k k0 k1']
              by_cases q : e ≤ k ∧ k < e + f
              · rw [if_pos q, cpy_in (by omega), cpy_in (by omega), F _ _ (by omega)]
                congr 1
                omega
              · rw [if_neg q, cpy_out (by omega), cpy_out (by omega), F _ _ (by omega)]
          · refine ⟨by simp (disch := omega) only [R]; exact s1, by simp (disch := omega) only [R]; exact s2, fun k k0 k1' => ?_⟩
            simp (disch := omega) only [R]
            exact s3 k k0 k1'
        · rw [if_pos h4, M_shift hk hr ha hb hc he hf, if_neg (fun q => q h1), if_neg h2, if_neg (fun q => q h3), if_pos h4]
          exact ⟨rfl, hup⟩
      · rw [if_pos h3, M_shift hk hr ha hb hc he hf, if_neg (fun q => q h1), if_neg h2, if_pos h3]
        exact ⟨rfl, hup⟩
  · rw [if_pos h1, M_shift hk hr ha hb hc he hf, if_pos h1]
    exact ⟨rfl, hup⟩
end TPS
