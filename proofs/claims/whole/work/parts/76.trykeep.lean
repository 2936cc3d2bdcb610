/-! a trial: meters beside, what is kept and put back -/
def cpb (V : Mem) (L : Int) : Mem := fun p q => if 1000 ≤ p ∧ p < 1000 + 10 * L ∧ p % 10 = 2 ∧ 0 ≤ q ∧ q ≤ 3 then V (p - 1) q else V p q
def kpa (q : Int) : Int := if q % 8 = 0 then 144 else if q % 8 = 1 then 146 else if q % 8 = 2 then 147 else 148
def kpf (V : Mem) (L : Int) : Mem := fun p q => if p = 177 ∧ 0 ≤ q ∧ q < 8 * L ∧ q % 8 ≤ 3 then V (kpa q) (q / 8) else V p q
def pba (p : Int) : Int := if p = 144 then 0 else if p = 146 then 1 else if p = 147 then 2 else 3
def pbf (V : Mem) (L : Int) : Mem := fun p q => if (p = 144 ∨ (146 ≤ p ∧ p ≤ 148)) ∧ 0 ≤ q ∧ q < L then V 177 (8 * q + pba p) else V p q
section KP
variable {d : Nat} {L p q k set last : Int} {V : Mem} {S : Shp} {Q : Int → Mem → Shp → Prop} {U : Mem → Shp → Prop}
theorem cpb_ne (h : ¬ (1000 ≤ p ∧ p < 1000 + 10 * L ∧ p % 10 = 2 ∧ 0 ≤ q ∧ q ≤ 3)) : cpb V L p q = V p q := if_neg h
theorem cpb_eq (h : 1000 ≤ p ∧ p < 1000 + 10 * L ∧ p % 10 = 2 ∧ 0 ≤ q ∧ q ≤ 3) : cpb V L p q = V (p - 1) q := if_pos h
theorem cpb_s (h : 0 ≤ k) : up2 (up2 (up2 (up2 (cpb V k) (1002 + 10 * k) 0 (V (1001 + 10 * k) 0)) (1002 + 10 * k) 1 (V (1001 + 10 * k) 1)) (1002 + 10 * k) 2 (V (1001 + 10 * k) 2)) (1002 + 10 * k) 3 (V (1001 + 10 * k) 3) = cpb V (k + 1) := by
  funext p q
  by_cases c : p = 1002 + 10 * k ∧ 0 ≤ q ∧ q ≤ 3
  · obtain ⟨c1, c2, c3⟩ := c
    subst c1
    rw [cpb_eq (by omega), show 1002 + 10 * k - 1 = 1001 + 10 * k from by omega]
    rcases (by omega : q = 0 ∨ q = 1 ∨ q = 2 ∨ q = 3) with e | e | e | e <;> subst e <;> simp (disch := omega) only [up2_ne, up2_eq]
  · rw [up2_ne (by omega), up2_ne (by omega), up2_ne (by omega), up2_ne (by omega)]
    by_cases c2 : 1000 ≤ p ∧ p < 1000 + 10 * k ∧ p % 10 = 2 ∧ 0 ≤ q ∧ q ≤ 3
    · rw [cpb_eq c2, cpb_eq (by omega)]
    · rw [cpb_ne c2, cpb_ne (by omega)]
theorem cpb_0 : cpb V 0 = V := by
  funext p q
  exact cpb_ne (by omega)
theorem c_beside {g : Cnt} (hS : FS S) (hV : FV V) (h11 : V 100 11 = L ∧ 0 ≤ L ∧ L ≤ 20) (hl : ∀ i, 0 ≤ i → i < L → LSK V S i) (hQ : ∀ u5 u6, K_x_litDays (d + 15) Q (49, [(2, 100), (0, set), (0, last), (0, 0), (0, V 100 12), u5, u6], [], cpb V L, S, g)) : ∀ (N : Nat) (k : Int) (u4 u5 u6 : XV), (N : Int) + k = L → 0 ≤ k → K_x_litDays (d + 15) Q (2, [(2, 100), (0, set), (0, last), (0, k), u4, u5, u6], [], cpb V k, S, g) := by
  obtain ⟨a1, a2, a3⟩ := h11
  have sL : s32 L = L := s32_id (by omega) (by omega)
  have hF : ∀ k, FV (cpb V k) := fun k => hV.fr (fun p q hd => cpb_ne (by unfold VD at hd; omega))
  intro N
  induction N with
  | zero =>
    intro k u4 u5 u6 hN k0
    have e : k = L := by omega
    subst e
    have e11 : cpb V k 100 11 = k := (cpb_ne (by omega)).trans a1
    have e12 : cpb V k 100 12 = V 100 12 := cpb_ne (by omega)
    rw [L_x_litDays_2]
    simp (disch := omega) only [hS.k100, e11, e12, sL, Int.lt_irrefl, hQ, b_s32, b_eq0, b_01, l0, l1, true_and, and_true, and_self, true_implies, false_implies, implies_true, forall_const, not_true_eq_false, not_false_eq_true, reduceIte, ite_true, ite_false, reduceCtorEq, forall_eq, Classical.not_not, true_or, or_true, false_or, or_false, and_false, false_and, Int.reduceEq, Int.reduceLT, Int.reduceLE, Int.reduceAdd, Int.reduceSub, Int.reduceMul, Int.reduceNeg]
  | succ N ih =>
    intro k u4 u5 u6 hN k0
    have ih' := fun u4 u5 u6 => ih (k + 1) u4 u5 u6 (by omega) (by omega)
    rw [← cpb_s k0] at ih'
    obtain ⟨⟨q0, q1, q2, -⟩, r1, r2, r4, r5, -⟩ := hl k k0 (by omega)
    have sk : s32 k = k := s32_id (by omega) (by omega)
    have e11 : cpb V k 100 11 = L := (cpb_ne (by omega)).trans a1
    have ql := fun (Q : Int → Mem → Shp → Prop) => q_lampAt (d := d + 14) (a := k) (L := L) (V := cpb V k) (S := S) (Q := Q) hS (hF k) ⟨e11, a2, a3⟩ (fun i i0 i1 => (cpb_ne (by omega)).trans (hl i i0 i1).2.1)
    have e4 : cpb V k (1000 + 10 * k) 4 = 1001 + 10 * k := (cpb_ne (by omega)).trans r4
    have e5 : cpb V k (1000 + 10 * k) 5 = 1002 + 10 * k := (cpb_ne (by omega)).trans r5
    have em : ∀ j, cpb V k (1001 + 10 * k) j = V (1001 + 10 * k) j := fun j => cpb_ne (by omega)
    rw [L_x_litDays_2]
    simp (disch := omega) only [hS.k100, e11, sL, sk, ql, k0, show k < L from by omega, show ¬ 1000 + 10 * k = -1 from by omega, q0, e4, e5, I_Meter_copy, q1, q2, em, up2_ne, ih', b_s32, b_eq0, b_01, l0, l1, true_and, and_true, and_self, true_implies, false_implies, implies_true, forall_const, not_true_eq_false, not_false_eq_true, reduceIte, ite_true, ite_false, reduceCtorEq, forall_eq, Classical.not_not, true_or, or_true, false_or, or_false, and_false, false_and, Int.reduceEq, Int.reduceLT, Int.reduceLE, Int.reduceAdd, Int.reduceSub, Int.reduceMul, Int.reduceNeg]
theorem kpf_ne (h : ¬ (p = 177 ∧ 0 ≤ q ∧ q < 8 * L ∧ q % 8 ≤ 3)) : kpf V L p q = V p q := if_neg h
theorem kpf_eq (h0 : 0 ≤ q) (h1 : q < 8 * L) (h2 : q % 8 ≤ 3) : kpf V L 177 q = V (kpa q) (q / 8) := if_pos ⟨rfl, h0, h1, h2⟩
theorem kpf_0 : kpf V 0 = V := by
  funext p q
  exact kpf_ne (by omega)
theorem kpf_s (h : 0 ≤ k) : up2 (up2 (up2 (up2 (kpf V k) 177 (8 * k) (V 144 k)) 177 (8 * k + 1) (V 146 k)) 177 (8 * k + 2) (V 147 k)) 177 (8 * k + 3) (V 148 k) = kpf V (k + 1) := by
  funext p q
  by_cases c : p = 177 ∧ 8 * k ≤ q ∧ q ≤ 8 * k + 3
  · obtain ⟨c1, c2, c3⟩ := c
    subst c1
    rw [kpf_eq (by omega) (by omega) (by omega)]
    have e : q / 8 = k := by omega
    rw [e]
    unfold kpa
    rcases (by omega : q = 8 * k ∨ q = 8 * k + 1 ∨ q = 8 * k + 2 ∨ q = 8 * k + 3) with x | x | x | x <;> subst x
    · rw [if_pos (by omega)]; simp (disch := omega) only [up2_ne, up2_eq]
    · rw [if_neg (by omega), if_pos (by omega)]; simp (disch := omega) only [up2_ne, up2_eq]
    · rw [if_neg (by omega), if_neg (by omega), if_pos (by omega)]; simp (disch := omega) only [up2_ne, up2_eq]
    · rw [if_neg (by omega), if_neg (by omega), if_neg (by omega)]; simp (disch := omega) only [up2_ne, up2_eq]
  · rw [up2_ne (by omega), up2_ne (by omega), up2_ne (by omega), up2_ne (by omega)]
    by_cases c2 : p = 177 ∧ 0 ≤ q ∧ q < 8 * k ∧ q % 8 ≤ 3
    · obtain ⟨c3, c4⟩ := c2
      subst c3
      rw [kpf_eq c4.1 c4.2.1 c4.2.2, kpf_eq c4.1 (by omega) c4.2.2]
    · rw [kpf_ne c2, kpf_ne (by omega)]
theorem m_keep_l {g : Cnt} (hS : FS S) (hV : FV V) (h2 : V 137 2 = L ∧ 0 ≤ L ∧ L ≤ 20) (hU : U (kpf V L) S) : ∀ (N : Nat) (k : Int), (N : Int) + k = L → 0 ≤ k → K_m_keep d U (2, [(2, 137), (0, k)], [], kpf V k, S, g) := by
  obtain ⟨a1, a2, a3⟩ := h2
  have hV0 := hV
  have sL : s32 L = L := s32_id (by omega) (by omega)
  have hF : ∀ k, FV (kpf V k) := fun k => hV0.fr (fun p q hd => kpf_ne (by unfold VD at hd; omega))
  intro N
  induction N with
  | zero =>
    intro k hN k0
    have e : k = L := by omega
    subst e
    have e2 : kpf V k 137 2 = k := (kpf_ne (by omega)).trans a1
    rw [L_m_keep_2]
    simp (disch := omega) only [hS.k137, e2, sL, Int.lt_irrefl, hU, b_s32, b_eq0, b_01, l0, l1, true_and, and_true, and_self, true_implies, false_implies, implies_true, forall_const, not_true_eq_false, not_false_eq_true, reduceIte, ite_true, ite_false, reduceCtorEq, forall_eq, Classical.not_not, true_or, or_true, false_or, or_false, and_false, false_and, Int.reduceEq, Int.reduceLT, Int.reduceLE, Int.reduceAdd, Int.reduceSub, Int.reduceMul, Int.reduceNeg]
  | succ N ih =>
    intro k hN k0
    have ih' := ih (k + 1) (by omega) (by omega)
    rw [← kpf_s k0] at ih'
    have hV := hF k
    have sk : s32 k = k := s32_id (by omega) (by omega)
    have e2 : kpf V k 137 2 = L := (kpf_ne (by omega)).trans a1
    have f : ∀ p, p ≠ 177 → kpf V k p k = V p k := fun p hp => kpf_ne (by omega)
    rw [L_m_keep_2]
    simp (disch := omega) only [hS.k137, hS.k144, hS.n144, hV.r137_9, hS.k146, hS.n146, hV.r137_11, hS.k147, hS.n147, hV.r137_12, hS.k148, hS.n148, hV.r137_13, hS.k177, hS.n177, hV.r137_63, e2, sL, sk, k0, show k < L from by omega, show k < 20 from by omega, s32_id (x := 8 * k), s32_id (x := 8 * k + 1), s32_id (x := 8 * k + 2), s32_id (x := 8 * k + 3), f, up2_ne, show 0 ≤ 8 * k from by omega, show 8 * k < 160 from by omega, show 0 ≤ 8 * k + 1 from by omega, show 8 * k + 1 < 160 from by omega, show 0 ≤ 8 * k + 2 from by omega, show 8 * k + 2 < 160 from by omega, show 0 ≤ 8 * k + 3 from by omega, show 8 * k + 3 < 160 from by omega, ih', b_s32, b_eq0, b_01, l0, l1, true_and, and_true, and_self, true_implies, false_implies, implies_true, forall_const, not_true_eq_false, not_false_eq_true, reduceIte, ite_true, ite_false, reduceCtorEq, forall_eq, Classical.not_not, true_or, or_true, false_or, or_false, and_false, false_and, Int.reduceEq, Int.reduceLT, Int.reduceLE, Int.reduceAdd, Int.reduceSub, Int.reduceMul, Int.reduceNeg]
end KP
