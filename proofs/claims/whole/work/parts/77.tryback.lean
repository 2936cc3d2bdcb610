section PB2
variable {d : Nat} {L p q k set n a t : Int} {V : Mem} {S : Shp} {Q : Int → Mem → Shp → Prop} {U : Mem → Shp → Prop}
theorem pbf_ne (h : ¬ ((p = 144 ∨ (146 ≤ p ∧ p ≤ 148)) ∧ 0 ≤ q ∧ q < L)) : pbf V L p q = V p q := if_neg h
theorem pbf_eq (h : (p = 144 ∨ (146 ≤ p ∧ p ≤ 148)) ∧ 0 ≤ q ∧ q < L) : pbf V L p q = V 177 (8 * q + pba p) := if_pos h
theorem pbf_0 : pbf V 0 = V := by
  funext p q
  exact pbf_ne (by omega)
theorem pbf_s (h : 0 ≤ k) : up2 (up2 (up2 (up2 (pbf V k) 144 k (V 177 (8 * k))) 146 k (V 177 (8 * k + 1))) 147 k (V 177 (8 * k + 2))) 148 k (V 177 (8 * k + 3)) = pbf V (k + 1) := by
  funext p q
  by_cases c : (p = 144 ∨ (146 ≤ p ∧ p ≤ 148)) ∧ q = k
  · obtain ⟨c1, c2⟩ := c
    subst c2
    rw [pbf_eq ⟨c1, h, by omega⟩]
    unfold pba
    rcases (by omega : p = 144 ∨ p = 146 ∨ p = 147 ∨ p = 148) with x | x | x | x <;> subst x
    · rw [if_pos rfl, Int.add_zero]; simp (disch := omega) only [up2_ne, up2_eq]
    · rw [if_neg (by omega), if_pos rfl]; simp (disch := omega) only [up2_ne, up2_eq]
    · rw [if_neg (by omega), if_neg (by omega), if_pos rfl]; simp (disch := omega) only [up2_ne, up2_eq]
    · rw [if_neg (by omega), if_neg (by omega), if_neg (by omega)]; simp (disch := omega) only [up2_ne, up2_eq]
  · rw [up2_ne (by omega), up2_ne (by omega), up2_ne (by omega), up2_ne (by omega)]
    by_cases c2 : (p = 144 ∨ (146 ≤ p ∧ p ≤ 148)) ∧ 0 ≤ q ∧ q < k
    · rw [pbf_eq c2, pbf_eq ⟨c2.1, c2.2.1, by omega⟩]
    · rw [pbf_ne c2, pbf_ne (by omega)]
theorem m_back_l {g : Cnt} (hS : FS S) (hV : FV V) (h2 : V 137 2 = L ∧ 0 ≤ L ∧ L ≤ 20) (hU : U (pbf V L) S) : ∀ (N : Nat) (k : Int), (N : Int) + k = L → 0 ≤ k → K_m_putBack d U (2, [(2, 137), (0, k)], [], pbf V k, S, g) := by
  obtain ⟨a1, a2, a3⟩ := h2
  have hV0 := hV
  have sL : s32 L = L := s32_id (by omega) (by omega)
  have hF : ∀ k, FV (pbf V k) := fun k => hV0.fr (fun p q hd => pbf_ne (by unfold VD at hd; omega))
  intro N
  induction N with
  | zero =>
    intro k hN k0
    have e : k = L := by omega
    subst e
    have e2 : pbf V k 137 2 = k := (pbf_ne (by omega)).trans a1
    rw [L_m_putBack_2]
    simp (disch := omega) only [hS.k137, e2, sL, Int.lt_irrefl, hU, b_s32, b_eq0, b_01, l0, l1, true_and, and_true, and_self, true_implies, false_implies, implies_true, forall_const, not_true_eq_false, not_false_eq_true, reduceIte, ite_true, ite_false, reduceCtorEq, forall_eq, Classical.not_not, true_or, or_true, false_or, or_false, and_false, false_and, Int.reduceEq, Int.reduceLT, Int.reduceLE, Int.reduceAdd, Int.reduceSub, Int.reduceMul, Int.reduceNeg]
  | succ N ih =>
    intro k hN k0
    have ih' := ih (k + 1) (by omega) (by omega)
    rw [← pbf_s k0] at ih'
    have hV := hF k
    have sk : s32 k = k := s32_id (by omega) (by omega)
    have e2 : pbf V k 137 2 = L := (pbf_ne (by omega)).trans a1
    have f : ∀ j, pbf V k 177 j = V 177 j := fun j => pbf_ne (by omega)
    rw [L_m_putBack_2]
    simp (disch := omega) only [hS.k137, hS.k144, hS.n144, hV.r137_9, hS.k146, hS.n146, hV.r137_11, hS.k147, hS.n147, hV.r137_12, hS.k148, hS.n148, hV.r137_13, hS.k177, hS.n177, hV.r137_63, e2, sL, sk, k0, show k < L from by omega, show k < 20 from by omega, s32_id (x := 8 * k), s32_id (x := 8 * k + 1), s32_id (x := 8 * k + 2), s32_id (x := 8 * k + 3), f, up2_ne, show 0 ≤ 8 * k from by omega, show 8 * k < 160 from by omega, show 0 ≤ 8 * k + 1 from by omega, show 8 * k + 1 < 160 from by omega, show 0 ≤ 8 * k + 2 from by omega, show 8 * k + 2 < 160 from by omega, show 0 ≤ 8 * k + 3 from by omega, show 8 * k + 3 < 160 from by omega, ih', b_s32, b_eq0, b_01, l0, l1, true_and, and_true, and_self, true_implies, false_implies, implies_true, forall_const, not_true_eq_false, not_false_eq_true, reduceIte, ite_true, ite_false, reduceCtorEq, forall_eq, Classical.not_not, true_or, or_true, false_or, or_false, and_false, false_and, Int.reduceEq, Int.reduceLT, Int.reduceLE, Int.reduceAdd, Int.reduceSub, Int.reduceMul, Int.reduceNeg]
/-- the model's draft is copied to text 10 and tried -/
theorem m_copy10 {g : Cnt} (hS : FS S) (hV : FV V) (hn : V 161 11 = n ∧ 0 ≤ n ∧ n ≤ 100) (hL : V 137 2 = L ∧ 0 ≤ L ∧ L ≤ 20) (hQ : ∀ u6 u7, K_m_tried (d + 1) Q (148, [(2, 137), (0, set), (0, a), (0, V 137 0), (0, 0), (0, 0), u6, u7], [], kpf (up2 (up2 (cpf V 1000 n) 159 10 (V 137 0)) 137 45 1) L, S, g)) : ∀ (N : Nat) (k : Int) (u4 u5 u6 u7 : XV), (N : Int) + k = n → 0 ≤ k → K_m_tried (d + 1) Q (80, [(2, 137), (0, set), (0, a), (0, k), u4, u5, u6, u7], [], cpf V 1000 k, S, g) := by
  obtain ⟨n1, n2, n3⟩ := hn
  have hV0 := hV
  have hF : ∀ k, FV (cpf V 1000 k) := fun k => hV0.fr (fun p q hd => cpf_ne (by unfold VD at hd; omega))
  have e11 : ∀ k, cpf V 1000 k 161 11 = n := fun k => (cpf_ne (by omega)).trans n1
  have e0 : ∀ k, cpf V 1000 k 137 0 = V 137 0 := fun k => cpf_ne (by omega)
  intro N
  induction N with
  | zero =>
    intro k u4 u5 u6 u7 hN k0
    have hk : k = n := by omega
    subst hk
    have hV := hF k
    have hV3 : FV (up2 (up2 (cpf V 1000 k) 159 10 (V 137 0)) 137 45 1) := hV.fr (fun p q hd => by rw [up2_ne (by unfold VD at hd; omega), up2_ne (by unfold VD at hd; omega)])
    have hU : K_m_tried (d + 1) Q (148, [(2, 137), (0, set), (0, a), (0, V 137 0), (0, 0), (0, 0), (9, 0), (9, 0)], [], kpf (up2 (up2 (cpf V 1000 k) 159 10 (V 137 0)) 137 45 1) L, S, g) := hQ _ _
    have kk := m_keep_l (d := d) (g := (0, 0)) (V := up2 (up2 (cpf V 1000 k) 159 10 (V 137 0)) 137 45 1) (L := L) (U := fun V3 S3 => S3.1 137 = 12 ∧ K_m_tried (d + 1) Q (148, [(2, 137), (0, set), (0, a), (0, V3 137 0), (0, 0), (0, 0), (9, 0), (9, 0)], [], V3, S3, g)) hS hV3 ⟨by rw [up2_ne (by omega), up2_ne (by omega), cpf_ne (by omega)]; exact hL.1, hL.2.1, hL.2.2⟩ ⟨hS.k137, by rw [show (kpf (up2 (up2 (cpf V 1000 k) 159 10 (V 137 0)) 137 45 1) L) 137 0 = V 137 0 from by rw [kpf_ne (by omega), up2_ne (by omega), up2_ne (by omega), cpf_ne (by omega)]]; exact hU⟩ L.toNat 0 (by have := hL.2.1; omega) (Int.le_refl _)
    rw [kpf_0] at kk
    rw [L_m_tried_80]
    simp (disch := omega) only [hS.k137, hS.k161, hS.n161, hV.r137_28, hS.k159, hS.n159, hV.r137_26, e11, e0, s32_id (x := 10), s32_id (x := 11), s32_id (x := k), up2_ne, Int.lt_irrefl, I_m_keep, kk, b_s32, b_eq0, b_01, l0, l1, true_and, and_true, and_self, true_implies, false_implies, implies_true, forall_const, not_true_eq_false, not_false_eq_true, reduceIte, ite_true, ite_false, reduceCtorEq, forall_eq, Classical.not_not, true_or, or_true, false_or, or_false, and_false, false_and, Int.reduceEq, Int.reduceLT, Int.reduceLE, Int.reduceAdd, Int.reduceSub, Int.reduceMul, Int.reduceNeg]
  | succ N ih =>
    intro k u4 u5 u6 u7 hN k0
    have ih' := fun u4 u5 u6 u7 => ih (k + 1) u4 u5 u6 u7 (by omega) (by omega)
    have hV := hF k
    have e1 : cpf V 1000 k 160 (1100 + k) = V 160 (1100 + k) := cpf_ne (by omega)
    rw [← cpf_s k0] at ih'
    rw [L_m_tried_80]
    simp (disch := omega) only [hS.k137, hS.k161, hS.n161, hV.r137_28, hS.k160, hS.n160, hV.r137_27, e11, e1, s32_id (x := 11), s32_id (x := k), s32_id (x := n), s32_id (x := 1100 + k), s32_id (x := 1000 + k), show k < n from by omega, show 0 ≤ 1100 + k from by omega, show 1100 + k < 1200 from by omega, show 0 ≤ 1000 + k from by omega, show 1000 + k < 1200 from by omega, ih', b_s32, b_eq0, b_01, l0, l1, true_and, and_true, and_self, true_implies, false_implies, implies_true, forall_const, not_true_eq_false, not_false_eq_true, reduceIte, ite_true, ite_false, reduceCtorEq, forall_eq, Classical.not_not, true_or, or_true, false_or, or_false, and_false, false_and, Int.reduceEq, Int.reduceLT, Int.reduceLE, Int.reduceAdd, Int.reduceSub, Int.reduceMul, Int.reduceNeg]
end PB2
