/-! the component keeps a text -/
section KD
variable {d : Nat} {n m a b s z T : Int} {V V0 V1 : Mem} {S : Shp} {Q : Int → Mem → Shp → Prop} {U : Mem → Shp → Prop}
theorem p_TextInit (hz : S.2.2 = z + 1) (hk : S.1 z = 9) (hU : ∀ (V' : Mem) (S' : Shp), (∀ a k, ¬ (a = z ∧ 2 ≤ k ∧ k ≤ 5) → ¬ (z + 1 ≤ a ∧ a ≤ z + 4) → V' a k = V a k) → (V' z 2 = z + 1 ∧ V' z 3 = z + 2 ∧ V' z 4 = z + 3 ∧ V' z 5 = z + 4) → (∀ a, ¬ (z + 1 ≤ a ∧ a ≤ z + 4) → S'.1 a = S.1 a ∧ S'.2.1 a = S.2.1 a) → (S'.1 (z + 1) = 100 ∧ S'.1 (z + 2) = 100 ∧ S'.1 (z + 3) = 100 ∧ S'.1 (z + 4) = 100 ∧ S'.2.1 (z + 1) = 8 ∧ S'.2.1 (z + 2) = 8 ∧ S'.2.1 (z + 3) = 8 ∧ S'.2.1 (z + 4) = 100) → U V' S') : C_Text_init (d + 1) z V S U := by
  have e8 : s32 8 = 8 := s32_id (by omega) (by omega)
  have e100 : s32 100 = 100 := s32_id (by omega) (by omega)
  rw [I_Text_init, hz]
  simp (disch := omega) only [hk, e8, e100, fa2, upk_ne, forall_eq, b_s32, b_eq0, b_01, l0, l1, true_and, and_true, and_self, true_implies, false_implies, implies_true, forall_const, not_true_eq_false, not_false_eq_true, reduceIte, ite_true, ite_false, reduceCtorEq, forall_eq, Classical.not_not, true_or, or_true, false_or, or_false, and_false, false_and, Int.reduceEq, Int.reduceLT, Int.reduceLE, Int.reduceAdd, Int.reduceSub, Int.reduceMul, Int.reduceNeg, Int.reduceToNat, Nat.reduceAdd, Nat.reduceLeDiff, Nat.zero_add, Nat.le_refl]
  refine hU _ _ (fun p q n1 n2 => ?_) ?_ (fun p n1 => ?_) ?_
  · simp (disch := omega) only [up2_ne, upo_ne]
  · simp (disch := omega) only [up2_ne, upo_ne, up2_eq, Int.add_assoc, Int.reduceAdd, and_self]
  · exact ⟨by show upk _ _ _ p = _; simp (disch := omega) only [upk_ne], by show upk _ _ _ p = _; simp (disch := omega) only [upk_ne]⟩
  · simp (disch := omega) only [upk_ne, upk_eq, and_self]
theorem c_keep (hS : FS S) (hV : FV V) (ha : s32 a = a) (hs : V 106 1 = s ∧ 0 ≤ s ∧ s < 10) (hT : V 106 2 = T ∧ 108 ≤ T ∧ S.1 T = 9) (hT2 : (T - 108) % 5000 = 0) (hz : S.2.2 = z) (hzT : z = T + 5000) (hU : ∀ (V' : Mem) (S' : Shp), (∀ p q, ¬ (p = T ∧ q = 0) → ¬ (p = 107 ∧ q = s) → ¬ (p = 106 ∧ (q = 1 ∨ q = 2)) → ¬ (z ≤ p ∧ p ≤ z + 4) → V' p q = V p q) → V' T 0 = a → V' 107 s = T → V' 106 1 = s + 1 → V' 106 2 = z → (V' z 2 = z + 1 ∧ V' z 3 = z + 2 ∧ V' z 4 = z + 3 ∧ V' z 5 = z + 4) → (∀ p, ¬ (z ≤ p ∧ p ≤ z + 4) → S'.1 p = S.1 p ∧ S'.2.1 p = S.2.1 p) → (S'.1 z = 9 ∧ S'.1 (z + 1) = 100 ∧ S'.1 (z + 2) = 100 ∧ S'.1 (z + 3) = 100 ∧ S'.1 (z + 4) = 100 ∧ S'.2.1 (z + 1) = 8 ∧ S'.2.1 (z + 2) = 8 ∧ S'.2.1 (z + 3) = 8 ∧ S'.2.1 (z + 4) = 100) → Q s V' S') : C_Terms_keepDraft (d + 3) 106 a V S Q := by
  obtain ⟨s1, s2, s3⟩ := hs
  obtain ⟨t1, t2, t3⟩ := hT
  have sS : s32 s = s := s32_id (by omega) (by omega)
  have k106 : S.1 106 = 8 := hS.k106
  rw [I_Terms_keepDraft]
  simp (disch := omega) only [I_Terms_isFull, hS.k106, hS.k107, hS.n107, hV.r106_0, s1, t1, t3, sS, s32_id (x := 10), up2_ne, upo_ne, up2_eq, upk_ne, fa2, hz, forall_eq, s2, s3, show ¬ s < 0 from by omega, show nfC 9 = 7 from rfl, Nat.reduceAdd, Nat.reduceLeDiff, Nat.zero_add, Nat.le_refl, b_s32, b_eq0, b_01, l0, l1, true_and, and_true, and_self, true_implies, false_implies, implies_true, forall_const, not_true_eq_false, not_false_eq_true, reduceIte, ite_true, ite_false, reduceCtorEq, forall_eq, Classical.not_not, true_or, or_true, false_or, or_false, and_false, false_and, Int.reduceEq, Int.reduceLT, Int.reduceLE, Int.reduceAdd, Int.reduceSub, Int.reduceMul, Int.reduceNeg]
  refine p_TextInit rfl (upk_eq rfl) (fun V' S' f1 f2 f3 f4 => ?_)
  have e106 : S'.1 106 = 8 := ((f3 106 (by omega)).1).trans (show upk S.1 z 9 106 = 8 from (upk_ne (by omega)).trans k106)
  have e1 : V' 106 1 = s := by rw [f1 106 1 (by omega) (by omega)]; simp (disch := omega) only [up2_ne, upo_ne]; exact s1
  simp (disch := omega) only [e106, e1, up2_ne, up2_eq, show s + 1 - 1 = s from by omega, b_s32, b_eq0, b_01, l0, l1, true_and, and_true, and_self, true_implies, false_implies, implies_true, forall_const, not_true_eq_false, not_false_eq_true, reduceIte, ite_true, ite_false, reduceCtorEq, forall_eq, Classical.not_not, true_or, or_true, false_or, or_false, and_false, false_and, Int.reduceEq, Int.reduceLT, Int.reduceLE, Int.reduceAdd, Int.reduceSub, Int.reduceMul, Int.reduceNeg]
  refine hU _ _ (fun p q n1 n2 n3 n4 => ?_) ?_ ?_ ?_ ?_ ?_ (fun p n1 => ?_) ?_
  · simp (disch := omega) only [up2_ne]
    rw [f1 p q (by omega) (by omega)]
    simp (disch := omega) only [up2_ne, upo_ne]
  · simp (disch := omega) only [up2_ne]
    rw [f1 _ _ (by omega) (by omega)]
    simp (disch := omega) only [up2_ne, up2_eq, upo_ne]
  · simp (disch := omega) only [up2_ne]
    rw [f1 _ _ (by omega) (by omega)]
    simp (disch := omega) only [up2_ne, up2_eq, upo_ne]
  · simp (disch := omega) only [up2_eq]
  · simp (disch := omega) only [up2_ne, up2_eq]
  · simp (disch := omega) only [up2_ne]
    exact f2
  · obtain ⟨g1, g2⟩ := f3 p (by omega)
    exact ⟨g1.trans (show upk S.1 z 9 p = S.1 p from upk_ne (by omega)), g2⟩
  · exact ⟨(f3 z (by omega)).1.trans (show upk S.1 z 9 z = 9 from upk_eq rfl), f4⟩
end KD
