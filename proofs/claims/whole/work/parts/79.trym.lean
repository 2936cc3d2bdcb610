/-! tried, the model's start -/
section TMS
variable {d : Nat} {n a b set : Int} {V : Mem} {S : Shp} {Q : Int → Mem → Shp → Prop}
theorem M_tried {V1 : Mem} (hS : FS S) (hV : FV V1) (hs : s32 set = set) (ha : s32 a = a) (hL : 0 ≤ V 137 2 ∧ V 137 2 ≤ 20) (h0 : 0 ≤ set ∧ set ≤ ishlI 1 (V 137 2) - 1) (h1 : 1 ≤ a ∧ a ≤ 60) (hr : RDR V) (e : MEQ V V1) (hF : (pX (pkd V 1000 (V 137 25)) (V 137 25) 8 0 []).1 = false → ∀ V', GFR (up2 (up2 V1 161 11 (V 137 25)) 137 25 0) V' → Q (-10 - (pX (pkd V 1000 (V 137 25)) (V 137 25) 8 0 []).2.1) V' S) (hT : (pX (pkd V 1000 (V 137 25)) (V 137 25) 8 0 []).1 = true → (pX (pkd V 1000 (V 137 25)) (V 137 25) 8 0 []).2.1 = V 137 25 → ∀ V', GFR (up2 (up2 V1 161 11 (V 137 25)) 137 25 0) V' → ∀ u6 u7, K_m_tried (d + 39) Q (148, [(2, 137), (0, set), (0, a), (0, V 137 0), (0, 0), (0, 0), u6, u7], [], kpf (up2 (up2 (cpf (up2 V' 161 10 (V 137 25)) 1000 (V 137 25)) 159 10 (V 137 0)) 137 45 1) (V 137 2), S, (0, 0))) : C_m_tried (d + 40) 137 set a V1 S Q := by
  have e25 : V1 137 25 = V 137 25 := e _ _ (by omega) (by omega)
  have e2 : V1 137 2 = V 137 2 := e _ _ (by omega) (by omega)
  have hV1 := hV
  have hk : ishlI 1 (V 137 2) ≤ 1048576 := by
    obtain ⟨k, hk⟩ := Int.eq_ofNat_of_zero_le hL.1
    rw [hk, shl_c ⟨k, by omega⟩]
    have hp : 2 ^ k ≤ 2 ^ 20 := Nat.pow_le_pow_right (n := 2) (by decide) (by omega)
    have hp : 2 ^ k ≤ 1048576 := hp
    show ((2 ^ k : Nat) : Int) ≤ 1048576
    omega
  simp (disch := omega) only [I_m_tried, r_in hS, hs, ha, h0, h1, hS.k137, hS.k161, hS.n161, hV.r137_28, e25, e2, s32_id (x := 0), s32_id (x := 1), s32_id (x := 11), s32_id (x := 60), s32_id (x := ishlI 1 (V 137 2) - 1), up2_ne, b_s32, b_eq0, b_01, l0, l1, true_and, and_true, and_self, true_implies, false_implies, implies_true, forall_const, not_true_eq_false, not_false_eq_true, reduceIte, ite_true, ite_false, reduceCtorEq, forall_eq, Classical.not_not, true_or, or_true, false_or, or_false, and_false, false_and, Int.reduceEq, Int.reduceLT, Int.reduceLE, Int.reduceAdd, Int.reduceSub, Int.reduceMul, Int.reduceNeg]
  refine fedM (d := d + 29) (lo := 1000) hS hV1 hr e (fun q V' f g => ?_) (fun q q2 V' f => ?_)
  · have := hF q V' f
    rw [← g] at this
    simp (disch := omega) only [hS.k137, this, b_s32, b_eq0, b_01, l0, l1, true_and, and_true, and_self, true_implies, false_implies, implies_true, forall_const, not_true_eq_false, not_false_eq_true, reduceIte, ite_true, ite_false, reduceCtorEq, forall_eq, Classical.not_not, true_or, or_true, false_or, or_false, and_false, false_and, Int.reduceEq, Int.reduceLT, Int.reduceLE, Int.reduceAdd, Int.reduceSub, Int.reduceMul, Int.reduceNeg]
  · have := hT q q2 V' f
    have F : ∀ p r, ¬ GCf p r → ¬ (p = 161 ∧ r = 11) → ¬ (p = 137 ∧ r = 25) → V' p r = V1 p r := fun p r n1 n2 n3 => by
      rw [f p r n1, up2_ne (by omega), up2_ne (by omega)]
    have hV : FV V' := hV1.fr (fun p r hd => F p r (by unfold VD at hd; unfold GCf; omega) (by unfold VD at hd; omega) (by unfold VD at hd; omega))
    have g0 : V' 137 0 = V 137 0 := (F _ _ (by unfold GCf; omega) (by omega) (by omega)).trans (e _ _ (by omega) (by omega))
    have g2 : V' 137 2 = V 137 2 := (F _ _ (by unfold GCf; omega) (by omega) (by omega)).trans e2
    have g11 : V' 161 11 = V 137 25 := by rw [f _ _ (by unfold GCf; omega), up2_ne (by omega), up2_eq rfl rfl]
    obtain ⟨⟨-, r2, r3⟩, -⟩ := hr
    have x0 : (up2 V' 161 10 (V 137 25)) 137 0 = V 137 0 := (up2_ne (by omega)).trans g0
    have k := fun u4 u5 u6 u7 => m_copy10 (d := d + 38) (V := up2 V' 161 10 (V 137 25)) (S := S) (Q := Q) (set := set) (a := a) (n := V 137 25) (L := V 137 2) (g := (0, 0)) hS (hV.fr (fun p r hd => up2_ne (by unfold VD at hd; omega))) ⟨by rw [up2_ne (by omega)]; exact g11, r2, r3⟩ ⟨by rw [up2_ne (by omega)]; exact g2, hL.1, hL.2⟩ (by rw [x0]; exact this) (V 137 25).toNat 0 u4 u5 u6 u7 (by omega) (by omega)
    rw [cpf_0] at k
    simp (disch := omega) only [hS.k137, hS.k161, hS.n161, hV.r137_28, g11, s32_id (x := 10), s32_id (x := 11), k, show ¬ s32 1 = 0 from by decide, b_s32, b_eq0, b_01, l0, l1, true_and, and_true, and_self, true_implies, false_implies, implies_true, forall_const, not_true_eq_false, not_false_eq_true, reduceIte, ite_true, ite_false, reduceCtorEq, forall_eq, Classical.not_not, true_or, or_true, false_or, or_false, and_false, false_and, Int.reduceEq, Int.reduceLT, Int.reduceLE, Int.reduceAdd, Int.reduceSub, Int.reduceMul, Int.reduceNeg]
end TMS
