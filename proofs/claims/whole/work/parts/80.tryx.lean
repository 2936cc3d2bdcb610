/-! tried, the component's start -/
section TXS
variable {d : Nat} {n a b set : Int} {V : Mem} {S : Shp} {Q : Int → Mem → Shp → Prop}
def lsT (V : Mem) (a : Int) : Int := if V 137 0 + a - 1 < 599 then V 137 0 + a - 1 else 599
def dfT (V V1 : Mem) : Mem := up2 (up2 V1 (TA (V 137 24)) 0 (V 137 0)) 106 3 1
theorem X_tried (h : INV n V S) (hs : s32 set = set) (ha : s32 a = a) (h0 : 0 ≤ set ∧ set ≤ ishlI 1 (V 137 2) - 1) (h1 : 1 ≤ a ∧ a ≤ 60) (hF : ∀ V1, RFd (TA (V 137 24)) V V1 → V1 104 1 = 0 → (pX (pkd V 1000 (V 137 25)) (V 137 25) 8 0 []).1 = false → Q (-10 - (pX (pkd V 1000 (V 137 25)) (V 137 25) 8 0 []).2.1) V1 S) (hT : ∀ V1, RFd (TA (V 137 24)) V V1 → V1 104 1 = 0 → (pX (pkd V 1000 (V 137 25)) (V 137 25) 8 0 []).1 = true → TXC V1 (V 137 24) (pX (pkd V 1000 (V 137 25)) (V 137 25) 8 0 []).2.2 → ∀ u5 u6, K_x_litDays (d + 38) (fun r5 V5 S5 => S5.1 100 = 11 ∧ C_Terms_endTry (d + 39) (V5 100 4) V5 S5 (fun V6 S6 => Q r5 V6 S6)) (49, [(2, 100), (0, set), (0, lsT V a), (0, 0), (0, V 137 0), u5, u6], [], cpb (dfT V V1) (V 137 2), S, (0, 0))) : C_x_tried (d + 40) 100 set a V S Q := by
  have hk := h.1
  have hS := hk.1
  have hV := hk.2.1
  have n10 := hk.n10
  have n20 := hk.n20
  have n599 := hk.n599
  have l20 := hk.2.2.1.2.1.2.1
  have c11 := hk.2.2.1.2.1.1
  have c12 := hk.2.2.1.2.2.1.1
  have t2 := hk.2.2.2.2.2.2.1
  have t3 := hk.2.2.2.2.2.2.2
  have k9 := (t3 (V 137 24) (by omega) (by omega)).1.1
  have hu := (ush0 (a := set) (L := V 137 2) hs l20 n20).mpr h0
  rw [I_x_tried]
  simp (disch := omega) only [hS.k100, hS.k106, hV.r100_3, hV.r100_4, c11, hu, p_isWithin, ha, h1, t2, s32_id (x := 1), s32_id (x := 60), b_s32, b_eq0, b_01, l0, l1, true_and, and_true, and_self, true_implies, false_implies, implies_true, forall_const, not_true_eq_false, not_false_eq_true, reduceIte, ite_true, ite_false, reduceCtorEq, forall_eq, Classical.not_not, true_or, or_true, false_or, or_false, and_false, false_and, Int.reduceEq, Int.reduceLT, Int.reduceLE, Int.reduceAdd, Int.reduceSub, Int.reduceMul, Int.reduceNeg]
  refine c_read (d := d + 9) (lo := 1000) h (fun V1 f1 f2 f3 => ?_)
  have hb := fed_b (lo := 1000) h
  have hV1 : FV V1 := f1.fv hV n10.1 n10.2
  by_cases c : (pX (pkd V 1000 (V 137 25)) (V 137 25) 8 0 []).1 = true
  · rw [if_pos c]
    have hK := hT V1 f1 f2 c (f3 c)
    have hTA : TA (V 137 24) = 108 + 5000 * V 137 24 := rfl
    have v12 : V1 100 12 = V 137 0 := (f1 _ _ (by omega) (by omega) (by omega)).trans c12
    have v2 : V1 106 2 = TA (V 137 24) := (f1 _ _ (by omega) (by omega) (by omega)).trans t2
    have hV := hV1
    have hVd : FV (dfT V V1) := hV1.fr (fun p q hd => by unfold dfT; rw [up2_ne (by unfold VD at hd; omega), up2_ne (by unfold VD at hd; omega)])
    have d11 : dfT V V1 100 11 = V 137 2 := by unfold dfT; rw [up2_ne (by omega), up2_ne (by omega), f1 _ _ (by omega) (by omega) (by omega)]; exact c11
    have d12 : dfT V V1 100 12 = V 137 0 := by unfold dfT; rw [up2_ne (by omega), up2_ne (by omega)]; exact v12
    have hl : ∀ i, 0 ≤ i → i < V 137 2 → LSK (dfT V V1) S i := fun i i0 i1 => by
      obtain ⟨r1, r2, r3, r4, r5, r6, r7, r8⟩ := hk.lamp i0 i1
      have F : ∀ p q, ¬ (p = 104 ∧ (q = 1 ∨ q = 2)) → ¬ (108 + 5000 * V 137 24 ≤ p ∧ p ≤ 112 + 5000 * V 137 24) → ¬ (p = 106 ∧ q = 3) → dfT V V1 p q = V p q := fun p q n1 n2 n3 => by
        unfold dfT
        rw [up2_ne (by omega), up2_ne (by omega)]
        exact f1 p q n1 (by omega) (by omega)
      exact ⟨r1, (F _ _ (by omega) (by omega) (by omega)).trans r2, (F _ _ (by omega) (by omega) (by omega)).trans r3, (F _ _ (by omega) (by omega) (by omega)).trans r4, (F _ _ (by omega) (by omega) (by omega)).trans r5, (F _ _ (by omega) (by omega) (by omega)).trans r6, (F _ _ (by omega) (by omega) (by omega)).trans r7, (F _ _ (by omega) (by omega) (by omega)).trans r8⟩
    have kb := fun (Q : Int → Mem → Shp → Prop) (last : Int) (hQ : ∀ u5 u6, K_x_litDays (d + 38) Q (49, [(2, 100), (0, set), (0, last), (0, 0), (0, V 137 0), u5, u6], [], cpb (dfT V V1) (V 137 2), S, (0, 0))) => c_beside (d := d + 23) (V := dfT V V1) (S := S) (Q := Q) (set := set) (last := last) (L := V 137 2) (g := (0, 0)) hS hVd ⟨d11, l20, n20⟩ hl (by rw [d12]; exact hQ) (V 137 2).toNat 0 (9, 0) (9, 0) (9, 0) (by omega) (Int.le_refl _)
    rw [cpb_0] at kb
    simp (disch := omega) only [s32_id (x := -1), hS.k100, hS.k106, hV.r100_4, v12, v2, I_Terms_tryDraft, k9, up2_ne, forall_eq, I_Math_min_II, s32_id (x := 599), s32_id (x := V 137 0 + a - 1), I_x_litDays, b_s32, b_eq0, b_01, l0, l1, true_and, and_true, and_self, true_implies, false_implies, implies_true, forall_const, not_true_eq_false, not_false_eq_true, reduceIte, ite_true, ite_false, reduceCtorEq, forall_eq, Classical.not_not, true_or, or_true, false_or, or_false, and_false, false_and, Int.reduceEq, Int.reduceLT, Int.reduceLE, Int.reduceAdd, Int.reduceSub, Int.reduceMul, Int.reduceNeg]
    by_cases cl : V 137 0 + a - 1 < 599
    · have e : lsT V a = V 137 0 + a - 1 := if_pos cl
      rw [e] at hK
      exact ⟨fun _ => kb _ _ hK, fun q => (q cl).elim⟩
    · have e : lsT V a = 599 := if_neg cl
      rw [e] at hK
      exact ⟨fun q => (cl q).elim, fun _ => kb _ _ hK⟩
  · have cf := nf c
    rw [if_neg c]
    have := hF V1 f1 f2 cf
    have s3 := s32_id (x := (pX (pkd V 1000 (V 137 25)) (V 137 25) 8 0 []).2.1) (by omega) (by omega)
    simp (disch := omega) only [s3, show ¬ (pX (pkd V 1000 (V 137 25)) (V 137 25) 8 0 []).2.1 < 0 from by omega, this, b_s32, b_eq0, b_01, l0, l1, true_and, and_true, and_self, true_implies, false_implies, implies_true, forall_const, not_true_eq_false, not_false_eq_true, reduceIte, ite_true, ite_false, reduceCtorEq, forall_eq, Classical.not_not, true_or, or_true, false_or, or_false, and_false, false_and, Int.reduceEq, Int.reduceLT, Int.reduceLE, Int.reduceAdd, Int.reduceSub, Int.reduceMul, Int.reduceNeg]
end TXS
