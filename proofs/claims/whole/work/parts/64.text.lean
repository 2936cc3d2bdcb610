section TXG
variable {d : Nat} {n m a b lo : Int} {V V1 : Mem} {S : Shp} {Q : Int → Mem → Shp → Prop}
theorem up2_cg {x k v p q : Int} (h : V p q = V1 p q) : up2 V x k v p q = up2 V1 x k v p q := by
  unfold up2
  split
  · rfl
  · exact h
theorem RFR.cp (h : RFR V V1) : RFR (cpf V lo n) (cpf V1 lo n) := fun p q hn => by
  unfold cpf
  by_cases c : p = 160 ∧ lo ≤ q ∧ q < lo + n
  · rw [if_pos c, if_pos c]; exact h _ _ (by unfold RCf; omega)
  · rw [if_neg c, if_neg c]; exact h _ _ hn
theorem INV.text {s N : Int} {V2 V' : Mem} {S' : Shp} (h : INV n V S) (hn : n ≤ m) (hs : V 137 24 = s) (hN : V 137 25 = N) (s9 : s < 10) (h1 : 0 ≤ a ∧ a ≤ 599)
    (f1 : RFd (TA s) V V1) (f2 : V1 104 1 = 0) (f3 : TXC V1 s (pX (pkd V (100 * s) N) N 8 0 []).2.2) (c : (pX (pkd V (100 * s) N) N 8 0 []).1 = true) (q2 : (pX (pkd V (100 * s) N) N 8 0 []).2.1 = N)
    (g1 : ∀ p q, ¬ (p = TA s ∧ q = 0) → ¬ (p = 107 ∧ q = s) → ¬ (p = 106 ∧ (q = 1 ∨ q = 2)) → ¬ (TA (s + 1) ≤ p ∧ p ≤ TA (s + 1) + 4) → V2 p q = V1 p q) (g2 : V2 (TA s) 0 = a) (g3 : V2 107 s = TA s) (g4 : V2 106 1 = s + 1) (g5 : V2 106 2 = TA (s + 1))
    (g6 : V2 (TA (s + 1)) 2 = TA (s + 1) + 1 ∧ V2 (TA (s + 1)) 3 = TA (s + 1) + 2 ∧ V2 (TA (s + 1)) 4 = TA (s + 1) + 3 ∧ V2 (TA (s + 1)) 5 = TA (s + 1) + 4)
    (g7 : ∀ p, ¬ (TA (s + 1) ≤ p ∧ p ≤ TA (s + 1) + 4) → S'.1 p = S.1 p ∧ S'.2.1 p = S.2.1 p)
    (g8 : S'.1 (TA (s + 1)) = 9 ∧ S'.1 (TA (s + 1) + 1) = 100 ∧ S'.1 (TA (s + 1) + 2) = 100 ∧ S'.1 (TA (s + 1) + 3) = 100 ∧ S'.1 (TA (s + 1) + 4) = 100 ∧ S'.2.1 (TA (s + 1) + 1) = 8 ∧ S'.2.1 (TA (s + 1) + 2) = 8 ∧ S'.2.1 (TA (s + 1) + 3) = 8 ∧ S'.2.1 (TA (s + 1) + 4) = 100)
    (f : GFR (up2 (up2 V2 161 11 N) 137 25 0) V') : INV m (up2 (up2 (cpf (up2 V' 161 s N) (100 * s) N) 159 s a) 137 24 (s + 1)) S' := by
  have n10 := h.1.n10
  obtain ⟨⟨r1, r2, r3⟩, r4⟩ := h.2.2.2.2.2.1
  rw [hs] at n10
  rw [hN] at r2 r3 r4
  have hTA1 : TA (s + 1) = 5108 + 5000 * s := by unfold TA; omega
  have hTA0 : TA s = 108 + 5000 * s := rfl
  refine INV.rr (V := up2 (up2 (cpf (up2 (up2 (up2 V2 161 11 N) 137 25 0) 161 s N) (100 * s) N) 159 s a) 137 24 (s + 1)) ?_ (RFR.u2 (RFR.u2 (RFR.cp (RFR.u2 f.rr)))) (Int.le_refl _)
  have hi : INV n (up2 (up2 V1 161 11 N) 137 25 0) S := h.read (by rw [hs]; exact f1) f2
  have A0 : ∀ p q, ¬ (137 ≤ p ∧ p ≤ 199) → (up2 (up2 (cpf (up2 (up2 (up2 V2 161 11 N) 137 25 0) 161 s N) (100 * s) N) 159 s a) 137 24 (s + 1)) p q = V2 p q := by
    intro p q hp
    rw [up2_ne (by omega), up2_ne (by omega), cpf_ne (by omega), up2_ne (by omega), up2_ne (by omega), up2_ne (by omega)]
  have A1 : ∀ p q, 137 ≤ p → p ≤ 199 → V2 p q = V p q := by
    intro p q p0 p1
    rw [g1 p q (by omega) (by omega) (by omega) (by omega)]
    exact f1 p q (by omega) (by omega) (by omega)
  have M3 : (up2 (up2 (cpf (up2 (up2 (up2 V2 161 11 N) 137 25 0) 161 s N) (100 * s) N) 159 s a) 137 24 (s + 1)) 159 s = a := by rw [up2_ne (by omega), up2_eq rfl rfl]
  have M4 : (up2 (up2 (cpf (up2 (up2 (up2 V2 161 11 N) 137 25 0) 161 s N) (100 * s) N) 159 s a) 137 24 (s + 1)) 161 s = N := by rw [up2_ne (by omega), up2_ne (by omega), cpf_ne (by omega), up2_eq rfl rfl]
  have M5 : ∀ p, 0 ≤ p → p < N → (up2 (up2 (cpf (up2 (up2 (up2 V2 161 11 N) 137 25 0) 161 s N) (100 * s) N) 159 s a) 137 24 (s + 1)) 160 (100 * s + p) = V 160 (1100 + p) := by
    intro p p0 p1
    rw [up2_ne (by omega), up2_ne (by omega), cpf_eq (by omega) (by omega), up2_ne (by omega), up2_ne (by omega), up2_ne (by omega), A1 _ _ (by omega) (by omega), show 1100 + (100 * s + p - 100 * s) = 1100 + p from by omega]
  have M6 : ∀ p, p < 0 → (up2 (up2 (cpf (up2 (up2 (up2 V2 161 11 N) 137 25 0) 161 s N) (100 * s) N) 159 s a) 137 24 (s + 1)) 160 (100 * s + p) = V 160 (100 * s + p) := by
    intro p p0
    rw [up2_ne (by omega), up2_ne (by omega), cpf_ne (by omega), up2_ne (by omega), up2_ne (by omega), up2_ne (by omega), A1 _ _ (by omega) (by omega)]
  refine hi.keep hn (by rw [up2_ne (by omega), up2_ne (by omega), f1 _ _ (by omega) (by omega) (by omega)]; exact hs) s9 (fun p q hw => ?_) (up2_eq rfl rfl) ((A0 _ _ (by omega)).trans g3) ((A0 _ _ (by omega)).trans g4) ((A0 _ _ (by omega)).trans g5) ?_ g7 g8 ?_
  · rw [up2_ne (by omega), up2_ne (by omega), cpf_ne (by omega), up2_ne (by omega)]
    exact up2_cg (up2_cg (g1 p q (by omega) (by omega) (by omega) (by omega)))
  · rw [A0 _ _ (by omega), A0 _ _ (by omega), A0 _ _ (by omega), A0 _ _ (by omega)]
    exact g6
  · have ep := pkd_e (V := V) M5 M6
    refine ⟨fun p p0 p1 => ?_, ?_, by rw [M3]; exact h1, by rw [M4]; exact ⟨r2, r3⟩, (pX (pkd V (100 * s) N) N 8 0 []).2.2, ?_, ?_⟩
    · rw [M4] at p1
      rw [M5 p p0 p1]
      exact (r4 p p0 p1).2
    · rw [M3, A0 _ _ (by omega)]; exact g2
    · rw [M4, ep]
      exact Prod.ext c (Prod.ext q2 rfl)
    · obtain ⟨w1, w2, w3⟩ := f3
      have K : ∀ j k, 0 ≤ j → j ≤ 4 → (j = 0 → k = 1) → (up2 (up2 (cpf (up2 (up2 (up2 V2 161 11 N) 137 25 0) 161 s N) (100 * s) N) 159 s a) 137 24 (s + 1)) (TA s + j) k = V1 (TA s + j) k := fun j k j0 j4 jk => by
        rw [A0 _ _ (by omega)]
        exact g1 _ _ (by omega) (by omega) (by omega) (by omega)
      refine ⟨?_, w2, fun i hi => ?_⟩
      · have := K 0 1 (by omega) (by omega) (fun _ => rfl)
        rw [Int.add_zero] at this
        rw [this]; exact w1
      · exact CLTx.eq (w3 i hi) (fun k => K 1 k (by omega) (by omega) (by omega)) (fun k => K 2 k (by omega) (by omega) (by omega)) (fun k => K 3 k (by omega) (by omega) (by omega)) (fun k => K 4 k (by omega) (by omega) (by omega))
theorem RFd.fv (f1 : RFd (TA (V 137 24)) V V1) (hV : FV V) (h0 : 0 ≤ V 137 24) (h1 : V 137 24 ≤ 10) : FV V1 :=
  hV.fr (fun p q hd => f1 p q (by unfold VD at hd; omega) (by unfold VD at hd; unfold TA; omega) (by unfold VD at hd; unfold TA; omega))
theorem cmd_text (h : INV n V S) (hn : n ≤ m) (ha : s32 a = a) (hz : S.2.2 = TA (V 137 24 + 1)) : C_x_text (d + 40) 100 a V S (fun r V1 S1 => C_m_text (d + 40) 137 a V1 S1 (fun r' V2 S2 => r = r' ∧ INV m V2 S2)) := by
  have hup := h.up hn
  have hk := h.1
  have hS := hk.1
  have hV := hk.2.1
  have n10 := hk.n10
  have e1 := hk.2.2.1.2.2.2.1
  have t2 := hk.2.2.2.2.2.2.1
  have t3 := hk.2.2.2.2.2.2.2
  have s24 : s32 (V 137 24) = V 137 24 := s32_id (by omega) (by omega)
  have hr : RDR V := h.2.2.2.2.2.1
  by_cases h1 : 0 ≤ a ∧ a ≤ 599
  · by_cases h2 : V 137 24 = 10
    · simp (disch := omega) only [I_x_text, I_m_text, p_isDay, p_misDay hk, ha, h1, h2, e1, s24, I_Terms_isFull, hS.k100, hS.k137, hS.k106, hS.k107, hS.n107, hV.r100_4, hV.r106_0, s32_id (x := 10), hup, b_s32, b_eq0, b_01, l0, l1, true_and, and_true, and_self, true_implies, false_implies, implies_true, forall_const, not_true_eq_false, not_false_eq_true, reduceIte, ite_true, ite_false, reduceCtorEq, forall_eq, Classical.not_not, true_or, or_true, false_or, or_false, and_false, false_and, Int.reduceEq, Int.reduceLT, Int.reduceLE, Int.reduceAdd, Int.reduceSub, Int.reduceMul, Int.reduceNeg]
    · have k9 := (t3 (V 137 24) (by omega) (by omega)).1.1
      simp (disch := omega) only [I_x_text, p_isDay, ha, h1, e1, s24, I_Terms_isFull, hS.k100, hS.k106, hS.k107, hS.n107, hV.r100_3, hV.r100_4, hV.r106_0, t2, s32_id (x := 10), show ¬ V 137 24 < 0 from by omega, show V 137 24 < 10 from by omega, Nat.reduceAdd, Nat.reduceLeDiff, Nat.zero_add, Nat.le_refl, b_s32, b_eq0, b_01, l0, l1, true_and, and_true, and_self, true_implies, false_implies, implies_true, forall_const, not_true_eq_false, not_false_eq_true, reduceIte, ite_true, ite_false, reduceCtorEq, forall_eq, Classical.not_not, true_or, or_true, false_or, or_false, and_false, false_and, Int.reduceEq, Int.reduceLT, Int.reduceLE, Int.reduceAdd, Int.reduceSub, Int.reduceMul, Int.reduceNeg]
      refine c_read (d := d + 9) (lo := 100 * V 137 24) h (fun V1 f1 f2 f3 => ?_)
      have hb := fed_b (lo := 100 * V 137 24) h
      have hV1 : FV V1 := f1.fv hV n10.1 n10.2
      have mq : ∀ p q, 137 ≤ p → p ≤ 199 → V1 p q = V p q := fun p q p0 p1 => f1 p q (by omega) (by unfold TA; omega) (by unfold TA; omega)
      by_cases c : (pX (pkd V (100 * V 137 24) (V 137 25)) (V 137 25) 8 0 []).1 = true
      · rw [if_pos c]
        have f3 := f3 c
        have hV := hV1
        simp (disch := omega) only [s32_id (x := -1), hS.k100, hV.r100_4, Nat.reduceAdd, Nat.reduceLeDiff, Nat.zero_add, Nat.le_refl, b_s32, b_eq0, b_01, l0, l1, true_and, and_true, and_self, true_implies, false_implies, implies_true, forall_const, not_true_eq_false, not_false_eq_true, reduceIte, ite_true, ite_false, reduceCtorEq, forall_eq, Classical.not_not, true_or, or_true, false_or, or_false, and_false, false_and, Int.reduceEq, Int.reduceLT, Int.reduceLE, Int.reduceAdd, Int.reduceSub, Int.reduceMul, Int.reduceNeg]
        refine c_keep (d := d + 36) (s := V 137 24) (T := TA (V 137 24)) (z := TA (V 137 24 + 1)) hS hV ha ⟨(f1 _ _ (by omega) (by unfold TA; omega) (by unfold TA; omega)).trans e1, by omega, by omega⟩ ⟨(f1 _ _ (by omega) (by unfold TA; omega) (by unfold TA; omega)).trans t2, by unfold TA; omega, k9⟩ (by unfold TA; omega) hz (by unfold TA; omega) (fun V2 S' g1 g2 g3 g4 g5 g6 g7 g8 => ?_)
        have eS : EXT S S' := by
          intro p hp
          refine g7 p (fun q => hp ?_)
          exact h.2.1.2.2 (V 137 24 + 1) p (by omega) (by omega) q.1 (by omega)
        have hV2 : FV V2 := hV1.fr (fun p q hd => g1 p q (by unfold VD at hd; unfold TA; omega) (by unfold VD at hd; omega) (by unfold VD at hd; omega) (by unfold VD at hd; unfold TA; omega))
        have mq2 : MEQ V V2 := fun p q p0 p1 => (g1 p q (by unfold TA; omega) (by omega) (by omega) (by unfold TA; omega)).trans (mq p q p0 p1)
        exact M_text (lo := 100 * V 137 24) (hS.ext eS) hV2 ha h1 ⟨by omega, by omega⟩ hr mq2 (fun q => (by rw [q] at c; cases c)) (fun _ q2 V' f => ⟨rfl, INV.text h hn rfl rfl (by omega) h1 f1 f2 f3 c q2 g1 g2 g3 g4 g5 g6 g7 g8 f⟩)
      · have cf := nf c
        rw [if_neg c]
        have s3 := s32_id (x := (pX (pkd V (100 * V 137 24) (V 137 25)) (V 137 25) 8 0 []).2.1) (by omega) (by omega)
        simp (disch := omega) only [s3, show ¬ (pX (pkd V (100 * V 137 24) (V 137 25)) (V 137 25) 8 0 []).2.1 < 0 from by omega, b_s32, b_eq0, b_01, l0, l1, true_and, and_true, and_self, true_implies, false_implies, implies_true, forall_const, not_true_eq_false, not_false_eq_true, reduceIte, ite_true, ite_false, reduceCtorEq, forall_eq, Classical.not_not, true_or, or_true, false_or, or_false, and_false, false_and, Int.reduceEq, Int.reduceLT, Int.reduceLE, Int.reduceAdd, Int.reduceSub, Int.reduceMul, Int.reduceNeg]
        exact M_text (lo := 100 * V 137 24) hS hV1 ha h1 ⟨by omega, by omega⟩ hr mq (fun _ V' f => ⟨rfl, INV.rr (h.read f1 f2) f.rr hn⟩) (fun q => (by rw [q] at cf; cases cf))
  · simp (disch := omega) only [I_x_text, I_m_text, p_isDay, p_misDay hk, ha, h1, hS.k100, hS.k137, hup, b_s32, b_eq0, b_01, l0, l1, true_and, and_true, and_self, true_implies, false_implies, implies_true, forall_const, not_true_eq_false, not_false_eq_true, reduceIte, ite_true, ite_false, reduceCtorEq, forall_eq, Classical.not_not, true_or, or_true, false_or, or_false, and_false, false_and, Int.reduceEq, Int.reduceLT, Int.reduceLE, Int.reduceAdd, Int.reduceSub, Int.reduceMul, Int.reduceNeg]
end TXG
