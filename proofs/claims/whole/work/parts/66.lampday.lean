def upB (V : Mem) (b c l r D : Int) : Mem := up2 (up2 (up2 (up2 V b 0 c) b 1 l) b 2 r) b 3 D
section LD
variable {d M : Nat} {b c l r i t gr ru D a k v : Int} {V Vm W W' : Mem} {S : Shp} {Q : Int → Mem → Shp → Prop} {trb : Bool} {Dy : Int → Int} {C : Int → List CL}
theorem up2_id (h : V a k = v) : up2 V a k v = V := by
  rw [← h]
  exact up2_self
theorem upB_1 (h0 : V b 0 = c) (h1 : V b 1 = l) (h2 : V b 2 = r) : upB V b c l r D = up2 V b 3 D := by
  unfold upB
  rw [up2_id h0, up2_id h1, up2_id h2]
theorem upB_2 (h1 : V b 1 = l) : upB V b c l r D = up2 (up2 (up2 V b 0 c) b 2 r) b 3 D := by
  unfold upB
  rw [up2_id (show (up2 V b 0 c) b 1 = l by rw [up2_ne (by omega)]; exact h1)]
theorem upB_3 (h0 : V b 0 = c) (h2 : V b 2 = r) : upB V b c l r D = up2 (up2 V b 1 l) b 3 D := by
  unfold upB
  rw [up2_id h0, up2_id (show (up2 V b 1 l) b 2 = r by rw [up2_ne (by omega)]; exact h2)]
/-- what a day does to the model's cells of a lamp -/
def GOM (W W' : Mem) (i c l r : Int) : Prop := (∀ a k, ¬ RCf a k → ¬ (146 ≤ a ∧ a ≤ 148 ∧ k = i) → W' a k = W a k) ∧ W' 146 i = c ∧ W' 147 i = l ∧ W' 148 i = r
/-- what a lamp's day reads of the component is the same -/
def SAM (V V2 : Mem) (i b bb : Int) : Prop := ∀ k, V2 (1000 + 10 * i) k = V (1000 + 10 * i) k ∧ V2 bb k = V b k ∧ V2 106 k = V 106 k
theorem lampDay (d : Nat) (h : TCT V S M Dy C trb) (hT : TM Vm trb) (i0 : 0 ≤ i) (i1 : i < 20) (ht : 0 ≤ t ∧ t ≤ 599) (hk : S.1 (1000 + 10 * i) = 5) (hb : S.1 b = 6)
    (hs : V 106 4 = t / 30 ∧ V 106 5 = gr ∧ V 106 6 = ru ∧ OFS V C (rulC Dy C 4 0 t (cnt M trb))) (hg : s32 gr = gr) (hu : ru = 0 ∨ ru = 1) (h0 : Vm 137 0 = t)
    (hst : V (1000 + 10 * i) 9 = Vm 144 i ∧ 0 ≤ Vm 144 i ∧ Vm 144 i ≤ 4) (hbr : V (1000 + 10 * i) 11 = Vm 156 i ∧ 0 ≤ Vm 156 i ∧ Vm 156 i ≤ 1)
    (hm : V b 0 = Vm 146 i ∧ V b 1 = Vm 147 i ∧ V b 2 = Vm 148 i) (hc : 0 ≤ Vm 146 i ∧ Vm 146 i ≤ 60000000) (hl : 0 ≤ Vm 147 i ∧ Vm 147 i ≤ 60000000) (hr : 0 ≤ Vm 148 i)
    (er : rulC Dy C 4 0 t (cnt M trb) < 0 ↔ rulr Vm 4 0 t trb < 0) (ec : 0 ≤ rulr Vm 4 0 t trb → clC C 4 0 (rulC Dy C 4 0 t (cnt M trb)) = clM Vm 4 0 (rulr Vm 4 0 t trb)) (hH : HOM V Vm S i b t) (hDk : ∀ W, FV W → MSC Vm W → ∀ (V' : Mem) (Q : Int → Mem → Shp → Prop), (∀ a k, a ≠ 162 → V' a k = W a k) → (C_m_darkAhead (d + 12) 137 i V' S Q ↔ Q (V b 3) V' S))
    (hGr : ∀ (W : Mem) (Q : Int → Mem → Shp → Prop), FV W → MSC Vm W → (∀ W', RFR W W' → Q gr W' S) → C_m_grace (d + 13) 137 t W S Q)
    (hRu : ∀ (W : Mem) (Q : Int → Mem → Shp → Prop), FV W → MSC Vm W → (∀ W', RFR W W' → Q ru W' S) → C_m_runs (d + 13) 137 t W S Q) :
    ∃ κ c l r : Int, (0 ≤ κ ∧ κ ≤ 6) ∧ (c + r = Vm 146 i + Vm 148 i ∧ 0 ≤ c ∧ 0 ≤ r) ∧ (Vm 147 i ≤ l ∧ l ≤ Vm 147 i + 1) ∧
      (∀ (V2 : Mem) (bb : Int), S.1 bb = 6 → TCT V2 S M Dy C trb → HOM V2 Vm S i bb t → SAM V V2 i b bb → ∀ Q : Int → Mem → Shp → Prop, Q κ (upB V2 bb c l r (if κ = 5 then V b 3 + 1 else 0)) S → C_Terms_goBy (d + 14) 106 (1000 + 10 * i) bb V2 S Q) ∧
      (∀ (W : Mem) (Q : Int → Mem → Shp → Prop), FV W → MSC Vm W → (∀ W', FV W' → GOM W W' i c l r → Q κ W' S) → C_m_goes (d + 14) 137 i W S Q) := by
  have hS := h.1
  obtain ⟨s1, s2, s3, s4⟩ := hs
  obtain ⟨a1, a2, a3⟩ := hst
  obtain ⟨b1, b2', b3⟩ := hbr
  obtain ⟨m1, m2, m3⟩ := hm
  have fc : ∀ V2 bb, SAM V V2 i b bb → V2 (1000 + 10 * i) 9 = Vm 144 i ∧ V2 (1000 + 10 * i) 11 = Vm 156 i ∧ V2 bb 0 = Vm 146 i ∧ V2 bb 1 = Vm 147 i ∧ V2 bb 2 = Vm 148 i ∧ V2 bb 3 = V b 3 ∧ V2 106 4 = t / 30 ∧ V2 106 5 = gr ∧ V2 106 6 = ru ∧ OFS V2 C (rulC Dy C 4 0 t (cnt M trb)) := fun V2 bb s => ⟨(s 9).1.trans a1, (s 11).1.trans b1, (s 0).2.1.trans m1, (s 1).2.1.trans m2, (s 2).2.1.trans m3, (s 3).2.1, (s 4).2.2.trans s1, (s 5).2.2.trans s2, (s 6).2.2.trans s3, ⟨(s 7).2.2.trans s4.1, (s 8).2.2.trans s4.2⟩⟩
  have t1 : s32 1 = 1 := l1
  have t4 : s32 4 = 4 := s32_id (by omega) (by omega)
  have t5 : s32 5 = 5 := s32_id (by omega) (by omega)
  have e4 : s32 (Vm 144 i) = Vm 144 i := s32_id (by omega) (by omega)
  have e6 : s32 (Vm 156 i) = Vm 156 i := s32_id (by omega) (by omega)
  have e7 : s32 (Vm 146 i) = Vm 146 i := s32_id (by omega) (by omega)
  have e8 : s32 (Vm 147 i) = Vm 147 i := s32_id (by omega) (by omega)
  have hi : s32 i = i := s32_id (by omega) (by omega)
  have eu : s32 ru = ru := s32_id (by omega) (by omega)
  have same : ∀ W : Mem, MSC Vm W → ∀ W', RFR W W' → GOM W W' i (Vm 146 i) (Vm 147 i) (Vm 148 i) := fun W e W' f => ⟨fun a k n1 _ => f a k n1, (f _ _ (by unfold RCf; omega)).trans (e _ _ (by omega) (by omega) (by unfold RCf; omega)), (f _ _ (by unfold RCf; omega)).trans (e _ _ (by omega) (by omega) (by unfold RCf; omega)), (f _ _ (by unfold RCf; omega)).trans (e _ _ (by omega) (by omega) (by unfold RCf; omega))⟩
  have mc : ∀ W : Mem, MSC Vm W → W 137 0 = t ∧ W 144 i = Vm 144 i ∧ W 156 i = Vm 156 i ∧ W 146 i = Vm 146 i ∧ W 147 i = Vm 147 i ∧ W 148 i = Vm 148 i := fun W e => ⟨(e _ _ (by omega) (by omega) (by unfold RCf; omega)).trans h0, e _ _ (by omega) (by omega) (by unfold RCf; omega), e _ _ (by omega) (by omega) (by unfold RCf; omega), e _ _ (by omega) (by omega) (by unfold RCf; omega), e _ _ (by omega) (by omega) (by unfold RCf; omega), e _ _ (by omega) (by omega) (by unfold RCf; omega)⟩
  by_cases c4 : Vm 144 i = 4
  · refine ⟨6, Vm 146 i, Vm 147 i, Vm 148 i, by omega, by omega, by omega, fun V2 bb hbb h2 H2 hs2 Q hQ => ?_, fun W Q hV e hQ => ?_⟩
    · obtain ⟨a1, b1, m1, m2, m3, m4, s1, s2, s3, s4⟩ := fc V2 bb hs2
      rw [if_neg (by omega), upB_1 m1 m2 m3] at hQ
      simp (disch := omega) only [I_Terms_goBy, I_Terms_runOn, hS.k106, hk, hbb, a1, e4, c4, t4, t5, s32_id (x := 6), hQ, b_s32, b_eq0, b_01, l0, l1, true_and, and_true, and_self, true_implies, false_implies, implies_true, forall_const, not_true_eq_false, not_false_eq_true, reduceIte, ite_true, ite_false, reduceCtorEq, forall_eq, Classical.not_not, true_or, or_true, false_or, or_false, and_false, false_and, Int.reduceEq, Int.reduceLT, Int.reduceLE, Int.reduceAdd, Int.reduceSub, Int.reduceMul, Int.reduceNeg]
    · obtain ⟨w0, w1, w2, w3, w4, w5⟩ := mc W e
      have := hQ W hV (same W e W RFR.rf)
      simp (disch := omega) only [I_m_goes, hS.k137, hS.k144, hS.n144, hV.r137_9, hi, i0, i1, w1, c4, t4, this, b_s32, b_eq0, b_01, l0, l1, true_and, and_true, and_self, true_implies, false_implies, implies_true, forall_const, not_true_eq_false, not_false_eq_true, reduceIte, ite_true, ite_false, reduceCtorEq, forall_eq, Classical.not_not, true_or, or_true, false_or, or_false, and_false, false_and, Int.reduceEq, Int.reduceLT, Int.reduceLE, Int.reduceAdd, Int.reduceSub, Int.reduceMul, Int.reduceNeg]
  · by_cases c1 : Vm 144 i = 1
    · by_cases c6 : Vm 156 i = 0
      · by_cases c7 : 0 < Vm 146 i
        · refine ⟨1, Vm 146 i - 1, Vm 147 i, Vm 148 i + 1, by omega, by omega, by omega, fun V2 bb hbb h2 H2 hs2 Q hQ => ?_, fun W Q hV e hQ => ?_⟩
          · obtain ⟨a1, b1, m1, m2, m3, m4, s1, s2, s3, s4⟩ := fc V2 bb hs2
            rw [if_neg (by omega), upB_2 m2] at hQ
            simp (disch := omega) only [I_Terms_goBy, I_Terms_runOn, I_Meter_runOneDay, hS.k106, hk, hbb, a1, b1, m1, m2, m3, e4, e6, e7, c4, c1, c6, c7, t1, t4, t5, s32_id (x := 1), up2_ne, hQ, b_s32, b_eq0, b_01, l0, l1, true_and, and_true, and_self, true_implies, false_implies, implies_true, forall_const, not_true_eq_false, not_false_eq_true, reduceIte, ite_true, ite_false, reduceCtorEq, forall_eq, Classical.not_not, true_or, or_true, false_or, or_false, and_false, false_and, Int.reduceEq, Int.reduceLT, Int.reduceLE, Int.reduceAdd, Int.reduceSub, Int.reduceMul, Int.reduceNeg]
          · obtain ⟨w0, w1, w2, w3, w4, w5⟩ := mc W e
            have hV1 : FV (up2 (up2 W 146 i (Vm 146 i - 1)) 148 i (Vm 148 i + 1)) := hV.fr (fun a k q => by rw [up2_ne (by unfold VD at q; omega), up2_ne (by unfold VD at q; omega)])
            have := hQ _ hV1 ⟨fun a k _ n2 => by rw [up2_ne (by omega), up2_ne (by omega)], by simp (disch := omega) only [up2_ne, up2_eq], by simp (disch := omega) only [up2_ne, up2_eq]; exact w4, by simp (disch := omega) only [up2_ne, up2_eq]⟩
            simp (disch := omega) only [I_m_goes, hS.k137, hS.k144, hS.n144, hV.r137_9, hS.k156, hS.n156, hV.r137_21, hS.k146, hS.n146, hV.r137_11, hS.k148, hS.n148, hV.r137_13, hi, i0, i1, w1, w2, w3, w5, e7, c1, c6, c7, t1, t4, up2_ne, this, b_s32, b_eq0, b_01, l0, l1, true_and, and_true, and_self, true_implies, false_implies, implies_true, forall_const, not_true_eq_false, not_false_eq_true, reduceIte, ite_true, ite_false, reduceCtorEq, forall_eq, Classical.not_not, true_or, or_true, false_or, or_false, and_false, false_and, Int.reduceEq, Int.reduceLT, Int.reduceLE, Int.reduceAdd, Int.reduceSub, Int.reduceMul, Int.reduceNeg]
        · obtain ⟨v, v1, v2⟩ := letPair d h hT i0 i1 ht hk er ec hH hDk
          have cC : ∀ (V2 : Mem) (bb : Int) (Q : Int → Mem → Shp → Prop), S.1 bb = 6 → SAM V V2 i b bb → (C_Terms_goBy (d + 14) 106 (1000 + 10 * i) bb V2 S Q ↔ OFFH (d + 12) C 4 (rulC Dy C 4 0 t (cnt M trb)) (1000 + 10 * i) bb (t / 30) V2 S (fun r1 V1 S1 => ((s32 r1 = 0 → (S1.1 bb = 6 ∧ (S1.1 106 = 8 ∧ ((s32 (V1 bb 1) < s32 (V1 106 5) → (S1.1 bb = 6 ∧ (S1.1 bb = 6 ∧ (S1.1 bb = 6 ∧ Q 2 (up2 (up2 V1 bb 1 (V1 bb 1 + 1)) bb 3 0) S1)))) ∧ (¬ s32 (V1 bb 1) < s32 (V1 106 5) → (S1.1 bb = 6 ∧ (S1.1 bb = 6 ∧ Q 5 (up2 V1 bb 3 (V1 bb 3 + 1)) S1))))))) ∧ (¬ s32 r1 = 0 → (S1.1 bb = 6 ∧ Q 3 (up2 V1 bb 3 0) S1))))) := by
            intro V2 bb Q hbb hs2
            obtain ⟨a1, b1, m1, m2, m3, m4, s1, s2, s3, s4⟩ := fc V2 bb hs2
            obtain ⟨s4, s5⟩ := s4
            unfold OFFH
            unfold oft at s4
            unfold ofc at s5
            by_cases cr : rulC Dy C 4 0 t (cnt M trb) < 0
            · rw [if_pos cr] at s4 ⊢
              simp (disch := omega) only [I_Terms_goBy, I_Terms_runOn, hS.k106, hk, hbb, a1, b1, m1, e4, e6, e7, c4, c1, c6, c7, t1, t4, t5, s1, s4, l0, s32_id (x := 2), s32_id (x := 3), b_s32, b_eq0, b_01, l0, l1, true_and, and_true, and_self, true_implies, false_implies, implies_true, forall_const, not_true_eq_false, not_false_eq_true, reduceIte, ite_true, ite_false, reduceCtorEq, forall_eq, Classical.not_not, true_or, or_true, false_or, or_false, and_false, false_and, Int.reduceEq, Int.reduceLT, Int.reduceLE, Int.reduceAdd, Int.reduceSub, Int.reduceMul, Int.reduceNeg]
            · rw [if_neg cr] at s4 s5 ⊢
              obtain ⟨-, -, x3⟩ := c_rulTA (w := 4) h (s32_id (x := t) (by omega) (by omega)) rfl (by omega)
              simp (disch := omega) only [I_Terms_goBy, I_Terms_runOn, hS.k106, hk, hbb, a1, b1, m1, e4, e6, e7, c4, c1, c6, c7, t1, t4, t5, s1, s4, s5, x3, s32_id (x := 2), s32_id (x := 3), b_s32, b_eq0, b_01, l0, l1, true_and, and_true, and_self, true_implies, false_implies, implies_true, forall_const, not_true_eq_false, not_false_eq_true, reduceIte, ite_true, ite_false, reduceCtorEq, forall_eq, Classical.not_not, true_or, or_true, false_or, or_false, and_false, false_and, Int.reduceEq, Int.reduceLT, Int.reduceLE, Int.reduceAdd, Int.reduceSub, Int.reduceMul, Int.reduceNeg]
          have cM : ∀ (W : Mem) (Q : Int → Mem → Shp → Prop), FV W → MSC Vm W → (C_m_goes (d + 14) 137 i W S Q ↔ C_m_isLet (d + 13) 137 4 i t W S (fun r1 V1 S1 => ((s32 r1 = 0 → (S1.1 137 = 12 ∧ (((S1.1 (V1 137 12) = 100 ∨ S1.1 (V1 137 12) = 104) ∧ 0 ≤ s32 i ∧ s32 i < S1.2.1 (V1 137 12)) ∧ (S1.1 137 = 12 ∧ (C_m_grace (d + 13) 137 (V1 137 0) V1 S1 (fun r2 V2 S2 => ((s32 (V1 (V1 137 12) (s32 i)) < s32 r2 → (S2.1 137 = 12 ∧ (((S2.1 (V2 137 12) = 100 ∨ S2.1 (V2 137 12) = 104) ∧ 0 ≤ s32 i ∧ s32 i < S2.2.1 (V2 137 12)) ∧ ((S2.1 (V2 137 12) = 100 ∧ 0 ≤ s32 i ∧ s32 i < S2.2.1 (V2 137 12)) ∧ Q 2 (up2 V2 (V2 137 12) (s32 i) ((V2 (V2 137 12) (s32 i)) + 1)) S2)))) ∧ (¬ s32 (V1 (V1 137 12) (s32 i)) < s32 r2 → Q 5 V2 S2)))))))) ∧ (¬ s32 r1 = 0 → Q 3 V1 S1)))) := by
            intro W Q hV e
            obtain ⟨w0, w1, w2, w3, w4, w5⟩ := mc W e
            rw [I_m_goes]
            simp (disch := omega) only [hS.k137, hS.k144, hS.n144, hV.r137_9, hS.k156, hS.n156, hV.r137_21, hS.k146, hS.n146, hV.r137_11, hi, i0, i1, w0, w1, w2, w3, e7, c1, c6, c7, t1, t4, b_s32, b_eq0, b_01, l0, l1, true_and, and_true, and_self, true_implies, false_implies, implies_true, forall_const, not_true_eq_false, not_false_eq_true, reduceIte, ite_true, ite_false, reduceCtorEq, forall_eq, Classical.not_not, true_or, or_true, false_or, or_false, and_false, false_and, Int.reduceEq, Int.reduceLT, Int.reduceLE, Int.reduceAdd, Int.reduceSub, Int.reduceMul, Int.reduceNeg]
          cases v
          · by_cases c8 : Vm 147 i < gr
            · refine ⟨2, Vm 146 i, Vm 147 i + 1, Vm 148 i, by omega, by omega, by omega, fun V2 bb hbb h2 H2 hs2 Q hQ => ?_, fun W Q hV e hQ => ?_⟩
              · obtain ⟨a1, b1, m1, m2, m3, m4, s1, s2, s3, s4⟩ := fc V2 bb hs2
                rw [if_neg (by omega), upB_3 m1 m3] at hQ
                rw [cC V2 bb _ hbb hs2]
                refine v1 V2 bb h2 H2 m4 _ ?_
                simp (disch := omega) only [show s32 (b2 false) = 0 from by decide, hbb, hS.k106, m2, m4, s2, e8, hg, c8, hQ, b_s32, b_eq0, b_01, l0, l1, true_and, and_true, and_self, true_implies, false_implies, implies_true, forall_const, not_true_eq_false, not_false_eq_true, reduceIte, ite_true, ite_false, reduceCtorEq, forall_eq, Classical.not_not, true_or, or_true, false_or, or_false, and_false, false_and, Int.reduceEq, Int.reduceLT, Int.reduceLE, Int.reduceAdd, Int.reduceSub, Int.reduceMul, Int.reduceNeg]
              · rw [cM W Q hV e]
                refine v2 W _ hV e (fun W1 f1 => ?_)
                have hV1 := hV.rr f1
                have g1 := e.tr f1.mq
                obtain ⟨w0, w1, w2, w3, w4, w5⟩ := mc W1 g1
                have hV := hV1
                simp (disch := omega) only [show s32 (b2 false) = 0 from by decide, hS.k137, hS.k147, hS.n147, hV.r137_12, hi, i0, i1, w0, w4, e8, b_s32, b_eq0, b_01, l0, l1, true_and, and_true, and_self, true_implies, false_implies, implies_true, forall_const, not_true_eq_false, not_false_eq_true, reduceIte, ite_true, ite_false, reduceCtorEq, forall_eq, Classical.not_not, true_or, or_true, false_or, or_false, and_false, false_and, Int.reduceEq, Int.reduceLT, Int.reduceLE, Int.reduceAdd, Int.reduceSub, Int.reduceMul, Int.reduceNeg]
                refine hGr W1 _ hV1 g1 (fun W2 f2 => ?_)
                have hV := hV1.rr f2
                have w42 : W2 147 i = Vm 147 i := (f2 _ _ (by unfold RCf; omega)).trans w4
                have w52 : W2 148 i = Vm 148 i := (f2 _ _ (by unfold RCf; omega)).trans w5
                have w32 : W2 146 i = Vm 146 i := (f2 _ _ (by unfold RCf; omega)).trans w3
                have := hQ (up2 W2 147 i (Vm 147 i + 1)) (hV.fr (fun a k q => up2_ne (by unfold VD at q; omega))) ⟨fun a k n1 n2 => by rw [up2_ne (by omega), f2 a k n1, f1 a k n1], by rw [up2_ne (by omega)]; exact w32, up2_eq rfl rfl, by rw [up2_ne (by omega)]; exact w52⟩
                simp (disch := omega) only [hS.k137, hS.k147, hS.n147, hV.r137_12, hi, i0, i1, w42, hg, c8, this, b_s32, b_eq0, b_01, l0, l1, true_and, and_true, and_self, true_implies, false_implies, implies_true, forall_const, not_true_eq_false, not_false_eq_true, reduceIte, ite_true, ite_false, reduceCtorEq, forall_eq, Classical.not_not, true_or, or_true, false_or, or_false, and_false, false_and, Int.reduceEq, Int.reduceLT, Int.reduceLE, Int.reduceAdd, Int.reduceSub, Int.reduceMul, Int.reduceNeg]
            · refine ⟨5, Vm 146 i, Vm 147 i, Vm 148 i, by omega, by omega, by omega, fun V2 bb hbb h2 H2 hs2 Q hQ => ?_, fun W Q hV e hQ => ?_⟩
              · obtain ⟨a1, b1, m1, m2, m3, m4, s1, s2, s3, s4⟩ := fc V2 bb hs2
                rw [if_pos rfl, upB_1 m1 m2 m3] at hQ
                rw [cC V2 bb _ hbb hs2]
                refine v1 V2 bb h2 H2 m4 _ ?_
                simp (disch := omega) only [show s32 (b2 false) = 0 from by decide, hbb, hS.k106, m2, m4, s2, e8, hg, c8, hQ, b_s32, b_eq0, b_01, l0, l1, true_and, and_true, and_self, true_implies, false_implies, implies_true, forall_const, not_true_eq_false, not_false_eq_true, reduceIte, ite_true, ite_false, reduceCtorEq, forall_eq, Classical.not_not, true_or, or_true, false_or, or_false, and_false, false_and, Int.reduceEq, Int.reduceLT, Int.reduceLE, Int.reduceAdd, Int.reduceSub, Int.reduceMul, Int.reduceNeg]
              · rw [cM W Q hV e]
                refine v2 W _ hV e (fun W1 f1 => ?_)
                have hV1 := hV.rr f1
                have g1 := e.tr f1.mq
                obtain ⟨w0, w1, w2, w3, w4, w5⟩ := mc W1 g1
                have hV := hV1
                simp (disch := omega) only [show s32 (b2 false) = 0 from by decide, hS.k137, hS.k147, hS.n147, hV.r137_12, hi, i0, i1, w0, w4, e8, b_s32, b_eq0, b_01, l0, l1, true_and, and_true, and_self, true_implies, false_implies, implies_true, forall_const, not_true_eq_false, not_false_eq_true, reduceIte, ite_true, ite_false, reduceCtorEq, forall_eq, Classical.not_not, true_or, or_true, false_or, or_false, and_false, false_and, Int.reduceEq, Int.reduceLT, Int.reduceLE, Int.reduceAdd, Int.reduceSub, Int.reduceMul, Int.reduceNeg]
                refine hGr W1 _ hV1 g1 (fun W2 f2 => ?_)
                have := hQ W2 (hV1.rr f2) (same W e W2 (f1.tr f2))
                simp (disch := omega) only [hg, c8, this, b_s32, b_eq0, b_01, l0, l1, true_and, and_true, and_self, true_implies, false_implies, implies_true, forall_const, not_true_eq_false, not_false_eq_true, reduceIte, ite_true, ite_false, reduceCtorEq, forall_eq, Classical.not_not, true_or, or_true, false_or, or_false, and_false, false_and, Int.reduceEq, Int.reduceLT, Int.reduceLE, Int.reduceAdd, Int.reduceSub, Int.reduceMul, Int.reduceNeg]
          · refine ⟨3, Vm 146 i, Vm 147 i, Vm 148 i, by omega, by omega, by omega, fun V2 bb hbb h2 H2 hs2 Q hQ => ?_, fun W Q hV e hQ => ?_⟩
            · obtain ⟨a1, b1, m1, m2, m3, m4, s1, s2, s3, s4⟩ := fc V2 bb hs2
              rw [if_neg (by omega), upB_1 m1 m2 m3] at hQ
              rw [cC V2 bb _ hbb hs2]
              refine v1 V2 bb h2 H2 m4 _ ?_
              simp (disch := omega) only [show ¬ s32 (b2 true) = 0 from by decide, hbb, hQ, b_s32, b_eq0, b_01, l0, l1, true_and, and_true, and_self, true_implies, false_implies, implies_true, forall_const, not_true_eq_false, not_false_eq_true, reduceIte, ite_true, ite_false, reduceCtorEq, forall_eq, Classical.not_not, true_or, or_true, false_or, or_false, and_false, false_and, Int.reduceEq, Int.reduceLT, Int.reduceLE, Int.reduceAdd, Int.reduceSub, Int.reduceMul, Int.reduceNeg]
            · rw [cM W Q hV e]
              refine v2 W _ hV e (fun W1 f1 => ?_)
              have := hQ W1 (hV.rr f1) (same W e W1 f1)
              simp (disch := omega) only [show ¬ s32 (b2 true) = 0 from by decide, this, b_s32, b_eq0, b_01, l0, l1, true_and, and_true, and_self, true_implies, false_implies, implies_true, forall_const, not_true_eq_false, not_false_eq_true, reduceIte, ite_true, ite_false, reduceCtorEq, forall_eq, Classical.not_not, true_or, or_true, false_or, or_false, and_false, false_and, Int.reduceEq, Int.reduceLT, Int.reduceLE, Int.reduceAdd, Int.reduceSub, Int.reduceMul, Int.reduceNeg]
      · by_cases c7 : 0 < Vm 146 i
        · rcases hu with u | u
          · refine ⟨4, Vm 146 i, Vm 147 i, Vm 148 i, by omega, by omega, by omega, fun V2 bb hbb h2 H2 hs2 Q hQ => ?_, fun W Q hV e hQ => ?_⟩
            · obtain ⟨a1, b1, m1, m2, m3, m4, s1, s2, s3, s4⟩ := fc V2 bb hs2
              rw [if_neg (by omega), upB_1 m1 m2 m3] at hQ
              simp (disch := omega) only [I_Terms_goBy, I_Terms_runOn, hS.k106, hk, hbb, a1, b1, e4, e6, c4, c1, c6, s3, u, t1, t4, t5, show ¬ (0 : Int) = 1 from by omega, show ¬ (4 : Int) = 5 from by omega, show ¬ (1 : Int) = 4 from by omega, hQ, b_s32, b_eq0, b_01, l0, l1, true_and, and_true, and_self, true_implies, false_implies, implies_true, forall_const, not_true_eq_false, not_false_eq_true, reduceIte, ite_true, ite_false, reduceCtorEq, forall_eq, Classical.not_not, true_or, or_true, false_or, or_false, and_false, false_and, Int.reduceEq, Int.reduceLT, Int.reduceLE, Int.reduceAdd, Int.reduceSub, Int.reduceMul, Int.reduceNeg]
            · obtain ⟨w0, w1, w2, w3, w4, w5⟩ := mc W e
              have hr1 := hRu W
              rw [u] at hr1
              rw [I_m_goes]
              simp (disch := omega) only [hS.k137, hS.k144, hS.n144, hV.r137_9, hS.k156, hS.n156, hV.r137_21, hS.k146, hS.n146, hV.r137_11, hi, i0, i1, w0, w1, w2, w3, e6, e7, c1, c6, c7, t1, t4, b_s32, b_eq0, b_01, l0, l1, true_and, and_true, and_self, true_implies, false_implies, implies_true, forall_const, not_true_eq_false, not_false_eq_true, reduceIte, ite_true, ite_false, reduceCtorEq, forall_eq, Classical.not_not, true_or, or_true, false_or, or_false, and_false, false_and, Int.reduceEq, Int.reduceLT, Int.reduceLE, Int.reduceAdd, Int.reduceSub, Int.reduceMul, Int.reduceNeg]
              refine hr1 _ hV e (fun W1 f1 => ?_)
              have := hQ W1 (hV.rr f1) (same W e W1 f1)
              simp (disch := omega) only [this, b_s32, b_eq0, b_01, l0, l1, true_and, and_true, and_self, true_implies, false_implies, implies_true, forall_const, not_true_eq_false, not_false_eq_true, reduceIte, ite_true, ite_false, reduceCtorEq, forall_eq, Classical.not_not, true_or, or_true, false_or, or_false, and_false, false_and, Int.reduceEq, Int.reduceLT, Int.reduceLE, Int.reduceAdd, Int.reduceSub, Int.reduceMul, Int.reduceNeg]
          · refine ⟨4, Vm 146 i - 1, Vm 147 i, Vm 148 i + 1, by omega, by omega, by omega, fun V2 bb hbb h2 H2 hs2 Q hQ => ?_, fun W Q hV e hQ => ?_⟩
            · obtain ⟨a1, b1, m1, m2, m3, m4, s1, s2, s3, s4⟩ := fc V2 bb hs2
              rw [if_neg (by omega), upB_2 m2] at hQ
              simp (disch := omega) only [I_Terms_goBy, I_Terms_runOn, I_Meter_runOneDay, hS.k106, hk, hbb, a1, b1, m1, m3, e4, e6, e7, c4, c1, c6, c7, s3, u, t1, t4, t5, up2_ne, show ¬ (4 : Int) = 5 from by omega, show ¬ (1 : Int) = 4 from by omega, hQ, b_s32, b_eq0, b_01, l0, l1, true_and, and_true, and_self, true_implies, false_implies, implies_true, forall_const, not_true_eq_false, not_false_eq_true, reduceIte, ite_true, ite_false, reduceCtorEq, forall_eq, Classical.not_not, true_or, or_true, false_or, or_false, and_false, false_and, Int.reduceEq, Int.reduceLT, Int.reduceLE, Int.reduceAdd, Int.reduceSub, Int.reduceMul, Int.reduceNeg]
            · obtain ⟨w0, w1, w2, w3, w4, w5⟩ := mc W e
              have hr1 := hRu W
              rw [u] at hr1
              rw [I_m_goes]
              simp (disch := omega) only [hS.k137, hS.k144, hS.n144, hV.r137_9, hS.k156, hS.n156, hV.r137_21, hS.k146, hS.n146, hV.r137_11, hi, i0, i1, w0, w1, w2, w3, e6, e7, c1, c6, c7, t1, t4, b_s32, b_eq0, b_01, l0, l1, true_and, and_true, and_self, true_implies, false_implies, implies_true, forall_const, not_true_eq_false, not_false_eq_true, reduceIte, ite_true, ite_false, reduceCtorEq, forall_eq, Classical.not_not, true_or, or_true, false_or, or_false, and_false, false_and, Int.reduceEq, Int.reduceLT, Int.reduceLE, Int.reduceAdd, Int.reduceSub, Int.reduceMul, Int.reduceNeg]
              refine hr1 _ hV e (fun W1 f1 => ?_)
              have hV1 := hV.rr f1
              have g1 := e.tr f1.mq
              obtain ⟨x0, x1, x2, x3, x4, x5⟩ := mc W1 g1
              have hV := hV1
              have hV2 : FV (up2 (up2 W1 146 i (Vm 146 i - 1)) 148 i (Vm 148 i + 1)) := hV.fr (fun a k q => by rw [up2_ne (by unfold VD at q; omega), up2_ne (by unfold VD at q; omega)])
              have := hQ _ hV2 ⟨fun a k n1 n2 => by rw [up2_ne (by omega), up2_ne (by omega), f1 a k n1], by simp (disch := omega) only [up2_ne, up2_eq], by simp (disch := omega) only [up2_ne, up2_eq]; exact x4, by simp (disch := omega) only [up2_ne, up2_eq]⟩
              simp (disch := omega) only [hS.k137, hS.k146, hS.n146, hV.r137_11, hS.k148, hS.n148, hV.r137_13, hi, i0, i1, x3, x5, t1, up2_ne, show ¬ (1 : Int) = 0 from by omega, this, b_s32, b_eq0, b_01, l0, l1, true_and, and_true, and_self, true_implies, false_implies, implies_true, forall_const, not_true_eq_false, not_false_eq_true, reduceIte, ite_true, ite_false, reduceCtorEq, forall_eq, Classical.not_not, true_or, or_true, false_or, or_false, and_false, false_and, Int.reduceEq, Int.reduceLT, Int.reduceLE, Int.reduceAdd, Int.reduceSub, Int.reduceMul, Int.reduceNeg]
        · refine ⟨4, Vm 146 i, Vm 147 i, Vm 148 i, by omega, by omega, by omega, fun V2 bb hbb h2 H2 hs2 Q hQ => ?_, fun W Q hV e hQ => ?_⟩
          · obtain ⟨a1, b1, m1, m2, m3, m4, s1, s2, s3, s4⟩ := fc V2 bb hs2
            rw [if_neg (by omega), upB_1 m1 m2 m3] at hQ
            rcases hu with u | u
            · simp (disch := omega) only [I_Terms_goBy, I_Terms_runOn, hS.k106, hk, hbb, a1, b1, e4, e6, c4, c1, c6, s3, u, t1, t4, t5, show ¬ (0 : Int) = 1 from by omega, show ¬ (4 : Int) = 5 from by omega, show ¬ (1 : Int) = 4 from by omega, hQ, b_s32, b_eq0, b_01, l0, l1, true_and, and_true, and_self, true_implies, false_implies, implies_true, forall_const, not_true_eq_false, not_false_eq_true, reduceIte, ite_true, ite_false, reduceCtorEq, forall_eq, Classical.not_not, true_or, or_true, false_or, or_false, and_false, false_and, Int.reduceEq, Int.reduceLT, Int.reduceLE, Int.reduceAdd, Int.reduceSub, Int.reduceMul, Int.reduceNeg]
            · simp (disch := omega) only [I_Terms_goBy, I_Terms_runOn, I_Meter_runOneDay, hS.k106, hk, hbb, a1, b1, m1, e4, e6, e7, c4, c1, c6, c7, s3, u, t1, t4, t5, show ¬ (4 : Int) = 5 from by omega, show ¬ (1 : Int) = 4 from by omega, hQ, b_s32, b_eq0, b_01, l0, l1, true_and, and_true, and_self, true_implies, false_implies, implies_true, forall_const, not_true_eq_false, not_false_eq_true, reduceIte, ite_true, ite_false, reduceCtorEq, forall_eq, Classical.not_not, true_or, or_true, false_or, or_false, and_false, false_and, Int.reduceEq, Int.reduceLT, Int.reduceLE, Int.reduceAdd, Int.reduceSub, Int.reduceMul, Int.reduceNeg]
          · obtain ⟨w0, w1, w2, w3, w4, w5⟩ := mc W e
            have := hQ W hV (same W e W RFR.rf)
            rw [I_m_goes]
            simp (disch := omega) only [hS.k137, hS.k144, hS.n144, hV.r137_9, hS.k156, hS.n156, hV.r137_21, hS.k146, hS.n146, hV.r137_11, hi, i0, i1, w0, w1, w2, w3, e6, e7, c1, c6, c7, t1, t4, this, b_s32, b_eq0, b_01, l0, l1, true_and, and_true, and_self, true_implies, false_implies, implies_true, forall_const, not_true_eq_false, not_false_eq_true, reduceIte, ite_true, ite_false, reduceCtorEq, forall_eq, Classical.not_not, true_or, or_true, false_or, or_false, and_false, false_and, Int.reduceEq, Int.reduceLT, Int.reduceLE, Int.reduceAdd, Int.reduceSub, Int.reduceMul, Int.reduceNeg]
    · refine ⟨0, Vm 146 i, Vm 147 i, Vm 148 i, by omega, by omega, by omega, fun V2 bb hbb h2 H2 hs2 Q hQ => ?_, fun W Q hV e hQ => ?_⟩
      · obtain ⟨a1, b1, m1, m2, m3, m4, s1, s2, s3, s4⟩ := fc V2 bb hs2
        rw [if_neg (by omega), upB_1 m1 m2 m3] at hQ
        simp (disch := omega) only [I_Terms_goBy, I_Terms_runOn, hS.k106, hk, hbb, a1, e4, c4, c1, t1, t4, t5, l0, show ¬ (0 : Int) = 5 from by omega, hQ, b_s32, b_eq0, b_01, l0, l1, true_and, and_true, and_self, true_implies, false_implies, implies_true, forall_const, not_true_eq_false, not_false_eq_true, reduceIte, ite_true, ite_false, reduceCtorEq, forall_eq, Classical.not_not, true_or, or_true, false_or, or_false, and_false, false_and, Int.reduceEq, Int.reduceLT, Int.reduceLE, Int.reduceAdd, Int.reduceSub, Int.reduceMul, Int.reduceNeg]
      · obtain ⟨w0, w1, w2, w3, w4, w5⟩ := mc W e
        have := hQ W hV (same W e W RFR.rf)
        simp (disch := omega) only [I_m_goes, hS.k137, hS.k144, hS.n144, hV.r137_9, hi, i0, i1, w1, e4, c4, c1, t1, t4, this, b_s32, b_eq0, b_01, l0, l1, true_and, and_true, and_self, true_implies, false_implies, implies_true, forall_const, not_true_eq_false, not_false_eq_true, reduceIte, ite_true, ite_false, reduceCtorEq, forall_eq, Classical.not_not, true_or, or_true, false_or, or_false, and_false, false_and, Int.reduceEq, Int.reduceLT, Int.reduceLE, Int.reduceAdd, Int.reduceSub, Int.reduceMul, Int.reduceNeg]
end LD
