section TXE
variable {d : Nat} {n m a b : Int} {V : Mem} {S : Shp} {Q : Int → Mem → Shp → Prop}
/-- what the component's reading leaves, against what it found -/
def RFd (T : Int) (V V1 : Mem) : Prop := ∀ p q, ¬ (p = 104 ∧ (q = 1 ∨ q = 2)) → ¬ (p = T ∧ (q = 1 ∨ q = 6)) → ¬ (T + 1 ≤ p ∧ p ≤ T + 4) → V1 p q = V p q
theorem c_read {lo : Int} (h : INV n V S) (hQ : ∀ V1, RFd (TA (V 137 24)) V V1 → V1 104 1 = 0 → ((pX (pkd V lo (V 137 25)) (V 137 25) 8 0 []).1 = true → TXC V1 (V 137 24) (pX (pkd V lo (V 137 25)) (V 137 25) 8 0 []).2.2) → Q (if (pX (pkd V lo (V 137 25)) (V 137 25) 8 0 []).1 = true then -1 else (pX (pkd V lo (V 137 25)) (V 137 25) 8 0 []).2.1) V1 S) : C_Reader_readInto (d + 30) 104 (TA (V 137 24)) V S Q := by
  have hk := h.1
  have n10 := hk.n10
  obtain ⟨q1, q2, q3, q4, q5⟩ := hk.2.2.2.2.2.2.2 (V 137 24) (by omega) (by omega)
  refine c_readInto (pk := pkd V lo (V 137 25)) (n := V 137 25) hk.1 (by unfold TXa TA; omega) q1 (RDR.rs h.2.2.2.2.2.1 hk.2.1) ⟨q2, q3, q4, q5⟩ (fun V1 f1 f2 f3 => ?_)
  refine hQ V1 (fun p q n1 n2 n3 => f1 p q (by unfold YFf; omega) (by omega)) f2 (fun c => ?_)
  obtain ⟨g1, g2⟩ := f3 c
  have hl := pX_len (pkd V lo (V 137 25)) (V 137 25) 8 0 []
  exact ⟨g1, by have : ([] : List CL).length = 0 := rfl; omega, g2⟩
theorem fed_b {lo : Int} (h : INV n V S) : 0 ≤ (pX (pkd V lo (V 137 25)) (V 137 25) 8 0 []).2.1 ∧ (pX (pkd V lo (V 137 25)) (V 137 25) 8 0 []).2.1 ≤ 100 := by
  obtain ⟨⟨r1, r2, r3⟩, r4⟩ := h.2.2.2.2.2.1
  have := pX_b (pk := pkd V lo (V 137 25)) (n := V 137 25) pkd_n 8 0 [] r2
  unfold INB at this
  omega
theorem M_text {lo : Int} {V1 : Mem} {S1 : Shp} (hS : FS S1) (hV : FV V1) (ha : s32 a = a) (h1 : 0 ≤ a ∧ a ≤ 599) (h2 : 0 ≤ V 137 24 ∧ V 137 24 < 10) (hr : RDR V) (e : MEQ V V1) (hF : (pX (pkd V lo (V 137 25)) (V 137 25) 8 0 []).1 = false → ∀ V', GFR (up2 (up2 V1 161 11 (V 137 25)) 137 25 0) V' → Q (-10 - (pX (pkd V lo (V 137 25)) (V 137 25) 8 0 []).2.1) V' S1) (hT : (pX (pkd V lo (V 137 25)) (V 137 25) 8 0 []).1 = true → (pX (pkd V lo (V 137 25)) (V 137 25) 8 0 []).2.1 = V 137 25 → ∀ V', GFR (up2 (up2 V1 161 11 (V 137 25)) 137 25 0) V' → Q (V 137 24) (up2 (up2 (cpf (up2 V' 161 (V 137 24) (V 137 25)) (100 * V 137 24) (V 137 25)) 159 (V 137 24) a) 137 24 (V 137 24 + 1)) S1) : C_m_text (d + 40) 137 a V1 S1 Q := by
  have e24 : V1 137 24 = V 137 24 := e _ _ (by omega) (by omega)
  have e25 : V1 137 25 = V 137 25 := e _ _ (by omega) (by omega)
  have s24 : s32 (V 137 24) = V 137 24 := s32_id (by omega) (by omega)
  have hV1 := hV
  simp (disch := omega) only [I_m_text, I_m_isDay, r_in hS, ha, h1, hS.k137, hS.k161, hS.n161, hV.r137_28, e24, e25, s24, s32_id (x := 10), s32_id (x := 11), s32_id (x := 0), s32_id (x := 599), show ¬ V 137 24 = 10 from by omega, up2_ne, b_s32, b_eq0, b_01, l0, l1, true_and, and_true, and_self, true_implies, false_implies, implies_true, forall_const, not_true_eq_false, not_false_eq_true, reduceIte, ite_true, ite_false, reduceCtorEq, forall_eq, Classical.not_not, true_or, or_true, false_or, or_false, and_false, false_and, Int.reduceEq, Int.reduceLT, Int.reduceLE, Int.reduceAdd, Int.reduceSub, Int.reduceMul, Int.reduceNeg]
  refine fedM (d := d + 29) (lo := lo) hS hV1 hr e (fun q V' f g => ?_) (fun q q2 V' f => ?_)
  · have := hF q V' f
    rw [← g] at this
    simp (disch := omega) only [hS.k137, this, b_s32, b_eq0, b_01, l0, l1, true_and, and_true, and_self, true_implies, false_implies, implies_true, forall_const, not_true_eq_false, not_false_eq_true, reduceIte, ite_true, ite_false, reduceCtorEq, forall_eq, Classical.not_not, true_or, or_true, false_or, or_false, and_false, false_and, Int.reduceEq, Int.reduceLT, Int.reduceLE, Int.reduceAdd, Int.reduceSub, Int.reduceMul, Int.reduceNeg]
  · have := hT q q2 V' f
    have F : ∀ p r, ¬ GCf p r → ¬ (p = 161 ∧ r = 11) → ¬ (p = 137 ∧ r = 25) → V' p r = V1 p r := fun p r n1 n2 n3 => by
      rw [f p r n1, up2_ne (by omega), up2_ne (by omega)]
    have hV : FV V' := hV1.fr (fun p r hd => F p r (by unfold VD at hd; unfold GCf; omega) (by unfold VD at hd; omega) (by unfold VD at hd; omega))
    have g24 : V' 137 24 = V 137 24 := (F _ _ (by unfold GCf; omega) (by omega) (by omega)).trans e24
    have g11 : V' 161 11 = V 137 25 := by rw [f _ _ (by unfold GCf; omega), up2_ne (by omega), up2_eq rfl rfl]
    obtain ⟨⟨-, r2, r3⟩, -⟩ := hr
    simp (disch := omega) only [hS.k137, hS.k161, hS.n161, hV.r137_28, g24, g11, s24, h2, show V 137 24 < 12 from by omega, b_s32, b_eq0, b_01, l0, l1, true_and, and_true, and_self, true_implies, false_implies, implies_true, forall_const, not_true_eq_false, not_false_eq_true, reduceIte, ite_true, ite_false, reduceCtorEq, forall_eq, Classical.not_not, true_or, or_true, false_or, or_false, and_false, false_and, Int.reduceEq, Int.reduceLT, Int.reduceLE, Int.reduceAdd, Int.reduceSub, Int.reduceMul, Int.reduceNeg]
    have k := m_copy (d := d + 39) (V := up2 V' 161 (V 137 24) (V 137 25)) (S := S1) (Q := Q) (a := a) (s := V 137 24) (n := V 137 25) (g := (0, 0)) hS (hV.fr (fun p r hd => up2_ne (by unfold VD at hd; omega))) ⟨by rw [up2_ne (by omega)]; exact g24, h2.1, h2.2⟩ ⟨by rw [up2_ne (by omega)]; exact g11, r2, r3⟩ this (V 137 25).toNat 0 (by omega) (by omega)
    rw [cpf_0] at k
    exact k
end TXE
