/-! the model's texts: which one rules -/
def GOODM (V : Mem) (u : Int) : Prop := (∀ p, 0 ≤ p → p < V 161 u → -128 ≤ V 160 (100 * u + p) ∧ V 160 (100 * u + p) < 128) ∧ (0 ≤ V 159 u ∧ V 159 u ≤ 599) ∧ (0 ≤ V 161 u ∧ V 161 u ≤ 100) ∧ (pX (pkM V (100 * u) (V 161 u)) (V 161 u) 8 0 []).1 = true ∧ (pX (pkM V (100 * u) (V 161 u)) (V 161 u) 8 0 []).2.1 = V 161 u
def RCf (a k : Int) : Prop := (a = 137 ∧ ((30 ≤ k ∧ k ≤ 39) ∨ (42 ≤ k ∧ k ≤ 44))) ∨ (162 ≤ a ∧ a ≤ 164)
def RFR (V V' : Mem) : Prop := ∀ a k, ¬ RCf a k → V' a k = V a k
def TM (V : Mem) (trb : Bool) : Prop := (0 ≤ V 137 24 ∧ V 137 24 ≤ 10) ∧ (∀ u, 0 ≤ u → u < V 137 24 → GOODM V u) ∧ V 137 45 = b2 trb ∧ (trb = true → GOODM V 10)
noncomputable def rulN (V : Mem) (aw ac day : Int) : Nat → Int
  | 0 => -1
  | N + 1 => if V 159 (N : Int) ≤ day ∧ 0 ≤ la aw ac (csM V (N : Int)) ∧ (rulN V aw ac day N < 0 ∨ V 159 (rulN V aw ac day N) ≤ V 159 (N : Int)) then (N : Int) else rulN V aw ac day N
noncomputable def rulr (V : Mem) (aw ac day : Int) (trb : Bool) : Int := if trb = true ∧ V 159 10 ≤ day ∧ 0 ≤ la aw ac (csM V 10) ∧ (rulN V aw ac day (V 137 24).toNat < 0 ∨ V 159 (rulN V aw ac day (V 137 24).toNat) ≤ V 159 10) then 10 else rulN V aw ac day (V 137 24).toNat
noncomputable def clM (V : Mem) (aw ac r : Int) : CL := ((csM V r)[(la aw ac (csM V r)).toNat]?).getD (0, 0, 0, [])
section MU
variable {d : Nat} {b n p c x aw ac day t i D : Int} {pk fx : Int → Int} {V V' V2 : Mem} {S : Shp} {Q : Int → Mem → Shp → Prop} {U QF QT : Mem → Shp → Prop} {trb : Bool}
theorem RFR.rf : RFR V V := fun _ _ _ => rfl
theorem RFR.tr (h : RFR V V') (g : RFR V' V2) : RFR V V2 := fun a k hn => (g a k hn).trans (h a k hn)
theorem GFR.rr (h : GFR V V') : RFR V V' := fun a k hn => h a k (fun q => hn (by unfold GCf at q; unfold RCf; omega))
theorem RFR.up (h : RFR V V') {a k v : Int} (he : RCf a k) : RFR V (up2 V' a k v) := fun q j hn => by
  rw [up2_ne]
  · exact h q j hn
  · by_cases e : q = a
    · exact Or.inr (fun e2 => hn (e ▸ e2 ▸ he))
    · exact Or.inl e
theorem RFR.pkm (h : RFR V V') (u : Int) : V' 161 u = V 161 u ∧ V' 159 u = V 159 u ∧ pkM V' (100 * u) (V 161 u) = pkM V (100 * u) (V 161 u) := by
  refine ⟨h _ _ (by unfold RCf; omega), h _ _ (by unfold RCf; omega), ?_⟩
  funext p
  unfold pkM
  by_cases q : p < V 161 u
  · rw [if_pos q, if_pos q]; exact h _ _ (by unfold RCf; omega)
  · rw [if_neg q, if_neg q]
theorem RFR.cs (h : RFR V V') (u : Int) : csM V' u = csM V u := by
  obtain ⟨h1, -, h3⟩ := h.pkm u
  unfold csM
  rw [h1, h3]
theorem GOODM.rr (h : GOODM V t) (f : RFR V V') : GOODM V' t := by
  obtain ⟨h1, h2, h3⟩ := f.pkm t
  unfold GOODM
  rw [h1, h2, h3]
  refine ⟨fun p p0 p1 => ?_, h.2⟩
  rw [f 160 _ (by unfold RCf; omega)]
  exact h.1 p p0 p1
theorem FV.rr (h : FV V) (f : RFR V V') : FV V' := h.fr (fun a k q => f a k (by unfold VD at q; unfold RCf; omega))
theorem m_goesG (hS : FS S) (hV : FV V) (t0 : 0 ≤ t) (t1 : t ≤ 11) (hG : GOODM V t) (hf : ∀ f, 0 ≤ f → f < 6 → s32 (V 162 f) = fx f) (hA : ASK aw ac V) (hT : ∀ V', GFR V V' → SAID aw ac fx V' (csM V t) → Q 1 V' S) : C_m_goesThrough (d + 10) 137 t V S Q := by
  obtain ⟨g1, g2, g3, g4, g5⟩ := hG
  refine m_goes hS hV t0 t1 hf hA g3 g1 (fun q => ?_) (fun _ _ V' f s => hT V' f s)
  rw [g4] at q
  cases q
theorem csM_len (V : Mem) (u : Int) : (csM V u).length ≤ 8 := by
  have := pX_len (pkM V (100 * u) (V 161 u)) (V 161 u) 8 0 []
  exact this
theorem la_s32 {u : Int} : s32 (la aw ac (csM V u)) = la aw ac (csM V u) := by
  have h1 := la_r aw ac (csM V u)
  have h2 := csM_len V u
  exact s32_id (by omega) (by omega)
theorem rulN_r (V : Mem) (aw ac day : Int) : ∀ N : Nat, -1 ≤ rulN V aw ac day N ∧ rulN V aw ac day N < (N : Int) ∧ (0 ≤ rulN V aw ac day N → 0 ≤ la aw ac (csM V (rulN V aw ac day N)))
  | 0 => ⟨Int.le_refl _, by show (-1 : Int) < ((0 : Nat) : Int); omega, fun q => by have q : (0 : Int) ≤ -1 := q; omega⟩
  | N + 1 => by
    obtain ⟨h1, h2, h3⟩ := rulN_r V aw ac day N
    unfold rulN
    by_cases c1 : V 159 (N : Int) ≤ day ∧ 0 ≤ la aw ac (csM V (N : Int)) ∧ (rulN V aw ac day N < 0 ∨ V 159 (rulN V aw ac day N) ≤ V 159 (N : Int))
    · rw [if_pos c1]
      exact ⟨by omega, by omega, fun _ => c1.2.1⟩
    · rw [if_neg c1]
      exact ⟨h1, by omega, h3⟩
theorem m_ruler_l {V0 : Mem} (hS : FS S) (hd : s32 day = day) (hT : TM V0 trb) (hf : ∀ f, 0 ≤ f → f < 6 → s32 (V0 162 f) = fx f) (hQ : ∀ V', RFR V0 V' → (0 ≤ rulr V0 aw ac day trb → SAID aw ac fx V' (csM V0 (rulr V0 aw ac day trb))) → Q (rulr V0 aw ac day trb) V' S) : ∀ (N k : Nat) (V : Mem) (u1 u2 : XV) (g : Cnt), (∀ a k, ¬ (GCf a k ∨ (a = 137 ∧ (k = 34 ∨ k = 35))) → V a k = V0 a k) → FV V → ASK aw ac V → (N : Int) + (k : Int) = V0 137 24 → K_m_ruler (d + 10) Q (16, [(2, 137), u1, u2, (0, day), (0, rulN V0 aw ac day k), (0, (k : Int))], [], V, S, g) := by
  obtain ⟨⟨c0, c1⟩, hG, h45, h10⟩ := hT
  intro N
  induction N with
  | zero =>
    intro k V u1 u2 g hfr hV hA hN
    have hk : (V0 137 24).toNat = k := by omega
    obtain ⟨r1, r2, r3⟩ := rulN_r V0 aw ac day k
    have e24 : V 137 24 = V0 137 24 := hfr _ _ (by unfold GCf; omega)
    have e45 : V 137 45 = b2 trb := (hfr _ _ (by unfold GCf; omega)).trans h45
    have hR : RFR V0 V := fun a k hn => hfr a k (fun q => hn (by unfold RCf; unfold GCf at q; omega))
    have hfV : ∀ f, 0 ≤ f → f < 6 → s32 (V 162 f) = fx f := fun f f0 f6 => by rw [hfr 162 f (by unfold GCf; omega)]; exact hf f f0 f6
    have fin : ∀ (V2 : Mem) (r : Int), RFR V0 V2 → FV V2 → ASK aw ac V2 → (∀ f, 0 ≤ f → f < 6 → s32 (V2 162 f) = fx f) → 0 ≤ r → r ≤ 10 → GOODM V0 r → r = rulr V0 aw ac day trb → C_m_goesThrough (d + 10) 137 r V2 S (fun r1 V1 S1 => (s32 r1 = 0 → Q (-1) V1 S1) ∧ (¬ s32 r1 = 0 → Q r V1 S1)) := by
      intro V2 r f2 hV2 hA2 hf2 r0 r10 hg er
      refine m_goesG hS hV2 r0 (by omega) (hg.rr f2) hf2 hA2 (fun V3 f3 s3 => ?_)
      rw [f2.cs] at s3
      simp (disch := omega) only [s32_id, b_s32, b_eq0, b_01, l0, l1, true_and, and_true, and_self, true_implies, false_implies, implies_true, forall_const, not_true_eq_false, not_false_eq_true, reduceIte, ite_true, ite_false, reduceCtorEq, forall_eq, Classical.not_not, true_or, or_true, false_or, or_false, and_false, false_and, Int.reduceEq, Int.reduceLT, Int.reduceLE, Int.reduceAdd, Int.reduceSub, Int.reduceMul, Int.reduceNeg]
      subst er
      exact hQ V3 (f2.tr f3.rr) (fun _ => s3)
    rw [L_m_ruler_16]
    cases trb
    · have er : rulr V0 aw ac day false = rulN V0 aw ac day k := by
        unfold rulr
        rw [if_neg (fun q => by cases q.1), hk]
      rw [er] at hQ
      have e45 : V 137 45 = 0 := e45
      by_cases c2 : rulN V0 aw ac day k < 0
      · have er2 : rulN V0 aw ac day k = -1 := by omega
        rw [er2] at hQ ⊢
        have := hQ V hR (fun q => by omega)
        simp (disch := omega) only [hS.k137, e24, e45, s32_id, show ¬ (k : Int) < V0 137 24 from by omega, this, b_s32, b_eq0, b_01, l0, l1, true_and, and_true, and_self, true_implies, false_implies, implies_true, forall_const, not_true_eq_false, not_false_eq_true, reduceIte, ite_true, ite_false, reduceCtorEq, forall_eq, Classical.not_not, true_or, or_true, false_or, or_false, and_false, false_and, Int.reduceEq, Int.reduceLT, Int.reduceLE, Int.reduceAdd, Int.reduceSub, Int.reduceMul, Int.reduceNeg]
      · have := fin V (rulN V0 aw ac day k) hR hV hA hfV (by omega) (by omega) (hG _ (by omega) (by omega)) er.symm
        simp (disch := omega) only [hS.k137, e24, e45, s32_id (x := (k : Int)), s32_id (x := V0 137 24), s32_id (x := 0), s32_id (x := rulN V0 aw ac day k), show ¬ (k : Int) < V0 137 24 from by omega, c2, b_s32, b_eq0, b_01, l0, l1, true_and, and_true, and_self, true_implies, false_implies, implies_true, forall_const, not_true_eq_false, not_false_eq_true, reduceIte, ite_true, ite_false, reduceCtorEq, forall_eq, Classical.not_not, true_or, or_true, false_or, or_false, and_false, false_and, Int.reduceEq, Int.reduceLT, Int.reduceLE, Int.reduceAdd, Int.reduceSub, Int.reduceMul, Int.reduceNeg]
        exact this
    · have e45 : V 137 45 = 1 := e45
      have hG10 := h10 rfl
      have e159 : ∀ u, V 159 u = V0 159 u := fun u => hfr _ _ (by unfold GCf; omega)
      have d10 := hG10.2.1
      have s10 : s32 (V0 159 10) = V0 159 10 := s32_id (by omega) (by omega)
      have old : rulr V0 aw ac day true = rulN V0 aw ac day k → ∀ (V2 : Mem), RFR V0 V2 → FV V2 → ASK aw ac V2 → (∀ f, 0 ≤ f → f < 6 → s32 (V2 162 f) = fx f) → ((rulN V0 aw ac day k < 0 → Q (-1) V2 S) ∧ (¬ rulN V0 aw ac day k < 0 → C_m_goesThrough (d + 10) 137 (rulN V0 aw ac day k) V2 S (fun r1 V1 S1 => (s32 r1 = 0 → Q (-1) V1 S1) ∧ (¬ s32 r1 = 0 → Q (rulN V0 aw ac day k) V1 S1)))) := by
        intro er V2 f2 hV2 hA2 hf2
        refine ⟨fun c2 => ?_, fun c2 => fin V2 _ f2 hV2 hA2 hf2 (by omega) (by omega) (hG _ (by omega) (by omega)) er.symm⟩
        have er2 : rulN V0 aw ac day k = -1 := by omega
        rw [er, er2] at hQ
        exact hQ V2 f2 (fun q => by omega)
      have oldn : ¬ (V0 159 10 ≤ day ∧ 0 ≤ la aw ac (csM V0 10) ∧ (rulN V0 aw ac day k < 0 ∨ V0 159 (rulN V0 aw ac day k) ≤ V0 159 10)) → rulr V0 aw ac day true = rulN V0 aw ac day k := fun hn => by
        unfold rulr
        rw [hk, if_neg (fun q => hn q.2)]
      by_cases c3 : day < V0 159 10
      · have := old (oldn (fun q => by omega)) V hR hV hA hfV
        simp (disch := omega) only [hS.k137, e24, e45, e159, hS.k159, hS.n159, hV.r137_26, s32_id (x := (k : Int)), s32_id (x := V0 137 24), s32_id (x := 1), s32_id (x := 10), s10, hd, c3, s32_id (x := rulN V0 aw ac day k), show ¬ (k : Int) < V0 137 24 from by omega, b_s32, b_eq0, b_01, l0, l1, true_and, and_true, and_self, true_implies, false_implies, implies_true, forall_const, not_true_eq_false, not_false_eq_true, reduceIte, ite_true, ite_false, reduceCtorEq, forall_eq, Classical.not_not, true_or, or_true, false_or, or_false, and_false, false_and, Int.reduceEq, Int.reduceLT, Int.reduceLE, Int.reduceAdd, Int.reduceSub, Int.reduceMul, Int.reduceNeg]
        exact this
      · simp (disch := omega) only [hS.k137, e24, e45, e159, hS.k159, hS.n159, hV.r137_26, s32_id (x := (k : Int)), s32_id (x := V0 137 24), s32_id (x := 1), s32_id (x := 10), s10, hd, c3, s32_id (x := rulN V0 aw ac day k), show ¬ (k : Int) < V0 137 24 from by omega, b_s32, b_eq0, b_01, l0, l1, true_and, and_true, and_self, true_implies, false_implies, implies_true, forall_const, not_true_eq_false, not_false_eq_true, reduceIte, ite_true, ite_false, reduceCtorEq, forall_eq, Classical.not_not, true_or, or_true, false_or, or_false, and_false, false_and, Int.reduceEq, Int.reduceLT, Int.reduceLE, Int.reduceAdd, Int.reduceSub, Int.reduceMul, Int.reduceNeg]
        refine m_goesG hS hV (by omega) (by omega) (hG10.rr hR) hfV hA (fun V3 f3 s3 => ?_)
        rw [hR.cs] at s3
        have f4 := hR.tr f3.rr
        have hV3 := hV.rr f3.rr
        have hA3 : ASK aw ac V3 := ⟨(congrArg s32 (f3 _ _ (by unfold GCf; omega))).trans hA.1, (congrArg s32 (f3 _ _ (by unfold GCf; omega))).trans hA.2.1, hA.2.2⟩
        have hf3 : ∀ f, 0 ≤ f → f < 6 → s32 (V3 162 f) = fx f := fun f f0 f6 => by rw [f3 162 f (by unfold GCf; omega)]; exact hfV f f0 f6
        have e36 : V3 137 36 = la aw ac (csM V0 10) := s3.1
        have s36 : s32 (la aw ac (csM V0 10)) < 0 ↔ la aw ac (csM V0 10) < 0 := by rw [la_s32]
        have e159' : ∀ u, V3 159 u = V0 159 u := fun u => (f3 _ _ (by unfold GCf; omega)).trans (e159 u)
        by_cases c4 : la aw ac (csM V0 10) < 0
        · have := old (oldn (fun q => by omega)) V3 f4 hV3 hA3 hf3
          simp (disch := omega) only [hS.k137, e36, s36, c4, s32_id (x := 1), s32_id (x := rulN V0 aw ac day k), b_s32, b_eq0, b_01, l0, l1, true_and, and_true, and_self, true_implies, false_implies, implies_true, forall_const, not_true_eq_false, not_false_eq_true, reduceIte, ite_true, ite_false, reduceCtorEq, forall_eq, Classical.not_not, true_or, or_true, false_or, or_false, and_false, false_and, Int.reduceEq, Int.reduceLT, Int.reduceLE, Int.reduceAdd, Int.reduceSub, Int.reduceMul, Int.reduceNeg]
          exact this
        · by_cases c5 : rulN V0 aw ac day k < 0
          · have er : rulr V0 aw ac day true = 10 := by
              unfold rulr
              rw [hk, if_pos ⟨rfl, by omega, by omega, Or.inl c5⟩]
            have := fin V3 10 f4 hV3 hA3 hf3 (by omega) (by omega) hG10 er.symm
            simp (disch := omega) only [hS.k137, e36, s36, c4, c5, s32_id (x := 1), s32_id (x := 10), s32_id (x := rulN V0 aw ac day k), b_s32, b_eq0, b_01, l0, l1, true_and, and_true, and_self, true_implies, false_implies, implies_true, forall_const, not_true_eq_false, not_false_eq_true, reduceIte, ite_true, ite_false, reduceCtorEq, forall_eq, Classical.not_not, true_or, or_true, false_or, or_false, and_false, false_and, Int.reduceEq, Int.reduceLT, Int.reduceLE, Int.reduceAdd, Int.reduceSub, Int.reduceMul, Int.reduceNeg]
            exact this
          · have dk := (hG (rulN V0 aw ac day k) (by omega) (by omega)).2.1
            have sk : s32 (V0 159 (rulN V0 aw ac day k)) = V0 159 (rulN V0 aw ac day k) := s32_id (by omega) (by omega)
            by_cases c6 : V0 159 10 < V0 159 (rulN V0 aw ac day k)
            · have := old (oldn (fun q => by omega)) V3 f4 hV3 hA3 hf3
              simp (disch := omega) only [hS.k137, e36, s36, c4, c5, c6, e159', hS.k159, hS.n159, hV.r137_26, hV3.r137_26, s10, sk, s32_id (x := 1), s32_id (x := 10), s32_id (x := rulN V0 aw ac day k), show 0 ≤ rulN V0 aw ac day k from by omega, show rulN V0 aw ac day k < 11 from by omega, b_s32, b_eq0, b_01, l0, l1, true_and, and_true, and_self, true_implies, false_implies, implies_true, forall_const, not_true_eq_false, not_false_eq_true, reduceIte, ite_true, ite_false, reduceCtorEq, forall_eq, Classical.not_not, true_or, or_true, false_or, or_false, and_false, false_and, Int.reduceEq, Int.reduceLT, Int.reduceLE, Int.reduceAdd, Int.reduceSub, Int.reduceMul, Int.reduceNeg]
              have h2 := this.2 c5
              exact h2
            · have er : rulr V0 aw ac day true = 10 := by
                unfold rulr
                rw [hk, if_pos ⟨rfl, by omega, by omega, Or.inr (by omega)⟩]
              have := fin V3 10 f4 hV3 hA3 hf3 (by omega) (by omega) hG10 er.symm
              simp (disch := omega) only [hS.k137, e36, s36, c4, c5, c6, e159', hS.k159, hS.n159, hV.r137_26, hV3.r137_26, s10, sk, s32_id (x := 1), s32_id (x := 10), s32_id (x := rulN V0 aw ac day k), show 0 ≤ rulN V0 aw ac day k from by omega, show rulN V0 aw ac day k < 11 from by omega, b_s32, b_eq0, b_01, l0, l1, true_and, and_true, and_self, true_implies, false_implies, implies_true, forall_const, not_true_eq_false, not_false_eq_true, reduceIte, ite_true, ite_false, reduceCtorEq, forall_eq, Classical.not_not, true_or, or_true, false_or, or_false, and_false, false_and, Int.reduceEq, Int.reduceLT, Int.reduceLE, Int.reduceAdd, Int.reduceSub, Int.reduceMul, Int.reduceNeg]
              exact this
  | succ N ih =>
    intro k V u1 u2 g hfr hV hA hN
    obtain ⟨r1, r2, r3⟩ := rulN_r V0 aw ac day k
    have e24 : V 137 24 = V0 137 24 := hfr _ _ (by unfold GCf; omega)
    have hR : RFR V0 V := fun a k hn => hfr a k (fun q => hn (by unfold RCf; unfold GCf at q; omega))
    have hfV : ∀ f, 0 ≤ f → f < 6 → s32 (V 162 f) = fx f := fun f f0 f6 => by rw [hfr 162 f (by unfold GCf; omega)]; exact hf f f0 f6
    have e159 : ∀ u, V 159 u = V0 159 u := fun u => hfr _ _ (by unfold GCf; omega)
    have hg := hG (k : Int) (by omega) (by omega)
    have dk := hg.2.1
    have sk : s32 (V0 159 (k : Int)) = V0 159 (k : Int) := s32_id (by omega) (by omega)
    have hs : rulN V0 aw ac day (k + 1) = if V0 159 (k : Int) ≤ day ∧ 0 ≤ la aw ac (csM V0 (k : Int)) ∧ (rulN V0 aw ac day k < 0 ∨ V0 159 (rulN V0 aw ac day k) ≤ V0 159 (k : Int)) then (k : Int) else rulN V0 aw ac day k := rfl
    have ih' := fun V u1 u2 a b c => ih (k + 1) V u1 u2 g a b c (by omega)
    have ek : ((k + 1 : Nat) : Int) = (k : Int) + 1 := by omega
    rw [ek] at ih'
    rw [L_m_ruler_16]
    by_cases c3 : day < V0 159 (k : Int)
    · rw [if_neg (by omega)] at hs
      rw [hs] at ih'
      have := fun u1 u2 => ih' V u1 u2 hfr hV hA
      simp (disch := omega) only [hS.k137, e24, e159, hS.k159, hS.n159, hV.r137_26, s32_id (x := (k : Int)), s32_id (x := V0 137 24), sk, hd, c3, show (k : Int) < V0 137 24 from by omega, show (0 : Int) ≤ (k : Int) from by omega, show (k : Int) < 11 from by omega, this, b_s32, b_eq0, b_01, l0, l1, true_and, and_true, and_self, true_implies, false_implies, implies_true, forall_const, not_true_eq_false, not_false_eq_true, reduceIte, ite_true, ite_false, reduceCtorEq, forall_eq, Classical.not_not, true_or, or_true, false_or, or_false, and_false, false_and, Int.reduceEq, Int.reduceLT, Int.reduceLE, Int.reduceAdd, Int.reduceSub, Int.reduceMul, Int.reduceNeg]
    · simp (disch := omega) only [hS.k137, e24, e159, hS.k159, hS.n159, hV.r137_26, s32_id (x := (k : Int)), s32_id (x := V0 137 24), sk, hd, c3, show (k : Int) < V0 137 24 from by omega, show (0 : Int) ≤ (k : Int) from by omega, show (k : Int) < 11 from by omega, b_s32, b_eq0, b_01, l0, l1, true_and, and_true, and_self, true_implies, false_implies, implies_true, forall_const, not_true_eq_false, not_false_eq_true, reduceIte, ite_true, ite_false, reduceCtorEq, forall_eq, Classical.not_not, true_or, or_true, false_or, or_false, and_false, false_and, Int.reduceEq, Int.reduceLT, Int.reduceLE, Int.reduceAdd, Int.reduceSub, Int.reduceMul, Int.reduceNeg]
      refine m_goesG hS hV (by omega) (by omega) (hg.rr hR) hfV hA (fun V3 f3 s3 => ?_)
      rw [hR.cs] at s3
      have hfr3 : ∀ a k, ¬ (GCf a k ∨ (a = 137 ∧ (k = 34 ∨ k = 35))) → V3 a k = V0 a k := fun a k hn => (f3 a k (fun q => hn (Or.inl q))).trans (hfr a k hn)
      have hV3 := hV.rr f3.rr
      have hA3 : ASK aw ac V3 := ⟨(congrArg s32 (f3 _ _ (by unfold GCf; omega))).trans hA.1, (congrArg s32 (f3 _ _ (by unfold GCf; omega))).trans hA.2.1, hA.2.2⟩
      have e36 : V3 137 36 = la aw ac (csM V0 (k : Int)) := s3.1
      have s36 : s32 (la aw ac (csM V0 (k : Int))) < 0 ↔ la aw ac (csM V0 (k : Int)) < 0 := by rw [la_s32]
      have e159' : ∀ u, V3 159 u = V0 159 u := fun u => (f3 _ _ (by unfold GCf; omega)).trans (e159 u)
      have ih3 := fun u1 u2 => ih' V3 u1 u2 hfr3 hV3 hA3
      by_cases c4 : la aw ac (csM V0 (k : Int)) < 0
      · rw [if_neg (by omega)] at hs
        rw [hs] at ih3
        simp (disch := omega) only [hS.k137, e36, s36, c4, s32_id (x := 1), ih3, b_s32, b_eq0, b_01, l0, l1, true_and, and_true, and_self, true_implies, false_implies, implies_true, forall_const, not_true_eq_false, not_false_eq_true, reduceIte, ite_true, ite_false, reduceCtorEq, forall_eq, Classical.not_not, true_or, or_true, false_or, or_false, and_false, false_and, Int.reduceEq, Int.reduceLT, Int.reduceLE, Int.reduceAdd, Int.reduceSub, Int.reduceMul, Int.reduceNeg]
      · by_cases c5 : rulN V0 aw ac day k < 0
        · rw [if_pos ⟨by omega, by omega, Or.inl c5⟩] at hs
          rw [hs] at ih3
          simp (disch := omega) only [hS.k137, e36, s36, c4, c5, s32_id (x := 1), s32_id (x := rulN V0 aw ac day k), ih3, b_s32, b_eq0, b_01, l0, l1, true_and, and_true, and_self, true_implies, false_implies, implies_true, forall_const, not_true_eq_false, not_false_eq_true, reduceIte, ite_true, ite_false, reduceCtorEq, forall_eq, Classical.not_not, true_or, or_true, false_or, or_false, and_false, false_and, Int.reduceEq, Int.reduceLT, Int.reduceLE, Int.reduceAdd, Int.reduceSub, Int.reduceMul, Int.reduceNeg]
        · have dr := (hG (rulN V0 aw ac day k) (by omega) (by omega)).2.1
          have sr' : s32 (V0 159 (rulN V0 aw ac day k)) = V0 159 (rulN V0 aw ac day k) := s32_id (by omega) (by omega)
          by_cases c6 : V0 159 (k : Int) < V0 159 (rulN V0 aw ac day k)
          · rw [if_neg (by omega)] at hs
            rw [hs] at ih3
            simp (disch := omega) only [hS.k137, e36, s36, c4, c5, c6, e159', hS.k159, hS.n159, hV.r137_26, hV3.r137_26, sk, sr', s32_id (x := 1), s32_id (x := (k : Int)), s32_id (x := rulN V0 aw ac day k), show (0 : Int) ≤ (k : Int) from by omega, show (k : Int) < 11 from by omega, show 0 ≤ rulN V0 aw ac day k from by omega, show rulN V0 aw ac day k < 11 from by omega, ih3, b_s32, b_eq0, b_01, l0, l1, true_and, and_true, and_self, true_implies, false_implies, implies_true, forall_const, not_true_eq_false, not_false_eq_true, reduceIte, ite_true, ite_false, reduceCtorEq, forall_eq, Classical.not_not, true_or, or_true, false_or, or_false, and_false, false_and, Int.reduceEq, Int.reduceLT, Int.reduceLE, Int.reduceAdd, Int.reduceSub, Int.reduceMul, Int.reduceNeg]
          · rw [if_pos ⟨by omega, by omega, Or.inr (by omega)⟩] at hs
            rw [hs] at ih3
            simp (disch := omega) only [hS.k137, e36, s36, c4, c5, c6, e159', hS.k159, hS.n159, hV.r137_26, hV3.r137_26, sk, sr', s32_id (x := 1), s32_id (x := (k : Int)), s32_id (x := rulN V0 aw ac day k), show (0 : Int) ≤ (k : Int) from by omega, show (k : Int) < 11 from by omega, show 0 ≤ rulN V0 aw ac day k from by omega, show rulN V0 aw ac day k < 11 from by omega, ih3, b_s32, b_eq0, b_01, l0, l1, true_and, and_true, and_self, true_implies, false_implies, implies_true, forall_const, not_true_eq_false, not_false_eq_true, reduceIte, ite_true, ite_false, reduceCtorEq, forall_eq, Classical.not_not, true_or, or_true, false_or, or_false, and_false, false_and, Int.reduceEq, Int.reduceLT, Int.reduceLE, Int.reduceAdd, Int.reduceSub, Int.reduceMul, Int.reduceNeg]
theorem m_ruler (hS : FS S) (hV : FV V) (hd : s32 day = day) (ha : s32 aw = aw) (hc : s32 ac = ac) (hT : TM V trb) (hf : ∀ f, 0 ≤ f → f < 6 → s32 (V 162 f) = fx f) (hQ : ∀ V', RFR V V' → (0 ≤ rulr V aw ac day trb → SAID aw ac fx V' (csM V (rulr V aw ac day trb))) → Q (rulr V aw ac day trb) V' S) : C_m_ruler (d + 11) 137 aw ac day V S Q := by
  have f1 : ∀ a k, ¬ (GCf a k ∨ (a = 137 ∧ (k = 34 ∨ k = 35))) → (up2 (up2 V 137 34 aw) 137 35 ac) a k = V a k := fun a k hn => by
    rw [up2_ne (by omega), up2_ne (by omega)]
  have hV1 : FV (up2 (up2 V 137 34 aw) 137 35 ac) := hV.fr (fun a k q => f1 a k (by unfold VD at q; unfold GCf; omega))
  have c0 := hT.1
  rw [I_m_ruler]
  simp only [hS.k137, b_s32, b_eq0, b_01, l0, l1, true_and, and_true, and_self, true_implies, false_implies, implies_true, forall_const, not_true_eq_false, not_false_eq_true, reduceIte, ite_true, ite_false, reduceCtorEq, forall_eq, Classical.not_not, true_or, or_true, false_or, or_false, and_false, false_and, Int.reduceEq, Int.reduceLT, Int.reduceLE, Int.reduceAdd, Int.reduceSub, Int.reduceMul, Int.reduceNeg]
  exact m_ruler_l hS hd hT hf hQ (V 137 24).toNat 0 _ _ _ _ f1 hV1 ⟨by simp (disch := omega) only [up2_ne, up2_eq]; exact ha, by rw [up2_eq rfl rfl]; exact hc, ha, hc⟩ (by omega)
theorem rulr_r (hT : TM V trb) : -1 ≤ rulr V aw ac day trb ∧ rulr V aw ac day trb ≤ 10 ∧ (0 ≤ rulr V aw ac day trb → GOODM V (rulr V aw ac day trb) ∧ 0 ≤ la aw ac (csM V (rulr V aw ac day trb))) ∧ (trb = false → rulr V aw ac day trb < V 137 24) := by
  obtain ⟨⟨c0, c1⟩, hG, h45, h10⟩ := hT
  obtain ⟨r1, r2, r3⟩ := rulN_r V aw ac day (V 137 24).toNat
  unfold rulr
  by_cases c : trb = true ∧ V 159 10 ≤ day ∧ 0 ≤ la aw ac (csM V 10) ∧ (rulN V aw ac day (V 137 24).toNat < 0 ∨ V 159 (rulN V aw ac day (V 137 24).toNat) ≤ V 159 10)
  · rw [if_pos c]
    exact ⟨by omega, by omega, fun _ => ⟨h10 c.1, c.2.2.1⟩, fun e => by rw [e] at c; cases c.1⟩
  · rw [if_neg c]
    exact ⟨r1, by omega, fun q => ⟨hG _ q (by omega), r3 q⟩, fun _ => by omega⟩
theorem SAID.cl {r : Int} (h : SAID aw ac fx V' (csM V r)) (h0 : 0 ≤ la aw ac (csM V r)) : (clM V aw ac r).1 = aw ∧ V' 137 37 = nbc (clM V aw ac r) ∧ V' 137 36 = la aw ac (csM V r) ∧ (3 ≤ (clM V aw ac r).1 → ∃ v, RP fx (clM V aw ac r).2.2.2 v 11 ∧ V' 137 38 = b2 v) := by
  obtain ⟨h1, h2, h3, h4⟩ := h
  obtain ⟨c, e1, e2, e3, e4⟩ := h4 h0
  have : clM V aw ac r = c := by unfold clM; rw [e1]; rfl
  rw [this]
  exact ⟨e2, e3, h1, e4⟩
def fx0 (V : Mem) : Int → Int := fun f => s32 (V 162 f)
theorem r_daysFor {coins : Int} (hS : FS S) (hV : FV V) (hd : s32 day = day) (hc : s32 coins = coins) (hT : TM V trb) (hQ : ∀ V', RFR V V' → Q (if rulr V 0 coins day trb < 0 then coins else nbc (clM V 0 coins (rulr V 0 coins day trb))) V' S) : C_m_daysFor (d + 12) 137 coins day V S Q := by
  obtain ⟨q1, q2, q3, -⟩ := rulr_r (aw := 0) (ac := coins) (day := day) hT
  rw [I_m_daysFor, hS.k137]
  refine ⟨rfl, m_ruler (fx := fx0 V) hS hV hd l0 hc hT (fun f _ _ => rfl) (fun V' f hs => ?_)⟩
  have := hQ V' f
  by_cases c : rulr V 0 coins day trb < 0
  · rw [if_pos c] at this
    simp (disch := omega) only [s32_id, c, this, b_s32, b_eq0, b_01, l0, l1, true_and, and_true, and_self, true_implies, false_implies, implies_true, forall_const, not_true_eq_false, not_false_eq_true, reduceIte, ite_true, ite_false, reduceCtorEq, forall_eq, Classical.not_not, true_or, or_true, false_or, or_false, and_false, false_and, Int.reduceEq, Int.reduceLT, Int.reduceLE, Int.reduceAdd, Int.reduceSub, Int.reduceMul, Int.reduceNeg]
  · rw [if_neg c] at this
    obtain ⟨-, e, -⟩ := (hs (by omega)).cl (q3 (by omega)).2
    simp (disch := omega) only [s32_id, c, hS.k137, e, this, b_s32, b_eq0, b_01, l0, l1, true_and, and_true, and_self, true_implies, false_implies, implies_true, forall_const, not_true_eq_false, not_false_eq_true, reduceIte, ite_true, ite_false, reduceCtorEq, forall_eq, Classical.not_not, true_or, or_true, false_or, or_false, and_false, false_and, Int.reduceEq, Int.reduceLT, Int.reduceLE, Int.reduceAdd, Int.reduceSub, Int.reduceMul, Int.reduceNeg]
theorem r_grace (hS : FS S) (hV : FV V) (hd : s32 day = day) (hT : TM V trb) (hQ : ∀ V', RFR V V' → Q (if rulr V 1 0 day trb < 0 then 0 else nbc (clM V 1 0 (rulr V 1 0 day trb))) V' S) : C_m_grace (d + 12) 137 day V S Q := by
  obtain ⟨q1, q2, q3, -⟩ := rulr_r (aw := 1) (ac := 0) (day := day) hT
  rw [I_m_grace, hS.k137]
  refine ⟨rfl, m_ruler (fx := fx0 V) hS hV hd l1 l0 hT (fun f _ _ => rfl) (fun V' f hs => ?_)⟩
  have := hQ V' f
  by_cases c : rulr V 1 0 day trb < 0
  · rw [if_pos c] at this
    simp (disch := omega) only [s32_id, c, this, b_s32, b_eq0, b_01, l0, l1, true_and, and_true, and_self, true_implies, false_implies, implies_true, forall_const, not_true_eq_false, not_false_eq_true, reduceIte, ite_true, ite_false, reduceCtorEq, forall_eq, Classical.not_not, true_or, or_true, false_or, or_false, and_false, false_and, Int.reduceEq, Int.reduceLT, Int.reduceLE, Int.reduceAdd, Int.reduceSub, Int.reduceMul, Int.reduceNeg]
  · rw [if_neg c] at this
    obtain ⟨-, e, -⟩ := (hs (by omega)).cl (q3 (by omega)).2
    simp (disch := omega) only [s32_id, c, hS.k137, e, this, b_s32, b_eq0, b_01, l0, l1, true_and, and_true, and_self, true_implies, false_implies, implies_true, forall_const, not_true_eq_false, not_false_eq_true, reduceIte, ite_true, ite_false, reduceCtorEq, forall_eq, Classical.not_not, true_or, or_true, false_or, or_false, and_false, false_and, Int.reduceEq, Int.reduceLT, Int.reduceLE, Int.reduceAdd, Int.reduceSub, Int.reduceMul, Int.reduceNeg]
theorem r_runs (hS : FS S) (hV : FV V) (hd : s32 day = day) (hT : TM V trb) (hQ : ∀ V', RFR V V' → Q (if 0 ≤ rulr V 2 0 day trb ∧ s32 (nbc (clM V 2 0 (rulr V 2 0 day trb))) = 1 then 1 else 0) V' S) : C_m_runs (d + 12) 137 day V S Q := by
  obtain ⟨q1, q2, q3, -⟩ := rulr_r (aw := 2) (ac := 0) (day := day) hT
  rw [I_m_runs, hS.k137]
  refine ⟨rfl, m_ruler (fx := fx0 V) hS hV hd (s32_id (by omega) (by omega)) l0 hT (fun f _ _ => rfl) (fun V' f hs => ?_)⟩
  have := hQ V' f
  by_cases c : rulr V 2 0 day trb < 0
  · rw [if_neg (by omega)] at this
    simp (disch := omega) only [s32_id, c, this, b_s32, b_eq0, b_01, l0, l1, true_and, and_true, and_self, true_implies, false_implies, implies_true, forall_const, not_true_eq_false, not_false_eq_true, reduceIte, ite_true, ite_false, reduceCtorEq, forall_eq, Classical.not_not, true_or, or_true, false_or, or_false, and_false, false_and, Int.reduceEq, Int.reduceLT, Int.reduceLE, Int.reduceAdd, Int.reduceSub, Int.reduceMul, Int.reduceNeg]
  · obtain ⟨-, e, -⟩ := (hs (by omega)).cl (q3 (by omega)).2
    by_cases c2 : s32 (nbc (clM V 2 0 (rulr V 2 0 day trb))) = 1
    · rw [if_pos ⟨by omega, c2⟩] at this
      simp (disch := omega) only [s32_id (x := rulr V 2 0 day trb), c, hS.k137, e, c2, this, b_s32, b_eq0, b_01, l0, l1, true_and, and_true, and_self, true_implies, false_implies, implies_true, forall_const, not_true_eq_false, not_false_eq_true, reduceIte, ite_true, ite_false, reduceCtorEq, forall_eq, Classical.not_not, true_or, or_true, false_or, or_false, and_false, false_and, Int.reduceEq, Int.reduceLT, Int.reduceLE, Int.reduceAdd, Int.reduceSub, Int.reduceMul, Int.reduceNeg]
    · rw [if_neg (fun q => c2 q.2)] at this
      simp (disch := omega) only [s32_id (x := rulr V 2 0 day trb), c, hS.k137, e, c2, this, b_s32, b_eq0, b_01, l0, l1, true_and, and_true, and_self, true_implies, false_implies, implies_true, forall_const, not_true_eq_false, not_false_eq_true, reduceIte, ite_true, ite_false, reduceCtorEq, forall_eq, Classical.not_not, true_or, or_true, false_or, or_false, and_false, false_and, Int.reduceEq, Int.reduceLT, Int.reduceLE, Int.reduceAdd, Int.reduceSub, Int.reduceMul, Int.reduceNeg]
noncomputable def fxM (V : Mem) (i D day : Int) : Int → Int := fun f => if f = 0 then s32 (V 142 i - V 148 i - V 146 i) else if f = 1 then s32 (V 147 i) else if f = 2 then s32 D else if f = 3 then s32 (V 145 i) else if f = 4 then s32 (day.tdiv 30) else s32 ((s32 (V 140 (20 * V 145 i + day.tdiv 30))).tdiv 10)
theorem r_isLet (hS : FS S) (hV : FV V) (i0 : 0 ≤ i) (i1 : i < 20) (hw : aw = 3 ∨ aw = 4) (hd : 0 ≤ day ∧ day ≤ 599) (hh : V 145 i < 12) (hh2 : -1 ≤ V 145 i) (hT : TM V trb) (hD : ∀ (V' : Mem) (Q : Int → Mem → Shp → Prop), (∀ a k, a ≠ 162 → V' a k = V a k) → (C_m_darkAhead (d + 12) 137 i V' S Q ↔ Q D V' S)) (hQ0 : V 145 i < 0 → Q 0 V S) (hQ1 : 0 ≤ V 145 i → rulr V aw 0 day trb < 0 → ∀ V', RFR V V' → Q 0 V' S) (hQ2 : 0 ≤ V 145 i → 0 ≤ rulr V aw 0 day trb → ∀ V' v, RFR V V' → RP (fxM V i D day) (clM V aw 0 (rulr V aw 0 day trb)).2.2.2 v 11 → Q (b2 v) V' S) : C_m_isLet (d + 13) 137 aw i day V S Q := by
  have hi : s32 i = i := s32_id (by omega) (by omega)
  have h145 : s32 (V 145 i) = V 145 i := s32_id (by omega) (by omega)
  rw [I_m_isLet]
  by_cases c : V 145 i < 0
  · have := hQ0 c
    simp only [hS.k137, hS.k145, hS.n145, hV.r137_10, hi, i0, i1, h145, c, this, b_s32, b_eq0, b_01, l0, l1, true_and, and_true, and_self, true_implies, false_implies, implies_true, forall_const, not_true_eq_false, not_false_eq_true, reduceIte, ite_true, ite_false, reduceCtorEq, forall_eq, Classical.not_not, true_or, or_true, false_or, or_false, and_false, false_and, Int.reduceEq, Int.reduceLT, Int.reduceLE, Int.reduceAdd, Int.reduceSub, Int.reduceMul, Int.reduceNeg]
  · have hm : day.tdiv 30 = day / 30 := Int.tdiv_eq_ediv_of_nonneg hd.1
    have hsd : s32 day = day := s32_id (by omega) (by omega)
    have sm : s32 (20 * V 145 i + day / 30) = 20 * V 145 i + day / 30 := s32_id (by omega) (by omega)
    have hD1 := fun (Q : Int → Mem → Shp → Prop) => hD (up2 (up2 V 162 0 (V 142 i - V 148 i - V 146 i)) 162 1 (V 147 i)) Q (fun a k ha => by rw [up2_ne (by omega), up2_ne (by omega)])
    simp (disch := omega) only [hS.k137, hS.k145, hS.n145, hV.r137_10, hS.k162, hS.n162, hV.r137_29, hS.k147, hS.n147, hV.r137_12, hS.k140, hS.n140, hV.r137_5, hi, i0, i1, h145, c, r_mowed hS hV i0 i1, s32_id (x := 0), s32_id (x := 1), s32_id (x := 2), s32_id (x := 3), s32_id (x := 4), s32_id (x := 5), s32_id (x := 30), s32_id (x := 10), hsd, hm, sm, up2_ne, show 0 ≤ 20 * V 145 i + day / 30 from by omega, show 20 * V 145 i + day / 30 < 240 from by omega, ne_eq, hD1, b_s32, b_eq0, b_01, l0, l1, true_and, and_true, and_self, true_implies, false_implies, implies_true, forall_const, not_true_eq_false, not_false_eq_true, reduceIte, ite_true, ite_false, reduceCtorEq, forall_eq, Classical.not_not, true_or, or_true, false_or, or_false, and_false, false_and, Int.reduceEq, Int.reduceLT, Int.reduceLE, Int.reduceAdd, Int.reduceSub, Int.reduceMul, Int.reduceNeg]
    generalize hV1 : up2 (up2 (up2 (up2 (up2 (up2 V 162 0 (V 142 i - V 148 i - V 146 i)) 162 1 (V 147 i)) 162 2 D) 162 3 (V 145 i)) 162 4 (day / 30)) 162 5 ((s32 (V 140 (20 * V 145 i + day / 30))).tdiv 10) = V1
    have F : ∀ a k, a ≠ 162 → V1 a k = V a k := by
      intro a k ha
      subst hV1
      simp (disch := omega) only [up2_ne]
    have hR : RFR V V1 := fun a k hn => F a k (fun e => hn (by unfold RCf; omega))
    have hfx : ∀ f, 0 ≤ f → f < 6 → s32 (V1 162 f) = fxM V i D day f := by
      intro f f0 f6
      unfold fxM
      rw [hm]
      rcases (by omega : f = 0 ∨ f = 1 ∨ f = 2 ∨ f = 3 ∨ f = 4 ∨ f = 5) with rfl | rfl | rfl | rfl | rfl | rfl <;> subst hV1 <;> simp (disch := omega) only [up2_ne, up2_eq, b_s32, b_eq0, b_01, l0, l1, true_and, and_true, and_self, true_implies, false_implies, implies_true, forall_const, not_true_eq_false, not_false_eq_true, reduceIte, ite_true, ite_false, reduceCtorEq, forall_eq, Classical.not_not, true_or, or_true, false_or, or_false, and_false, false_and, Int.reduceEq, Int.reduceLT, Int.reduceLE, Int.reduceAdd, Int.reduceSub, Int.reduceMul, Int.reduceNeg]
    have hT1 : TM V1 trb := by
      obtain ⟨t1, t2, t3, t4⟩ := hT
      refine ⟨by rw [F _ _ (by omega)]; exact t1, fun u u0 u1 => (t2 u u0 (by rw [F _ _ (by omega)] at u1; exact u1)).rr hR, by rw [F _ _ (by omega)]; exact t3, fun e => (t4 e).rr hR⟩
    have hcs : ∀ u, csM V1 u = csM V u := fun u => hR.cs u
    have hN : ∀ N, rulN V1 aw 0 day N = rulN V aw 0 day N := by
      intro N
      induction N with
      | zero => rfl
      | succ N ih =>
        unfold rulN
        rw [ih, hcs, F 159 _ (by omega), F 159 _ (by omega)]
    have hr : rulr V1 aw 0 day trb = rulr V aw 0 day trb := by
      unfold rulr
      rw [F 137 24 (by omega), hN, hcs, F 159 _ (by omega), F 159 _ (by omega)]
    have hcl : ∀ r, clM V1 aw 0 r = clM V aw 0 r := by
      intro r
      unfold clM
      rw [hcs]
    refine m_ruler (fx := fxM V i D day) hS (hV.rr hR) hsd (show s32 aw = aw from s32_id (by omega) (by omega)) l0 hT1 hfx (fun V' f hs => ?_)
    rw [hr, hcs] at hs
    rw [hr]
    obtain ⟨q1, q2, q3, -⟩ := rulr_r (aw := aw) (ac := 0) (day := day) hT
    by_cases c2 : rulr V aw 0 day trb < 0
    · have := hQ1 (by omega) c2 V' (hR.tr f)
      simp (disch := omega) only [s32_id (x := rulr V aw 0 day trb), c2, this, b_s32, b_eq0, b_01, l0, l1, true_and, and_true, and_self, true_implies, false_implies, implies_true, forall_const, not_true_eq_false, not_false_eq_true, reduceIte, ite_true, ite_false, reduceCtorEq, forall_eq, Classical.not_not, true_or, or_true, false_or, or_false, and_false, false_and, Int.reduceEq, Int.reduceLT, Int.reduceLE, Int.reduceAdd, Int.reduceSub, Int.reduceMul, Int.reduceNeg]
    · obtain ⟨e1, -, -, e4⟩ := (hs (by omega)).cl (q3 (by omega)).2
      obtain ⟨v, r, e5⟩ := e4 (by omega)
      have := hQ2 (by omega) (by omega) V' v (hR.tr f) r
      cases v
      · simp (disch := omega) only [s32_id (x := rulr V aw 0 day trb), c2, hS.k137, e5, show s32 (b2 false) = 0 from by decide, b_s32, b_eq0, b_01, l0, l1, true_and, and_true, and_self, true_implies, false_implies, implies_true, forall_const, not_true_eq_false, not_false_eq_true, reduceIte, ite_true, ite_false, reduceCtorEq, forall_eq, Classical.not_not, true_or, or_true, false_or, or_false, and_false, false_and, Int.reduceEq, Int.reduceLT, Int.reduceLE, Int.reduceAdd, Int.reduceSub, Int.reduceMul, Int.reduceNeg]
        exact this
      · simp (disch := omega) only [s32_id (x := rulr V aw 0 day trb), c2, hS.k137, e5, show ¬ s32 (b2 true) = 0 from by decide, b_s32, b_eq0, b_01, l0, l1, true_and, and_true, and_self, true_implies, false_implies, implies_true, forall_const, not_true_eq_false, not_false_eq_true, reduceIte, ite_true, ite_false, reduceCtorEq, forall_eq, Classical.not_not, true_or, or_true, false_or, or_false, and_false, false_and, Int.reduceEq, Int.reduceLT, Int.reduceLE, Int.reduceAdd, Int.reduceSub, Int.reduceMul, Int.reduceNeg]
        exact this
end MU
