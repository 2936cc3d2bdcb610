/-! the model's texts: which clause is in force -/
noncomputable def laF (aw ac : Int) (st : Int × Int) (c : CL) : Int × Int := (st.1 + 1, if c.1 = aw ∧ (aw ≠ 0 ∨ c.2.1 = ac) then st.1 else st.2)
noncomputable def la (aw ac : Int) (cs : List CL) : Int := (cs.foldl (laF aw ac) (0, -1)).2
theorem la_1 (aw ac : Int) : ∀ (cs : List CL) (st : Int × Int), (cs.foldl (laF aw ac) st).1 = st.1 + (cs.length : Int)
  | [], st => by show st.1 = st.1 + ((0 : Nat) : Int); omega
  | c :: r, st => by
    show (r.foldl (laF aw ac) (laF aw ac st c)).1 = _
    rw [la_1 aw ac r]
    show st.1 + 1 + (r.length : Int) = st.1 + ((r.length + 1 : Nat) : Int)
    omega
theorem la_s (aw ac : Int) (cs : List CL) (c : CL) : la aw ac (cs ++ [c]) = if c.1 = aw ∧ (aw ≠ 0 ∨ c.2.1 = ac) then (cs.length : Int) else la aw ac cs := by
  unfold la
  rw [List.foldl_append]
  show (laF aw ac (cs.foldl (laF aw ac) (0, -1)) c).2 = _
  show (if c.1 = aw ∧ (aw ≠ 0 ∨ c.2.1 = ac) then (cs.foldl (laF aw ac) (0, -1)).1 else _) = _
  rw [la_1]
  show (if c.1 = aw ∧ (aw ≠ 0 ∨ c.2.1 = ac) then 0 + (cs.length : Int) else _) = _
  rw [Int.zero_add]
theorem la_n (aw ac : Int) : la aw ac [] = -1 := rfl
theorem la_r0 (aw ac : Int) : ∀ (cs : List CL) (st : Int × Int), -1 ≤ st.2 → st.2 < st.1 → 0 ≤ st.1 → -1 ≤ (cs.foldl (laF aw ac) st).2 ∧ (cs.foldl (laF aw ac) st).2 < (cs.foldl (laF aw ac) st).1
  | [], st, h1, h2, h3 => ⟨h1, h2⟩
  | c :: r, st, h1, h2, h3 => by
    show -1 ≤ (r.foldl (laF aw ac) (laF aw ac st c)).2 ∧ (r.foldl (laF aw ac) (laF aw ac st c)).2 < (r.foldl (laF aw ac) (laF aw ac st c)).1
    refine la_r0 aw ac r (laF aw ac st c) ?_ ?_ (by show 0 ≤ st.1 + 1; omega)
    · show -1 ≤ (if c.1 = aw ∧ (aw ≠ 0 ∨ c.2.1 = ac) then st.1 else st.2)
      split <;> omega
    · show (if c.1 = aw ∧ (aw ≠ 0 ∨ c.2.1 = ac) then st.1 else st.2) < st.1 + 1
      split <;> omega
theorem la_r (aw ac : Int) (cs : List CL) : -1 ≤ la aw ac cs ∧ la aw ac cs < (cs.length : Int) := by
  have h := la_r0 aw ac cs (0, -1) (by show (-1 : Int) ≤ -1; omega) (by show (-1 : Int) < 0; omega) (by show (0 : Int) ≤ 0; omega)
  have h2 := la_1 aw ac cs (0, -1)
  rw [h2] at h
  have h2' : ((0 : Int), (-1 : Int)).1 + (cs.length : Int) = (cs.length : Int) := by show 0 + (cs.length : Int) = _; omega
  rw [h2'] at h
  exact h
theorem pX_len (pk : Int → Int) (n : Int) : ∀ (k : Nat) (p : Int) (cs : List CL), (pX pk n k p cs).2.2.length ≤ cs.length + k
  | 0, p, cs => Nat.le_refl _
  | k + 1, p, cs => by
    have hl : (cs ++ [(pC pk p).2.2]).length = cs.length + 1 := by rw [List.length_append]; rfl
    show (bif (pC pk p).1 then (if (pC pk p).2.1 = n then (true, n, cs ++ [(pC pk p).2.2]) else if k = 0 then (false, (pC pk p).2.1, cs) else if pk (pC pk p).2.1 = 59 then pX pk n k ((pC pk p).2.1 + 1) (cs ++ [(pC pk p).2.2]) else (false, (pC pk p).2.1, cs)) else ((false, (pC pk p).2.1, cs) : Bool × Int × List CL)).2.2.length ≤ cs.length + (k + 1)
    cases (pC pk p).1
    · show cs.length ≤ _; omega
    · show (if (pC pk p).2.1 = n then (true, n, cs ++ [(pC pk p).2.2]) else if k = 0 then (false, (pC pk p).2.1, cs) else if pk (pC pk p).2.1 = 59 then pX pk n k ((pC pk p).2.1 + 1) (cs ++ [(pC pk p).2.2]) else ((false, (pC pk p).2.1, cs) : Bool × Int × List CL)).2.2.length ≤ cs.length + (k + 1)
      split
      · show (cs ++ [(pC pk p).2.2]).length ≤ _; omega
      · split
        · show cs.length ≤ _; omega
        · split
          · have := pX_len pk n k ((pC pk p).2.1 + 1) (cs ++ [(pC pk p).2.2])
            omega
          · show cs.length ≤ _; omega
/-- what was said of a text's clauses -/
def SAID (aw ac : Int) (fx : Int → Int) (V : Mem) (cs : List CL) : Prop := V 137 36 = la aw ac cs ∧ -1 ≤ la aw ac cs ∧ la aw ac cs < (cs.length : Int) ∧ (0 ≤ la aw ac cs → ∃ c, cs[(la aw ac cs).toNat]? = some c ∧ c.1 = aw ∧ V 137 37 = nbc c ∧ (3 ≤ c.1 → ∃ v, RP fx c.2.2.2 v 11 ∧ V 137 38 = b2 v))
def GCf (a k : Int) : Prop := (a = 137 ∧ ((30 ≤ k ∧ k ≤ 33) ∨ (36 ≤ k ∧ k ≤ 39) ∨ (42 ≤ k ∧ k ≤ 44))) ∨ a = 163 ∨ a = 164
def GFR (V V' : Mem) : Prop := ∀ a k, ¬ GCf a k → V' a k = V a k
def csM (V : Mem) (u : Int) : List CL := (pX (pkM V (100 * u) (V 161 u)) (V 161 u) 8 0 []).2.2
section MR
variable {d : Nat} {b n p c x aw ac day t : Int} {pk fx : Int → Int} {V V' V2 : Mem} {S : Shp} {Q : Int → Mem → Shp → Prop} {U QF QT : Mem → Shp → Prop}
theorem GFR.rf : GFR V V := fun _ _ _ => rfl
theorem GFR.tr (h : GFR V V') (g : GFR V' V2) : GFR V V2 := fun a k hn => (g a k hn).trans (h a k hn)
theorem CFR.gf (h : CFR V V') : GFR V V' := fun a k hn => h a k (fun q => hn (by unfold CCf at q; unfold GCf; omega))
theorem GFR.up (h : GFR V V') {a k v : Int} (he : GCf a k) : GFR V (up2 V' a k v) := fun q j hn => by
  rw [up2_ne]
  · exact h q j hn
  · by_cases e : q = a
    · exact Or.inr (fun e2 => hn (e ▸ e2 ▸ he))
    · exact Or.inl e
theorem SAID.s {cs : List CL} {cl : CL} (h : SAID aw ac fx V cs) (hs : SAYS aw ac fx V V' cl) (h33 : V 137 33 = (cs.length : Int)) : SAID aw ac fx V' (cs ++ [cl]) := by
  obtain ⟨h1, h2, h3, h4⟩ := h
  have hl : (((cs ++ [cl]).length : Nat) : Int) = (cs.length : Int) + 1 := by rw [List.length_append]; show ((cs.length + 1 : Nat) : Int) = _; omega
  unfold SAID
  rw [hl, la_s]
  by_cases c1 : cl.1 = aw ∧ (aw ≠ 0 ∨ cl.2.1 = ac)
  · obtain ⟨s1, s2, s3⟩ := hs.1 c1
    rw [if_pos c1]
    refine ⟨s1.trans h33, by omega, by omega, fun _ => ⟨cl, ?_, c1.1, s2, s3⟩⟩
    rw [show ((cs.length : Int)).toNat = cs.length from by omega, List.getElem?_append_right (Nat.le_refl _), Nat.sub_self]
    rfl
  · obtain ⟨s1, s2, s3⟩ := hs.2 c1
    rw [if_neg c1]
    refine ⟨s1.trans h1, h2, by omega, fun q => ?_⟩
    obtain ⟨c, e1, e2, e3, e4⟩ := h4 q
    refine ⟨c, ?_, e2, s2.trans e3, fun q3 => ?_⟩
    · rw [List.getElem?_append_left (by omega)]
      exact e1
    · obtain ⟨v, r1, r2⟩ := e4 q3
      exact ⟨v, r1, s3.trans r2⟩
theorem m_goes_l (hS : FS S) : ∀ (k : Nat) (V : Mem) (p : Int) (cs : List CL) (u : XV) (g : Cnt), PM pk b n V → (∀ f, 0 ≤ f → f < 6 → s32 (V 162 f) = fx f) → ASK aw ac V → V 137 32 = p → 0 ≤ p → p ≤ n → V 137 33 = (cs.length : Int) → cs.length + (k + 1) = 8 → SAID aw ac fx V cs → ((pX pk n (k + 1) p cs).1 = false → ∀ V', GFR V V' → V' 137 32 = (pX pk n (k + 1) p cs).2.1 → Q 0 V' S) → ((pX pk n (k + 1) p cs).1 = true → (pX pk n (k + 1) p cs).2.1 = n → ∀ V', GFR V V' → SAID aw ac fx V' (pX pk n (k + 1) p cs).2.2 → Q 1 V' S) → K_m_goesThrough (d + 9) Q (33, [(2, 137), u], [], V, S, g) := by
  intro k
  induction k with
  | zero =>
    intro V p cs u g h hf hA hp p0 p1 h33 hk hs hF hT
    rw [L_m_goesThrough_33]
    refine m_clause hS h hf hA hp p0 p1 (fun q V1 f1 g1 => ?_) (fun q V1 f1 g1 lt1 le1 s1 => ?_)
    · have hv : pX pk n (0 + 1) p cs = (false, (pC pk p).2.1, cs) := by
        show (bif (pC pk p).1 then _ else _) = _
        rw [q]; rfl
      rw [hv] at hF
      simp (disch := omega) only [s32_id, b_s32, b_eq0, b_01, l0, l1, true_and, and_true, and_self, true_implies, false_implies, implies_true, forall_const, not_true_eq_false, not_false_eq_true, reduceIte, ite_true, ite_false, reduceCtorEq, forall_eq, Classical.not_not, true_or, or_true, false_or, or_false, and_false, false_and, Int.reduceEq, Int.reduceLT, Int.reduceLE, Int.reduceAdd, Int.reduceSub, Int.reduceMul, Int.reduceNeg]
      exact hF rfl V1 f1.gf g1
    · have e33 : V1 137 33 = (cs.length : Int) := (f1 _ _ (by unfold CCf; omega)).trans h33
      have e31 : V1 137 31 = n := (f1 _ _ (by unfold CCf; omega)).trans h.2.2.1.1
      have f2 : GFR V (up2 V1 137 33 ((cs.length : Int) + 1)) := f1.gf.up (by unfold GCf; omega)
      have hn := h.2.2.1.2
      by_cases q2 : (pC pk p).2.1 = n
      · have hv : pX pk n (0 + 1) p cs = (true, n, cs ++ [(pC pk p).2.2]) := by
          show (bif (pC pk p).1 then (if (pC pk p).2.1 = n then _ else _) else _) = _
          rw [q, if_pos q2]; rfl
        rw [hv] at hT
        have hs2 := hs.s s1 h33
        have hs3 : SAID aw ac fx (up2 V1 137 33 ((cs.length : Int) + 1)) (cs ++ [(pC pk p).2.2]) := by
          unfold SAID
          simp (disch := omega) only [up2_ne]
          exact hs2
        have := hT rfl rfl _ f2 hs3
        simp (disch := omega) only [s32_id, hS.k137, e33, e31, g1, q2, up2_ne, this, b_s32, b_eq0, b_01, l0, l1, true_and, and_true, and_self, true_implies, false_implies, implies_true, forall_const, not_true_eq_false, not_false_eq_true, reduceIte, ite_true, ite_false, reduceCtorEq, forall_eq, Classical.not_not, true_or, or_true, false_or, or_false, and_false, false_and, Int.reduceEq, Int.reduceLT, Int.reduceLE, Int.reduceAdd, Int.reduceSub, Int.reduceMul, Int.reduceNeg]
      · have hv : pX pk n (0 + 1) p cs = (false, (pC pk p).2.1, cs) := by
          show (bif (pC pk p).1 then (if (pC pk p).2.1 = n then _ else if 0 = 0 then _ else _) else _) = _
          rw [q, if_neg q2, if_pos rfl]; rfl
        rw [hv] at hF
        have := hF rfl _ f2 ((up2_ne (by omega)).trans g1)
        rw [show (cs.length : Int) + 1 = 8 from by omega] at this
        simp (disch := omega) only [s32_id (x := 1), s32_id (x := (pC pk p).2.1), s32_id (x := n), s32_id (x := 8), s32_id (x := (cs.length : Int) + 1), hS.k137, e33, e31, g1, q2, up2_ne, up2_eq, show (cs.length : Int) + 1 = 8 from by omega, this, b_s32, b_eq0, b_01, l0, l1, true_and, and_true, and_self, true_implies, false_implies, implies_true, forall_const, not_true_eq_false, not_false_eq_true, reduceIte, ite_true, ite_false, reduceCtorEq, forall_eq, Classical.not_not, true_or, or_true, false_or, or_false, and_false, false_and, Int.reduceEq, Int.reduceLT, Int.reduceLE, Int.reduceAdd, Int.reduceSub, Int.reduceMul, Int.reduceNeg]
  | succ k ih =>
    intro V p cs u g h hf hA hp p0 p1 h33 hk hs hF hT
    rw [L_m_goesThrough_33]
    refine m_clause hS h hf hA hp p0 p1 (fun q V1 f1 g1 => ?_) (fun q V1 f1 g1 lt1 le1 s1 => ?_)
    · have hv : pX pk n (k + 1 + 1) p cs = (false, (pC pk p).2.1, cs) := by
        show (bif (pC pk p).1 then _ else _) = _
        rw [q]; rfl
      rw [hv] at hF
      simp (disch := omega) only [s32_id, b_s32, b_eq0, b_01, l0, l1, true_and, and_true, and_self, true_implies, false_implies, implies_true, forall_const, not_true_eq_false, not_false_eq_true, reduceIte, ite_true, ite_false, reduceCtorEq, forall_eq, Classical.not_not, true_or, or_true, false_or, or_false, and_false, false_and, Int.reduceEq, Int.reduceLT, Int.reduceLE, Int.reduceAdd, Int.reduceSub, Int.reduceMul, Int.reduceNeg]
      exact hF rfl V1 f1.gf g1
    · have e33 : V1 137 33 = (cs.length : Int) := (f1 _ _ (by unfold CCf; omega)).trans h33
      have e31 : V1 137 31 = n := (f1 _ _ (by unfold CCf; omega)).trans h.2.2.1.1
      have f2 : GFR V (up2 V1 137 33 ((cs.length : Int) + 1)) := f1.gf.up (by unfold GCf; omega)
      have hn := h.2.2.1.2
      have hs2 := hs.s s1 h33
      have hs3 : SAID aw ac fx (up2 V1 137 33 ((cs.length : Int) + 1)) (cs ++ [(pC pk p).2.2]) := by
        unfold SAID
        simp (disch := omega) only [up2_ne]
        exact hs2
      by_cases q2 : (pC pk p).2.1 = n
      · have hv : pX pk n (k + 1 + 1) p cs = (true, n, cs ++ [(pC pk p).2.2]) := by
          show (bif (pC pk p).1 then (if (pC pk p).2.1 = n then _ else _) else _) = _
          rw [q, if_pos q2]; rfl
        rw [hv] at hT
        have := hT rfl rfl _ f2 hs3
        simp (disch := omega) only [s32_id, hS.k137, e33, e31, g1, q2, up2_ne, this, b_s32, b_eq0, b_01, l0, l1, true_and, and_true, and_self, true_implies, false_implies, implies_true, forall_const, not_true_eq_false, not_false_eq_true, reduceIte, ite_true, ite_false, reduceCtorEq, forall_eq, Classical.not_not, true_or, or_true, false_or, or_false, and_false, false_and, Int.reduceEq, Int.reduceLT, Int.reduceLE, Int.reduceAdd, Int.reduceSub, Int.reduceMul, Int.reduceNeg]
      · have hv : pX pk n (k + 1 + 1) p cs = if pk (pC pk p).2.1 = 59 then pX pk n (k + 1) ((pC pk p).2.1 + 1) (cs ++ [(pC pk p).2.2]) else (false, (pC pk p).2.1, cs) := by
          show (bif (pC pk p).1 then (if (pC pk p).2.1 = n then _ else if k + 1 = 0 then _ else _) else _) = _
          rw [q, if_neg q2, if_neg (Nat.succ_ne_zero k)]; rfl
        rw [hv] at hF hT
        have hM2 : PM pk b n (up2 V1 137 33 ((cs.length : Int) + 1)) := by
          have hM := h.cf f1
          obtain ⟨h1, h2, h3, h4, h5⟩ := hM
          exact ⟨h1.fr (FRM.rf.up (by unfold VD; omega)), by simp (disch := omega) only [up2_ne]; exact h2, by simp (disch := omega) only [up2_ne]; exact h3, fun p p0 p1 => by rw [up2_ne (by omega)]; exact h4 p p0 p1, h5⟩
        have g2 : (up2 V1 137 33 ((cs.length : Int) + 1)) 137 32 = (pC pk p).2.1 := (up2_ne (by omega)).trans g1
        simp (disch := omega) only [s32_id (x := 1), s32_id (x := (pC pk p).2.1), s32_id (x := n), s32_id (x := 8), s32_id (x := (cs.length : Int) + 1), hS.k137, e33, e31, g1, q2, up2_ne, up2_eq, show ¬ (cs.length : Int) + 1 = 8 from by omega, m_takes hS hM2 g2 (show 0 ≤ (pC pk p).2.1 by omega) le1 (show s32 59 = 59 by decide), b_s32, b_eq0, b_01, l0, l1, true_and, and_true, and_self, true_implies, false_implies, implies_true, forall_const, not_true_eq_false, not_false_eq_true, reduceIte, ite_true, ite_false, reduceCtorEq, forall_eq, Classical.not_not, true_or, or_true, false_or, or_false, and_false, false_and, Int.reduceEq, Int.reduceLT, Int.reduceLE, Int.reduceAdd, Int.reduceSub, Int.reduceMul, Int.reduceNeg]
        by_cases q3 : pk (pC pk p).2.1 = 59
        · rw [if_pos q3] at hF hT ⊢
          have ln := h.lt (p := (pC pk p).2.1) (by omega)
          have f3 : NFR (up2 V1 137 33 ((cs.length : Int) + 1)) (up2 (up2 V1 137 33 ((cs.length : Int) + 1)) 137 32 ((pC pk p).2.1 + 1)) := NFR.rf.up (Or.inl rfl)
          have f4 : GFR V (up2 (up2 V1 137 33 ((cs.length : Int) + 1)) 137 32 ((pC pk p).2.1 + 1)) := f2.up (by unfold GCf; omega)
          have hl : (((cs ++ [(pC pk p).2.2]).length : Nat) : Int) = (cs.length : Int) + 1 := by rw [List.length_append]; show ((cs.length + 1 : Nat) : Int) = _; omega
          try simp (disch := omega) only [s32_id, b_s32, b_eq0, b_01, l0, l1, true_and, and_true, and_self, true_implies, false_implies, implies_true, forall_const, not_true_eq_false, not_false_eq_true, reduceIte, ite_true, ite_false, reduceCtorEq, forall_eq, Classical.not_not, true_or, or_true, false_or, or_false, and_false, false_and, Int.reduceEq, Int.reduceLT, Int.reduceLE, Int.reduceAdd, Int.reduceSub, Int.reduceMul, Int.reduceNeg]
          refine ih _ ((pC pk p).2.1 + 1) (cs ++ [(pC pk p).2.2]) (9, 0) g (hM2.fr f3.ef) (fun f f0 f6 => by rw [f4 162 f (by unfold GCf; omega)]; exact hf f f0 f6) ⟨(congrArg s32 (f4 _ _ (by unfold GCf; omega))).trans hA.1, (congrArg s32 (f4 _ _ (by unfold GCf; omega))).trans hA.2.1, hA.2.2⟩ (up2_eq rfl rfl) (by omega) (by omega) (by rw [hl]; simp (disch := omega) only [up2_ne, up2_eq]) (by rw [List.length_append]; show cs.length + 1 + (k + 1) = 8; omega) (by unfold SAID; simp (disch := omega) only [up2_ne]; exact hs2) (fun q4 V5 f5 g5 => hF q4 V5 (f4.tr f5) g5) (fun q4 e4 V5 f5 s5 => hT q4 e4 V5 (f4.tr f5) s5)
        · rw [if_neg q3] at hF ⊢
          try simp (disch := omega) only [s32_id, b_s32, b_eq0, b_01, l0, l1, true_and, and_true, and_self, true_implies, false_implies, implies_true, forall_const, not_true_eq_false, not_false_eq_true, reduceIte, ite_true, ite_false, reduceCtorEq, forall_eq, Classical.not_not, true_or, or_true, false_or, or_false, and_false, false_and, Int.reduceEq, Int.reduceLT, Int.reduceLE, Int.reduceAdd, Int.reduceSub, Int.reduceMul, Int.reduceNeg]
          exact hF rfl _ f2 g2
theorem m_goes (hS : FS S) (hV : FV V) (t0 : 0 ≤ t) (t1 : t ≤ 11) (hf : ∀ f, 0 ≤ f → f < 6 → s32 (V 162 f) = fx f) (hA : ASK aw ac V) (hn : 0 ≤ V 161 t ∧ V 161 t ≤ 100) (hb : ∀ p, 0 ≤ p → p < V 161 t → -128 ≤ V 160 (100 * t + p) ∧ V 160 (100 * t + p) < 128) (hF : (pX (pkM V (100 * t) (V 161 t)) (V 161 t) 8 0 []).1 = false → ∀ V', GFR V V' → V' 137 32 = (pX (pkM V (100 * t) (V 161 t)) (V 161 t) 8 0 []).2.1 → Q 0 V' S) (hT : (pX (pkM V (100 * t) (V 161 t)) (V 161 t) 8 0 []).1 = true → (pX (pkM V (100 * t) (V 161 t)) (V 161 t) 8 0 []).2.1 = V 161 t → ∀ V', GFR V V' → SAID aw ac fx V' (csM V t) → Q 1 V' S) : C_m_goesThrough (d + 10) 137 t V S Q := by
  have f1 : GFR V (up2 (up2 (up2 (up2 (up2 V 137 30 (100 * t)) 137 31 (V 161 t)) 137 32 0) 137 33 0) 137 36 (-1)) := ((((GFR.rf.up (by unfold GCf; omega)).up (by unfold GCf; omega)).up (by unfold GCf; omega)).up (by unfold GCf; omega)).up (by unfold GCf; omega)
  rw [I_m_goesThrough]
  simp (disch := omega) only [hS.k137, hS.k161, hS.n161, hV.r137_28, s32_id, t0, show t < 12 from by omega, up2_ne, b_s32, b_eq0, b_01, l0, l1, true_and, and_true, and_self, true_implies, false_implies, implies_true, forall_const, not_true_eq_false, not_false_eq_true, reduceIte, ite_true, ite_false, reduceCtorEq, forall_eq, Classical.not_not, true_or, or_true, false_or, or_false, and_false, false_and, Int.reduceEq, Int.reduceLT, Int.reduceLE, Int.reduceAdd, Int.reduceSub, Int.reduceMul, Int.reduceNeg]
  refine m_goes_l (pk := pkM V (100 * t) (V 161 t)) (b := 100 * t) (n := V 161 t) hS 7 _ 0 [] _ _ ⟨hV.fr (fun a k q => f1 a k (by unfold VD at q; unfold GCf; omega)), ⟨by simp (disch := omega) only [up2_ne, up2_eq], by omega, by omega⟩, ⟨by simp (disch := omega) only [up2_ne, up2_eq], hn⟩, fun p p0 p1 => ?_, fun p hp => ?_, fun p p0 => ?_⟩ (fun f f0 f6 => by rw [f1 162 f (by unfold GCf; omega)]; exact hf f f0 f6) ⟨(congrArg s32 (f1 _ _ (by unfold GCf; omega))).trans hA.1, (congrArg s32 (f1 _ _ (by unfold GCf; omega))).trans hA.2.1, hA.2.2⟩ (by simp (disch := omega) only [up2_ne, up2_eq]) (by omega) hn.1 (by simp (disch := omega) only [up2_ne, up2_eq]; rfl) rfl ⟨up2_eq rfl rfl, by rw [la_n]; omega, by rw [la_n]; exact (by show (-1 : Int) < 0; omega), fun q => by rw [la_n] at q; omega⟩ (fun q V5 f5 g5 => hF q V5 (f1.tr f5) g5) (fun q e V5 f5 s5 => hT q e V5 (f1.tr f5) s5)
  · rw [f1 160 _ (by unfold GCf; omega)]
    unfold pkM
    rw [if_pos p1]
  · unfold pkM
    rw [if_neg (by omega)]
  · unfold pkM
    by_cases q : p < V 161 t
    · rw [if_pos q]
      exact hb p p0 q
    · rw [if_neg q]; omega
end MR
