/-! the model's reading of clauses -/
def mtc (aw ac : Int) (c : CL) : Prop := c.1 = aw ∧ (aw ≠ 0 ∨ c.2.1 = ac)
def nbc (c : CL) : Int := if c.1 = 0 then c.2.2.1 else if c.1 ≤ 2 then c.2.1 else 0
def CCf (a k : Int) : Prop := (a = 137 ∧ (k = 32 ∨ (36 ≤ k ∧ k ≤ 39) ∨ (42 ≤ k ∧ k ≤ 44))) ∨ a = 163 ∨ a = 164
def CFR (V V' : Mem) : Prop := ∀ a k, ¬ CCf a k → V' a k = V a k
def SAYS (aw ac : Int) (fx : Int → Int) (V V' : Mem) (c : CL) : Prop := (mtc aw ac c → V' 137 36 = V 137 33 ∧ V' 137 37 = nbc c ∧ (3 ≤ c.1 → ∃ v, RP fx c.2.2.2 v 11 ∧ V' 137 38 = b2 v)) ∧ (¬ mtc aw ac c → V' 137 36 = V 137 36 ∧ V' 137 37 = V 137 37 ∧ V' 137 38 = V 137 38)
section MC
variable {d : Nat} {b n p c x aw ac : Int} {pk fx : Int → Int} {V V' V2 : Mem} {S : Shp} {Q : Int → Mem → Shp → Prop} {U QF QT : Mem → Shp → Prop}
theorem CFR.rf : CFR V V := fun _ _ _ => rfl
theorem CFR.tr (h : CFR V V') (g : CFR V' V2) : CFR V V2 := fun a k hn => (g a k hn).trans (h a k hn)
theorem EFR.cf (h : EFR V V') : CFR V V' := fun a k hn => h a k (fun q => hn (by unfold ECf at q; unfold CCf; omega))
theorem CFR.up (h : CFR V V') {a k v : Int} (he : CCf a k) : CFR V (up2 V' a k v) := fun q j hn => by
  rw [up2_ne]
  · exact h q j hn
  · by_cases e : q = a
    · exact Or.inr (fun e2 => hn (e ▸ e2 ▸ he))
    · exact Or.inl e
theorem PM.cf (h : PM pk b n V) (f : CFR V V') : PM pk b n V' := by
  obtain ⟨h1, ⟨h2, h2'⟩, ⟨h3, h3'⟩, h4, h5⟩ := h
  refine ⟨h1.fr (fun a k q => f a k (by unfold VD at q; unfold CCf; omega)), ⟨(f _ _ (by unfold CCf; omega)).trans h2, h2'⟩, ⟨(f _ _ (by unfold CCf; omega)).trans h3, h3'⟩, fun p p0 p1 => (f _ _ (by unfold CCf; omega)).trans (h4 p p0 p1), h5⟩
theorem m_wordc {w : Int} {l : List Int} {k : Int} (hS : FS S) (h : PM pk b n V) (hp : V 137 32 = p) (p0 : 0 ≤ p) (p1 : p ≤ n) (hk : k = (l.length : Int)) (hl : ∀ (j : Nat) (hj : j < l.length), 96 + iandI (ishrI w (5 * ((l.length : Int) - 1 - (j : Int)))) 31 = l[j]) (hl2 : l.length ≤ 10) (hl3 : ∀ c ∈ l, 0 ≤ c ∧ c ≤ 127) (h0 : ∀ V', NFR V V' → V' 137 32 = (pW pk (l ++ [32]) p).2 → (pW pk (l ++ [32]) p).1 = false → QF V' S) (h1 : ∀ V', NFR V V' → V' 137 32 = (pW pk (l ++ [32]) p).2 → (pW pk (l ++ [32]) p).1 = true → p < (pW pk (l ++ [32]) p).2 → (pW pk (l ++ [32]) p).2 ≤ n → QT V' S) : C_m_takesWord (d + 3) 137 w k V S (fun r2 V2 S2 => ((s32 r2 = 0 → QF V2 S2) ∧ (¬ s32 r2 = 0 → (C_m_takes (d + 3) 137 32 V2 S2 (fun r3 V3 S3 => ((s32 r3 = 0 → QF V3 S3) ∧ (¬ s32 r3 = 0 → QT V3 S3))))))) := by
  have := m_wordb (d := d) (Q := fun r V S => (r = 0 → QF V S) ∧ (r = 1 → QT V S)) hS h hp p0 p1 hk hl hl2 hl3 (fun V' a b c => ⟨fun _ => h0 V' a b c, fun q => by omega⟩) (fun V' a b c e f => ⟨fun q => by omega, fun _ => h1 V' a b c e f⟩)
  simp only [true_implies, false_implies, and_true, true_and, show ((0 : Int) = 1) = False from by simp, show ((1 : Int) = 0) = False from by simp] at this
  exact this
theorem m_says {w nn so : Int} (hS : FS S) (ha : s32 (V 137 34) = aw) (hw : s32 w = w) (hso : s32 so = 0 ∨ s32 so = 1) : C_m_says (d + 1) 137 w nn so V S U ↔ if w = aw then U (up2 (up2 (up2 V 137 36 (V 137 33)) 137 37 nn) 137 38 so) S else U V S := by
  rw [I_m_says, ha, hw]
  by_cases c1 : w = aw
  · simp only [c1, hS.k137, hso, b_s32, b_eq0, b_01, l0, l1, true_and, and_true, and_self, true_implies, false_implies, implies_true, forall_const, not_true_eq_false, not_false_eq_true, reduceIte, ite_true, ite_false, reduceCtorEq, forall_eq, Classical.not_not, true_or, or_true, false_or, or_false, and_false, false_and, Int.reduceEq, Int.reduceLT, Int.reduceLE, Int.reduceAdd, Int.reduceSub, Int.reduceMul, Int.reduceNeg]
  · simp only [c1, hS.k137, b_s32, b_eq0, b_01, l0, l1, true_and, and_true, and_self, true_implies, false_implies, implies_true, forall_const, not_true_eq_false, not_false_eq_true, reduceIte, ite_true, ite_false, reduceCtorEq, forall_eq, Classical.not_not, true_or, or_true, false_or, or_false, and_false, false_and, Int.reduceEq, Int.reduceLT, Int.reduceLE, Int.reduceAdd, Int.reduceSub, Int.reduceMul, Int.reduceNeg]
/-- what says() leaves behind -/
theorem says_c {w nn so : Int} {c : CL} (hS : FS S) (hA : s32 (V2 137 34) = aw ∧ V2 137 33 = V 137 33) (ha : s32 aw = aw) (hw : s32 w = w) (hc : c.1 = w) (hm : w ≠ 0 ∨ c.2.1 = ac) (hn : nn = nbc c) (hso : (so = 0 ∧ ¬ 3 ≤ c.1) ∨ ∃ v, RP fx c.2.2.2 v 11 ∧ so = b2 v) (h36 : V2 137 36 = V 137 36 ∧ V2 137 37 = V 137 37 ∧ V2 137 38 = V 137 38) (hU : ∀ V', CFR V2 V' → V' 137 32 = V2 137 32 → SAYS aw ac fx V V' c → U V' S) : C_m_says (d + 1) 137 w nn so V2 S U := by
  have hso2 : s32 so = 0 ∨ s32 so = 1 := by
    rcases hso with ⟨e, -⟩ | ⟨v, -, e⟩
    · rw [e]; exact Or.inl l0
    · rw [e]; cases v <;> decide
  rw [m_says hS hA.1 hw hso2, hA.2]
  by_cases c1 : w = aw
  · rw [if_pos c1]
    refine hU _ (((CFR.rf.up (by unfold CCf; omega)).up (by unfold CCf; omega)).up (by unfold CCf; omega)) (by simp (disch := omega) only [up2_ne]) ⟨fun _ => ⟨by simp (disch := omega) only [up2_ne, up2_eq], by simp (disch := omega) only [up2_ne, up2_eq]; exact hn, fun h3 => ?_⟩, fun q => (q ⟨hc.trans c1, by rw [← c1]; exact hm⟩).elim⟩
    rcases hso with ⟨-, e⟩ | ⟨v, r, e⟩
    · exact (e h3).elim
    · exact ⟨v, r, by rw [up2_eq rfl rfl]; exact e⟩
  · rw [if_neg c1]
    exact hU V2 CFR.rf rfl ⟨fun q => (c1 (hc.symm.trans q.1)).elim, fun _ => h36⟩
theorem wl_sum : ∀ j : Fin 3, 96 + iandI (ishrI 20141 (5 * (3 - 1 - (j.val : Int)))) 31 = ([115, 117, 109] : List Int)[j.val] := by decide +kernel
theorem wl_grace : ∀ j : Fin 5, 96 + iandI (ishrI 7930981 (5 * (5 - 1 - (j.val : Int)))) 31 = ([103, 114, 97, 99, 101] : List Int)[j.val] := by decide +kernel
theorem wl_run : ∀ j : Fin 3, 96 + iandI (ishrI 19118 (5 * (3 - 1 - (j.val : Int)))) 31 = ([114, 117, 110] : List Int)[j.val] := by decide +kernel
theorem wl_fetch : ∀ j : Fin 5, 96 + iandI (ishrI 6475880 (5 * (5 - 1 - (j.val : Int)))) 31 = ([102, 101, 116, 99, 104] : List Int)[j.val] := by decide +kernel
theorem wl_off : ∀ j : Fin 3, 96 + iandI (ishrI 15558 (5 * (3 - 1 - (j.val : Int)))) 31 = ([111, 102, 102] : List Int)[j.val] := by decide +kernel
def ASK (aw ac : Int) (V : Mem) : Prop := s32 (V 137 34) = aw ∧ s32 (V 137 35) = ac ∧ s32 aw = aw ∧ s32 ac = ac
theorem nf {x : Bool} (h : ¬ x = true) : x = false := by cases x; rfl; exact (h rfl).elim
theorem m_sum (hS : FS S) (h : PM pk b n V) (hA : ASK aw ac V) (hp : V 137 32 = p) (p0 : 0 ≤ p) (p1 : p ≤ n) (hF : (pSum pk p).1 = false → ∀ V', CFR V V' → V' 137 32 = (pSum pk p).2.1 → Q 0 V' S) (hT : (pSum pk p).1 = true → ∀ V', CFR V V' → V' 137 32 = (pSum pk p).2.1 → p < (pSum pk p).2.1 → (pSum pk p).2.1 ≤ n → SAYS aw ac fx V V' (pSum pk p).2.2 → Q 1 V' S) : C_m_takesSum (d + 8) 137 V S Q := by
  obtain ⟨a1, a2, a3, a4⟩ := hA
  rw [I_m_takesSum]
  simp only [hS.k137, b_s32, b_eq0, b_01, l0, l1, true_and, and_true, and_self, true_implies, false_implies, implies_true, forall_const, not_true_eq_false, not_false_eq_true, reduceIte, ite_true, ite_false, reduceCtorEq, forall_eq, Classical.not_not, true_or, or_true, false_or, or_false, and_false, false_and, Int.reduceEq, Int.reduceLT, Int.reduceLE, Int.reduceAdd, Int.reduceSub, Int.reduceMul, Int.reduceNeg]
  refine m_wordc (d := d + 4) (l := [115, 117, 109]) hS h hp p0 p1 rfl (fun j hj => wl_sum ⟨j, hj⟩) (by decide) (by decide) (fun V1 f1 g1 q1 => ?_) (fun V1 f1 g1 q1 lt1 le1 => ?_)
  · have q1 : (pW pk [115, 117, 109, 32] p).1 = false := q1
    have hv : pSum pk p = noC (pW pk [115, 117, 109, 32] p).2 := by unfold pSum; rw [q1]; rfl
    rw [hv] at hF
    exact hF rfl V1 f1.ef.cf g1
  · have q1 : (pW pk [115, 117, 109, 32] p).1 = true := q1
    have g1 : V1 137 32 = (pW pk [115, 117, 109, 32] p).2 := g1
    have lt1 : p < (pW pk [115, 117, 109, 32] p).2 := lt1
    have le1 : (pW pk [115, 117, 109, 32] p).2 ≤ n := le1
    refine m_number (d := d + 4) hS (h.fr f1.ef) g1 (by omega) le1 (fun V2 f2 g2 l2 le2 k2 => ?_)
    by_cases q2 : (nmP pk (pW pk [115, 117, 109, 32] p).2).1 = true
    · obtain ⟨k2a, k2b, k2c, k2d⟩ := k2 q2
      simp (disch := omega) only [q2, s32_id, hS.k137, b_s32, b_eq0, b_01, l0, l1, true_and, and_true, and_self, true_implies, false_implies, implies_true, forall_const, not_true_eq_false, not_false_eq_true, reduceIte, ite_true, ite_false, reduceCtorEq, forall_eq, Classical.not_not, true_or, or_true, false_or, or_false, and_false, false_and, Int.reduceEq, Int.reduceLT, Int.reduceLE, Int.reduceAdd, Int.reduceSub, Int.reduceMul, Int.reduceNeg]
      have s32' : s32 32 = 32 := by decide
      rw [m_takes (d := d + 5) hS (h.fr (f1.tr f2).ef) g2 (by omega) le2 s32']
      by_cases q3 : pk (nmP pk (pW pk [115, 117, 109, 32] p).2).2.1 = 32
      · have lt3 := h.lt (p := (nmP pk (pW pk [115, 117, 109, 32] p).2).2.1) (by omega)
        rw [if_pos q3]
        have f3 : NFR V (up2 V2 137 32 ((nmP pk (pW pk [115, 117, 109, 32] p).2).2.1 + 1)) := (f1.tr f2).up (Or.inl rfl)
        simp (disch := omega) only [s32_id, hS.k137, b_s32, b_eq0, b_01, l0, l1, true_and, and_true, and_self, true_implies, false_implies, implies_true, forall_const, not_true_eq_false, not_false_eq_true, reduceIte, ite_true, ite_false, reduceCtorEq, forall_eq, Classical.not_not, true_or, or_true, false_or, or_false, and_false, false_and, Int.reduceEq, Int.reduceLT, Int.reduceLE, Int.reduceAdd, Int.reduceSub, Int.reduceMul, Int.reduceNeg]
        refine m_number (d := d + 4) hS (h.fr f3.ef) (up2_eq rfl rfl) (by omega) (by omega) (fun V4 f4 g4 l4 le4 k4 => ?_)
        by_cases q4 : (nmP pk ((nmP pk (pW pk [115, 117, 109, 32] p).2).2.1 + 1)).1 = true
        · obtain ⟨k4a, k4b, k4c, k4d⟩ := k4 q4
          have hv : pSum pk p = (true, (nmP pk ((nmP pk (pW pk [115, 117, 109, 32] p).2).2.1 + 1)).2.1, (0, (nmP pk (pW pk [115, 117, 109, 32] p).2).2.2, (nmP pk ((nmP pk (pW pk [115, 117, 109, 32] p).2).2.1 + 1)).2.2, [])) := by
            unfold pSum
            rw [q1, q2, q4, if_pos q3]
            rfl
          rw [hv] at hT
          have f5 := f3.tr f4
          have e35 : s32 (V4 137 35) = ac := (congrArg s32 (f5 _ _ (by omega))).trans a2
          have e33 : V4 137 33 = V 137 33 := f5 _ _ (by omega)
          have e34 : s32 (V4 137 34) = aw := (congrArg s32 (f5 _ _ (by omega))).trans a1
          have e36 : V4 137 36 = V 137 36 ∧ V4 137 37 = V 137 37 ∧ V4 137 38 = V 137 38 := ⟨f5 _ _ (by omega), f5 _ _ (by omega), f5 _ _ (by omega)⟩
          simp (disch := omega) only [q4, hS.k137, s32_id (x := 1), k2a, e35, a4, s32_id (x := (nmP pk (pW pk [115, 117, 109, 32] p).2).2.2), b_s32, b_eq0, b_01, l0, l1, true_and, and_true, and_self, true_implies, false_implies, implies_true, forall_const, not_true_eq_false, not_false_eq_true, reduceIte, ite_true, ite_false, reduceCtorEq, forall_eq, Classical.not_not, true_or, or_true, false_or, or_false, and_false, false_and, Int.reduceEq, Int.reduceLT, Int.reduceLE, Int.reduceAdd, Int.reduceSub, Int.reduceMul, Int.reduceNeg]
          constructor
          · intro q5
            refine says_c (d := d + 6) (aw := aw) (ac := ac) (fx := fx) (V := V) (c := (0, (nmP pk (pW pk [115, 117, 109, 32] p).2).2.2, (nmP pk ((nmP pk (pW pk [115, 117, 109, 32] p).2).2.1 + 1)).2.2, [])) hS ⟨e34, e33⟩ a3 l0 rfl (Or.inr q5) k4a (Or.inl ⟨rfl, by show ¬ (3 : Int) ≤ 0; omega⟩) e36 (fun V5 f6 g6 s6 => ?_)
            exact hT rfl V5 (f5.ef.cf.tr f6) (g6.trans g4) (by show p < (nmP pk ((nmP pk (pW pk [115, 117, 109, 32] p).2).2.1 + 1)).2.1; omega) le4 s6
          · intro q5
            exact hT rfl V4 f5.ef.cf g4 (by show p < (nmP pk ((nmP pk (pW pk [115, 117, 109, 32] p).2).2.1 + 1)).2.1; omega) le4 ⟨fun m => by
              rcases m with ⟨m1, m2 | m2⟩
              · exact (m2 m1.symm).elim
              · exact (q5 m2).elim, fun _ => e36⟩
        · have q4' := nf q4
          have hv : pSum pk p = noC (nmP pk ((nmP pk (pW pk [115, 117, 109, 32] p).2).2.1 + 1)).2.1 := by
            unfold pSum
            rw [q1, q2, q4', if_pos q3]
            rfl
          rw [hv] at hF
          simp (disch := omega) only [q4, s32_id, hS.k137, b_s32, b_eq0, b_01, l0, l1, true_and, and_true, and_self, true_implies, false_implies, implies_true, forall_const, not_true_eq_false, not_false_eq_true, reduceIte, ite_true, ite_false, reduceCtorEq, forall_eq, Classical.not_not, true_or, or_true, false_or, or_false, and_false, false_and, Int.reduceEq, Int.reduceLT, Int.reduceLE, Int.reduceAdd, Int.reduceSub, Int.reduceMul, Int.reduceNeg]
          exact hF rfl V4 (f3.tr f4).ef.cf g4
      · have hv : pSum pk p = noC (nmP pk (pW pk [115, 117, 109, 32] p).2).2.1 := by
          unfold pSum
          rw [q1, q2, if_neg q3]
          rfl
        rw [hv] at hF
        rw [if_neg q3]
        simp (disch := omega) only [s32_id, hS.k137, b_s32, b_eq0, b_01, l0, l1, true_and, and_true, and_self, true_implies, false_implies, implies_true, forall_const, not_true_eq_false, not_false_eq_true, reduceIte, ite_true, ite_false, reduceCtorEq, forall_eq, Classical.not_not, true_or, or_true, false_or, or_false, and_false, false_and, Int.reduceEq, Int.reduceLT, Int.reduceLE, Int.reduceAdd, Int.reduceSub, Int.reduceMul, Int.reduceNeg]
        exact hF rfl V2 (f1.tr f2).ef.cf g2
    · have q2' := nf q2
      have hv : pSum pk p = noC (nmP pk (pW pk [115, 117, 109, 32] p).2).2.1 := by
        unfold pSum
        rw [q1, q2']
        rfl
      rw [hv] at hF
      simp (disch := omega) only [q2, s32_id, hS.k137, b_s32, b_eq0, b_01, l0, l1, true_and, and_true, and_self, true_implies, false_implies, implies_true, forall_const, not_true_eq_false, not_false_eq_true, reduceIte, ite_true, ite_false, reduceCtorEq, forall_eq, Classical.not_not, true_or, or_true, false_or, or_false, and_false, false_and, Int.reduceEq, Int.reduceLT, Int.reduceLE, Int.reduceAdd, Int.reduceSub, Int.reduceMul, Int.reduceNeg]
      exact hF rfl V2 (f1.tr f2).ef.cf g2
theorem m_tests {w word k : Int} {l : List Int} (hS : FS S) (h : PM pk b n V) (hf : ∀ f, 0 ≤ f → f < 6 → s32 (V 162 f) = fx f) (hA : ASK aw ac V) (hp : V 137 32 = p) (p0 : 0 ≤ p) (p1 : p ≤ n) (hk : k = (l.length : Int)) (hl : ∀ (j : Nat) (hj : j < l.length), 96 + iandI (ishrI w (5 * ((l.length : Int) - 1 - (j : Int)))) 31 = l[j]) (hl2 : l.length ≤ 10) (hl3 : ∀ c ∈ l, 0 ≤ c ∧ c ≤ 127) (hw : word = 3 ∨ word = 4) (hF : (pTests pk (l ++ [32]) word p).1 = false → ∀ V', CFR V V' → V' 137 32 = (pTests pk (l ++ [32]) word p).2.1 → Q 0 V' S) (hT : (pTests pk (l ++ [32]) word p).1 = true → ∀ V', CFR V V' → V' 137 32 = (pTests pk (l ++ [32]) word p).2.1 → p < (pTests pk (l ++ [32]) word p).2.1 → (pTests pk (l ++ [32]) word p).2.1 ≤ n → SAYS aw ac fx V V' (pTests pk (l ++ [32]) word p).2.2 → Q 1 V' S) : C_m_takesWord (d + 8) 137 w k V S (fun r2 V2 S2 => ((s32 r2 = 0 → Q 0 V2 S2) ∧ (¬ s32 r2 = 0 → (C_m_takes (d + 8) 137 32 V2 S2 (fun r3 V3 S3 => ((s32 r3 = 0 → Q 0 V3 S3) ∧ (¬ s32 r3 = 0 → (C_m_takesE (d + 8) 137 V3 S3 (fun r4 V4 S4 => ((s32 r4 = 0 → Q 0 V4 S4) ∧ (¬ s32 r4 = 0 → (S4.1 137 = 12 ∧ (((S4.1 (V4 137 41) = 101 ∨ S4.1 (V4 137 41) = 102) ∧ 0 < S4.2.1 (V4 137 41)) ∧ (C_m_says (d + 8) 137 word 0 (V4 (V4 137 41) 0) V4 S4 (fun V5 S5 => Q 1 V5 S5))))))))))))))) := by
  obtain ⟨a1, a2, a3, a4⟩ := hA
  refine m_wordc (d := d + 5) hS h hp p0 p1 hk hl hl2 hl3 (fun V1 f1 g1 q1 => ?_) (fun V1 f1 g1 q1 lt1 le1 => ?_)
  · have hv : pTests pk (l ++ [32]) word p = noC (pW pk (l ++ [32]) p).2 := by unfold pTests; rw [q1]; rfl
    rw [hv] at hF
    exact hF rfl V1 f1.ef.cf g1
  · refine m_takesE (fx := fx) hS (h.fr f1.ef) (fun f f0 f6 => by rw [f1 162 f (by omega)]; exact hf f f0 f6) g1 (by omega) le1 (fun q2 V2 f2 g2 => ?_) (fun q2 v r V2 f2 g2 h164 lt2 le2 => ?_)
    · have hv : pTests pk (l ++ [32]) word p = noC (pE pk (pF pk 4) (pW pk (l ++ [32]) p).2).2.1 := by unfold pTests; rw [q1, q2]; rfl
      rw [hv] at hF
      simp (disch := omega) only [s32_id, b_s32, b_eq0, b_01, l0, l1, true_and, and_true, and_self, true_implies, false_implies, implies_true, forall_const, not_true_eq_false, not_false_eq_true, reduceIte, ite_true, ite_false, reduceCtorEq, forall_eq, Classical.not_not, true_or, or_true, false_or, or_false, and_false, false_and, Int.reduceEq, Int.reduceLT, Int.reduceLE, Int.reduceAdd, Int.reduceSub, Int.reduceMul, Int.reduceNeg]
      exact hF rfl V2 (f1.ef.tr f2).cf g2
    · have hv : pTests pk (l ++ [32]) word p = (true, (pE pk (pF pk 4) (pW pk (l ++ [32]) p).2).2.1, (word, 0, 0, (pE pk (pF pk 4) (pW pk (l ++ [32]) p).2).2.2)) := by unfold pTests; rw [q1, q2]; rfl
      rw [hv] at hT
      have f3 := f1.ef.tr f2
      have hV := (h.fr f3).1
      simp (disch := omega) only [s32_id, hS.k137, hS.k164, hS.n164, hV.r137_41, h164, b_s32, b_eq0, b_01, l0, l1, true_and, and_true, and_self, true_implies, false_implies, implies_true, forall_const, not_true_eq_false, not_false_eq_true, reduceIte, ite_true, ite_false, reduceCtorEq, forall_eq, Classical.not_not, true_or, or_true, false_or, or_false, and_false, false_and, Int.reduceEq, Int.reduceLT, Int.reduceLE, Int.reduceAdd, Int.reduceSub, Int.reduceMul, Int.reduceNeg]
      refine says_c (d := d + 7) (aw := aw) (ac := ac) (fx := fx) (V := V) (c := (word, 0, 0, (pE pk (pF pk 4) (pW pk (l ++ [32]) p).2).2.2)) hS ⟨(congrArg s32 (f3 _ _ (by unfold ECf; omega))).trans a1, f3 _ _ (by unfold ECf; omega)⟩ a3 (s32_id (by omega) (by omega)) rfl (Or.inl (by omega)) (by show (0 : Int) = if word = 0 then 0 else if word ≤ 2 then 0 else 0; rw [if_neg (by omega), if_neg (by omega)]) (Or.inr ⟨v, r, rfl⟩) ⟨f3 _ _ (by unfold ECf; omega), f3 _ _ (by unfold ECf; omega), f3 _ _ (by unfold ECf; omega)⟩ (fun V5 f6 g6 s6 => ?_)
      exact hT rfl V5 (f3.cf.tr f6) (g6.trans g2) (by show p < (pE pk (pF pk 4) (pW pk (l ++ [32]) p).2).2.1; omega) le2 s6
theorem m_clause (hS : FS S) (h : PM pk b n V) (hf : ∀ f, 0 ≤ f → f < 6 → s32 (V 162 f) = fx f) (hA : ASK aw ac V) (hp : V 137 32 = p) (p0 : 0 ≤ p) (p1 : p ≤ n) (hF : (pC pk p).1 = false → ∀ V', CFR V V' → V' 137 32 = (pC pk p).2.1 → Q 0 V' S) (hT : (pC pk p).1 = true → ∀ V', CFR V V' → V' 137 32 = (pC pk p).2.1 → p < (pC pk p).2.1 → (pC pk p).2.1 ≤ n → SAYS aw ac fx V V' (pC pk p).2.2 → Q 1 V' S) : C_m_takesClause (d + 9) 137 V S Q := by
  have hA' := hA
  obtain ⟨a1, a2, a3, a4⟩ := hA
  have q01 : ∀ r : Int, (s32 r = 0 ∨ s32 r = 1) → True := fun _ _ => trivial
  rw [I_m_takesClause, m_next hS h hp p0 p1, h.s p0, s32_id (x := 115) (by omega) (by omega), s32_id (x := 103) (by omega) (by omega), s32_id (x := 114) (by omega) (by omega), s32_id (x := 102) (by omega) (by omega)]
  by_cases c1 : pk p = 115
  · have hv : pC pk p = pSum pk p := by unfold pC; rw [if_pos c1]
    rw [hv] at hF hT
    simp only [c1, hS.k137, b_s32, b_eq0, b_01, l0, l1, true_and, and_true, and_self, true_implies, false_implies, implies_true, forall_const, not_true_eq_false, not_false_eq_true, reduceIte, ite_true, ite_false, reduceCtorEq, forall_eq, Classical.not_not, true_or, or_true, false_or, or_false, and_false, false_and, Int.reduceEq, Int.reduceLT, Int.reduceLE, Int.reduceAdd, Int.reduceSub, Int.reduceMul, Int.reduceNeg]
    refine m_sum (fx := fx) hS h hA' hp p0 p1 (fun q V1 f g => ⟨Or.inl l0, hF q V1 f g⟩) (fun q V1 f g a b s => ⟨Or.inr l1, hT q V1 f g a b s⟩)
  · by_cases c2 : pk p = 103
    · have hv : pC pk p = pGrace pk p := by unfold pC; rw [if_neg c1, if_pos c2]
      rw [hv] at hF hT
      simp only [c2, hS.k137, b_s32, b_eq0, b_01, l0, l1, true_and, and_true, and_self, true_implies, false_implies, implies_true, forall_const, not_true_eq_false, not_false_eq_true, reduceIte, ite_true, ite_false, reduceCtorEq, forall_eq, Classical.not_not, true_or, or_true, false_or, or_false, and_false, false_and, Int.reduceEq, Int.reduceLT, Int.reduceLE, Int.reduceAdd, Int.reduceSub, Int.reduceMul, Int.reduceNeg]
      refine m_wordc (d := d + 5) (l := [103, 114, 97, 99, 101]) hS h hp p0 p1 rfl (fun j hj => wl_grace ⟨j, hj⟩) (by decide) (by decide) (fun V1 f1 g1 q1 => ?_) (fun V1 f1 g1 q1 lt1 le1 => ?_)
      · have q1 : (pW pk [103, 114, 97, 99, 101, 32] p).1 = false := q1
        have hv : pGrace pk p = noC (pW pk [103, 114, 97, 99, 101, 32] p).2 := by unfold pGrace; rw [q1]; rfl
        rw [hv] at hF
        exact hF rfl V1 f1.ef.cf g1
      · have q1 : (pW pk [103, 114, 97, 99, 101, 32] p).1 = true := q1
        have g1 : V1 137 32 = (pW pk [103, 114, 97, 99, 101, 32] p).2 := g1
        have lt1 : p < (pW pk [103, 114, 97, 99, 101, 32] p).2 := lt1
        have le1 : (pW pk [103, 114, 97, 99, 101, 32] p).2 ≤ n := le1
        refine m_number (d := d + 5) hS (h.fr f1.ef) g1 (by omega) le1 (fun V2 f2 g2 l2 le2 k2 => ?_)
        by_cases q2 : (nmP pk (pW pk [103, 114, 97, 99, 101, 32] p).2).1 = true
        · obtain ⟨k2a, k2b, k2c, k2d⟩ := k2 q2
          have hv : pGrace pk p = (true, (nmP pk (pW pk [103, 114, 97, 99, 101, 32] p).2).2.1, (1, (nmP pk (pW pk [103, 114, 97, 99, 101, 32] p).2).2.2, 0, [])) := by unfold pGrace; rw [q1, q2]; rfl
          rw [hv] at hT
          have f5 := f1.tr f2
          simp (disch := omega) only [q2, s32_id (x := 1), hS.k137, b_s32, b_eq0, b_01, l0, l1, true_and, and_true, and_self, true_implies, false_implies, implies_true, forall_const, not_true_eq_false, not_false_eq_true, reduceIte, ite_true, ite_false, reduceCtorEq, forall_eq, Classical.not_not, true_or, or_true, false_or, or_false, and_false, false_and, Int.reduceEq, Int.reduceLT, Int.reduceLE, Int.reduceAdd, Int.reduceSub, Int.reduceMul, Int.reduceNeg]
          refine says_c (d := d + 7) (aw := aw) (ac := ac) (fx := fx) (V := V) (c := (1, (nmP pk (pW pk [103, 114, 97, 99, 101, 32] p).2).2.2, 0, [])) hS ⟨(congrArg s32 (f5 _ _ (by omega))).trans a1, f5 _ _ (by omega)⟩ a3 l1 rfl (Or.inl (by omega)) k2a (Or.inl ⟨rfl, by show ¬ (3 : Int) ≤ 1; omega⟩) ⟨f5 _ _ (by omega), f5 _ _ (by omega), f5 _ _ (by omega)⟩ (fun V5 f6 g6 s6 => ?_)
          exact hT rfl V5 (f5.ef.cf.tr f6) (g6.trans g2) (by show p < (nmP pk (pW pk [103, 114, 97, 99, 101, 32] p).2).2.1; omega) le2 s6
        · have q2' := nf q2
          have hv : pGrace pk p = noC (nmP pk (pW pk [103, 114, 97, 99, 101, 32] p).2).2.1 := by unfold pGrace; rw [q1, q2']; rfl
          rw [hv] at hF
          simp (disch := omega) only [q2, s32_id (x := 0), b_s32, b_eq0, b_01, l0, l1, true_and, and_true, and_self, true_implies, false_implies, implies_true, forall_const, not_true_eq_false, not_false_eq_true, reduceIte, ite_true, ite_false, reduceCtorEq, forall_eq, Classical.not_not, true_or, or_true, false_or, or_false, and_false, false_and, Int.reduceEq, Int.reduceLT, Int.reduceLE, Int.reduceAdd, Int.reduceSub, Int.reduceMul, Int.reduceNeg]
          exact hF rfl V2 (f1.tr f2).ef.cf g2
    · by_cases c3 : pk p = 114
      · have hv : pC pk p = pRun pk p := by unfold pC; rw [if_neg c1, if_neg c2, if_pos c3]
        rw [hv] at hF hT
        simp only [c3, hS.k137, b_s32, b_eq0, b_01, l0, l1, true_and, and_true, and_self, true_implies, false_implies, implies_true, forall_const, not_true_eq_false, not_false_eq_true, reduceIte, ite_true, ite_false, reduceCtorEq, forall_eq, Classical.not_not, true_or, or_true, false_or, or_false, and_false, false_and, Int.reduceEq, Int.reduceLT, Int.reduceLE, Int.reduceAdd, Int.reduceSub, Int.reduceMul, Int.reduceNeg]
        refine m_wordc (d := d + 5) (l := [114, 117, 110]) hS h hp p0 p1 rfl (fun j hj => wl_run ⟨j, hj⟩) (by decide) (by decide) (fun V1 f1 g1 q1 => ?_) (fun V1 f1 g1 q1 lt1 le1 => ?_)
        · have q1 : (pW pk [114, 117, 110, 32] p).1 = false := q1
          have hv : pRun pk p = noC (pW pk [114, 117, 110, 32] p).2 := by unfold pRun; rw [q1]; rfl
          rw [hv] at hF
          exact hF rfl V1 f1.ef.cf g1
        · have q1 : (pW pk [114, 117, 110, 32] p).1 = true := q1
          have g1 : V1 137 32 = (pW pk [114, 117, 110, 32] p).2 := g1
          have lt1 : p < (pW pk [114, 117, 110, 32] p).2 := lt1
          have le1 : (pW pk [114, 117, 110, 32] p).2 ≤ n := le1
          rw [m_next hS (h.fr f1.ef) g1 (by omega) le1, h.s (show 0 ≤ (pW pk [114, 117, 110, 32] p).2 by omega), s32_id (x := 121) (by omega) (by omega), s32_id (x := 110) (by omega) (by omega)]
          have f5 : NFR V (up2 V1 137 32 ((pW pk [114, 117, 110, 32] p).2 + 1)) := f1.up (Or.inl rfl)
          by_cases q2 : pk (pW pk [114, 117, 110, 32] p).2 = 121
          · have ln := h.lt (p := (pW pk [114, 117, 110, 32] p).2) (by omega)
            have hv : pRun pk p = (true, (pW pk [114, 117, 110, 32] p).2 + 1, (2, 1, 0, [])) := by unfold pRun; rw [q1, if_pos q2]; rfl
            rw [hv] at hT
            simp (disch := omega) only [q2, hS.k137, g1, b_s32, b_eq0, b_01, l0, l1, true_and, and_true, and_self, true_implies, false_implies, implies_true, forall_const, not_true_eq_false, not_false_eq_true, reduceIte, ite_true, ite_false, reduceCtorEq, forall_eq, Classical.not_not, true_or, or_true, false_or, or_false, and_false, false_and, Int.reduceEq, Int.reduceLT, Int.reduceLE, Int.reduceAdd, Int.reduceSub, Int.reduceMul, Int.reduceNeg]
            refine says_c (d := d + 7) (aw := aw) (ac := ac) (fx := fx) (V := V) (c := (2, 1, 0, [])) hS ⟨(congrArg s32 (f5 _ _ (by omega))).trans a1, f5 _ _ (by omega)⟩ a3 (s32_id (by omega) (by omega)) rfl (Or.inl (by omega)) rfl (Or.inl ⟨rfl, by show ¬ (3 : Int) ≤ 2; omega⟩) ⟨f5 _ _ (by omega), f5 _ _ (by omega), f5 _ _ (by omega)⟩ (fun V5 f6 g6 s6 => ?_)
            exact hT rfl V5 (f5.ef.cf.tr f6) (g6.trans (up2_eq rfl rfl)) (by show p < (pW pk [114, 117, 110, 32] p).2 + 1; omega) (by show (pW pk [114, 117, 110, 32] p).2 + 1 ≤ n; omega) s6
          · by_cases q3 : pk (pW pk [114, 117, 110, 32] p).2 = 110
            · have ln := h.lt (p := (pW pk [114, 117, 110, 32] p).2) (by omega)
              have hv : pRun pk p = (true, (pW pk [114, 117, 110, 32] p).2 + 1, (2, 0, 0, [])) := by unfold pRun; rw [q1, if_neg q2, if_pos q3]; rfl
              rw [hv] at hT
              simp (disch := omega) only [q2, q3, hS.k137, g1, b_s32, b_eq0, b_01, l0, l1, true_and, and_true, and_self, true_implies, false_implies, implies_true, forall_const, not_true_eq_false, not_false_eq_true, reduceIte, ite_true, ite_false, reduceCtorEq, forall_eq, Classical.not_not, true_or, or_true, false_or, or_false, and_false, false_and, Int.reduceEq, Int.reduceLT, Int.reduceLE, Int.reduceAdd, Int.reduceSub, Int.reduceMul, Int.reduceNeg]
              refine says_c (d := d + 7) (aw := aw) (ac := ac) (fx := fx) (V := V) (c := (2, 0, 0, [])) hS ⟨(congrArg s32 (f5 _ _ (by omega))).trans a1, f5 _ _ (by omega)⟩ a3 (s32_id (by omega) (by omega)) rfl (Or.inl (by omega)) rfl (Or.inl ⟨rfl, by show ¬ (3 : Int) ≤ 2; omega⟩) ⟨f5 _ _ (by omega), f5 _ _ (by omega), f5 _ _ (by omega)⟩ (fun V5 f6 g6 s6 => ?_)
              exact hT rfl V5 (f5.ef.cf.tr f6) (g6.trans (up2_eq rfl rfl)) (by show p < (pW pk [114, 117, 110, 32] p).2 + 1; omega) (by show (pW pk [114, 117, 110, 32] p).2 + 1 ≤ n; omega) s6
            · have hv : pRun pk p = noC (pW pk [114, 117, 110, 32] p).2 := by unfold pRun; rw [q1, if_neg q2, if_neg q3]; rfl
              rw [hv] at hF
              simp (disch := omega) only [q2, q3, b_s32, b_eq0, b_01, l0, l1, true_and, and_true, and_self, true_implies, false_implies, implies_true, forall_const, not_true_eq_false, not_false_eq_true, reduceIte, ite_true, ite_false, reduceCtorEq, forall_eq, Classical.not_not, true_or, or_true, false_or, or_false, and_false, false_and, Int.reduceEq, Int.reduceLT, Int.reduceLE, Int.reduceAdd, Int.reduceSub, Int.reduceMul, Int.reduceNeg]
              exact hF rfl V1 f1.ef.cf g1
      · by_cases c4 : pk p = 102
        · have hv : pC pk p = pTests pk [102, 101, 116, 99, 104, 32] 3 p := by unfold pC; rw [if_neg c1, if_neg c2, if_neg c3, if_pos c4]
          rw [hv] at hF hT
          simp only [c4, hS.k137, b_s32, b_eq0, b_01, l0, l1, true_and, and_true, and_self, true_implies, false_implies, implies_true, forall_const, not_true_eq_false, not_false_eq_true, reduceIte, ite_true, ite_false, reduceCtorEq, forall_eq, Classical.not_not, true_or, or_true, false_or, or_false, and_false, false_and, Int.reduceEq, Int.reduceLT, Int.reduceLE, Int.reduceAdd, Int.reduceSub, Int.reduceMul, Int.reduceNeg]
          exact m_tests (d := d) (l := [102, 101, 116, 99, 104]) hS h hf hA' hp p0 p1 rfl (fun j hj => wl_fetch ⟨j, hj⟩) (by decide) (by decide) (Or.inl rfl) hF hT
        · have hF2 : (pTests pk [111, 102, 102, 32] 4 p).1 = false → ∀ V', CFR V V' → V' 137 32 = (pTests pk [111, 102, 102, 32] 4 p).2.1 → Q 0 V' S := by
            by_cases c5 : pk p = 111
            · have hv : pC pk p = pTests pk [111, 102, 102, 32] 4 p := by unfold pC; rw [if_neg c1, if_neg c2, if_neg c3, if_neg c4, if_pos c5]
              rw [hv] at hF
              exact hF
            · have hv : pC pk p = noC p := by unfold pC; rw [if_neg c1, if_neg c2, if_neg c3, if_neg c4, if_neg c5]
              have hv2 : pTests pk [111, 102, 102, 32] 4 p = noC p := by
                have : pW pk [111, 102, 102, 32] p = (false, p) := by show (if pk p = 111 then _ else _) = _; rw [if_neg c5]
                unfold pTests
                rw [this]
                rfl
              rw [hv2]
              rw [hv] at hF
              exact hF
          have hT2 : (pTests pk [111, 102, 102, 32] 4 p).1 = true → ∀ V', CFR V V' → V' 137 32 = (pTests pk [111, 102, 102, 32] 4 p).2.1 → p < (pTests pk [111, 102, 102, 32] 4 p).2.1 → (pTests pk [111, 102, 102, 32] 4 p).2.1 ≤ n → SAYS aw ac fx V V' (pTests pk [111, 102, 102, 32] 4 p).2.2 → Q 1 V' S := by
            by_cases c5 : pk p = 111
            · have hv : pC pk p = pTests pk [111, 102, 102, 32] 4 p := by unfold pC; rw [if_neg c1, if_neg c2, if_neg c3, if_neg c4, if_pos c5]
              rw [hv] at hT
              exact hT
            · have hv2 : pTests pk [111, 102, 102, 32] 4 p = noC p := by
                have : pW pk [111, 102, 102, 32] p = (false, p) := by show (if pk p = 111 then _ else _) = _; rw [if_neg c5]
                unfold pTests
                rw [this]
                rfl
              rw [hv2]
              intro q
              cases q
          simp only [c1, c2, c3, c4, hS.k137, b_s32, b_eq0, b_01, l0, l1, true_and, and_true, and_self, true_implies, false_implies, implies_true, forall_const, not_true_eq_false, not_false_eq_true, reduceIte, ite_true, ite_false, reduceCtorEq, forall_eq, Classical.not_not, true_or, or_true, false_or, or_false, and_false, false_and, Int.reduceEq, Int.reduceLT, Int.reduceLE, Int.reduceAdd, Int.reduceSub, Int.reduceMul, Int.reduceNeg]
          exact m_tests (d := d) (l := [111, 102, 102]) hS h hf hA' hp p0 p1 rfl (fun j hj => wl_off ⟨j, hj⟩) (by decide) (by decide) (Or.inr rfl) hF2 hT2
end MC
