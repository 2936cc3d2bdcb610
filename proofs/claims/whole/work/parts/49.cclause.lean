/-! the component's reading of clauses -/
def YFf (T a k : Int) : Prop := (a = 104 ∧ k = 2) ∨ (a = T ∧ (k = 6 ∨ k = 1)) ∨ (T + 1 ≤ a ∧ a ≤ T + 4)
def YFR (T : Int) (V V' : Mem) : Prop := ∀ a k, ¬ YFf T a k → V' a k = V a k
def CLTx (V : Mem) (T i : Int) (c : CL) : Prop := V (T + 1) i = c.1 ∧ ((0 ≤ c.1 ∧ c.1 ≤ 2 ∧ V (T + 2) i = c.2.1 ∧ V (T + 3) i = c.2.2.1) ∨ ((c.1 = 3 ∨ c.1 = 4) ∧ 0 ≤ V (T + 2) i ∧ V (T + 3) i = V (T + 2) i + (c.2.2.2.length : Int) ∧ V (T + 3) i ≤ 100 ∧ ∀ j : Nat, (hj : j < c.2.2.2.length) → V (T + 4) (V (T + 2) i + (j : Int)) = c.2.2.2[j]))
def YST (pk : Int → Int) (n T : Int) (V : Mem) (p : Int) (cs : List CL) : Prop := CSTT pk n T V p ∧ V T 1 = (cs.length : Int) ∧ ∀ (i : Nat) (hi : i < cs.length), CLTx V T (i : Int) cs[i] ∧ (3 ≤ (cs[i]).1 → V (T + 3) (i : Int) ≤ V T 6)
section CC
variable {d : Nat} {n p q c x T o m w a b : Int} {pk : Int → Int} {V V' V2 V0 : Mem} {S : Shp} {Q : Int → Mem → Shp → Prop} {U : Mem → Shp → Prop} {L L1 L2 : List Int} {cs : List CL} {cl : CL}
theorem w_sum (hV : FV V) : ∀ (j : Nat) (hj : j < ([115, 117, 109, 32] : List Int).length), V (-4) (j : Int) = ([115, 117, 109, 32] : List Int)[j] := by
  intro j hj
  have hj2 : j < 4 := hj
  rcases (by omega : j = 0 ∨ j = 1 ∨ j = 2 ∨ j = 3) with rfl | rfl | rfl | rfl
  · exact hV.rm4_0
  · exact hV.rm4_1
  · exact hV.rm4_2
  · exact hV.rm4_3
theorem w_grace (hV : FV V) : ∀ (j : Nat) (hj : j < ([103, 114, 97, 99, 101, 32] : List Int).length), V (-5) (j : Int) = ([103, 114, 97, 99, 101, 32] : List Int)[j] := by
  intro j hj
  have hj2 : j < 6 := hj
  rcases (by omega : j = 0 ∨ j = 1 ∨ j = 2 ∨ j = 3 ∨ j = 4 ∨ j = 5) with rfl | rfl | rfl | rfl | rfl | rfl
  · exact hV.rm5_0
  · exact hV.rm5_1
  · exact hV.rm5_2
  · exact hV.rm5_3
  · exact hV.rm5_4
  · exact hV.rm5_5
theorem w_run (hV : FV V) : ∀ (j : Nat) (hj : j < ([114, 117, 110, 32] : List Int).length), V (-6) (j : Int) = ([114, 117, 110, 32] : List Int)[j] := by
  intro j hj
  have hj2 : j < 4 := hj
  rcases (by omega : j = 0 ∨ j = 1 ∨ j = 2 ∨ j = 3) with rfl | rfl | rfl | rfl
  · exact hV.rm6_0
  · exact hV.rm6_1
  · exact hV.rm6_2
  · exact hV.rm6_3
theorem w_fetch (hV : FV V) : ∀ (j : Nat) (hj : j < ([102, 101, 116, 99, 104, 32] : List Int).length), V (-7) (j : Int) = ([102, 101, 116, 99, 104, 32] : List Int)[j] := by
  intro j hj
  have hj2 : j < 6 := hj
  rcases (by omega : j = 0 ∨ j = 1 ∨ j = 2 ∨ j = 3 ∨ j = 4 ∨ j = 5) with rfl | rfl | rfl | rfl | rfl | rfl
  · exact hV.rm7_0
  · exact hV.rm7_1
  · exact hV.rm7_2
  · exact hV.rm7_3
  · exact hV.rm7_4
  · exact hV.rm7_5
theorem w_off (hV : FV V) : ∀ (j : Nat) (hj : j < ([111, 102, 102, 32] : List Int).length), V (-8) (j : Int) = ([111, 102, 102, 32] : List Int)[j] := by
  intro j hj
  have hj2 : j < 4 := hj
  rcases (by omega : j = 0 ∨ j = 1 ∨ j = 2 ∨ j = 3) with rfl | rfl | rfl | rfl
  · exact hV.rm8_0
  · exact hV.rm8_1
  · exact hV.rm8_2
  · exact hV.rm8_3
theorem YFR.rf : YFR T V V := fun _ _ _ => rfl
theorem YFR.tr (h : YFR T V V') (g : YFR T V' V2) : YFR T V V2 := fun a k hn => (g a k hn).trans (h a k hn)
theorem XFR.yf (h : XFR T V V') : YFR T V V' := fun a k hn => h a k (fun q => hn (by unfold XFf at q; unfold YFf; omega))
theorem YFR.up (h : YFR T V V') {a k v : Int} (he : YFf T a k) : YFR T V (up2 V' a k v) := fun q j hn => by
  rw [up2_ne]
  · exact h q j hn
  · by_cases e : q = a
    · exact Or.inr (fun e2 => hn (e ▸ e2 ▸ he))
    · exact Or.inl e
/-- a clause more -/
theorem c_add (hS : FS S) (hT : TXa T) (hk : TXk T S) (h : YST pk n T V p cs) (hl : cs.length < 8) (hX : XFR T V V2) (h2 : CSTT pk n T V2 q) (hA : APP T V V2 L) (hc : (w = cl.1 ∧ 0 ≤ cl.1 ∧ cl.1 ≤ 2 ∧ a = cl.2.1 ∧ b = cl.2.2.1) ∨ (w = cl.1 ∧ (cl.1 = 3 ∨ cl.1 = 4) ∧ a = V T 6 ∧ b = V2 T 6 ∧ cl.2.2.2 = L)) (hU : ∀ V', YFR T V V' → V' 104 2 = q → YST pk n T V' q (cs ++ [cl]) → U V' S) : C_Text_addClause (d + 1) T w a b V2 S U := by
  obtain ⟨t1, t2, t3⟩ := id hT
  obtain ⟨k1, k2, k3, k4, k5, k6, k7, k8, k9⟩ := hk
  obtain ⟨h1, hm, hcs⟩ := h
  obtain ⟨hR, ⟨v1, v2, v3, v4⟩, ⟨hq, q0, q1⟩, ⟨s0, s1⟩⟩ := id h2
  have s00 := h1.2.2.2.1
  have hm2 : V2 T 1 = (cs.length : Int) := (hX _ _ (by unfold XFf; omega)).trans hm
  have hn := hR.2.1.2
  rw [I_Text_addClause]
  simp (disch := omega) only [k1, hm2, v1, v2, v3, k2, k3, k4, k6, k7, k8, s32_id, show ¬ (cs.length : Int) < 0 from by omega, show (cs.length : Int) < 8 from by omega, show (0 : Int) ≤ (cs.length : Int) from by omega, up2_ne, b_s32, b_eq0, b_01, l0, l1, true_and, and_true, and_self, true_implies, false_implies, implies_true, forall_const, not_true_eq_false, not_false_eq_true, reduceIte, ite_true, ite_false, reduceCtorEq, forall_eq, Classical.not_not, true_or, or_true, false_or, or_false, and_false, false_and, Int.reduceEq, Int.reduceLT, Int.reduceLE, Int.reduceAdd, Int.reduceSub, Int.reduceMul, Int.reduceNeg]
  generalize hV3 : up2 (up2 (up2 (up2 V2 (T + 1) (cs.length : Int) w) (T + 2) (cs.length : Int) a) (T + 3) (cs.length : Int) b) T 1 ((cs.length : Int) + 1) = V3
  have F : ∀ x y, ¬ ((x = T + 1 ∨ x = T + 2 ∨ x = T + 3) ∧ y = (cs.length : Int)) → ¬ (x = T ∧ y = 1) → V3 x y = V2 x y := by
    intro x y n1 n2
    subst hV3
    simp (disch := omega) only [up2_ne]
  have N : V3 (T + 1) (cs.length : Int) = w ∧ V3 (T + 2) (cs.length : Int) = a ∧ V3 (T + 3) (cs.length : Int) = b ∧ V3 T 1 = (cs.length : Int) + 1 := by
    subst hV3
    simp (disch := omega) only [up2_ne, up2_eq, b_s32, b_eq0, b_01, l0, l1, true_and, and_true, and_self, true_implies, false_implies, implies_true, forall_const, not_true_eq_false, not_false_eq_true, reduceIte, ite_true, ite_false, reduceCtorEq, forall_eq, Classical.not_not, true_or, or_true, false_or, or_false, and_false, false_and, Int.reduceEq, Int.reduceLT, Int.reduceLE, Int.reduceAdd, Int.reduceSub, Int.reduceMul, Int.reduceNeg]
  clear hV3
  have hl2 : (((cs ++ [cl]).length : Nat) : Int) = (cs.length : Int) + 1 := by rw [List.length_append]; show ((cs.length + 1 : Nat) : Int) = _; omega
  refine hU V3 (fun x y hn => ?_) ((F _ _ (by omega) (by omega)).trans hq) ⟨⟨?_, ?_, ⟨(F _ _ (by omega) (by omega)).trans hq, q0, q1⟩, ?_⟩, by rw [hl2]; exact N.2.2.2, fun i hi => ?_⟩
  · rw [F x y (fun q => hn (by unfold YFf; omega)) (fun q => hn (by unfold YFf; omega))]
    exact hX x y (fun q => hn (by unfold XFf at q; unfold YFf; omega))
  · obtain ⟨r1, ⟨r2, r2'⟩, r3, r4⟩ := hR
    exact ⟨r1.fr (fun a k q => F a k (by unfold VD at q; omega) (by unfold VD at q; omega)), ⟨(F _ _ (by omega) (by omega)).trans r2, r2'⟩, fun p p0 p1 => (F _ _ (by omega) (by omega)).trans (r3 p p0 p1), r4⟩
  · exact ⟨(F _ _ (by omega) (by omega)).trans v1, (F _ _ (by omega) (by omega)).trans v2, (F _ _ (by omega) (by omega)).trans v3, (F _ _ (by omega) (by omega)).trans v4⟩
  · rw [F T 6 (by omega) (by omega)]
    exact ⟨s0, s1⟩
  · have e6 : V3 T 6 = V2 T 6 := F T 6 (by omega) (by omega)
    rw [e6]
    rw [List.length_append] at hi
    have hi : i < cs.length + 1 := hi
    by_cases ci : i < cs.length
    · rw [List.getElem_append_left ci]
      obtain ⟨g1, g2⟩ := hcs i ci
      have E : ∀ x, (x = T + 1 ∨ x = T + 2 ∨ x = T + 3) → V3 x (i : Int) = V x (i : Int) := fun x hx => (F _ _ (by omega) (by omega)).trans (hX _ _ (by unfold XFf; omega))
      refine ⟨?_, fun q => ?_⟩
      · unfold CLTx at g1 ⊢
        rw [E _ (Or.inl rfl), E _ (Or.inr (Or.inl rfl)), E _ (Or.inr (Or.inr rfl))]
        refine ⟨g1.1, g1.2.elim Or.inl (fun q => Or.inr ⟨q.1, q.2.1, q.2.2.1, q.2.2.2.1, fun j hj => ?_⟩)⟩
        have hb := g2 (by omega)
        rw [F _ _ (by omega) (by omega), hA.2.1 _ (by omega)]
        exact q.2.2.2.2 j hj
      · rw [E _ (Or.inr (Or.inr rfl))]
        have := g2 q
        have := hA.1
        omega
    · have ei : i = cs.length := by omega
      subst ei
      have eg : (cs ++ [cl])[cs.length]'(by rw [List.length_append]; exact hi) = cl := by
        rw [List.getElem_append_right (Nat.le_refl _)]
        simp
      rw [eg]
      refine ⟨?_, fun q => ?_⟩
      · unfold CLTx
        rw [N.1, N.2.1, N.2.2.1]
        rcases hc with ⟨c1, c2, c3, c4, c5⟩ | ⟨c1, c2, c3, c4, c5⟩
        · exact ⟨c1, Or.inl ⟨c2, c3, c4, c5⟩⟩
        · refine ⟨c1, Or.inr ⟨c2, by omega, by rw [c5, c3, c4]; exact hA.1, by omega, fun j hj => ?_⟩⟩
          rw [F _ _ (by omega) (by omega), c3]
          have hj2 : j < L.length := by rw [← c5]; exact hj
          rw [hA.2.2 j hj2]
          congr 1
          exact c5.symm
      · rw [N.2.2.1]
        rcases hc with ⟨c1, c2, c3, c4, c5⟩ | ⟨c1, c2, c3, c4, c5⟩
        · omega
        · omega
theorem bz {z : Bool} {A B : Int} : (if z = true then A else B) = bif z then A else B := by cases z <;> rfl
def CLP (pk : Int → Int) (n T : Int) (r : PC) (p : Int) (cs : List CL) (V V' : Mem) : Prop := YFR T V V' ∧ V' 104 2 = r.2.1 ∧ (r.1 = true → YST pk n T V' r.2.1 (cs ++ [r.2.2]) ∧ p < r.2.1)
theorem c_sum (hS : FS S) (hT : TXa T) (hk : TXk T S) (h0 : YST pk n T V0 p cs) (hl : cs.length < 8) (hw : (pW pk [115, 117, 109, 32] p).1 = true) (hX : AFR V0 V) (h : CSTT pk n T V (pW pk [115, 117, 109, 32] p).2) (hlt : p < (pW pk [115, 117, 109, 32] p).2) (hQ : ∀ V', CLP pk n T (pSum pk p) p cs V0 V' → Q (if (pSum pk p).1 = true then 1 else 0) V' S) : C_Reader_readSum (d + 6) 104 T V S Q := by
  obtain ⟨t1, t2, t3⟩ := id hT
  obtain ⟨hR, hv, ⟨hp, p0, p1⟩, ⟨s0, s1⟩⟩ := id h
  generalize hq : (pW pk [115, 117, 109, 32] p).2 = a0 at *
  have hs : pSum pk p = (bif (nmP pk a0).1 then (if pk (nmP pk a0).2.1 = 32 then (bif (nmP pk ((nmP pk a0).2.1 + 1)).1 then (true, (nmP pk ((nmP pk a0).2.1 + 1)).2.1, (0, (nmP pk a0).2.2, (nmP pk ((nmP pk a0).2.1 + 1)).2.2, [])) else noC (nmP pk ((nmP pk a0).2.1 + 1)).2.1) else noC (nmP pk a0).2.1) else noC (nmP pk a0).2.1) := by
    unfold pSum
    rw [hw, hq]
    rfl
  rw [hs] at hQ
  have sneg : s32 (-1) = -1 := s32_id (by omega) (by omega)
  rw [I_Reader_readSum]
  simp only [hS.k104, b_s32, b_eq0, b_01, l0, l1, true_and, and_true, and_self, true_implies, false_implies, implies_true, forall_const, not_true_eq_false, not_false_eq_true, reduceIte, ite_true, ite_false, reduceCtorEq, forall_eq, Classical.not_not, true_or, or_true, false_or, or_false, and_false, false_and, Int.reduceEq, Int.reduceLT, Int.reduceLE, Int.reduceAdd, Int.reduceSub, Int.reduceMul, Int.reduceNeg]
  refine c_number (d := d + 2) hS hR hp p0 p1 (fun V1 f1 g1 l1' e1 k1 => ?_)
  have fail : ∀ (V3 : Mem) (r : PC), r.1 = false → (∀ V', CLP pk n T r p cs V0 V' → Q (if r.1 = true then 1 else 0) V' S) → AFR V0 V3 → V3 104 2 = r.2.1 → Q 0 V3 S := by
    intro V3 r hr hq2 f3 e3
    have := hq2 V3 ⟨f3.xf.yf, e3, fun q => by rw [hr] at q; cases q⟩
    rw [hr] at this
    exact this
  by_cases c1 : (nmP pk a0).1 = true
  · obtain ⟨k2, k3, k4⟩ := k1 c1
    rw [if_pos c1]
    rw [c1] at hQ
    simp (disch := omega) only [s32_id (x := (nmP pk a0).2.2), show ¬ (nmP pk a0).2.2 < 0 from by omega, b_s32, b_eq0, b_01, l0, l1, true_and, and_true, and_self, true_implies, false_implies, implies_true, forall_const, not_true_eq_false, not_false_eq_true, reduceIte, ite_true, ite_false, reduceCtorEq, forall_eq, Classical.not_not, true_or, or_true, false_or, or_false, and_false, false_and, Int.reduceEq, Int.reduceLT, Int.reduceLE, Int.reduceAdd, Int.reduceSub, Int.reduceMul, Int.reduceNeg]
    rw [c_skip (d := d + 3) (c := 32) hS (hR.af f1) g1 (by omega) e1 (by omega) (by omega)]
    by_cases c2 : pk (nmP pk a0).2.1 = 32
    · rw [if_pos c2]
      have hQ : ∀ V', CLP pk n T (bif (nmP pk ((nmP pk a0).2.1 + 1)).1 then (true, (nmP pk ((nmP pk a0).2.1 + 1)).2.1, (0, (nmP pk a0).2.2, (nmP pk ((nmP pk a0).2.1 + 1)).2.2, [])) else noC (nmP pk ((nmP pk a0).2.1 + 1)).2.1) p cs V0 V' → Q (if (bif (nmP pk ((nmP pk a0).2.1 + 1)).1 then ((true, (nmP pk ((nmP pk a0).2.1 + 1)).2.1, (0, (nmP pk a0).2.2, (nmP pk ((nmP pk a0).2.1 + 1)).2.2, [])) : PC) else noC (nmP pk ((nmP pk a0).2.1 + 1)).2.1).1 = true then 1 else 0) V' S := by
        rw [if_pos c2] at hQ
        exact hQ
      have ln := hR.lt (p := (nmP pk a0).2.1) (by omega)
      have f2 : AFR V (up2 V1 104 2 ((nmP pk a0).2.1 + 1)) := f1.up
      simp (disch := omega) only [s32_id (x := 1), b_s32, b_eq0, b_01, l0, l1, true_and, and_true, and_self, true_implies, false_implies, implies_true, forall_const, not_true_eq_false, not_false_eq_true, reduceIte, ite_true, ite_false, reduceCtorEq, forall_eq, Classical.not_not, true_or, or_true, false_or, or_false, and_false, false_and, Int.reduceEq, Int.reduceLT, Int.reduceLE, Int.reduceAdd, Int.reduceSub, Int.reduceMul, Int.reduceNeg]
      refine c_number (d := d + 2) hS (hR.af f2) (up2_eq rfl rfl) (by omega) (by omega) (fun V3 f3 g3 l3 e3 k5 => ?_)
      by_cases c3 : (nmP pk ((nmP pk a0).2.1 + 1)).1 = true
      · obtain ⟨k6, k7, k8⟩ := k5 c3
        rw [if_pos c3]
        rw [c3] at hQ
        simp (disch := omega) only [s32_id (x := (nmP pk ((nmP pk a0).2.1 + 1)).2.2), show ¬ (nmP pk ((nmP pk a0).2.1 + 1)).2.2 < 0 from by omega, b_s32, b_eq0, b_01, l0, l1, true_and, and_true, and_self, true_implies, false_implies, implies_true, forall_const, not_true_eq_false, not_false_eq_true, reduceIte, ite_true, ite_false, reduceCtorEq, forall_eq, Classical.not_not, true_or, or_true, false_or, or_false, and_false, false_and, Int.reduceEq, Int.reduceLT, Int.reduceLE, Int.reduceAdd, Int.reduceSub, Int.reduceMul, Int.reduceNeg]
        have f4 := (hX.tr f2).tr f3
        refine c_add (d := d + 4) (cl := (0, (nmP pk a0).2.2, (nmP pk ((nmP pk a0).2.1 + 1)).2.2, [])) hS hT hk h0 hl f4.xf (h.af (f2.tr f3) hT g3 (by omega) e3) (APP.nil.af f4 t1) (Or.inl ⟨rfl, by show (0 : Int) ≤ 0; omega, by show (0 : Int) ≤ 2; omega, rfl, rfl⟩) (fun V5 f5 g5 y5 => ?_)
        exact hQ V5 ⟨f5, g5, fun _ => ⟨y5, by show p < (nmP pk ((nmP pk a0).2.1 + 1)).2.1; omega⟩⟩
      · have c3' := nf c3
        rw [if_neg c3]
        rw [c3'] at hQ
        have := fail V3 _ rfl hQ ((hX.tr f2).tr f3) g3
        simp (disch := omega) only [sneg, this, b_s32, b_eq0, b_01, l0, l1, true_and, and_true, and_self, true_implies, false_implies, implies_true, forall_const, not_true_eq_false, not_false_eq_true, reduceIte, ite_true, ite_false, reduceCtorEq, forall_eq, Classical.not_not, true_or, or_true, false_or, or_false, and_false, false_and, Int.reduceEq, Int.reduceLT, Int.reduceLE, Int.reduceAdd, Int.reduceSub, Int.reduceMul, Int.reduceNeg]
    · rw [if_neg c2]
      have hQ : ∀ V', CLP pk n T (noC (nmP pk a0).2.1) p cs V0 V' → Q (if (noC (nmP pk a0).2.1).1 = true then 1 else 0) V' S := by
        rw [if_neg c2] at hQ
        exact hQ
      have := fail V1 _ rfl hQ (hX.tr f1) g1
      simp (disch := omega) only [s32_id (x := 0), this, b_s32, b_eq0, b_01, l0, l1, true_and, and_true, and_self, true_implies, false_implies, implies_true, forall_const, not_true_eq_false, not_false_eq_true, reduceIte, ite_true, ite_false, reduceCtorEq, forall_eq, Classical.not_not, true_or, or_true, false_or, or_false, and_false, false_and, Int.reduceEq, Int.reduceLT, Int.reduceLE, Int.reduceAdd, Int.reduceSub, Int.reduceMul, Int.reduceNeg]
  · have c1' := nf c1
    rw [if_neg c1]
    rw [c1'] at hQ
    have := fail V1 _ rfl hQ (hX.tr f1) g1
    simp (disch := omega) only [sneg, this, b_s32, b_eq0, b_01, l0, l1, true_and, and_true, and_self, true_implies, false_implies, implies_true, forall_const, not_true_eq_false, not_false_eq_true, reduceIte, ite_true, ite_false, reduceCtorEq, forall_eq, Classical.not_not, true_or, or_true, false_or, or_false, and_false, false_and, Int.reduceEq, Int.reduceLT, Int.reduceLE, Int.reduceAdd, Int.reduceSub, Int.reduceMul, Int.reduceNeg]
end CC
