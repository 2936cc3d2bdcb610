/-! the model's reading of tests follows the grammar -/
def ev1 (fx : Int → Int) (st : List Bool) (s : Int) : List Bool := if s = -1 then (match st with | b :: r => (!b) :: r | [] => []) else if s = -2 then (match st with | b :: a :: r => (a && b) :: r | _ => []) else if s = -3 then (match st with | b :: a :: r => (a || b) :: r | _ => []) else tst fx s :: st
def okd : List Int → Nat → Prop
  | [], _ => True
  | s :: r, d => if s = -1 then 1 ≤ d ∧ okd r d else if s = -2 ∨ s = -3 then 2 ≤ d ∧ okd r (d - 1) else (0 ≤ s ∧ s < 18000) ∧ d + 1 ≤ 31 ∧ okd r (d + 1)
def RP (fx : Int → Int) (L : List Int) (v : Bool) (dep : Nat) : Prop := ∀ st : List Bool, st.length + dep ≤ 31 → L.foldl (ev1 fx) st = v :: st ∧ ∀ R, okd R (st.length + 1) → okd (L ++ R) st.length
section RPS
variable {fx : Int → Int} {L L1 L2 : List Int} {v v1 v2 : Bool} {d1 d2 D : Nat}
theorem RP.mono (h : RP fx L v d1) (hd : d1 ≤ D) : RP fx L v D := fun st hs => h st (by omega)
theorem RP.test {s : Int} (h0 : 0 ≤ s) (h1 : s < 18000) : RP fx [s] (tst fx s) 1 := by
  intro st hs
  refine ⟨?_, fun R hR => ?_⟩
  · show ev1 fx st s = _
    unfold ev1
    rw [if_neg (by omega), if_neg (by omega), if_neg (by omega)]
  · show okd (s :: R) st.length
    unfold okd
    rw [if_neg (by omega), if_neg (by omega)]
    exact ⟨⟨h0, h1⟩, by omega, hR⟩
theorem RP.not (h : RP fx L v D) : RP fx (L ++ [-1]) (!v) D := by
  intro st hs
  obtain ⟨h1, h2⟩ := h st hs
  refine ⟨?_, fun R hR => ?_⟩
  · rw [List.foldl_append, h1]
    rfl
  · rw [List.append_assoc]
    apply h2
    show okd (-1 :: R) _
    unfold okd
    rw [if_pos rfl]
    exact ⟨by omega, hR⟩
theorem RP.and (h1 : RP fx L1 v1 d1) (h2 : RP fx L2 v2 d2) (e1 : d1 ≤ D) (e2 : d2 + 1 ≤ D) : RP fx (L1 ++ L2 ++ [-2]) (v1 && v2) D := by
  intro st hs
  obtain ⟨a1, a2⟩ := h1 st (by omega)
  obtain ⟨b1, b2⟩ := h2 (v1 :: st) (by rw [List.length_cons]; omega)
  refine ⟨?_, fun R hR => ?_⟩
  · rw [List.foldl_append, List.foldl_append, a1, b1]
    rfl
  · rw [List.append_assoc, List.append_assoc]
    apply a2
    apply b2
    show okd (-2 :: R) _
    unfold okd
    rw [if_neg (by omega), if_pos (Or.inl rfl), List.length_cons]
    exact ⟨by omega, hR⟩
theorem RP.or (h1 : RP fx L1 v1 d1) (h2 : RP fx L2 v2 d2) (e1 : d1 ≤ D) (e2 : d2 + 1 ≤ D) : RP fx (L1 ++ L2 ++ [-3]) (v1 || v2) D := by
  intro st hs
  obtain ⟨a1, a2⟩ := h1 st (by omega)
  obtain ⟨b1, b2⟩ := h2 (v1 :: st) (by rw [List.length_cons]; omega)
  refine ⟨?_, fun R hR => ?_⟩
  · rw [List.foldl_append, List.foldl_append, a1, b1]
    rfl
  · rw [List.append_assoc, List.append_assoc]
    apply a2
    apply b2
    show okd (-3 :: R) _
    unfold okd
    rw [if_neg (by omega), if_pos (Or.inr rfl), List.length_cons]
    exact ⟨by omega, hR⟩
end RPS
section MS
variable {d : Nat} {b n p q c x : Int} {pk fx : Int → Int} {V V' V2 : Mem} {S : Shp} {Q : Int → Mem → Shp → Prop} {U : Mem → Shp → Prop} {W W' B : List Int} {P P' P0 : List Bool} {v : Bool}
theorem ltr_r : (ltr x < 0 ∧ ltr x = -1) ∨ (0 ≤ ltr x ∧ ltr x ≤ 5 ∧ 99 ≤ x) := by
  unfold ltr
  repeat' split
  all_goals omega
theorem m_test (hS : FS S) (h : ES pk b n fx V W P p) (hF : (pTest pk p).1 = false → ∀ V', EFR V V' → V' 137 32 = (pTest pk p).2.1 → Q 0 V' S) (hT : (pTest pk p).1 = true → ∀ v, RP fx (pTest pk p).2.2 v 1 → ∀ V', EFR V V' → ES pk b n fx V' (strip W) ((v ^^ par W) :: P) (pTest pk p).2.1 → p < (pTest pk p).2.1 → Q 1 V' S) : C_m_takesTest (d + 6) 137 V S Q := by
  obtain ⟨hM, hf, -, -, -, ⟨h8, h9, h10, h11, h12⟩⟩ := id h
  rw [I_m_takesTest, m_next hS hM h8 h9 h10, m_fact hS (hM.s h9)]
  rcases ltr_r (x := pk p) with ⟨c1, c1'⟩ | ⟨c1, c1', c1''⟩
  · have hv : pTest pk p = (false, p, []) := by unfold pTest; rw [if_pos c1]
    rw [hv] at hF
    simp (disch := omega) only [hS.k137, s32_id, c1, b_s32, b_eq0, b_01, l0, l1, true_and, and_true, and_self, true_implies, false_implies, implies_true, forall_const, not_true_eq_false, not_false_eq_true, reduceIte, ite_true, ite_false, reduceCtorEq, forall_eq, Classical.not_not, true_or, or_true, false_or, or_false, and_false, false_and, Int.reduceEq, Int.reduceLT, Int.reduceLE, Int.reduceAdd, Int.reduceSub, Int.reduceMul, Int.reduceNeg]
    exact hF rfl V EFR.rf h8
  · have hn := hM.lt (p := p) (by omega)
    have f1 : NFR V (up2 V 137 32 (p + 1)) := NFR.rf.up (Or.inl rfl)
    have hM1 := hM.fr f1.ef
    have sl : s32 (ltr (pk p)) = ltr (pk p) := s32_id (by omega) (by omega)
    simp (disch := omega) only [hS.k137, sl, h8, show ¬ ltr (pk p) < 0 from by omega, m_next hS hM1 (up2_eq rfl rfl) (show 0 ≤ p + 1 by omega) (show p + 1 ≤ n by omega), r_in hS, hM.s (p := p + 1) (show 0 ≤ p + 1 by omega), s32_id (x := 60), s32_id (x := 62), up2_eq, b_s32, b_eq0, b_01, l0, l1, true_and, and_true, and_self, true_implies, false_implies, implies_true, forall_const, not_true_eq_false, not_false_eq_true, reduceIte, ite_true, ite_false, reduceCtorEq, forall_eq, Classical.not_not, true_or, or_true, false_or, or_false, and_false, false_and, Int.reduceEq, Int.reduceLT, Int.reduceLE, Int.reduceAdd, Int.reduceSub, Int.reduceMul, Int.reduceNeg]
    by_cases c2 : 60 ≤ pk (p + 1) ∧ pk (p + 1) ≤ 62
    · have hn2 := hM.lt (p := p + 1) (by omega)
      have hsg : sgn (pk (p + 1)) = pk (p + 1) - 60 := by
        unfold sgn
        rcases (by omega : pk (p + 1) = 60 ∨ pk (p + 1) = 61 ∨ pk (p + 1) = 62) with e | e | e <;> rw [e] <;> decide
      have f2 : NFR V (up2 (up2 V 137 32 (p + 1)) 137 32 (p + 1 + 1)) := f1.up (Or.inl rfl)
      have hM2 := hM.fr f2.ef
      simp (disch := omega) only [c2, hS.k137, s32_id, b_s32, b_eq0, b_01, l0, l1, true_and, and_true, and_self, true_implies, false_implies, implies_true, forall_const, not_true_eq_false, not_false_eq_true, reduceIte, ite_true, ite_false, reduceCtorEq, forall_eq, Classical.not_not, true_or, or_true, false_or, or_false, and_false, false_and, Int.reduceEq, Int.reduceLT, Int.reduceLE, Int.reduceAdd, Int.reduceSub, Int.reduceMul, Int.reduceNeg]
      refine m_number hS hM2 (up2_eq rfl rfl) (by omega) (by omega) ?_
      rw [show p + 1 + 1 = p + 2 from by omega] at f2 ⊢
      intro V' g1 g2 g3 g4 g5
      by_cases c3 : (nmP pk (p + 2)).1 = true
      · obtain ⟨d1, d2, d3, d4⟩ := g5 c3
        have hv : pTest pk p = (true, (nmP pk (p + 2)).2.1, [(ltr (pk p) * 3 + sgn (pk (p + 1))) * 1000 + (nmP pk (p + 2)).2.2]) := by
          unfold pTest
          rw [if_neg (by omega), if_neg (by omega)]
          show (bif (nmP pk (p + 2)).1 then _ else _) = _
          rw [c3]
          rfl
        rw [hv] at hT
        have f3 : EFR V V' := (f2.tr g1).ef
        have hE : ES pk b n fx V' W P (nmP pk (p + 2)).2.1 := by
          obtain ⟨-, -, ⟨a3, a4, a4'⟩, ⟨a5, a6⟩, a7, -⟩ := id h
          have f4 := f2.tr g1
          exact h.mk f3 ⟨(f4 _ _ (by omega)).trans a3, stk_fr W (fun k _ _ => f4 _ _ (by omega)) a4, a4'⟩ ⟨(f4 _ _ (by omega)).trans a5, stk_fr _ (fun k _ _ => f4 _ _ (by omega)) a6⟩ ((f4 _ _ (by omega)).trans a7) ⟨g2, by omega, g4, by omega, by omega⟩
        have hV := hE.1.1
        have hfx := hE.2.1 (ltr (pk p)) c1 (by omega)
        have sd : s32 (V' 137 39) = (nmP pk (p + 2)).2.2 := by rw [d1]; exact s32_id (by omega) (by omega)
        generalize hC : (ltr (pk p) * 3 + sgn (pk (p + 1))) * 1000 + (nmP pk (p + 2)).2.2 = C at hT
        have hC0 : 0 ≤ C ∧ C < 18000 := by rw [hsg] at hC; omega
        have hCa : C / 1000 % 3 = pk (p + 1) - 60 := by rw [hsg] at hC; omega
        have hCb : C / 3000 = ltr (pk p) := by rw [hsg] at hC; omega
        have hCc : C % 1000 = (nmP pk (p + 2)).2.2 := by rw [hsg] at hC; omega
        have hp : ∀ U : Mem → Shp → Prop, (∀ V2, U V2 S → U V2 S) → (∀ V2, EFR V V2 → ES pk b n fx V2 (strip W) ((tst fx C ^^ par W) :: P) (nmP pk (p + 2)).2.1 → U V2 S) → C_m_push (d + 5) 137 (b2 (tst fx C)) V' S U := fun U _ hU => m_push hS hE (by omega) (fun V2 a1 a2 => hU V2 (f3.tr a1) a2)
        have hq := hp (fun V8 S8 => Q 1 V8 S8) (fun _ h => h) (fun V2 a1 a2 => hT rfl (tst fx C) (RP.test hC0.1 hC0.2) V2 a1 a2 (by show p < (nmP pk (p + 2)).2.1; omega))
        unfold tst at hq
        rw [hCa, hCb, hCc] at hq
        rcases (by omega : pk (p + 1) = 60 ∨ pk (p + 1) = 61 ∨ pk (p + 1) = 62) with e | e | e
        · rw [e] at hq
          by_cases c4 : fx (ltr (pk p)) < (nmP pk (p + 2)).2.2
          · rw [if_pos (by omega), decide_eq_true c4, show b2 true = 1 from rfl] at hq
            simp (disch := omega) only [c3, e, hS.k137, s32_id (x := 1), s32_id (x := 60), sl, sd, c1, show ltr (pk p) < 6 from by omega, hS.k162, hS.n162, hV.r137_29, hfx, c4, hq, b_s32, b_eq0, b_01, l0, l1, true_and, and_true, and_self, true_implies, false_implies, implies_true, forall_const, not_true_eq_false, not_false_eq_true, reduceIte, ite_true, ite_false, reduceCtorEq, forall_eq, Classical.not_not, true_or, or_true, false_or, or_false, and_false, false_and, Int.reduceEq, Int.reduceLT, Int.reduceLE, Int.reduceAdd, Int.reduceSub, Int.reduceMul, Int.reduceNeg]
          · rw [if_pos (by omega), decide_eq_false c4, show b2 false = 0 from rfl] at hq
            simp (disch := omega) only [c3, e, hS.k137, s32_id (x := 1), s32_id (x := 60), sl, sd, c1, show ltr (pk p) < 6 from by omega, hS.k162, hS.n162, hV.r137_29, hfx, c4, hq, b_s32, b_eq0, b_01, l0, l1, true_and, and_true, and_self, true_implies, false_implies, implies_true, forall_const, not_true_eq_false, not_false_eq_true, reduceIte, ite_true, ite_false, reduceCtorEq, forall_eq, Classical.not_not, true_or, or_true, false_or, or_false, and_false, false_and, Int.reduceEq, Int.reduceLT, Int.reduceLE, Int.reduceAdd, Int.reduceSub, Int.reduceMul, Int.reduceNeg]
        · rw [e] at hq
          by_cases c4 : fx (ltr (pk p)) = (nmP pk (p + 2)).2.2
          · rw [if_neg (by omega), if_pos (by omega), decide_eq_true c4, show b2 true = 1 from rfl] at hq
            simp (disch := omega) only [c3, e, hS.k137, s32_id (x := 1), s32_id (x := 60), s32_id (x := 61), sl, sd, c1, show ltr (pk p) < 6 from by omega, hS.k162, hS.n162, hV.r137_29, hfx, c4, hq, b_s32, b_eq0, b_01, l0, l1, true_and, and_true, and_self, true_implies, false_implies, implies_true, forall_const, not_true_eq_false, not_false_eq_true, reduceIte, ite_true, ite_false, reduceCtorEq, forall_eq, Classical.not_not, true_or, or_true, false_or, or_false, and_false, false_and, Int.reduceEq, Int.reduceLT, Int.reduceLE, Int.reduceAdd, Int.reduceSub, Int.reduceMul, Int.reduceNeg]
          · rw [if_neg (by omega), if_pos (by omega), decide_eq_false c4, show b2 false = 0 from rfl] at hq
            simp (disch := omega) only [c3, e, hS.k137, s32_id (x := 1), s32_id (x := 60), s32_id (x := 61), sl, sd, c1, show ltr (pk p) < 6 from by omega, hS.k162, hS.n162, hV.r137_29, hfx, c4, hq, b_s32, b_eq0, b_01, l0, l1, true_and, and_true, and_self, true_implies, false_implies, implies_true, forall_const, not_true_eq_false, not_false_eq_true, reduceIte, ite_true, ite_false, reduceCtorEq, forall_eq, Classical.not_not, true_or, or_true, false_or, or_false, and_false, false_and, Int.reduceEq, Int.reduceLT, Int.reduceLE, Int.reduceAdd, Int.reduceSub, Int.reduceMul, Int.reduceNeg]
        · rw [e] at hq
          by_cases c4 : (nmP pk (p + 2)).2.2 < fx (ltr (pk p))
          · rw [if_neg (by omega), if_neg (by omega), decide_eq_true c4, show b2 true = 1 from rfl] at hq
            simp (disch := omega) only [c3, e, hS.k137, s32_id (x := 1), s32_id (x := 60), s32_id (x := 61), s32_id (x := 62), sl, sd, c1, show ltr (pk p) < 6 from by omega, hS.k162, hS.n162, hV.r137_29, hfx, c4, hq, b_s32, b_eq0, b_01, l0, l1, true_and, and_true, and_self, true_implies, false_implies, implies_true, forall_const, not_true_eq_false, not_false_eq_true, reduceIte, ite_true, ite_false, reduceCtorEq, forall_eq, Classical.not_not, true_or, or_true, false_or, or_false, and_false, false_and, Int.reduceEq, Int.reduceLT, Int.reduceLE, Int.reduceAdd, Int.reduceSub, Int.reduceMul, Int.reduceNeg]
          · rw [if_neg (by omega), if_neg (by omega), decide_eq_false c4, show b2 false = 0 from rfl] at hq
            simp (disch := omega) only [c3, e, hS.k137, s32_id (x := 1), s32_id (x := 60), s32_id (x := 61), s32_id (x := 62), sl, sd, c1, show ltr (pk p) < 6 from by omega, hS.k162, hS.n162, hV.r137_29, hfx, c4, hq, b_s32, b_eq0, b_01, l0, l1, true_and, and_true, and_self, true_implies, false_implies, implies_true, forall_const, not_true_eq_false, not_false_eq_true, reduceIte, ite_true, ite_false, reduceCtorEq, forall_eq, Classical.not_not, true_or, or_true, false_or, or_false, and_false, false_and, Int.reduceEq, Int.reduceLT, Int.reduceLE, Int.reduceAdd, Int.reduceSub, Int.reduceMul, Int.reduceNeg]
      · have c3' : (nmP pk (p + 2)).1 = false := by cases hh : (nmP pk (p + 2)).1 with | true => exact (c3 hh).elim | false => rfl
        have hv : pTest pk p = (false, (nmP pk (p + 2)).2.1, []) := by
          unfold pTest
          rw [if_neg (by omega), if_neg (by omega)]
          show (bif (nmP pk (p + 2)).1 then _ else _) = _
          rw [c3']
          rfl
        rw [hv] at hF
        simp (disch := omega) only [c3, s32_id, b_s32, b_eq0, b_01, l0, l1, true_and, and_true, and_self, true_implies, false_implies, implies_true, forall_const, not_true_eq_false, not_false_eq_true, reduceIte, ite_true, ite_false, reduceCtorEq, forall_eq, Classical.not_not, true_or, or_true, false_or, or_false, and_false, false_and, Int.reduceEq, Int.reduceLT, Int.reduceLE, Int.reduceAdd, Int.reduceSub, Int.reduceMul, Int.reduceNeg]
        exact hF rfl V' (f2.tr g1).ef g2
    · have hsg : sgn (pk (p + 1)) = -1 := by
        unfold sgn
        rw [if_neg (by omega), if_neg (by omega), if_neg (by omega)]
      have hv : pTest pk p = (false, p + 1, []) := by unfold pTest; rw [if_neg (by omega), if_pos (by omega)]
      rw [hv] at hF
      simp (disch := omega) only [c2, s32_id, b_s32, b_eq0, b_01, l0, l1, true_and, and_true, and_self, true_implies, false_implies, implies_true, forall_const, not_true_eq_false, not_false_eq_true, reduceIte, ite_true, ite_false, reduceCtorEq, forall_eq, Classical.not_not, true_or, or_true, false_or, or_false, and_false, false_and, Int.reduceEq, Int.reduceLT, Int.reduceLE, Int.reduceAdd, Int.reduceSub, Int.reduceMul, Int.reduceNeg]
      exact hF rfl _ f1.ef (up2_eq rfl rfl)
/-- a sign that opens -/
theorem e_open {u : XV} {g : Cnt} (hS : FS S) (h : ES pk b n fx V W P p) (hc : pk p = c) (c0 : c = 33 ∨ c = 40) (ho : op W < 4) (hK : ∀ V', EFR V V' → ES pk b n fx V' (c :: W) P (p + 1) → K_m_takesE (d + 7) Q (17, [(2, 137), (0, 1), (0, c)], [], V', S, g)) : K_m_takesE (d + 7) Q (17, [(2, 137), (0, 1), u], [], V, S, g) := by
  obtain ⟨hM, hf, ⟨h3, h4, h4'⟩, ⟨h5, h6⟩, h7, ⟨h8, h9, h10, h11, h12⟩⟩ := id h
  have hV := hM.1
  have hn := hM.lt (p := p) (by omega)
  have hn1 := hM.2.2.1.2
  have ho0 := op_r W
  have hl : (((c :: W).length : Nat) : Int) = (W.length : Int) + 1 := by rw [List.length_cons]; omega
  have f : EFR V (up2 (up2 (up2 (up2 V 137 44 (op W + 1)) 163 (W.length : Int) c) 137 42 ((W.length : Int) + 1)) 137 32 (p + 1)) := (((EFR.rf.up (by unfold ECf; omega)).up (by unfold ECf; omega)).up (by unfold ECf; omega)).up (by unfold ECf; omega)
  have k := hK _ f (h.mk (W' := c :: W) (P' := P) f ⟨by rw [hl]; simp (disch := omega) only [up2_ne, up2_eq], ⟨by simp (disch := omega) only [up2_ne, up2_eq], stk_fr W (fun k k0 k1 => by simp (disch := omega) only [up2_ne]) h4⟩, fun w hw => (List.mem_cons.mp hw).elim (fun e => by omega) (fun e => h4' w e)⟩ ⟨by simp (disch := omega) only [up2_ne]; exact h5, stk_fr _ (fun k k0 k1 => by simp (disch := omega) only [up2_ne]) h6⟩ (by simp (disch := omega) only [up2_ne, up2_eq]; show op W + 1 = (if c = 33 ∨ c = 40 then op W + 1 else op W); rw [if_pos c0]) ⟨up2_eq rfl rfl, by omega, by omega, by rw [hl]; omega, by omega⟩)
  rw [L_m_takesE_17, m_next hS hM h8 h9 h10, hc]
  rcases c0 with rfl | rfl
  · simp (disch := omega) only [hS.k137, h7, h3, h8, s32_id (x := 1), s32_id (x := 33), s32_id (x := 4), s32_id (x := op W), s32_id (x := (W.length : Int)), show ¬ op W = 4 from by omega, hS.k163, hS.n163, hV.r137_40, up2_ne, show (0 : Int) ≤ (W.length : Int) from by omega, show (W.length : Int) < 101 from by omega, k, b_s32, b_eq0, b_01, l0, l1, true_and, and_true, and_self, true_implies, false_implies, implies_true, forall_const, not_true_eq_false, not_false_eq_true, reduceIte, ite_true, ite_false, reduceCtorEq, forall_eq, Classical.not_not, true_or, or_true, false_or, or_false, and_false, false_and, Int.reduceEq, Int.reduceLT, Int.reduceLE, Int.reduceAdd, Int.reduceSub, Int.reduceMul, Int.reduceNeg]
  · simp (disch := omega) only [hS.k137, h7, h3, h8, s32_id (x := 1), s32_id (x := 33), s32_id (x := 40), s32_id (x := 4), s32_id (x := op W), s32_id (x := (W.length : Int)), show ¬ op W = 4 from by omega, hS.k163, hS.n163, hV.r137_40, up2_ne, show (0 : Int) ≤ (W.length : Int) from by omega, show (W.length : Int) < 101 from by omega, k, b_s32, b_eq0, b_01, l0, l1, true_and, and_true, and_self, true_implies, false_implies, implies_true, forall_const, not_true_eq_false, not_false_eq_true, reduceIte, ite_true, ite_false, reduceCtorEq, forall_eq, Classical.not_not, true_or, or_true, false_or, or_false, and_false, false_and, Int.reduceEq, Int.reduceLT, Int.reduceLE, Int.reduceAdd, Int.reduceSub, Int.reduceMul, Int.reduceNeg]
theorem e_full {u : XV} {g : Cnt} (hS : FS S) (h : ES pk b n fx V W P p) (hc : pk p = c) (c0 : c = 33 ∨ c = 40) (ho : op W = 4) (hQ : Q 0 V S) : K_m_takesE (d + 7) Q (17, [(2, 137), (0, 1), u], [], V, S, g) := by
  obtain ⟨hM, hf, -, -, h7, ⟨h8, h9, h10, -⟩⟩ := id h
  rw [L_m_takesE_17, m_next hS hM h8 h9 h10, hc]
  rcases c0 with rfl | rfl
  · simp (disch := omega) only [hS.k137, h7, ho, s32_id (x := 1), s32_id (x := 33), s32_id (x := 4), hQ, b_s32, b_eq0, b_01, l0, l1, true_and, and_true, and_self, true_implies, false_implies, implies_true, forall_const, not_true_eq_false, not_false_eq_true, reduceIte, ite_true, ite_false, reduceCtorEq, forall_eq, Classical.not_not, true_or, or_true, false_or, or_false, and_false, false_and, Int.reduceEq, Int.reduceLT, Int.reduceLE, Int.reduceAdd, Int.reduceSub, Int.reduceMul, Int.reduceNeg]
  · simp (disch := omega) only [hS.k137, h7, ho, s32_id (x := 1), s32_id (x := 33), s32_id (x := 40), s32_id (x := 4), hQ, b_s32, b_eq0, b_01, l0, l1, true_and, and_true, and_self, true_implies, false_implies, implies_true, forall_const, not_true_eq_false, not_false_eq_true, reduceIte, ite_true, ite_false, reduceCtorEq, forall_eq, Classical.not_not, true_or, or_true, false_or, or_false, and_false, false_and, Int.reduceEq, Int.reduceLT, Int.reduceLE, Int.reduceAdd, Int.reduceSub, Int.reduceMul, Int.reduceNeg]
theorem e_test {u : XV} {g : Cnt} (hS : FS S) (h : ES pk b n fx V W P p) (c0 : pk p ≠ 33 ∧ pk p ≠ 40) (hF : (pTest pk p).1 = false → ∀ V', EFR V V' → V' 137 32 = (pTest pk p).2.1 → Q 0 V' S) (hT : (pTest pk p).1 = true → ∀ v, RP fx (pTest pk p).2.2 v 1 → ∀ V' u, EFR V V' → ES pk b n fx V' (strip W) ((v ^^ par W) :: P) (pTest pk p).2.1 → p < (pTest pk p).2.1 → K_m_takesE (d + 7) Q (17, [(2, 137), (0, 0), u], [], V', S, g)) : K_m_takesE (d + 7) Q (17, [(2, 137), (0, 1), u], [], V, S, g) := by
  obtain ⟨hM, hf, -, -, h7, ⟨h8, h9, h10, -⟩⟩ := id h
  obtain ⟨c1, c2⟩ := c0
  rw [L_m_takesE_17, m_next hS hM h8 h9 h10, hM.s h9]
  simp (disch := omega) only [s32_id (x := 1), s32_id (x := 33), s32_id (x := 40), c1, c2, b_s32, b_eq0, b_01, l0, l1, true_and, and_true, and_self, true_implies, false_implies, implies_true, forall_const, not_true_eq_false, not_false_eq_true, reduceIte, ite_true, ite_false, reduceCtorEq, forall_eq, Classical.not_not, true_or, or_true, false_or, or_false, and_false, false_and, Int.reduceEq, Int.reduceLT, Int.reduceLE, Int.reduceAdd, Int.reduceSub, Int.reduceMul, Int.reduceNeg]
  refine m_test (d := d + 1) hS h (fun e V' a1 a2 => ?_) (fun e v r V' a1 a2 a3 => ?_)
  · simp (disch := omega) only [s32_id, b_s32, b_eq0, b_01, l0, l1, true_and, and_true, and_self, true_implies, false_implies, implies_true, forall_const, not_true_eq_false, not_false_eq_true, reduceIte, ite_true, ite_false, reduceCtorEq, forall_eq, Classical.not_not, true_or, or_true, false_or, or_false, and_false, false_and, Int.reduceEq, Int.reduceLT, Int.reduceLE, Int.reduceAdd, Int.reduceSub, Int.reduceMul, Int.reduceNeg]
    exact hF e V' a1 a2
  · simp (disch := omega) only [s32_id, b_s32, b_eq0, b_01, l0, l1, true_and, and_true, and_self, true_implies, false_implies, implies_true, forall_const, not_true_eq_false, not_false_eq_true, reduceIte, ite_true, ite_false, reduceCtorEq, forall_eq, Classical.not_not, true_or, or_true, false_or, or_false, and_false, false_and, Int.reduceEq, Int.reduceLT, Int.reduceLE, Int.reduceAdd, Int.reduceSub, Int.reduceMul, Int.reduceNeg]
    exact hT e v r V' _ a1 a2 a3
/-- a sign that stands between -/
theorem e_sign {u : XV} {g : Cnt} {W2 : List Int} {P2 : List Bool} (hS : FS S) (h : ES pk b n fx V W P p) (hc : pk p = c) (c0 : c = 38 ∨ c = 124) (hset : ∀ U : Mem → Shp → Prop, (∀ V', EFR V V' → ES pk b n fx V' W2 P2 p → U V' S) → C_m_settle (d + 7) 137 c V S U) (hK : ∀ V', EFR V V' → ES pk b n fx V' (c :: W2) P2 (p + 1) → K_m_takesE (d + 7) Q (17, [(2, 137), (0, 1), (0, c)], [], V', S, g)) : K_m_takesE (d + 7) Q (17, [(2, 137), (0, 0), u], [], V, S, g) := by
  obtain ⟨hM, -, -, -, -, ⟨h8, h9, h10, -, -⟩⟩ := id h
  have hn := hM.lt (p := p) (by omega)
  have hn1 := hM.2.2.1.2
  have key : C_m_settle (d + 7) 137 c V S (fun V2 S2 => (S2.1 137 = 12 ∧ (S2.1 137 = 12 ∧ ((S2.1 (V2 137 40) = 100 ∧ 0 ≤ s32 (V2 137 42) ∧ s32 (V2 137 42) < S2.2.1 (V2 137 40)) ∧ ∀ V3 : Mem, V3 = up2 V2 (V2 137 40) (s32 (V2 137 42)) c → (S2.1 137 = 12 ∧ (S2.1 137 = 12 ∧ ∀ V4 : Mem, V4 = up2 V3 137 42 ((V3 137 42) + 1) → (S2.1 137 = 12 ∧ (S2.1 137 = 12 ∧ ∀ V5 : Mem, V5 = up2 V4 137 32 ((V4 137 32) + 1) → K_m_takesE (d + 7) Q (17, [(2, 137), (0, 1), (0, c)], [], V5, S2, g))))))))) := by
    apply hset
    intro V' f1 e1
    have hV := e1.1.1
    obtain ⟨-, -, ⟨h3, h4, h4'⟩, ⟨h5, h6⟩, h7, ⟨h8', -, -, h11, h12⟩⟩ := id e1
    have hl : (((c :: W2).length : Nat) : Int) = (W2.length : Int) + 1 := by rw [List.length_cons]; omega
    have f : EFR V' (up2 (up2 (up2 V' 163 (W2.length : Int) c) 137 42 ((W2.length : Int) + 1)) 137 32 (p + 1)) := ((EFR.rf.up (by unfold ECf; omega)).up (by unfold ECf; omega)).up (by unfold ECf; omega)
    have k := hK _ (f1.tr f) (e1.mk (W' := c :: W2) (P' := P2) f ⟨by rw [hl]; simp (disch := omega) only [up2_ne, up2_eq], ⟨by simp (disch := omega) only [up2_ne, up2_eq], stk_fr W2 (fun k k0 k1 => by simp (disch := omega) only [up2_ne]) h4⟩, fun w hw => (List.mem_cons.mp hw).elim (fun e => by omega) (fun e => h4' w e)⟩ ⟨by simp (disch := omega) only [up2_ne]; exact h5, stk_fr _ (fun k k0 k1 => by simp (disch := omega) only [up2_ne]) h6⟩ (by simp (disch := omega) only [up2_ne]; rw [h7]; show op W2 = (if c = 33 ∨ c = 40 then op W2 + 1 else op W2); rw [if_neg (by omega)]) ⟨up2_eq rfl rfl, by omega, by omega, by rw [hl]; omega, by omega⟩)
    simp (disch := omega) only [hS.k137, h3, h8', s32_id (x := (W2.length : Int)), hS.k163, hS.n163, hV.r137_40, up2_ne, show (0 : Int) ≤ (W2.length : Int) from by omega, show (W2.length : Int) < 101 from by omega, k, b_s32, b_eq0, b_01, l0, l1, true_and, and_true, and_self, true_implies, false_implies, implies_true, forall_const, not_true_eq_false, not_false_eq_true, reduceIte, ite_true, ite_false, reduceCtorEq, forall_eq, Classical.not_not, true_or, or_true, false_or, or_false, and_false, false_and, Int.reduceEq, Int.reduceLT, Int.reduceLE, Int.reduceAdd, Int.reduceSub, Int.reduceMul, Int.reduceNeg]
  simp only [forall_eq] at key
  rw [L_m_takesE_17, m_next hS hM h8 h9 h10, hc]
  rcases c0 with rfl | rfl
  · simp (disch := omega) only [s32_id (x := 0), s32_id (x := 38), b_s32, b_eq0, b_01, l0, l1, true_and, and_true, and_self, true_implies, false_implies, implies_true, forall_const, not_true_eq_false, not_false_eq_true, reduceIte, ite_true, ite_false, reduceCtorEq, forall_eq, Classical.not_not, true_or, or_true, false_or, or_false, and_false, false_and, Int.reduceEq, Int.reduceLT, Int.reduceLE, Int.reduceAdd, Int.reduceSub, Int.reduceMul, Int.reduceNeg]
    exact key
  · simp (disch := omega) only [s32_id (x := 0), s32_id (x := 38), s32_id (x := 124), b_s32, b_eq0, b_01, l0, l1, true_and, and_true, and_self, true_implies, false_implies, implies_true, forall_const, not_true_eq_false, not_false_eq_true, reduceIte, ite_true, ite_false, reduceCtorEq, forall_eq, Classical.not_not, true_or, or_true, false_or, or_false, and_false, false_and, Int.reduceEq, Int.reduceLT, Int.reduceLE, Int.reduceAdd, Int.reduceSub, Int.reduceMul, Int.reduceNeg]
    exact key
theorem e_end1 {u : XV} {g : Cnt} {P2 : List Bool} (hS : FS S) (h : ES pk b n fx V W P p) (c0 : pk p ≠ 38 ∧ pk p ≠ 124) (hset : ∀ U : Mem → Shp → Prop, (∀ V', EFR V V' → ES pk b n fx V' [] P2 p → U V' S) → C_m_settle (d + 7) 137 124 V S U) (hQ : ∀ V', EFR V V' → ES pk b n fx V' [] P2 p → Q 1 V' S) : K_m_takesE (d + 7) Q (17, [(2, 137), (0, 0), u], [], V, S, g) := by
  obtain ⟨hM, -, -, -, -, ⟨h8, h9, h10, -, -⟩⟩ := id h
  obtain ⟨c1, c2⟩ := c0
  rw [L_m_takesE_17, m_next hS hM h8 h9 h10, hM.s h9]
  simp (disch := omega) only [s32_id (x := 0), s32_id (x := 38), s32_id (x := 124), c1, c2, b_s32, b_eq0, b_01, l0, l1, true_and, and_true, and_self, true_implies, false_implies, implies_true, forall_const, not_true_eq_false, not_false_eq_true, reduceIte, ite_true, ite_false, reduceCtorEq, forall_eq, Classical.not_not, true_or, or_true, false_or, or_false, and_false, false_and, Int.reduceEq, Int.reduceLT, Int.reduceLE, Int.reduceAdd, Int.reduceSub, Int.reduceMul, Int.reduceNeg]
  apply hset
  intro V' f1 e1
  have h3 : V' 137 42 = 0 := e1.2.2.1.1
  have := hQ V' f1 e1
  simp (disch := omega) only [hS.k137, h3, s32_id, this, b_s32, b_eq0, b_01, l0, l1, true_and, and_true, and_self, true_implies, false_implies, implies_true, forall_const, not_true_eq_false, not_false_eq_true, reduceIte, ite_true, ite_false, reduceCtorEq, forall_eq, Classical.not_not, true_or, or_true, false_or, or_false, and_false, false_and, Int.reduceEq, Int.reduceLT, Int.reduceLE, Int.reduceAdd, Int.reduceSub, Int.reduceMul, Int.reduceNeg]
theorem e_end2 {u : XV} {g : Cnt} {W3 : List Int} {P3 : List Bool} (hS : FS S) (h : ES pk b n fx V W P p) (c0 : pk p ≠ 38 ∧ pk p ≠ 124) (hset : ∀ U : Mem → Shp → Prop, (∀ V', EFR V V' → ES pk b n fx V' (40 :: W3) (v :: P3) p → U V' S) → C_m_settle (d + 7) 137 124 V S U) (hF : pk p ≠ 41 → ∀ V', EFR V V' → V' 137 32 = p → Q 0 V' S) (hT : pk p = 41 → ∀ V' u, EFR V V' → ES pk b n fx V' (strip W3) ((v ^^ par W3) :: P3) (p + 1) → K_m_takesE (d + 7) Q (17, [(2, 137), (0, 0), u], [], V', S, g)) : K_m_takesE (d + 7) Q (17, [(2, 137), (0, 0), u], [], V, S, g) := by
  obtain ⟨hM, -, -, -, -, ⟨h8, h9, h10, -, -⟩⟩ := id h
  obtain ⟨c1, c2⟩ := c0
  rw [L_m_takesE_17, m_next hS hM h8 h9 h10, hM.s h9]
  simp (disch := omega) only [s32_id (x := 0), s32_id (x := 38), s32_id (x := 124), c1, c2, b_s32, b_eq0, b_01, l0, l1, true_and, and_true, and_self, true_implies, false_implies, implies_true, forall_const, not_true_eq_false, not_false_eq_true, reduceIte, ite_true, ite_false, reduceCtorEq, forall_eq, Classical.not_not, true_or, or_true, false_or, or_false, and_false, false_and, Int.reduceEq, Int.reduceLT, Int.reduceLE, Int.reduceAdd, Int.reduceSub, Int.reduceMul, Int.reduceNeg]
  apply hset
  intro V' f1 e1
  have hV := e1.1.1
  have hn1 := hM.2.2.1.2
  obtain ⟨-, -, ⟨h3, h4, h4'⟩, ⟨h5, h6⟩, h7, ⟨h8', -, -, h11, h12⟩⟩ := id e1
  rw [List.length_cons] at h3 h11 h5 h12
  have h3 : V' 137 42 = (W3.length : Int) + 1 := by omega
  have h5 : V' 137 43 = (P3.length : Int) + 1 := by omega
  have n0 : ¬ (W3.length : Int) + 1 = 0 := by omega
  have e1' : (W3.length : Int) + 1 - 1 = (W3.length : Int) := by omega
  have e2' : (P3.length : Int) + 1 - 1 = (P3.length : Int) := by omega
  by_cases c3 : pk p = 41
  · have hn := hM.lt (p := p) (by omega)
    have h44 : V' 137 44 = op W3 + 1 := h7
    have f : EFR V' (up2 (up2 (up2 (up2 V' 137 42 (W3.length : Int)) 137 44 (op W3)) 137 43 (P3.length : Int)) 137 32 (p + 1)) := (((EFR.rf.up (by unfold ECf; omega)).up (by unfold ECf; omega)).up (by unfold ECf; omega)).up (by unfold ECf; omega)
    have e2 : ES pk b n fx (up2 (up2 (up2 (up2 V' 137 42 (W3.length : Int)) 137 44 (op W3)) 137 43 (P3.length : Int)) 137 32 (p + 1)) W3 P3 (p + 1) := e1.mk (W' := W3) (P' := P3) f ⟨by simp (disch := omega) only [up2_ne, up2_eq], stk_fr W3 (fun k k0 k1 => by simp (disch := omega) only [up2_ne]) h4.2, fun w hw => h4' w (List.mem_cons_of_mem _ hw)⟩ ⟨by simp (disch := omega) only [up2_ne, up2_eq], stk_fr _ (fun k k0 k1 => by simp (disch := omega) only [up2_ne]) h6.2⟩ (by simp (disch := omega) only [up2_ne, up2_eq]) ⟨up2_eq rfl rfl, by omega, by omega, by omega, by omega⟩
    have h61 : V' 164 (P3.length : Int) = b2 v := by
      have := h6.1
      rw [List.length_map] at this
      exact this
    have hp := m_push (d := d + 6) (v := v) (U := fun V7 S7 => K_m_takesE (d + 7) Q (17, [(2, 137), (0, 0), (0, 41)], [], V7, S7, g)) hS e2 (by omega) (fun V2 a1 a2 => hT c3 V2 _ ((f1.tr f).tr a1) a2)
    simp (disch := omega) only [hS.k137, h3, h5, h44, h8', n0, e1', e2', c3, s32_id (x := (W3.length : Int) + 1), s32_id (x := (P3.length : Int)), s32_id (x := 41), hS.k164, hS.n164, hV.r137_41, up2_ne, up2_eq, show (0 : Int) ≤ (P3.length : Int) from by omega, show (P3.length : Int) < 101 from by omega, h61, Int.add_sub_cancel, hp, b_s32, b_eq0, b_01, l0, l1, true_and, and_true, and_self, true_implies, false_implies, implies_true, forall_const, not_true_eq_false, not_false_eq_true, reduceIte, ite_true, ite_false, reduceCtorEq, forall_eq, Classical.not_not, true_or, or_true, false_or, or_false, and_false, false_and, Int.reduceEq, Int.reduceLT, Int.reduceLE, Int.reduceAdd, Int.reduceSub, Int.reduceMul, Int.reduceNeg]
  · have := hF c3 V' f1 h8'
    simp (disch := omega) only [hS.k137, h3, n0, c3, s32_id (x := (W3.length : Int) + 1), s32_id (x := 41), this, b_s32, b_eq0, b_01, l0, l1, true_and, and_true, and_self, true_implies, false_implies, implies_true, forall_const, not_true_eq_false, not_false_eq_true, reduceIte, ite_true, ite_false, reduceCtorEq, forall_eq, Classical.not_not, true_or, or_true, false_or, or_false, and_false, false_and, Int.reduceEq, Int.reduceLT, Int.reduceLE, Int.reduceAdd, Int.reduceSub, Int.reduceMul, Int.reduceNeg]
end MS
