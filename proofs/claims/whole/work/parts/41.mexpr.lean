/-! the model's reading of tests: what waits, what is piled -/
def b2 (b : Bool) : Int := if b = true then 1 else 0
def stk (f : Int → Int) : List Int → Prop
  | [] => True
  | x :: r => f (r.length : Int) = x ∧ stk f r
theorem stk_fr {f f' : Int → Int} : ∀ (W : List Int), (∀ k, 0 ≤ k → k < (W.length : Int) → f' k = f k) → stk f W → stk f' W
  | [], _, _ => trivial
  | x :: r, h, ⟨h1, h2⟩ => ⟨(h _ (by omega) (by rw [List.length_cons]; omega)).trans h1, stk_fr r (fun k k0 k1 => h k k0 (by rw [List.length_cons]; omega)) h2⟩
def op : List Int → Int
  | [] => 0
  | x :: r => if x = 33 ∨ x = 40 then op r + 1 else op r
def strip : List Int → List Int
  | [] => []
  | x :: r => if x = 33 then strip r else x :: r
def par : List Int → Bool
  | [] => false
  | x :: r => if x = 33 then !(par r) else false
theorem op_r : ∀ W : List Int, 0 ≤ op W ∧ op W ≤ (W.length : Int)
  | [] => ⟨Int.le_refl _, Int.le_refl _⟩
  | x :: r => by
    have := op_r r
    unfold op
    rw [List.length_cons]
    split <;> omega
def tst (fx : Int → Int) (s : Int) : Bool := if s / 1000 % 3 = 0 then decide (fx (s / 3000) < s % 1000) else if s / 1000 % 3 = 1 then decide (fx (s / 3000) = s % 1000) else decide (s % 1000 < fx (s / 3000))
def ES (pk : Int → Int) (b n : Int) (fx : Int → Int) (V : Mem) (W : List Int) (P : List Bool) (p : Int) : Prop :=
  PM pk b n V ∧ (∀ f, 0 ≤ f → f < 6 → s32 (V 162 f) = fx f) ∧ (V 137 42 = (W.length : Int) ∧ stk (V 163) W ∧ (∀ w ∈ W, 0 ≤ w ∧ w ≤ 127)) ∧ (V 137 43 = (P.length : Int) ∧ stk (V 164) (P.map b2)) ∧ V 137 44 = op W ∧ (V 137 32 = p ∧ 0 ≤ p ∧ p ≤ n ∧ (W.length : Int) ≤ p ∧ (P.length : Int) ≤ p)
section ME
variable {d : Nat} {b n p q c x : Int} {pk fx : Int → Int} {V V' V2 : Mem} {S : Shp} {Q : Int → Mem → Shp → Prop} {U : Mem → Shp → Prop} {W W' : List Int} {P P' : List Bool} {v : Bool}
theorem ES.mk (h : ES pk b n fx V W P p) (f : EFR V V') (hw : V' 137 42 = (W'.length : Int) ∧ stk (V' 163) W' ∧ (∀ w ∈ W', 0 ≤ w ∧ w ≤ 127)) (hp : V' 137 43 = (P'.length : Int) ∧ stk (V' 164) (P'.map b2)) (ho : V' 137 44 = op W') (hq : V' 137 32 = q ∧ 0 ≤ q ∧ q ≤ n ∧ (W'.length : Int) ≤ q ∧ (P'.length : Int) ≤ q) : ES pk b n fx V' W' P' q :=
  ⟨h.1.fr f, fun i i0 i1 => by rw [f 162 i (by unfold ECf; omega)]; exact h.2.1 i i0 i1, hw, hp, ho, hq⟩
theorem mapl : ((P.map b2).length : Int) = (P.length : Int) := by rw [List.length_map]
/-- the pile grows -/
theorem ES.pp (h : ES pk b n fx V W P p) (hl : (P.length : Int) + 1 ≤ p) : ES pk b n fx (up2 (up2 V 164 (P.length : Int) (b2 v)) 137 43 ((P.length : Int) + 1)) W (v :: P) p := by
  obtain ⟨h1, h2, ⟨h3, h4, h4'⟩, ⟨h5, h6⟩, h7, ⟨h8, h9, h10, h11, h12⟩⟩ := id h
  have hlen : (((v :: P).length : Nat) : Int) = (P.length : Int) + 1 := by rw [List.length_cons]; omega
  refine h.mk ((EFR.rf.up (by unfold ECf; omega)).up (by unfold ECf; omega)) ⟨by rw [up2_ne (by omega), up2_ne (by omega)]; exact h3, stk_fr W (fun k _ _ => by rw [up2_ne (by omega), up2_ne (by omega)]) h4, h4'⟩ ⟨by rw [hlen]; exact up2_eq rfl rfl, ?_⟩ (by rw [up2_ne (by omega), up2_ne (by omega)]; exact h7) ⟨by rw [up2_ne (by omega), up2_ne (by omega)]; exact h8, h9, h10, h11, by rw [hlen]; exact hl⟩
  refine ⟨?_, stk_fr _ (fun k k0 k1 => ?_) h6⟩
  · show up2 _ 137 43 _ 164 ((P.map b2).length : Int) = b2 v
    rw [mapl, up2_ne (by omega), up2_eq rfl rfl]
  · rw [mapl] at k1
    rw [up2_ne (by omega), up2_ne (by omega)]
theorem m_push_l (hS : FS S) : ∀ (W : List Int) (V : Mem) (v : Bool) (u : XV) (g : Cnt), ES pk b n fx V W P p → (P.length : Int) + 1 ≤ p → (∀ V', EFR V V' → ES pk b n fx V' (strip W) ((v ^^ par W) :: P) p → U V' S) → K_m_push d U (2, [(2, 137), u, (0, b2 v)], [], V, S, g) := by
  intro W
  induction W with
  | nil =>
    intro V v u g h hl hU
    have hV := h.1.1
    obtain ⟨-, -, ⟨h3, h4, h4'⟩, ⟨h5, h6⟩, h7, ⟨h8, h9, h10, h11, h12⟩⟩ := id h
    have h3 : V 137 42 = 0 := h3
    have hn := h.1.2.2.1.2
    have g1 := fun (e : ((v ^^ par []) = v)) => by
      have h' := fun V' => hU V'
      rw [e] at h'
      exact h' _ ((EFR.rf.up (by unfold ECf; omega)).up (by unfold ECf; omega)) (h.pp (v := v) hl)
    have g2 := g1 (by cases v <;> rfl)
    rw [L_m_push_2]
    have hb : s32 (b2 v) = 0 ∨ s32 (b2 v) = 1 := by cases v <;> decide
    simp (disch := omega) only [hS.k137, h3, h5, hb, s32_id (x := 0), s32_id (x := (P.length : Int)), hS.k164, hS.n164, hV.r137_41, show (0 : Int) ≤ (P.length : Int) from by omega, show (P.length : Int) < 101 from by omega, up2_ne, b_s32, b_eq0, b_01, l0, l1, true_and, and_true, and_self, true_implies, false_implies, implies_true, forall_const, not_true_eq_false, not_false_eq_true, reduceIte, ite_true, ite_false, reduceCtorEq, forall_eq, Classical.not_not, true_or, or_true, false_or, or_false, and_false, false_and, Int.reduceEq, Int.reduceLT, Int.reduceLE, Int.reduceAdd, Int.reduceSub, Int.reduceMul, Int.reduceNeg, g2]
  | cons x r ih =>
    intro V v u g h hl hU
    have hV := h.1.1
    obtain ⟨-, -, ⟨h3, h4, h4'⟩, ⟨h5, h6⟩, h7, ⟨h8, h9, h10, h11, h12⟩⟩ := id h
    have h3 : V 137 42 = (r.length : Int) + 1 := by rw [h3, List.length_cons]; omega
    rw [List.length_cons] at h11
    have hn := h.1.2.2.1.2
    have hx := h4' x List.mem_cons_self
    have h41 : V 163 (r.length : Int) = x := h4.1
    have sx : s32 x = x := s32_id (by omega) (by omega)
    rw [L_m_push_2]
    by_cases c1 : x = 33
    · have hop : op (x :: r) = op r + 1 := by show (if x = 33 ∨ x = 40 then _ else _) = _; rw [if_pos (Or.inl c1)]
      have hst : strip (x :: r) = strip r := by show (if x = 33 then _ else _) = _; rw [if_pos c1]
      have hpa : par (x :: r) = !(par r) := by show (if x = 33 then _ else _) = _; rw [if_pos c1]
      have f1 : EFR V (up2 (up2 V 137 42 (r.length : Int)) 137 44 (op r)) := (EFR.rf.up (by unfold ECf; omega)).up (by unfold ECf; omega)
      have e1 : ES pk b n fx (up2 (up2 V 137 42 (r.length : Int)) 137 44 (op r)) r P p := by
        refine h.mk f1 ⟨by rw [up2_ne (by omega), up2_eq rfl rfl], stk_fr r (fun k _ _ => by rw [up2_ne (by omega), up2_ne (by omega)]) h4.2, fun w hw => h4' w (List.mem_cons_of_mem _ hw)⟩ ⟨by rw [up2_ne (by omega), up2_ne (by omega)]; exact h5, stk_fr _ (fun k _ _ => by rw [up2_ne (by omega), up2_ne (by omega)]) h6⟩ (up2_eq rfl rfl) ⟨by rw [up2_ne (by omega), up2_ne (by omega)]; exact h8, h9, h10, by omega, h12⟩
      have ih' := ih _ (!v) (9, 0) g e1 hl (fun V' a1 a2 => hU V' (f1.tr a1) (by rw [hst, hpa, show (v ^^ !par r) = ((!v) ^^ par r) from by cases v <;> cases par r <;> rfl]; exact a2))
      have e2 : (r.length : Int) + 1 - 1 = (r.length : Int) := by omega
      have e3 : V 137 44 - 1 = op r := by rw [h7, hop]; omega
      cases v
      · simp (disch := omega) only [hS.k137, h3, e2, s32_id (x := (r.length : Int)), s32_id (x := (r.length : Int) + 1), h41, c1, sx, s32_id (x := 33), show (0 : Int) < (r.length : Int) + 1 from by omega, show (0 : Int) ≤ (r.length : Int) from by omega, show (r.length : Int) < 101 from by omega, hS.k163, hS.n163, hV.r137_40, up2_ne, e3, show s32 (b2 false) = 0 from by decide, b_s32, b_eq0, b_01, l0, l1, true_and, and_true, and_self, true_implies, false_implies, implies_true, forall_const, not_true_eq_false, not_false_eq_true, reduceIte, ite_true, ite_false, reduceCtorEq, forall_eq, Classical.not_not, true_or, or_true, false_or, or_false, and_false, false_and, Int.reduceEq, Int.reduceLT, Int.reduceLE, Int.reduceAdd, Int.reduceSub, Int.reduceMul, Int.reduceNeg]
        exact ih'
      · simp (disch := omega) only [hS.k137, h3, e2, s32_id (x := (r.length : Int)), s32_id (x := (r.length : Int) + 1), h41, c1, sx, s32_id (x := 33), show (0 : Int) < (r.length : Int) + 1 from by omega, show (0 : Int) ≤ (r.length : Int) from by omega, show (r.length : Int) < 101 from by omega, hS.k163, hS.n163, hV.r137_40, up2_ne, e3, show ¬ s32 (b2 true) = 0 from by decide, b_s32, b_eq0, b_01, l0, l1, true_and, and_true, and_self, true_implies, false_implies, implies_true, forall_const, not_true_eq_false, not_false_eq_true, reduceIte, ite_true, ite_false, reduceCtorEq, forall_eq, Classical.not_not, true_or, or_true, false_or, or_false, and_false, false_and, Int.reduceEq, Int.reduceLT, Int.reduceLE, Int.reduceAdd, Int.reduceSub, Int.reduceMul, Int.reduceNeg]
        exact ih'
    · have hst : strip (x :: r) = x :: r := by show (if x = 33 then _ else _) = _; rw [if_neg c1]
      have hpa : par (x :: r) = false := by show (if x = 33 then _ else _) = _; rw [if_neg c1]
      have g2 := hU (up2 (up2 V 164 (P.length : Int) (b2 v)) 137 43 ((P.length : Int) + 1)) ((EFR.rf.up (by unfold ECf; omega)).up (by unfold ECf; omega)) (by rw [hst, hpa, show (v ^^ false) = v from by cases v <;> rfl]; exact h.pp (v := v) hl)
      have hb : s32 (b2 v) = 0 ∨ s32 (b2 v) = 1 := by cases v <;> decide
      simp (disch := omega) only [hS.k137, h3, show (r.length : Int) + 1 - 1 = (r.length : Int) from by omega, s32_id (x := (r.length : Int)), s32_id (x := (r.length : Int) + 1), s32_id (x := (P.length : Int)), h41, c1, sx, s32_id (x := 33), show (0 : Int) < (r.length : Int) + 1 from by omega, show (0 : Int) ≤ (r.length : Int) from by omega, show (r.length : Int) < 101 from by omega, hS.k163, hS.n163, hV.r137_40, hS.k164, hS.n164, hV.r137_41, h5, hb, show (0 : Int) ≤ (P.length : Int) from by omega, show (P.length : Int) < 101 from by omega, up2_ne, b_s32, b_eq0, b_01, l0, l1, true_and, and_true, and_self, true_implies, false_implies, implies_true, forall_const, not_true_eq_false, not_false_eq_true, reduceIte, ite_true, ite_false, reduceCtorEq, forall_eq, Classical.not_not, true_or, or_true, false_or, or_false, and_false, false_and, Int.reduceEq, Int.reduceLT, Int.reduceLE, Int.reduceAdd, Int.reduceSub, Int.reduceMul, Int.reduceNeg, g2]
theorem m_push (hS : FS S) (h : ES pk b n fx V W P p) (hl : (P.length : Int) + 1 ≤ p) (hU : ∀ V', EFR V V' → ES pk b n fx V' (strip W) ((v ^^ par W) :: P) p → U V' S) : C_m_push (d + 1) 137 (b2 v) V S U := by
  rw [I_m_push, hS.k137]
  exact ⟨rfl, m_push_l hS W V v _ _ h hl hU⟩
/-- settling: an & or a | that waits is worked -/
theorem set_1 {g : Cnt} {sg w : Int} {a1 a2 : Bool} {R : List Bool} (hS : FS S) (h : ES pk b n fx V (w :: W) (a2 :: a1 :: R) p) (hw : w = 38 ∨ (w = 124 ∧ sg ≠ 38)) (hsg : s32 sg = sg) (hK : ∀ V', EFR V V' → ES pk b n fx V' W ((if w = 38 then a1 && a2 else a1 || a2) :: R) p → K_m_settle d U (0, [(2, 137), (0, sg)], [], V', S, g)) : K_m_settle d U (0, [(2, 137), (0, sg)], [], V, S, g) := by
  have hV := h.1.1
  obtain ⟨-, -, ⟨h3, h4, h4'⟩, ⟨h5, h6⟩, h7, ⟨h8, h9, h10, h11, h12⟩⟩ := id h
  have h3n : V 137 42 = (W.length : Int) + 1 := by rw [h3, List.length_cons]; omega
  have h5n : V 137 43 = (R.length : Int) + 2 := by rw [h5, List.length_cons, List.length_cons]; omega
  rw [List.length_cons] at h11
  rw [List.length_cons, List.length_cons] at h12
  have hn := h.1.2.2.1.2
  have h41 : V 163 (W.length : Int) = w := h4.1
  have h61 : V 164 ((R.length : Int) + 1) = b2 a2 := by
    have := h6.1
    rw [List.map_cons, List.length_cons, List.length_map] at this
    rw [show (R.length : Int) + 1 = ((R.length + 1 : Nat) : Int) from by omega]
    exact this
  have h62 : V 164 (R.length : Int) = b2 a1 := by
    have := h6.2.1
    rw [List.length_map] at this
    exact this
  have hop : op (w :: W) = op W := by show (if w = 33 ∨ w = 40 then _ else _) = _; rw [if_neg (by omega)]
  rw [hop] at h7
  have key : ∀ z : Bool, z = (if w = 38 then a1 && a2 else a1 || a2) → K_m_settle d U (0, [(2, 137), (0, sg)], [], up2 (up2 (up2 V 137 42 (W.length : Int)) 137 43 ((R.length : Int) + 1)) 164 (R.length : Int) (b2 z), S, g) := by
    intro z hz
    have hl : (((z :: R).length : Nat) : Int) = (R.length : Int) + 1 := by rw [List.length_cons]; omega
    refine hK _ (((EFR.rf.up (by unfold ECf; omega)).up (by unfold ECf; omega)).up (by unfold ECf; omega)) ?_
    rw [← hz]
    refine h.mk (((EFR.rf.up (by unfold ECf; omega)).up (by unfold ECf; omega)).up (by unfold ECf; omega)) ⟨by simp (disch := omega) only [up2_ne, up2_eq], stk_fr W (fun k _ _ => by simp (disch := omega) only [up2_ne]) h4.2, fun w hw => h4' w (List.mem_cons_of_mem _ hw)⟩ ⟨by rw [hl]; simp (disch := omega) only [up2_ne, up2_eq], ?_, stk_fr _ (fun k k0 k1 => ?_) h6.2.2⟩ (by simp (disch := omega) only [up2_ne]; exact h7) ⟨by simp (disch := omega) only [up2_ne]; exact h8, h9, h10, by omega, by rw [hl]; omega⟩
    · rw [List.length_map]; exact up2_eq rfl rfl
    · rw [List.length_map] at k1
      simp (disch := omega) only [up2_ne]
  have kt := key true
  have kf := key false
  rw [show b2 true = 1 from rfl] at kt
  rw [show b2 false = 0 from rfl] at kf
  have e1 : (W.length : Int) + 1 - 1 = (W.length : Int) := by omega
  have e2 : (R.length : Int) + 2 - 1 = (R.length : Int) + 1 := by omega
  have e3 : (R.length : Int) + 1 - 1 = (R.length : Int) := by omega
  have s0 : s32 (b2 false) = 0 := by decide
  have s1 : ¬ s32 (b2 true) = 0 := by decide
  rw [L_m_settle_0]
  rcases hw with hw | ⟨hw, hsg2⟩
  · subst hw
    rw [if_pos rfl] at kt kf
    cases a1 <;> cases a2 <;> simp (disch := omega) only [hS.k137, h3n, h5n, e1, e2, e3, s32_id (x := (W.length : Int)), s32_id (x := (W.length : Int) + 1), s32_id (x := (R.length : Int)), s32_id (x := (R.length : Int) + 1), s32_id (x := 38), h41, h61, h62, s0, s1, show (0 : Int) < (W.length : Int) + 1 from by omega, show (0 : Int) ≤ (W.length : Int) from by omega, show (W.length : Int) < 101 from by omega, show (0 : Int) ≤ (R.length : Int) from by omega, show (0 : Int) ≤ (R.length : Int) + 1 from by omega, show (R.length : Int) < 101 from by omega, show (R.length : Int) + 1 < 101 from by omega, hS.k163, hS.n163, hV.r137_40, hS.k164, hS.n164, hV.r137_41, up2_ne, up2_eq, b_s32, b_eq0, b_01, l0, l1, true_and, and_true, and_self, true_implies, false_implies, implies_true, forall_const, not_true_eq_false, not_false_eq_true, reduceIte, ite_true, ite_false, reduceCtorEq, forall_eq, Classical.not_not, true_or, or_true, false_or, or_false, and_false, false_and, Int.reduceEq, Int.reduceLT, Int.reduceLE, Int.reduceAdd, Int.reduceSub, Int.reduceMul, Int.reduceNeg]
    · exact kf rfl
    · exact kf rfl
    · exact kf rfl
    · exact kt rfl
  · subst hw
    rw [if_neg (by omega)] at kt kf
    cases a1 <;> cases a2 <;> simp (disch := omega) only [hS.k137, h3n, h5n, e1, e2, e3, s32_id (x := (W.length : Int)), s32_id (x := (W.length : Int) + 1), s32_id (x := (R.length : Int)), s32_id (x := (R.length : Int) + 1), s32_id (x := 38), s32_id (x := 124), hsg, hsg2, h41, h61, h62, s0, s1, show (0 : Int) < (W.length : Int) + 1 from by omega, show (0 : Int) ≤ (W.length : Int) from by omega, show (W.length : Int) < 101 from by omega, show (0 : Int) ≤ (R.length : Int) from by omega, show (0 : Int) ≤ (R.length : Int) + 1 from by omega, show (R.length : Int) < 101 from by omega, show (R.length : Int) + 1 < 101 from by omega, hS.k163, hS.n163, hV.r137_40, hS.k164, hS.n164, hV.r137_41, up2_ne, up2_eq, b_s32, b_eq0, b_01, l0, l1, true_and, and_true, and_self, true_implies, false_implies, implies_true, forall_const, not_true_eq_false, not_false_eq_true, reduceIte, ite_true, ite_false, reduceCtorEq, forall_eq, Classical.not_not, true_or, or_true, false_or, or_false, and_false, false_and, Int.reduceEq, Int.reduceLT, Int.reduceLE, Int.reduceAdd, Int.reduceSub, Int.reduceMul, Int.reduceNeg]
    · exact kf rfl
    · exact kt rfl
    · exact kt rfl
    · exact kt rfl
theorem set_0 {g : Cnt} {sg : Int} (hS : FS S) (h : ES pk b n fx V W P p) (hW : W = [] ∨ ∃ w r, W = w :: r ∧ w ≠ 38 ∧ (w = 124 → sg = 38)) (hsg : s32 sg = sg) (hU : U V S) : K_m_settle d U (0, [(2, 137), (0, sg)], [], V, S, g) := by
  have hV := h.1.1
  have hn := h.1.2.2.1.2
  obtain ⟨-, -, ⟨h3, h4, h4'⟩, -, -, ⟨-, -, h10, h11, -⟩⟩ := id h
  rw [L_m_settle_0]
  rcases hW with rfl | ⟨w, r, rfl, w1, w2⟩
  · have h3 : V 137 42 = 0 := h3
    simp (disch := omega) only [hS.k137, h3, s32_id, hU, b_s32, b_eq0, b_01, l0, l1, true_and, and_true, and_self, true_implies, false_implies, implies_true, forall_const, not_true_eq_false, not_false_eq_true, reduceIte, ite_true, ite_false, reduceCtorEq, forall_eq, Classical.not_not, true_or, or_true, false_or, or_false, and_false, false_and, Int.reduceEq, Int.reduceLT, Int.reduceLE, Int.reduceAdd, Int.reduceSub, Int.reduceMul, Int.reduceNeg]
  · have h3 : V 137 42 = (r.length : Int) + 1 := by rw [h3, List.length_cons]; omega
    rw [List.length_cons] at h11
    have hx := h4' w List.mem_cons_self
    have h41 : V 163 (r.length : Int) = w := h4.1
    have sx : s32 w = w := s32_id (by omega) (by omega)
    have e1 : (r.length : Int) + 1 - 1 = (r.length : Int) := by omega
    by_cases c1 : w = 124
    · have := w2 c1
      simp (disch := omega) only [hS.k137, h3, e1, s32_id (x := (r.length : Int)), s32_id (x := (r.length : Int) + 1), s32_id (x := 38), s32_id (x := 124), sx, h41, w1, c1, this, hU, show (0 : Int) < (r.length : Int) + 1 from by omega, show (0 : Int) ≤ (r.length : Int) from by omega, show (r.length : Int) < 101 from by omega, hS.k163, hS.n163, hV.r137_40, b_s32, b_eq0, b_01, l0, l1, true_and, and_true, and_self, true_implies, false_implies, implies_true, forall_const, not_true_eq_false, not_false_eq_true, reduceIte, ite_true, ite_false, reduceCtorEq, forall_eq, Classical.not_not, true_or, or_true, false_or, or_false, and_false, false_and, Int.reduceEq, Int.reduceLT, Int.reduceLE, Int.reduceAdd, Int.reduceSub, Int.reduceMul, Int.reduceNeg]
    · simp (disch := omega) only [hS.k137, h3, e1, s32_id (x := (r.length : Int)), s32_id (x := (r.length : Int) + 1), s32_id (x := 38), s32_id (x := 124), sx, h41, w1, c1, hU, show (0 : Int) < (r.length : Int) + 1 from by omega, show (0 : Int) ≤ (r.length : Int) from by omega, show (r.length : Int) < 101 from by omega, hS.k163, hS.n163, hV.r137_40, b_s32, b_eq0, b_01, l0, l1, true_and, and_true, and_self, true_implies, false_implies, implies_true, forall_const, not_true_eq_false, not_false_eq_true, reduceIte, ite_true, ite_false, reduceCtorEq, forall_eq, Classical.not_not, true_or, or_true, false_or, or_false, and_false, false_and, Int.reduceEq, Int.reduceLT, Int.reduceLE, Int.reduceAdd, Int.reduceSub, Int.reduceMul, Int.reduceNeg]
theorem set_C {sg : Int} (hS : FS S) : C_m_settle (d + 1) 137 sg V S U ↔ K_m_settle d U (0, [(2, 137), (0, sg)], [], V, S, (0, 0)) := by
  rw [I_m_settle, L_m_settle_0, hS.k137]
  simp only [true_and]
theorem m_fact (hS : FS S) (hx : s32 x = x) : C_m_factOf (d + 1) 137 x V S Q ↔ Q (ltr x) V S := by
  rw [I_m_factOf, hx]
  unfold ltr
  rcases (by omega : x = 99 ∨ x = 100 ∨ x = 101 ∨ x = 102 ∨ x = 103 ∨ x = 104 ∨ x = 105 ∨ x = 106 ∨ x = 107 ∨ x = 108 ∨ x = 109 ∨ x = 110 ∨ x = 111 ∨ (x ≠ 99 ∧ x ≠ 100 ∧ x ≠ 101 ∧ x ≠ 102 ∧ x ≠ 103 ∧ x ≠ 104 ∧ x ≠ 105 ∧ x ≠ 106 ∧ x ≠ 107 ∧ x ≠ 108 ∧ x ≠ 109 ∧ x ≠ 110 ∧ x ≠ 111)) with h | h | h | h | h | h | h | h | h | h | h | h | h | ⟨h1, h2, h3, h4, h5, h6, h7, h8, h9, h10, h11, h12, h13⟩
  all_goals first | (subst h; simp only [hS.k137, b_s32, b_eq0, b_01, l0, l1, true_and, and_true, and_self, true_implies, false_implies, implies_true, forall_const, not_true_eq_false, not_false_eq_true, reduceIte, ite_true, ite_false, reduceCtorEq, forall_eq, Classical.not_not, true_or, or_true, false_or, or_false, and_false, false_and, Int.reduceEq, Int.reduceLT, Int.reduceLE, Int.reduceAdd, Int.reduceSub, Int.reduceMul, Int.reduceNeg]; done) | simp only [hS.k137, h1, h2, h3, h4, h5, h6, h7, h8, h9, h10, h11, h12, h13, b_s32, b_eq0, b_01, l0, l1, true_and, and_true, and_self, true_implies, false_implies, implies_true, forall_const, not_true_eq_false, not_false_eq_true, reduceIte, ite_true, ite_false, reduceCtorEq, forall_eq, Classical.not_not, true_or, or_true, false_or, or_false, and_false, false_and, Int.reduceEq, Int.reduceLT, Int.reduceLE, Int.reduceAdd, Int.reduceSub, Int.reduceMul, Int.reduceNeg]
end ME
