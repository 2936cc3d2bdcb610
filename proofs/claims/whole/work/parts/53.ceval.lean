/-! the component's texts: whether a clause holds -/
def gb (x : Int) (j : Nat) : Bool := (i32 x).toBitVec.getLsbD j
theorem gb_xor (x y : Int) (j : Nat) : gb (ixorI x y) j = (gb x j ^^ gb y j) := by
  unfold gb ixorI
  rw [i32_toInt, Int32.toBitVec_xor, BitVec.getLsbD_xor]
theorem gb_and (x y : Int) (j : Nat) : gb (iandI x y) j = (gb x j && gb y j) := by
  unfold gb iandI
  rw [i32_toInt, Int32.toBitVec_and, BitVec.getLsbD_and]
theorem gb_or (x y : Int) (j : Nat) : gb (iorI x y) j = (gb x j || gb y j) := by
  unfold gb iorI
  rw [i32_toInt, Int32.toBitVec_or, BitVec.getLsbD_or]
theorem sm_1 : (((i32 1 &&& 31).toBitVec).smod 32).toNat = 1 := by decide +kernel
theorem gb_shr (x : Int) (j : Nat) (hj : j + 1 < 32) : gb (ishrI x 1) j = gb x (j + 1) := by
  unfold gb ishrI
  rw [i32_toInt, Int32.toBitVec_shiftRight, BitVec.sshiftRight_eq', show (((i32 1 &&& 31).toBitVec).smod 32).toNat = 1 from sm_1, BitVec.getLsbD_sshiftRight]
  have h1 : ¬ 32 ≤ j := by omega
  have h2 : 1 + j < 32 := by omega
  simp [h1, h2, Nat.add_comm]
  intro q
  omega
theorem gb_shl (x : Int) (j : Nat) (hj : j < 32) : gb (ishlI x 1) j = if j = 0 then false else gb x (j - 1) := by
  unfold gb ishlI
  rw [i32_toInt, Int32.toBitVec_shiftLeft, BitVec.shiftLeft_eq', show (((i32 1 &&& 31).toBitVec).smod 32).toNat = 1 from sm_1, BitVec.getLsbD_shiftLeft]
  by_cases h : j = 0
  · simp [h]
  · have h1 : ¬ j < 1 := by omega
    simp [h, h1, hj]
theorem gb_1 (j : Nat) : gb 1 j = decide (j = 0) := by
  show (1#32).getLsbD j = _
  rw [BitVec.getLsbD_one]
  by_cases h : j = 0
  · subst h; rfl
  · simp [h]
theorem gb_0 (j : Nat) : gb 0 j = false := by
  show (0#32).getLsbD j = _
  exact BitVec.getLsbD_zero
theorem gb_2' : ∀ j : Fin 32, gb (-2) j.val = decide (j.val ≠ 0) := by decide +kernel
theorem gb_2 (j : Nat) (hj : j < 32) : gb (-2) j = decide (j ≠ 0) := gb_2' ⟨j, hj⟩
theorem and_b (x : Int) : iandI x 1 = b2 (gb x 0) := by
  have h : i32 x &&& i32 1 = if gb x 0 = true then 1 else 0 := by
    apply Int32.toBitVec_inj.mp
    apply BitVec.eq_of_getLsbD_eq
    intro j hj
    rw [Int32.toBitVec_and, BitVec.getLsbD_and]
    show (gb x j && gb 1 j) = _
    rw [gb_1]
    by_cases c : j = 0
    · subst c
      by_cases e : gb x 0 = true
      · rw [if_pos e, e]; decide
      · rw [if_neg e, nf e]; decide
    · by_cases e : gb x 0 = true
      · rw [if_pos e]
        show _ = gb 1 j
        rw [gb_1]
        simp [c]
      · rw [if_neg e]
        show _ = gb 0 j
        rw [gb_0]
        simp [c]
  unfold iandI
  rw [h]
  unfold b2
  by_cases e : gb x 0 = true
  · rw [if_pos e, if_pos e]; decide
  · rw [if_neg e, if_neg e]; decide
def SB (x : Int) (st : List Bool) : Prop := st.length ≤ 31 ∧ ∀ (j : Nat) (hj : j < st.length), gb x j = st[j]
section CV
variable {d : Nat} {x i m L b h T A e r : Int} {a c v w : Bool} {st : List Bool} {V : Mem} {S : Shp} {Q : Int → Mem → Shp → Prop} {fx : Int → Int}
theorem SB.hd (k : SB x (c :: st)) : gb x 0 = c := k.2 0 (Nat.succ_pos _)
theorem SB.not (k : SB x (c :: st)) : SB (ixorI x 1) ((!c) :: st) := by
  refine ⟨k.1, fun j hj => ?_⟩
  rw [gb_xor, gb_1]
  cases j with
  | zero => rw [k.hd]; simp
  | succ j =>
    have := k.2 (j + 1) hj
    rw [this]
    simp
theorem SB.and (k : SB x (c :: a :: st)) : SB (iandI (ishrI x 1) (iorI x (-2))) ((a && c) :: st) := by
  have k1 : (st.length + 1) + 1 ≤ 31 := k.1
  refine ⟨show st.length + 1 ≤ 31 by omega, fun j hj => ?_⟩
  have hj' : j < st.length + 1 := hj
  rw [gb_and, gb_or, gb_shr _ _ (by omega), gb_2 _ (by omega)]
  have := k.2 (j + 1) (show j + 1 < (st.length + 1) + 1 by omega)
  rw [this]
  cases j with
  | zero => rw [k.hd]; simp
  | succ j => simp
theorem SB.or (k : SB x (c :: a :: st)) : SB (iorI (ishrI x 1) (iandI x 1)) ((a || c) :: st) := by
  have k1 : (st.length + 1) + 1 ≤ 31 := k.1
  refine ⟨show st.length + 1 ≤ 31 by omega, fun j hj => ?_⟩
  have hj' : j < st.length + 1 := hj
  rw [gb_or, gb_and, gb_shr _ _ (by omega), gb_1]
  have := k.2 (j + 1) (show j + 1 < (st.length + 1) + 1 by omega)
  rw [this]
  cases j with
  | zero => rw [k.hd]; simp
  | succ j => simp
theorem SB.push (k : SB x st) (hl : st.length + 1 ≤ 31) : SB (iorI (ishlI x 1) (b2 v)) (v :: st) := by
  refine ⟨hl, fun j hj => ?_⟩
  have hj' : j < st.length + 1 := hj
  have e : gb (b2 v) j = (decide (j = 0) && v) := by
    cases v
    · rw [show b2 false = 0 from rfl, gb_0]; simp
    · rw [show b2 true = 1 from rfl, gb_1]; simp
  rw [gb_or, gb_shl _ _ (by omega), e]
  cases j with
  | zero => simp
  | succ j =>
    have := k.2 j (by omega)
    simp [this]
def gcv (V : Mem) (L b h m : Int) : Int → Int := fun f => if f = 0 then V L 8 - V b 2 - V b 0 else if f = 1 then V b 1 else if f = 2 then V b 3 else if f = 3 then V h 0 else if f = 4 then m else (s32 (V (h + 1) m)).tdiv 10
def fcv (V : Mem) (L b h m : Int) : Int → Int := fun f => s32 (gcv V L b h m f)
def HKD (V : Mem) (S : Shp) (L b h m : Int) : Prop := S.1 L = 5 ∧ S.1 b = 6 ∧ S.1 h = 4 ∧ S.1 (h + 1) = 100 ∧ S.2.1 (h + 1) = 20 ∧ V h 3 = h + 1 ∧ 0 ≤ m ∧ m < 20 ∧ V L 10 = h ∧ ¬ h = -1
theorem c_valueOf {s : Int} (H : HKD V S L b h m) (h0 : 0 ≤ s) (h1 : s < 18000) : C_Text_valueOf (d + 3) s L b h m V S Q ↔ Q (gcv V L b h m (s / 3000)) V S := by
  obtain ⟨k1, k2, k3, k4, k5, k6, m0, m1, -, -⟩ := H
  have e1 : s.tdiv 3000 = s / 3000 := Int.tdiv_eq_ediv_of_nonneg h0
  have e2 : s32 (s / 3000) = s / 3000 := s32_id (by omega) (by omega)
  rw [I_Text_valueOf, s32_id (x := s) (by omega) (by omega), s32_id (x := 3000) (by omega) (by omega), e1, e2]
  have e0 : 0 ≤ s / 3000 ∧ s / 3000 ≤ 5 := by omega
  generalize s / 3000 = f at e0
  rcases (by omega : f = 0 ∨ f = 1 ∨ f = 2 ∨ f = 3 ∨ f = 4 ∨ f = 5) with rfl | rfl | rfl | rfl | rfl | rfl
  · simp (disch := omega) only [s32_id, I_Lamp_owedOn, k1, k2, ne_eq, b_s32, b_eq0, b_01, l0, l1, true_and, and_true, and_self, true_implies, false_implies, implies_true, forall_const, not_true_eq_false, not_false_eq_true, reduceIte, ite_true, ite_false, reduceCtorEq, forall_eq, Classical.not_not, true_or, or_true, false_or, or_false, and_false, false_and, Int.reduceEq, Int.reduceLT, Int.reduceLE, Int.reduceAdd, Int.reduceSub, Int.reduceMul, Int.reduceNeg]
    exact Iff.rfl
  · simp (disch := omega) only [s32_id, k1, k2, ne_eq, b_s32, b_eq0, b_01, l0, l1, true_and, and_true, and_self, true_implies, false_implies, implies_true, forall_const, not_true_eq_false, not_false_eq_true, reduceIte, ite_true, ite_false, reduceCtorEq, forall_eq, Classical.not_not, true_or, or_true, false_or, or_false, and_false, false_and, Int.reduceEq, Int.reduceLT, Int.reduceLE, Int.reduceAdd, Int.reduceSub, Int.reduceMul, Int.reduceNeg]
    exact Iff.rfl
  · simp (disch := omega) only [s32_id, k1, k2, ne_eq, b_s32, b_eq0, b_01, l0, l1, true_and, and_true, and_self, true_implies, false_implies, implies_true, forall_const, not_true_eq_false, not_false_eq_true, reduceIte, ite_true, ite_false, reduceCtorEq, forall_eq, Classical.not_not, true_or, or_true, false_or, or_false, and_false, false_and, Int.reduceEq, Int.reduceLT, Int.reduceLE, Int.reduceAdd, Int.reduceSub, Int.reduceMul, Int.reduceNeg]
    exact Iff.rfl
  · simp (disch := omega) only [s32_id, k1, k2, k3, ne_eq, b_s32, b_eq0, b_01, l0, l1, true_and, and_true, and_self, true_implies, false_implies, implies_true, forall_const, not_true_eq_false, not_false_eq_true, reduceIte, ite_true, ite_false, reduceCtorEq, forall_eq, Classical.not_not, true_or, or_true, false_or, or_false, and_false, false_and, Int.reduceEq, Int.reduceLT, Int.reduceLE, Int.reduceAdd, Int.reduceSub, Int.reduceMul, Int.reduceNeg]
    exact Iff.rfl
  · simp (disch := omega) only [s32_id, k1, k2, k3, ne_eq, b_s32, b_eq0, b_01, l0, l1, true_and, and_true, and_self, true_implies, false_implies, implies_true, forall_const, not_true_eq_false, not_false_eq_true, reduceIte, ite_true, ite_false, reduceCtorEq, forall_eq, Classical.not_not, true_or, or_true, false_or, or_false, and_false, false_and, Int.reduceEq, Int.reduceLT, Int.reduceLE, Int.reduceAdd, Int.reduceSub, Int.reduceMul, Int.reduceNeg]
    exact Iff.rfl
  · simp (disch := omega) only [s32_id (x := 0), s32_id (x := 1), s32_id (x := 2), s32_id (x := 3), s32_id (x := 4), s32_id (x := 5), s32_id (x := 10), I_Home_coinsIn, c_val (S := S) (V := V) (d := d) (A := h + 1) (i := m) k4 (by omega) m0 (by omega), k3, k6, ne_eq, b_s32, b_eq0, b_01, l0, l1, true_and, and_true, and_self, true_implies, false_implies, implies_true, forall_const, not_true_eq_false, not_false_eq_true, reduceIte, ite_true, ite_false, reduceCtorEq, forall_eq, Classical.not_not, true_or, or_true, false_or, or_false, and_false, false_and, Int.reduceEq, Int.reduceLT, Int.reduceLE, Int.reduceAdd, Int.reduceSub, Int.reduceMul, Int.reduceNeg]
    exact Iff.rfl
theorem c_isMet {s : Int} (h0 : 0 ≤ s) (h1 : s < 18000) : C_Text_isMet (d + 1) s (gcv V L b h m (s / 3000)) V S Q ↔ Q (b2 (tst (fcv V L b h m) s)) V S := by
  have e2 : s.tdiv 1000 = s / 1000 := Int.tdiv_eq_ediv_of_nonneg h0
  have e3 : s.tmod 1000 = s % 1000 := Int.tmod_eq_emod_of_nonneg h0
  have e4 : (s / 1000).tmod 3 = s / 1000 % 3 := Int.tmod_eq_emod_of_nonneg (by omega)
  rw [I_Text_isMet]
  simp (disch := omega) only [s32_id (x := s), s32_id (x := 1000), s32_id (x := 3), e2, e3, s32_id (x := s / 1000), e4, s32_id (x := s / 1000 % 3), s32_id (x := s % 1000), ne_eq, b_s32, b_eq0, b_01, l0, l1, true_and, and_true, and_self, true_implies, false_implies, implies_true, forall_const, not_true_eq_false, not_false_eq_true, reduceIte, ite_true, ite_false, reduceCtorEq, forall_eq, Classical.not_not, true_or, or_true, false_or, or_false, and_false, false_and, Int.reduceEq, Int.reduceLT, Int.reduceLE, Int.reduceAdd, Int.reduceSub, Int.reduceMul, Int.reduceNeg]
  show _ ↔ Q (b2 (tst (fcv V L b h m) s)) V S
  unfold tst fcv
  by_cases c1 : s / 1000 % 3 = 0
  · rw [if_pos c1]
    by_cases c2 : s32 (gcv V L b h m (s / 3000)) < s % 1000
    · rw [decide_eq_true c2]
      simp only [c1, c2, b_s32, b_eq0, b_01, l0, l1, true_and, and_true, and_self, true_implies, false_implies, implies_true, forall_const, not_true_eq_false, not_false_eq_true, reduceIte, ite_true, ite_false, reduceCtorEq, forall_eq, Classical.not_not, true_or, or_true, false_or, or_false, and_false, false_and, Int.reduceEq, Int.reduceLT, Int.reduceLE, Int.reduceAdd, Int.reduceSub, Int.reduceMul, Int.reduceNeg]
      exact Iff.rfl
    · rw [decide_eq_false c2]
      simp only [c1, c2, b_s32, b_eq0, b_01, l0, l1, true_and, and_true, and_self, true_implies, false_implies, implies_true, forall_const, not_true_eq_false, not_false_eq_true, reduceIte, ite_true, ite_false, reduceCtorEq, forall_eq, Classical.not_not, true_or, or_true, false_or, or_false, and_false, false_and, Int.reduceEq, Int.reduceLT, Int.reduceLE, Int.reduceAdd, Int.reduceSub, Int.reduceMul, Int.reduceNeg]
      exact Iff.rfl
  · rw [if_neg c1]
    by_cases c3 : s / 1000 % 3 = 1
    · rw [if_pos c3]
      by_cases c2 : s32 (gcv V L b h m (s / 3000)) = s % 1000
      · rw [decide_eq_true c2]
        simp (disch := omega) only [c3, c2, b_s32, b_eq0, b_01, l0, l1, true_and, and_true, and_self, true_implies, false_implies, implies_true, forall_const, not_true_eq_false, not_false_eq_true, reduceIte, ite_true, ite_false, reduceCtorEq, forall_eq, Classical.not_not, true_or, or_true, false_or, or_false, and_false, false_and, Int.reduceEq, Int.reduceLT, Int.reduceLE, Int.reduceAdd, Int.reduceSub, Int.reduceMul, Int.reduceNeg]
        exact Iff.rfl
      · rw [decide_eq_false c2]
        simp (disch := omega) only [c3, c2, b_s32, b_eq0, b_01, l0, l1, true_and, and_true, and_self, true_implies, false_implies, implies_true, forall_const, not_true_eq_false, not_false_eq_true, reduceIte, ite_true, ite_false, reduceCtorEq, forall_eq, Classical.not_not, true_or, or_true, false_or, or_false, and_false, false_and, Int.reduceEq, Int.reduceLT, Int.reduceLE, Int.reduceAdd, Int.reduceSub, Int.reduceMul, Int.reduceNeg]
        exact Iff.rfl
    · rw [if_neg c3]
      by_cases c2 : s % 1000 < s32 (gcv V L b h m (s / 3000))
      · rw [decide_eq_true c2]
        simp only [c1, c3, c2, b_s32, b_eq0, b_01, l0, l1, true_and, and_true, and_self, true_implies, false_implies, implies_true, forall_const, not_true_eq_false, not_false_eq_true, reduceIte, ite_true, ite_false, reduceCtorEq, forall_eq, Classical.not_not, true_or, or_true, false_or, or_false, and_false, false_and, Int.reduceEq, Int.reduceLT, Int.reduceLE, Int.reduceAdd, Int.reduceSub, Int.reduceMul, Int.reduceNeg]
        exact Iff.rfl
      · rw [decide_eq_false c2]
        simp only [c1, c3, c2, b_s32, b_eq0, b_01, l0, l1, true_and, and_true, and_self, true_implies, false_implies, implies_true, forall_const, not_true_eq_false, not_false_eq_true, reduceIte, ite_true, ite_false, reduceCtorEq, forall_eq, Classical.not_not, true_or, or_true, false_or, or_false, and_false, false_and, Int.reduceEq, Int.reduceLT, Int.reduceLE, Int.reduceAdd, Int.reduceSub, Int.reduceMul, Int.reduceNeg]
        exact Iff.rfl
theorem c_hold_l {g : Cnt} (H : HKD V S L b h m) (hT : S.1 T = 9 ∧ V T 5 = A ∧ S.1 A = 100 ∧ S.2.1 A = 100) (hfx : ∀ f, 0 ≤ f → f ≤ 5 → fx f = fcv V L b h m f) (he : e ≤ 100) : ∀ (R : List Int) (st : List Bool) (x i : Int) (u1 u9 : XV), SB x st → 0 ≤ i → i + (R.length : Int) = e → (∀ (j : Nat) (hj : j < R.length), V A (i + (j : Int)) = R[j]) → okd R st.length → R.foldl (ev1 fx) st = [v] → Q (b2 v) V S → K_Text_holds (d + 4) Q (30, [(2, T), u1, (2, L), (2, b), (0, m), (2, h), (0, x), (0, e), (0, i), u9], [], V, S, g) := by
  obtain ⟨t1, t2, t3, t4⟩ := hT
  intro R
  induction R with
  | nil =>
    intro st x i u1 u9 hB hi hL hR hO hf hQ
    have hL : i + ((0 : Nat) : Int) = e := hL
    have hf : st = [v] := hf
    subst hf
    have hx := hB.hd
    rw [L_Text_holds_30]
    have he2 : s32 (iandI x 1) = b2 v := by rw [and_b, hx]; cases v <;> decide
    cases v
    · have hQ : Q 0 V S := hQ
      have he2 : s32 (iandI x 1) = 0 := he2
      simp (disch := omega) only [s32_id (x := i), s32_id (x := e), show ¬ i < e from by omega, he2, hQ, b_s32, b_eq0, b_01, l0, l1, true_and, and_true, and_self, true_implies, false_implies, implies_true, forall_const, not_true_eq_false, not_false_eq_true, reduceIte, ite_true, ite_false, reduceCtorEq, forall_eq, Classical.not_not, true_or, or_true, false_or, or_false, and_false, false_and, Int.reduceEq, Int.reduceLT, Int.reduceLE, Int.reduceAdd, Int.reduceSub, Int.reduceMul, Int.reduceNeg]
    · have hQ : Q 1 V S := hQ
      have he2 : s32 (iandI x 1) = 1 := he2
      simp (disch := omega) only [s32_id (x := i), s32_id (x := e), show ¬ i < e from by omega, he2, hQ, b_s32, b_eq0, b_01, l0, l1, true_and, and_true, and_self, true_implies, false_implies, implies_true, forall_const, not_true_eq_false, not_false_eq_true, reduceIte, ite_true, ite_false, reduceCtorEq, forall_eq, Classical.not_not, true_or, or_true, false_or, or_false, and_false, false_and, Int.reduceEq, Int.reduceLT, Int.reduceLE, Int.reduceAdd, Int.reduceSub, Int.reduceMul, Int.reduceNeg]
  | cons s R ih =>
    intro st x i u1 u9 hB hi hL hR hO hf hQ
    have hL : i + ((R.length + 1 : Nat) : Int) = e := hL
    have hs : V A i = s := by
      have := hR 0 (Nat.succ_pos _)
      rw [show i + ((0 : Nat) : Int) = i from by omega] at this
      exact this
    have hR2 : ∀ (j : Nat) (hj : j < R.length), V A (i + 1 + (j : Int)) = R[j] := fun j hj => by
      have := hR (j + 1) (Nat.succ_lt_succ hj)
      rw [show i + ((j + 1 : Nat) : Int) = i + 1 + (j : Int) from by omega] at this
      exact this
    have ih' := fun st x u1 u9 hB hO hf => ih st x (i + 1) u1 u9 hB (by omega) (by omega) hR2 hO hf hQ
    have hf : R.foldl (ev1 fx) (ev1 fx st s) = [v] := hf
    unfold okd at hO
    rw [L_Text_holds_30]
    have hlt : i < e := by omega
    by_cases c1 : s = -1
    · rw [if_pos c1] at hO
      match st, hB, hO, hf with
      | p :: r, hB, hO, hf =>
        have he1 : ev1 fx (p :: r) s = (!p) :: r := by unfold ev1; rw [if_pos c1]
        rw [he1] at hf
        have := fun u1 u9 => ih' _ _ u1 u9 hB.not hO.2 hf
        simp (disch := omega) only [s32_id (x := i), s32_id (x := e), hlt, t1, t2, c_val (S := S) (V := V) (d := d + 3) (A := A) (i := i) t3 (by omega) hi (by omega), hs, s32_id (x := s), s32_id (x := -1), c1, this, b_s32, b_eq0, b_01, l0, l1, true_and, and_true, and_self, true_implies, false_implies, implies_true, forall_const, not_true_eq_false, not_false_eq_true, reduceIte, ite_true, ite_false, reduceCtorEq, forall_eq, Classical.not_not, true_or, or_true, false_or, or_false, and_false, false_and, Int.reduceEq, Int.reduceLT, Int.reduceLE, Int.reduceAdd, Int.reduceSub, Int.reduceMul, Int.reduceNeg]
      | [], hB, hO, hf => exact absurd hO.1 (by show ¬ 1 ≤ 0; omega)
    · rw [if_neg c1] at hO
      by_cases c2 : s = -2
      · rw [if_pos (Or.inl c2)] at hO
        match st, hB, hO, hf with
        | p :: q :: r, hB, hO, hf =>
          have he1 : ev1 fx (p :: q :: r) s = (q && p) :: r := by unfold ev1; rw [if_neg c1, if_pos c2]
          rw [he1] at hf
          have := fun u1 u9 => ih' _ _ u1 u9 hB.and hO.2 hf
          simp (disch := omega) only [s32_id (x := i), s32_id (x := e), hlt, t1, t2, c_val (S := S) (V := V) (d := d + 3) (A := A) (i := i) t3 (by omega) hi (by omega), hs, s32_id (x := s), s32_id (x := -1), s32_id (x := -2), show ¬ (-2 : Int) = -1 from by omega, c2, this, b_s32, b_eq0, b_01, l0, l1, true_and, and_true, and_self, true_implies, false_implies, implies_true, forall_const, not_true_eq_false, not_false_eq_true, reduceIte, ite_true, ite_false, reduceCtorEq, forall_eq, Classical.not_not, true_or, or_true, false_or, or_false, and_false, false_and, Int.reduceEq, Int.reduceLT, Int.reduceLE, Int.reduceAdd, Int.reduceSub, Int.reduceMul, Int.reduceNeg]
        | [p], hB, hO, hf => exact absurd hO.1 (by show ¬ 2 ≤ 1; omega)
        | [], hB, hO, hf => exact absurd hO.1 (by show ¬ 2 ≤ 0; omega)
      · by_cases c3 : s = -3
        · rw [if_pos (Or.inr c3)] at hO
          match st, hB, hO, hf with
          | p :: q :: r, hB, hO, hf =>
            have he1 : ev1 fx (p :: q :: r) s = (q || p) :: r := by unfold ev1; rw [if_neg c1, if_neg c2, if_pos c3]
            rw [he1] at hf
            have := fun u1 u9 => ih' _ _ u1 u9 hB.or hO.2 hf
            simp (disch := omega) only [s32_id (x := i), s32_id (x := e), hlt, t1, t2, c_val (S := S) (V := V) (d := d + 3) (A := A) (i := i) t3 (by omega) hi (by omega), hs, s32_id (x := s), s32_id (x := -1), s32_id (x := -2), s32_id (x := -3), show ¬ (-3 : Int) = -1 from by omega, show ¬ (-3 : Int) = -2 from by omega, c3, this, b_s32, b_eq0, b_01, l0, l1, true_and, and_true, and_self, true_implies, false_implies, implies_true, forall_const, not_true_eq_false, not_false_eq_true, reduceIte, ite_true, ite_false, reduceCtorEq, forall_eq, Classical.not_not, true_or, or_true, false_or, or_false, and_false, false_and, Int.reduceEq, Int.reduceLT, Int.reduceLE, Int.reduceAdd, Int.reduceSub, Int.reduceMul, Int.reduceNeg]
          | [p], hB, hO, hf => exact absurd hO.1 (by show ¬ 2 ≤ 1; omega)
          | [], hB, hO, hf => exact absurd hO.1 (by show ¬ 2 ≤ 0; omega)
        · rw [if_neg (by omega)] at hO
          obtain ⟨⟨o1, o2⟩, o3, o4⟩ := hO
          have he1 : ev1 fx st s = tst (fcv V L b h m) s :: st := by
            unfold ev1
            rw [if_neg c1, if_neg c2, if_neg c3]
            unfold tst
            rw [hfx (s / 3000) (by omega) (by omega)]
          rw [he1] at hf
          have := fun u1 u9 => ih' _ _ u1 u9 (hB.push (v := tst (fcv V L b h m) s) o3) o4 hf
          simp (disch := omega) only [s32_id (x := i), s32_id (x := e), hlt, t1, t2, c_val (S := S) (V := V) (d := d + 3) (A := A) (i := i) t3 (by omega) hi (by omega), hs, s32_id (x := s), s32_id (x := -1), s32_id (x := -2), s32_id (x := -3), c1, c2, c3, c_valueOf (d := d + 1) H o1 o2, c_isMet (d := d + 3) (V := V) (L := L) (b := b) (h := h) (m := m) o1 o2, b_s32, b_eq0, b_01, l0, l1, true_and, and_true, and_self, true_implies, false_implies, implies_true, forall_const, not_true_eq_false, not_false_eq_true, reduceIte, ite_true, ite_false, reduceCtorEq, forall_eq, Classical.not_not, true_or, or_true, false_or, or_false, and_false, false_and, Int.reduceEq, Int.reduceLT, Int.reduceLE, Int.reduceAdd, Int.reduceSub, Int.reduceMul, Int.reduceNeg]
          generalize tst (fcv V L b h m) s = w at this
          cases w
          · have this : ∀ u1 u9, K_Text_holds (d + 4) Q (30, [(2, T), u1, (2, L), (2, b), (0, m), (2, h), (0, iorI (ishlI x 1) 0), (0, e), (0, i + 1), u9], [], V, S, g) := this
            simp only [show s32 (b2 false) = 0 from by decide, this, b_s32, b_eq0, b_01, l0, l1, true_and, and_true, and_self, true_implies, false_implies, implies_true, forall_const, not_true_eq_false, not_false_eq_true, reduceIte, ite_true, ite_false, reduceCtorEq, forall_eq, Classical.not_not, true_or, or_true, false_or, or_false, and_false, false_and, Int.reduceEq, Int.reduceLT, Int.reduceLE, Int.reduceAdd, Int.reduceSub, Int.reduceMul, Int.reduceNeg]
          · have this : ∀ u1 u9, K_Text_holds (d + 4) Q (30, [(2, T), u1, (2, L), (2, b), (0, m), (2, h), (0, iorI (ishlI x 1) 1), (0, e), (0, i + 1), u9], [], V, S, g) := this
            simp only [show ¬ s32 (b2 true) = 0 from by decide, this, b_s32, b_eq0, b_01, l0, l1, true_and, and_true, and_self, true_implies, false_implies, implies_true, forall_const, not_true_eq_false, not_false_eq_true, reduceIte, ite_true, ite_false, reduceCtorEq, forall_eq, Classical.not_not, true_or, or_true, false_or, or_false, and_false, false_and, Int.reduceEq, Int.reduceLT, Int.reduceLE, Int.reduceAdd, Int.reduceSub, Int.reduceMul, Int.reduceNeg]
theorem c_holds {t : Int} {c : CL} {v : Bool} (H : HKD V S L b h m) (hT : TSK V S t) (hc : CLok V t i c) (hi : 0 ≤ i ∧ i < 8) (hw : c.1 = 3 ∨ c.1 = 4) (hfx : ∀ f, 0 ≤ f → f ≤ 5 → fx f = fcv V L b h m f) (hv : RP fx c.2.2.2 v 11) (hQ : Q (b2 v) V S) : C_Text_holds (d + 5) (TA t) i L b m V S Q := by
  obtain ⟨⟨k1, k2, k3, k4, k5, k6, k7, k8, k9⟩, r1, r2, r3, r4⟩ := hT
  obtain ⟨-, hc⟩ := hc
  have hc : 0 ≤ V (TA t + 2) i ∧ V (TA t + 3) i = V (TA t + 2) i + (c.2.2.2.length : Int) ∧ V (TA t + 3) i ≤ 100 ∧ ∀ j : Nat, (hj : j < c.2.2.2.length) → V (TA t + 4) (V (TA t + 2) i + (j : Int)) = c.2.2.2[j] := by
    rcases hc with q | q
    · omega
    · exact q.2
  obtain ⟨c1, c2, c3, c4⟩ := hc
  have hr := hv [] (by show 0 + 11 ≤ 31; omega)
  have ho : okd c.2.2.2 0 := by
    have := hr.2 [] trivial
    rw [List.append_nil] at this
    exact this
  have g := fun u9 => c_hold_l (d := d) (g := (0, 0)) (v := v) (Q := Q) H (T := TA t) (A := TA t + 4) ⟨k1, r4, k5, k9⟩ hfx c3 c.2.2.2 [] 0 (V (TA t + 2) i) (0, i) u9 ⟨by show 0 ≤ 31; omega, fun j hj => absurd hj (Nat.not_lt_zero j)⟩ c1 c2.symm c4 ho hr.1 hQ
  obtain ⟨h1, h2, h3, h4, h5, h6, m0, m1, h7, h8⟩ := H
  rw [I_Text_holds]
  simp (disch := omega) only [h1, h7, h8, k1, I_Text_second, I_Text_first, r2, r3, c_val (d := d + 2) (V := V) (S := S) (A := TA t + 2) (i := i) k3 (by rw [k7]; omega) hi.1 (by rw [k7]; omega), c_val (d := d + 2) (V := V) (S := S) (A := TA t + 3) (i := i) k4 (by rw [k8]; omega) hi.1 (by rw [k8]; omega), g, b_s32, b_eq0, b_01, l0, l1, true_and, and_true, and_self, true_implies, false_implies, implies_true, forall_const, not_true_eq_false, not_false_eq_true, reduceIte, ite_true, ite_false, reduceCtorEq, forall_eq, Classical.not_not, true_or, or_true, false_or, or_false, and_false, false_and, Int.reduceEq, Int.reduceLT, Int.reduceLE, Int.reduceAdd, Int.reduceSub, Int.reduceMul, Int.reduceNeg]
end CV
section CH
variable {d M : Nat} {w day r L b h D : Int} {v : Bool} {V : Mem} {S : Shp} {Q : Int → Mem → Shp → Prop} {fx : Int → Int} {Dy : Int → Int} {C : Int → List CL} {trb : Bool}
/-- a ruling's clause, tried; what settles of off -/
noncomputable def OFFH (d : Nat) (C : Int → List CL) (w r L b m : Int) (V : Mem) (S : Shp) (Q : Int → Mem → Shp → Prop) : Prop := if r < 0 then Q 0 V S else C_Text_holds d (TA r) (la w 0 (C r)) L b m V S Q
def oft (r : Int) : Int := if r < 0 then -1 else TA r
noncomputable def ofc (C : Int → List CL) (r : Int) : Int := if r < 0 then -5 else la 4 0 (C r)
def OFS (V : Mem) (C : Int → List CL) (r : Int) : Prop := V 106 7 = oft r ∧ V 106 8 = ofc C r
/-- a ruling of fetch or off, tried: its text and its clause -/
theorem c_textHolds (h : TCT V S M Dy C trb) (hw : w = 3 ∨ w = 4) (hd : 0 ≤ day ∧ day ≤ 599) (hr : r = rulC Dy C w 0 day (cnt M trb)) (r0 : 0 ≤ r) {hm : Int} (hh : V L 10 = -1 ∨ HKD V S L b hm (day / 30)) (hk : S.1 L = 5) (hQ0 : V L 10 = -1 → Q 0 V S) (hQ1 : HKD V S L b hm (day / 30) → ∃ v, RP (fcv V L b hm (day / 30)) (clC C w 0 r).2.2.2 v 11 ∧ Q (b2 v) V S) : C_Text_holds (d + 5) (TA r) (la w 0 (C r)) L b (day / 30) V S Q := by
  obtain ⟨g1, g2⟩ := rvl_d h hr
  obtain ⟨a0, a3, a4, a5, a6, a7, a8, a9, a10, a11, a12⟩ := g2 (by omega)
  obtain ⟨p1, p2, p3⟩ := clC_p h hr (by omega)
  by_cases e : V L 10 = -1
  · have := hQ0 e
    rw [I_Text_holds]
    simp (disch := omega) only [hk, e, a10.1.1, s32_id, this, b_s32, b_eq0, b_01, l0, l1, true_and, and_true, and_self, true_implies, false_implies, implies_true, forall_const, not_true_eq_false, not_false_eq_true, reduceIte, ite_true, ite_false, reduceCtorEq, forall_eq, Classical.not_not, true_or, or_true, false_or, or_false, and_false, false_and, Int.reduceEq, Int.reduceLT, Int.reduceLE, Int.reduceAdd, Int.reduceSub, Int.reduceMul, Int.reduceNeg]
  · have H : HKD V S L b hm (day / 30) := hh.resolve_left e
    obtain ⟨v, hv, q⟩ := hQ1 H
    exact c_holds (d := d) H a10 p1 ⟨a5, by omega⟩ (by rw [p3]; exact hw) (fun f _ _ => rfl) hv q
theorem c_rulTA (h : TCT V S M Dy C trb) (hd : s32 day = day) (hr : r = rulC Dy C w 0 day (cnt M trb)) (r0 : 0 ≤ r) : s32 (rvl C w 0 r) = rvl C w 0 r ∧ (rvl C w 0 r).tmod 100 = la w 0 (C r) ∧ ¬ TA r = -1 := by
  obtain ⟨g1, g2⟩ := rvl_d h hr
  obtain ⟨a0, a3, a4, a5, a6, a7, a8, a9, a10, a11, a12⟩ := g2 (by omega)
  have hta := TA_ne (t := r) (by omega) (by omega)
  exact ⟨s32_id (by omega) (by omega), by rw [Int.tmod_eq_emod_of_nonneg a0.1]; exact a4, hta.2⟩
theorem c_offH (h : TCT V S M Dy C trb) (hw : w = 3 ∨ w = 4) (hd : 0 ≤ day ∧ day ≤ 599) (hr : r = rulC Dy C w 0 day (cnt M trb)) {hm : Int} (hh : V L 10 = -1 ∨ HKD V S L b hm (day / 30)) (hk : S.1 L = 5) (hQ0 : (r < 0 ∨ V L 10 = -1) → Q 0 V S) (hQ1 : 0 ≤ r → HKD V S L b hm (day / 30) → ∃ v, RP (fcv V L b hm (day / 30)) (clC C w 0 r).2.2.2 v 11 ∧ Q (b2 v) V S) : OFFH (d + 5) C w r L b (day / 30) V S Q := by
  unfold OFFH
  by_cases c : r < 0
  · rw [if_pos c]
    exact hQ0 (Or.inl c)
  · rw [if_neg c]
    exact c_textHolds (d := d) h hw hd hr (by omega) hh hk (fun e => hQ0 (Or.inr e)) (fun H => hQ1 (by omega) H)
theorem rvl_m (h : TCT V S M Dy C trb) (hr : r = rulC Dy C 4 0 day (cnt M trb)) : (s32 (rvl C 4 0 r)).tmod (s32 100) = ofc C r := by
  obtain ⟨g1, g2⟩ := rvl_d h hr
  rw [s32_id (x := 100) (by omega) (by omega)]
  unfold ofc
  by_cases c : r < 0
  · have e5 : (-5 : Int).tmod 100 = -5 := by decide
    rw [if_pos c, g1 c, s32_id (by omega) (by omega), e5]
  · rw [if_neg c]
    obtain ⟨a0, a3, a4, -⟩ := g2 (by omega)
    rw [s32_id (by omega) (by omega), Int.tmod_eq_emod_of_nonneg a0.1]
    exact a4
end CH
