/-! the component's texts: which clause is in force -/
noncomputable def rulC (D : Int → Int) (C : Int → List CL) (aw ac day : Int) : Nat → Int
  | 0 => -1
  | N + 1 => if D (N : Int) ≤ day ∧ 0 ≤ la aw ac (C (N : Int)) ∧ (rulC D C aw ac day N < 0 ∨ D (rulC D C aw ac day N) ≤ D (N : Int)) then (N : Int) else rulC D C aw ac day N
def TCT (V : Mem) (S : Shp) (M : Nat) (D : Int → Int) (C : Int → List CL) (trb : Bool) : Prop := FS S ∧ FV V ∧ (V 106 1 = (M : Int) ∧ M ≤ 10) ∧ V 106 2 = TA (M : Int) ∧ V 106 3 = b2 trb ∧ (∀ t, 0 ≤ t → t < (M : Int) → V 107 t = TA t) ∧ (∀ t, 0 ≤ t → (t < (M : Int) ∨ (t = (M : Int) ∧ trb = true)) → TSK V S t ∧ V (TA t) 0 = D t ∧ (0 ≤ D t ∧ D t ≤ 599) ∧ TXC V t (C t) ∧ ∀ c ∈ C t, CLr c)
def cnt (M : Nat) (trb : Bool) : Nat := bif trb then M + 1 else M
noncomputable def rvl (C : Int → List CL) (aw ac r : Int) : Int := if r < 0 then -5 else 100 * r + la aw ac (C r)
noncomputable def clC (C : Int → List CL) (aw ac r : Int) : CL := ((C r)[(la aw ac (C r)).toNat]?).getD (0, 0, 0, [])
section CU
variable {d M : Nat} {t w ac day r k : Int} {V V' : Mem} {S : Shp} {Q : Int → Mem → Shp → Prop} {D : Int → Int} {C : Int → List CL} {trb : Bool} {cs : List CL}
theorem rulC_r (D : Int → Int) (C : Int → List CL) (aw ac day : Int) : ∀ N : Nat, -1 ≤ rulC D C aw ac day N ∧ rulC D C aw ac day N < (N : Int) ∧ (0 ≤ rulC D C aw ac day N → 0 ≤ la aw ac (C (rulC D C aw ac day N)))
  | 0 => ⟨Int.le_refl _, by show (-1 : Int) < ((0 : Nat) : Int); omega, fun q => by have q : (0 : Int) ≤ -1 := q; omega⟩
  | N + 1 => by
    obtain ⟨h1, h2, h3⟩ := rulC_r D C aw ac day N
    unfold rulC
    by_cases c1 : D (N : Int) ≤ day ∧ 0 ≤ la aw ac (C (N : Int)) ∧ (rulC D C aw ac day N < 0 ∨ D (rulC D C aw ac day N) ≤ D (N : Int))
    · rw [if_pos c1]
      exact ⟨by omega, by omega, fun _ => c1.2.1⟩
    · rw [if_neg c1]
      exact ⟨h1, by omega, h3⟩
theorem cnt_lt {x : Int} : ∀ {trb : Bool}, x < (cnt M trb : Int) → x < (M : Int) ∨ (x = (M : Int) ∧ trb = true)
  | false, h => Or.inl h
  | true, h => by
    have h : x < ((M + 1 : Nat) : Int) := h
    by_cases c : x < (M : Int)
    · exact Or.inl c
    · exact Or.inr ⟨by omega, rfl⟩
theorem TA_ne {t : Int} (h0 : 0 ≤ t) (h1 : t ≤ 10) : 108 ≤ TA t ∧ ¬ TA t = -1 := by
  unfold TA
  omega
theorem c_textAt (h : TCT V S M D C trb) (hk : s32 k = k) (hQ : Q (if 0 ≤ k ∧ k < (cnt M trb : Int) then TA k else -1) V S) : C_Terms_textAt (d + 1) 106 k V S Q := by
  obtain ⟨hS, hV, ⟨h1, h2⟩, h3, h4, h5, h6⟩ := h
  have hs : s32 (V 106 1) = (M : Int) := by rw [h1]; exact s32_id (by omega) (by omega)
  rw [I_Terms_textAt]
  cases trb
  · have h4 : V 106 3 = 0 := h4
    have hc : (cnt M false : Int) = (M : Int) := rfl
    rw [hc] at hQ
    by_cases c1 : 0 ≤ k ∧ k < (M : Int)
    · rw [if_pos c1] at hQ
      have h5k := h5 k c1.1 c1.2
      simp (disch := omega) only [hS.k106, hs, hk, h4, s32_id (x := 0), s32_id (x := 10), hV.r106_0, hS.k107, hS.n107, h5k, show ¬ k = (M : Int) from by omega, show ¬ k < 0 from by omega, c1, show k < 10 from by omega, hQ, b_s32, b_eq0, b_01, l0, l1, true_and, and_true, and_self, true_implies, false_implies, implies_true, forall_const, not_true_eq_false, not_false_eq_true, reduceIte, ite_true, ite_false, reduceCtorEq, forall_eq, Classical.not_not, true_or, or_true, false_or, or_false, and_false, false_and, Int.reduceEq, Int.reduceLT, Int.reduceLE, Int.reduceAdd, Int.reduceSub, Int.reduceMul, Int.reduceNeg]
    · rw [if_neg c1] at hQ
      by_cases c2 : k = (M : Int)
      · by_cases c3 : k < 0
        · omega
        · subst c2
          simp (disch := omega) only [hS.k106, hs, hk, h4, s32_id (x := 0), show ¬ (M : Int) < 0 from by omega, show ¬ (M : Int) < (M : Int) from by omega, hQ, b_s32, b_eq0, b_01, l0, l1, true_and, and_true, and_self, true_implies, false_implies, implies_true, forall_const, not_true_eq_false, not_false_eq_true, reduceIte, ite_true, ite_false, reduceCtorEq, forall_eq, Classical.not_not, true_or, or_true, false_or, or_false, and_false, false_and, Int.reduceEq, Int.reduceLT, Int.reduceLE, Int.reduceAdd, Int.reduceSub, Int.reduceMul, Int.reduceNeg]
      · by_cases c3 : k < 0
        · simp (disch := omega) only [hS.k106, hs, hk, c2, c3, hQ, b_s32, b_eq0, b_01, l0, l1, true_and, and_true, and_self, true_implies, false_implies, implies_true, forall_const, not_true_eq_false, not_false_eq_true, reduceIte, ite_true, ite_false, reduceCtorEq, forall_eq, Classical.not_not, true_or, or_true, false_or, or_false, and_false, false_and, Int.reduceEq, Int.reduceLT, Int.reduceLE, Int.reduceAdd, Int.reduceSub, Int.reduceMul, Int.reduceNeg]
        · simp (disch := omega) only [hS.k106, hs, hk, c2, c3, show ¬ k < (M : Int) from by omega, hQ, b_s32, b_eq0, b_01, l0, l1, true_and, and_true, and_self, true_implies, false_implies, implies_true, forall_const, not_true_eq_false, not_false_eq_true, reduceIte, ite_true, ite_false, reduceCtorEq, forall_eq, Classical.not_not, true_or, or_true, false_or, or_false, and_false, false_and, Int.reduceEq, Int.reduceLT, Int.reduceLE, Int.reduceAdd, Int.reduceSub, Int.reduceMul, Int.reduceNeg]
  · have h4 : V 106 3 = 1 := h4
    have hc : (cnt M true : Int) = (M : Int) + 1 := by show ((M + 1 : Nat) : Int) = _; omega
    rw [hc] at hQ
    by_cases c2 : k = (M : Int)
    · rw [if_pos (by omega)] at hQ
      subst c2
      simp (disch := omega) only [hS.k106, hs, hk, h4, s32_id (x := 1), h3, hQ, b_s32, b_eq0, b_01, l0, l1, true_and, and_true, and_self, true_implies, false_implies, implies_true, forall_const, not_true_eq_false, not_false_eq_true, reduceIte, ite_true, ite_false, reduceCtorEq, forall_eq, Classical.not_not, true_or, or_true, false_or, or_false, and_false, false_and, Int.reduceEq, Int.reduceLT, Int.reduceLE, Int.reduceAdd, Int.reduceSub, Int.reduceMul, Int.reduceNeg]
    · by_cases c1 : 0 ≤ k ∧ k < (M : Int)
      · rw [if_pos (by omega)] at hQ
        have h5k := h5 k c1.1 c1.2
        simp (disch := omega) only [hS.k106, hs, hk, s32_id (x := 10), hV.r106_0, hS.k107, hS.n107, h5k, c2, show ¬ k < 0 from by omega, c1, show k < 10 from by omega, hQ, b_s32, b_eq0, b_01, l0, l1, true_and, and_true, and_self, true_implies, false_implies, implies_true, forall_const, not_true_eq_false, not_false_eq_true, reduceIte, ite_true, ite_false, reduceCtorEq, forall_eq, Classical.not_not, true_or, or_true, false_or, or_false, and_false, false_and, Int.reduceEq, Int.reduceLT, Int.reduceLE, Int.reduceAdd, Int.reduceSub, Int.reduceMul, Int.reduceNeg]
      · rw [if_neg (by omega)] at hQ
        by_cases c3 : k < 0
        · simp (disch := omega) only [hS.k106, hs, hk, c2, c3, hQ, b_s32, b_eq0, b_01, l0, l1, true_and, and_true, and_self, true_implies, false_implies, implies_true, forall_const, not_true_eq_false, not_false_eq_true, reduceIte, ite_true, ite_false, reduceCtorEq, forall_eq, Classical.not_not, true_or, or_true, false_or, or_false, and_false, false_and, Int.reduceEq, Int.reduceLT, Int.reduceLE, Int.reduceAdd, Int.reduceSub, Int.reduceMul, Int.reduceNeg]
        · simp (disch := omega) only [hS.k106, hs, hk, c2, c3, show ¬ k < (M : Int) from by omega, hQ, b_s32, b_eq0, b_01, l0, l1, true_and, and_true, and_self, true_implies, false_implies, implies_true, forall_const, not_true_eq_false, not_false_eq_true, reduceIte, ite_true, ite_false, reduceCtorEq, forall_eq, Classical.not_not, true_or, or_true, false_or, or_false, and_false, false_and, Int.reduceEq, Int.reduceLT, Int.reduceLE, Int.reduceAdd, Int.reduceSub, Int.reduceMul, Int.reduceNeg]
theorem c_val {A i : Int} (hk : S.1 A = 100) (hn : 0 ≤ S.2.1 A ∧ S.2.1 A ≤ 100000) (h0 : 0 ≤ i) (h1 : i < S.2.1 A) : C_x_valueAt (d + 1) A i V S Q ↔ Q (V A i) V S := by
  rw [p_valueAt _ _ _ _ _ _ (Or.inl hk) (by omega), s32_id (x := i) (by omega) (by omega), if_pos ⟨h0, h1⟩]
theorem c_lastOf_l {g : Cnt} (hT : TSK V S t) (hX : TXC V t cs) (hr : ∀ c ∈ cs, CLr c) (hw : 0 ≤ w ∧ w ≤ 4) (hac : s32 ac = ac) : ∀ (N : Nat), N ≤ cs.length → Q (la w ac (cs.take N)) V S → K_Text_lastOf (d + 3) Q (7, [(2, TA t), (0, w), (0, ac), (0, (N : Int) - 1)], [], V, S, g) := by
  obtain ⟨⟨k1, k2, k3, k4, k5, k6, k7, k8, k9⟩, r1, r2, r3, r4⟩ := hT
  obtain ⟨x1, x2, x3⟩ := hX
  intro N
  induction N with
  | zero =>
    intro _ hQ
    rw [L_Text_lastOf_7]
    have hQ : Q (-1) V S := hQ
    simp (disch := omega) only [s32_id, show ((0 : Nat) : Int) - 1 < 0 from by omega, hQ, b_s32, b_eq0, b_01, l0, l1, true_and, and_true, and_self, true_implies, false_implies, implies_true, forall_const, not_true_eq_false, not_false_eq_true, reduceIte, ite_true, ite_false, reduceCtorEq, forall_eq, Classical.not_not, true_or, or_true, false_or, or_false, and_false, false_and, Int.reduceEq, Int.reduceLT, Int.reduceLE, Int.reduceAdd, Int.reduceSub, Int.reduceMul, Int.reduceNeg]
  | succ N ih =>
    intro hN hQ
    have hlt : N < cs.length := by omega
    have hc := x3 N hlt
    have hcr := hr cs[N] (List.getElem_mem hlt)
    obtain ⟨c1, c2⟩ := hc
    have e1 : ((N + 1 : Nat) : Int) - 1 = (N : Int) := by omega
    have e2 : (N : Int) + -1 = (N : Int) - 1 := by omega
    have hts : la w ac (cs.take (N + 1)) = if (cs[N]).1 = w ∧ (w ≠ 0 ∨ (cs[N]).2.1 = ac) then (N : Int) else la w ac (cs.take N) := by
      rw [List.take_succ_eq_append_getElem hlt, la_s, List.length_take, Nat.min_eq_left (by omega)]
    rw [hts] at hQ
    have ih' := ih (by omega)
    have sw : s32 w = w := s32_id (by omega) (by omega)
    have sc : s32 (cs[N]).1 = (cs[N]).1 := s32_id (by have := hcr.1; omega) (by have := hcr.1; omega)
    rw [e1, L_Text_lastOf_7]
    simp (disch := omega) only [s32_id (x := (N : Int)), show ¬ (N : Int) < 0 from by omega, k1, r1, c_val (d := d + 2) (A := TA t + 1) (i := (N : Int)) k2 (by rw [k6]; omega) (by omega) (by rw [k6]; omega), c1, sc, sw, e2, b_s32, b_eq0, b_01, l0, l1, true_and, and_true, and_self, true_implies, false_implies, implies_true, forall_const, not_true_eq_false, not_false_eq_true, reduceIte, ite_true, ite_false, reduceCtorEq, forall_eq, Classical.not_not, true_or, or_true, false_or, or_false, and_false, false_and, Int.reduceEq, Int.reduceLT, Int.reduceLE, Int.reduceAdd, Int.reduceSub, Int.reduceMul, Int.reduceNeg]
    by_cases d1 : (cs[N]).1 = w
    · by_cases d2 : w = 0
      · have hfst : V (TA t + 2) (N : Int) = (cs[N]).2.1 := by
          rcases c2 with q | q
          · exact q.2.2.1
          · omega
        have sf : s32 (cs[N]).2.1 = (cs[N]).2.1 := s32_id (by have := hcr.2.1; omega) (by have := hcr.2.1; omega)
        simp (disch := omega) only [d1, d2, k1, r2, c_val (d := d + 2) (A := TA t + 2) (i := (N : Int)) k3 (by rw [k7]; omega) (by omega) (by rw [k7]; omega), hfst, sf, hac, b_s32, b_eq0, b_01, l0, l1, true_and, and_true, and_self, true_implies, false_implies, implies_true, forall_const, not_true_eq_false, not_false_eq_true, reduceIte, ite_true, ite_false, reduceCtorEq, forall_eq, Classical.not_not, true_or, or_true, false_or, or_false, and_false, false_and, Int.reduceEq, Int.reduceLT, Int.reduceLE, Int.reduceAdd, Int.reduceSub, Int.reduceMul, Int.reduceNeg]
        rw [d2] at hQ d1
        by_cases d3 : (cs[N]).2.1 = ac
        · rw [if_pos ⟨d1, Or.inr d3⟩] at hQ
          simp only [d3, hQ, b_s32, b_eq0, b_01, l0, l1, true_and, and_true, and_self, true_implies, false_implies, implies_true, forall_const, not_true_eq_false, not_false_eq_true, reduceIte, ite_true, ite_false, reduceCtorEq, forall_eq, Classical.not_not, true_or, or_true, false_or, or_false, and_false, false_and, Int.reduceEq, Int.reduceLT, Int.reduceLE, Int.reduceAdd, Int.reduceSub, Int.reduceMul, Int.reduceNeg]
        · rw [if_neg (fun q => q.2.elim (fun z => z rfl) d3)] at hQ
          have := ih' (by rw [d2]; exact hQ)
          rw [d2] at this
          simp only [d3, this, b_s32, b_eq0, b_01, l0, l1, true_and, and_true, and_self, true_implies, false_implies, implies_true, forall_const, not_true_eq_false, not_false_eq_true, reduceIte, ite_true, ite_false, reduceCtorEq, forall_eq, Classical.not_not, true_or, or_true, false_or, or_false, and_false, false_and, Int.reduceEq, Int.reduceLT, Int.reduceLE, Int.reduceAdd, Int.reduceSub, Int.reduceMul, Int.reduceNeg]
      · rw [if_pos ⟨d1, Or.inl d2⟩] at hQ
        simp only [d1, d2, hQ, b_s32, b_eq0, b_01, l0, l1, true_and, and_true, and_self, true_implies, false_implies, implies_true, forall_const, not_true_eq_false, not_false_eq_true, reduceIte, ite_true, ite_false, reduceCtorEq, forall_eq, Classical.not_not, true_or, or_true, false_or, or_false, and_false, false_and, Int.reduceEq, Int.reduceLT, Int.reduceLE, Int.reduceAdd, Int.reduceSub, Int.reduceMul, Int.reduceNeg]
    · rw [if_neg (fun q => d1 q.1)] at hQ
      have := ih' hQ
      simp only [d1, this, b_s32, b_eq0, b_01, l0, l1, true_and, and_true, and_self, true_implies, false_implies, implies_true, forall_const, not_true_eq_false, not_false_eq_true, reduceIte, ite_true, ite_false, reduceCtorEq, forall_eq, Classical.not_not, true_or, or_true, false_or, or_false, and_false, false_and, Int.reduceEq, Int.reduceLT, Int.reduceLE, Int.reduceAdd, Int.reduceSub, Int.reduceMul, Int.reduceNeg]
theorem c_lastOf (hT : TSK V S t) (hX : TXC V t cs) (hr : ∀ c ∈ cs, CLr c) (hw : 0 ≤ w ∧ w ≤ 4) (hac : s32 ac = ac) (hQ : Q (la w ac cs) V S) : C_Text_lastOf (d + 4) (TA t) w ac V S Q := by
  have hX' := hX
  obtain ⟨x1, x2, x3⟩ := hX
  rw [I_Text_lastOf, hT.1.1, x1]
  refine ⟨rfl, rfl, c_lastOf_l hT hX' hr hw hac cs.length (Nat.le_refl _) ?_⟩
  rw [List.take_length]
  exact hQ
theorem c_ruling_l (h : TCT V S M D C trb) (hw : 0 ≤ w ∧ w ≤ 4) (hac : s32 ac = ac) (hd : s32 day = day) (hQ : Q (rvl C w ac (rulC D C w ac day (cnt M trb))) V S) : ∀ (N k : Nat) (u7 u8 : XV) (g : Cnt), N + k = M + 1 → K_Terms_rulingOf (d + 5) Q (10, [(2, 106), (0, w), (0, day), (0, ac), (0, rvl C w ac (rulC D C w ac day (if k ≤ cnt M trb then k else cnt M trb))), (0, if rulC D C w ac day (if k ≤ cnt M trb then k else cnt M trb) < 0 then -1 else D (rulC D C w ac day (if k ≤ cnt M trb then k else cnt M trb))), (0, (k : Int)), u7, u8], [], V, S, g) := by
  have h' := h
  obtain ⟨hS, hV, ⟨h1, h2⟩, h3, h4, h5, h6⟩ := h
  have hcn : cnt M trb = M ∨ (cnt M trb = M + 1 ∧ trb = true) := by
    cases trb
    · exact Or.inl rfl
    · exact Or.inr ⟨rfl, rfl⟩
  intro N
  induction N with
  | zero =>
    intro k u7 u8 g hN
    have hk : (if k ≤ cnt M trb then k else cnt M trb) = cnt M trb := by split <;> omega
    rw [hk, L_Terms_rulingOf_10]
    simp (disch := omega) only [hS.k106, h1, s32_id (x := (M : Int)), s32_id (x := (k : Int)), show (M : Int) < (k : Int) from by omega, hQ, b_s32, b_eq0, b_01, l0, l1, true_and, and_true, and_self, true_implies, false_implies, implies_true, forall_const, not_true_eq_false, not_false_eq_true, reduceIte, ite_true, ite_false, reduceCtorEq, forall_eq, Classical.not_not, true_or, or_true, false_or, or_false, and_false, false_and, Int.reduceEq, Int.reduceLT, Int.reduceLE, Int.reduceAdd, Int.reduceSub, Int.reduceMul, Int.reduceNeg]
  | succ N ih =>
    intro k u7 u8 g hN
    have ih' := fun u7 u8 => ih (k + 1) u7 u8 g (by omega)
    have ek : ((k + 1 : Nat) : Int) = (k : Int) + 1 := by omega
    rw [ek] at ih'
    have hkM : k ≤ M := by omega
    rw [L_Terms_rulingOf_10]
    simp (disch := omega) only [hS.k106, h1, s32_id (x := (M : Int)), s32_id (x := (k : Int)), show ¬ (M : Int) < (k : Int) from by omega, b_s32, b_eq0, b_01, l0, l1, true_and, and_true, and_self, true_implies, false_implies, implies_true, forall_const, not_true_eq_false, not_false_eq_true, reduceIte, ite_true, ite_false, reduceCtorEq, forall_eq, Classical.not_not, true_or, or_true, false_or, or_false, and_false, false_and, Int.reduceEq, Int.reduceLT, Int.reduceLE, Int.reduceAdd, Int.reduceSub, Int.reduceMul, Int.reduceNeg]
    refine c_textAt (d := d + 4) h' (s32_id (by omega) (by omega)) ?_
    by_cases c1 : (k : Int) < (cnt M trb : Int)
    · have c1n : k < cnt M trb := by omega
      rw [if_pos ⟨by omega, c1⟩]
      obtain ⟨g1, g2, g3, g4, g5⟩ := h6 (k : Int) (by omega) (cnt_lt c1)
      have hta := TA_ne (t := (k : Int)) (by omega) (by omega)
      rw [if_pos (by omega)] at ih'
      rw [if_pos (by omega)]
      have hs : rulC D C w ac day (k + 1) = if D (k : Int) ≤ day ∧ 0 ≤ la w ac (C (k : Int)) ∧ (rulC D C w ac day k < 0 ∨ D (rulC D C w ac day k) ≤ D (k : Int)) then (k : Int) else rulC D C w ac day k := rfl
      obtain ⟨r1, r2, r3⟩ := rulC_r D C w ac day k
      have sD : s32 (D (k : Int)) = D (k : Int) := s32_id (by omega) (by omega)
      have dr : 0 ≤ rulC D C w ac day k → 0 ≤ D (rulC D C w ac day k) ∧ D (rulC D C w ac day k) ≤ 599 := fun q => (h6 _ q (cnt_lt (by omega))).2.2.1
      obtain ⟨G, hG⟩ : ∃ G : Int, G = if rulC D C w ac day k < 0 then -1 else D (rulC D C w ac day k) := ⟨_, rfl⟩
      have hG2 : (rulC D C w ac day k < 0 ∧ G = -1) ∨ (0 ≤ rulC D C w ac day k ∧ G = D (rulC D C w ac day k) ∧ 0 ≤ G ∧ G ≤ 599) := by
        by_cases q : rulC D C w ac day k < 0
        · rw [if_pos q] at hG; exact Or.inl ⟨q, hG⟩
        · rw [if_neg q] at hG
          have := dr (by omega)
          exact Or.inr ⟨by omega, hG, by omega, by omega⟩
      rw [← hG]
      have sG : s32 G = G := s32_id (by omega) (by omega)
      by_cases c2 : day < D (k : Int)
      · rw [if_neg (by omega)] at hs
        rw [hs, ← hG] at ih'
        simp (disch := omega) only [hta, g1.1.1, g2, sD, hd, c2, ih', b_s32, b_eq0, b_01, l0, l1, true_and, and_true, and_self, true_implies, false_implies, implies_true, forall_const, not_true_eq_false, not_false_eq_true, reduceIte, ite_true, ite_false, reduceCtorEq, forall_eq, Classical.not_not, true_or, or_true, false_or, or_false, and_false, false_and, Int.reduceEq, Int.reduceLT, Int.reduceLE, Int.reduceAdd, Int.reduceSub, Int.reduceMul, Int.reduceNeg]
      · by_cases c3 : D (k : Int) < G
        · rw [if_neg (by omega)] at hs
          rw [hs, ← hG] at ih'
          simp (disch := omega) only [hta, g1.1.1, g2, sD, sG, hd, c2, c3, ih', b_s32, b_eq0, b_01, l0, l1, true_and, and_true, and_self, true_implies, false_implies, implies_true, forall_const, not_true_eq_false, not_false_eq_true, reduceIte, ite_true, ite_false, reduceCtorEq, forall_eq, Classical.not_not, true_or, or_true, false_or, or_false, and_false, false_and, Int.reduceEq, Int.reduceLT, Int.reduceLE, Int.reduceAdd, Int.reduceSub, Int.reduceMul, Int.reduceNeg]
        · simp (disch := omega) only [hta, g1.1.1, g2, sD, sG, hd, c2, c3, b_s32, b_eq0, b_01, l0, l1, true_and, and_true, and_self, true_implies, false_implies, implies_true, forall_const, not_true_eq_false, not_false_eq_true, reduceIte, ite_true, ite_false, reduceCtorEq, forall_eq, Classical.not_not, true_or, or_true, false_or, or_false, and_false, false_and, Int.reduceEq, Int.reduceLT, Int.reduceLE, Int.reduceAdd, Int.reduceSub, Int.reduceMul, Int.reduceNeg]
          refine c_lastOf (d := d + 1) g1 g4 g5 hw hac ?_
          have hla := la_r w ac (C (k : Int))
          have hlen := g4.2.1
          have sl : s32 (la w ac (C (k : Int))) = la w ac (C (k : Int)) := s32_id (by omega) (by omega)
          by_cases c4 : la w ac (C (k : Int)) < 0
          · rw [if_neg (by omega)] at hs
            rw [hs, ← hG] at ih'
            simp (disch := omega) only [sl, c4, ih', b_s32, b_eq0, b_01, l0, l1, true_and, and_true, and_self, true_implies, false_implies, implies_true, forall_const, not_true_eq_false, not_false_eq_true, reduceIte, ite_true, ite_false, reduceCtorEq, forall_eq, Classical.not_not, true_or, or_true, false_or, or_false, and_false, false_and, Int.reduceEq, Int.reduceLT, Int.reduceLE, Int.reduceAdd, Int.reduceSub, Int.reduceMul, Int.reduceNeg]
          · rw [if_pos (by omega)] at hs
            rw [hs, if_neg (show ¬ (k : Int) < 0 by omega)] at ih'
            have hrv : rvl C w ac (k : Int) = 100 * (k : Int) + la w ac (C (k : Int)) := by unfold rvl; rw [if_neg (by omega)]
            rw [hrv] at ih'
            simp (disch := omega) only [sl, c4, g1.1.1, g2, ih', b_s32, b_eq0, b_01, l0, l1, true_and, and_true, and_self, true_implies, false_implies, implies_true, forall_const, not_true_eq_false, not_false_eq_true, reduceIte, ite_true, ite_false, reduceCtorEq, forall_eq, Classical.not_not, true_or, or_true, false_or, or_false, and_false, false_and, Int.reduceEq, Int.reduceLT, Int.reduceLE, Int.reduceAdd, Int.reduceSub, Int.reduceMul, Int.reduceNeg]
    · rw [if_neg (fun q => c1 q.2)]
      have hk1 : (if k ≤ cnt M trb then k else cnt M trb) = cnt M trb := by split <;> omega
      have hk2 : (if k + 1 ≤ cnt M trb then k + 1 else cnt M trb) = cnt M trb := by split <;> omega
      rw [hk2] at ih'
      rw [hk1]
      simp only [ih', b_s32, b_eq0, b_01, l0, l1, true_and, and_true, and_self, true_implies, false_implies, implies_true, forall_const, not_true_eq_false, not_false_eq_true, reduceIte, ite_true, ite_false, reduceCtorEq, forall_eq, Classical.not_not, true_or, or_true, false_or, or_false, and_false, false_and, Int.reduceEq, Int.reduceLT, Int.reduceLE, Int.reduceAdd, Int.reduceSub, Int.reduceMul, Int.reduceNeg]
theorem c_rulingOf (h : TCT V S M D C trb) (hw : 0 ≤ w ∧ w ≤ 4) (hac : s32 ac = ac) (hd : s32 day = day) (hQ : Q (rvl C w ac (rulC D C w ac day (cnt M trb))) V S) : C_Terms_rulingOf (d + 6) 106 w day ac V S Q := by
  rw [I_Terms_rulingOf, h.1.k106]
  have := c_ruling_l (d := d) h hw hac hd hQ (M + 1) 0 (9, 0) (9, 0) (0, 0) (by omega)
  exact ⟨rfl, this⟩
theorem rvl_d (h : TCT V S M D C trb) (hr : r = rulC D C w ac day (cnt M trb)) : (r < 0 → rvl C w ac r = -5) ∧ (0 ≤ r → (0 ≤ rvl C w ac r ∧ rvl C w ac r ≤ 1200) ∧ rvl C w ac r / 100 = r ∧ rvl C w ac r % 100 = la w ac (C r) ∧ 0 ≤ la w ac (C r) ∧ la w ac (C r) < ((C r).length : Int) ∧ (C r).length ≤ 8 ∧ r < (cnt M trb : Int) ∧ r ≤ 10 ∧ TSK V S r ∧ TXC V r (C r) ∧ (∀ c ∈ C r, CLr c)) := by
  obtain ⟨hS, hV, ⟨h1, h2⟩, h3, h4, h5, h6⟩ := h
  obtain ⟨r1, r2, r3⟩ := rulC_r D C w ac day (cnt M trb)
  rw [← hr] at r1 r2 r3
  have hcn : cnt M trb = M ∨ (cnt M trb = M + 1 ∧ trb = true) := by
    cases trb
    · exact Or.inl rfl
    · exact Or.inr ⟨rfl, rfl⟩
  refine ⟨fun q => by unfold rvl; rw [if_pos q], fun q => ?_⟩
  obtain ⟨g1, g2, g3, g4, g5⟩ := h6 r q (cnt_lt r2)
  have hla := la_r w ac (C r)
  have hlen := g4.2.1
  have h0 := r3 q
  have hv : rvl C w ac r = 100 * r + la w ac (C r) := by unfold rvl; rw [if_neg (by omega)]
  have hr10 : r ≤ 10 := by rcases hcn with q | q <;> omega
  rw [hv]
  exact ⟨⟨by omega, by omega⟩, by omega, by omega, h0, hla.2, hlen, r2, hr10, g1, g4, g5⟩
theorem c_textOf (h : TCT V S M D C trb) (hr : r = rulC D C w ac day (cnt M trb)) (hQ : Q (if r < 0 then -1 else TA r) V S) : C_Terms_textOf (d + 2) 106 (rvl C w ac r) V S Q := by
  obtain ⟨g1, g2⟩ := rvl_d h hr
  rw [I_Terms_textOf, h.1.k106]
  by_cases c : r < 0
  · rw [if_pos c] at hQ
    simp (disch := omega) only [g1 c, s32_id, hQ, b_s32, b_eq0, b_01, l0, l1, true_and, and_true, and_self, true_implies, false_implies, implies_true, forall_const, not_true_eq_false, not_false_eq_true, reduceIte, ite_true, ite_false, reduceCtorEq, forall_eq, Classical.not_not, true_or, or_true, false_or, or_false, and_false, false_and, Int.reduceEq, Int.reduceLT, Int.reduceLE, Int.reduceAdd, Int.reduceSub, Int.reduceMul, Int.reduceNeg]
  · rw [if_neg c] at hQ
    obtain ⟨⟨a1, a2⟩, a3, a4, a5, a6, a7, a8, a9, a10⟩ := g2 (by omega)
    have ed : (rvl C w ac r).tdiv 100 = r := by rw [Int.tdiv_eq_ediv_of_nonneg a1]; exact a3
    simp (disch := omega) only [s32_id (x := rvl C w ac r), s32_id (x := 100), show ¬ rvl C w ac r < 0 from by omega, ed, ne_eq, b_s32, b_eq0, b_01, l0, l1, true_and, and_true, and_self, true_implies, false_implies, implies_true, forall_const, not_true_eq_false, not_false_eq_true, reduceIte, ite_true, ite_false, reduceCtorEq, forall_eq, Classical.not_not, true_or, or_true, false_or, or_false, and_false, false_and, Int.reduceEq, Int.reduceLT, Int.reduceLE, Int.reduceAdd, Int.reduceSub, Int.reduceMul, Int.reduceNeg]
    refine c_textAt h (s32_id (by omega) (by omega)) ?_
    rw [if_pos ⟨by omega, a8⟩]
    exact hQ
theorem clC_e (h0 : 0 ≤ la w ac (C r)) (h1 : la w ac (C r) < ((C r).length : Int)) : clC C w ac r = (C r)[(la w ac (C r)).toNat]'(by omega) := by
  unfold clC
  rw [List.getElem?_eq_getElem (by omega)]
  rfl
theorem la_hit (aw ac : Int) : ∀ (cs : List CL) (N : Nat) (hN : N ≤ cs.length), 0 ≤ la aw ac (cs.take N) → ∃ (j : Nat) (hj : j < cs.length), la aw ac (cs.take N) = (j : Int) ∧ (cs[j]).1 = aw := by
  intro cs N
  induction N with
  | zero =>
    intro _ h
    have : la aw ac (cs.take 0) = -1 := rfl
    omega
  | succ N ih =>
    intro hN h
    have hlt : N < cs.length := by omega
    have hts : la aw ac (cs.take (N + 1)) = if (cs[N]).1 = aw ∧ (aw ≠ 0 ∨ (cs[N]).2.1 = ac) then (N : Int) else la aw ac (cs.take N) := by
      rw [List.take_succ_eq_append_getElem hlt, la_s, List.length_take, Nat.min_eq_left (by omega)]
    rw [hts] at h ⊢
    by_cases c : (cs[N]).1 = aw ∧ (aw ≠ 0 ∨ (cs[N]).2.1 = ac)
    · rw [if_pos c]
      exact ⟨N, hlt, rfl, c.1⟩
    · rw [if_neg c] at h ⊢
      exact ih (by omega) h
theorem clC_p (h : TCT V S M D C trb) (hr : r = rulC D C w ac day (cnt M trb)) (h0 : 0 ≤ r) : CLok V r (la w ac (C r)) (clC C w ac r) ∧ CLr (clC C w ac r) ∧ (clC C w ac r).1 = w := by
  obtain ⟨-, g2⟩ := rvl_d h hr
  obtain ⟨-, -, -, a5, a6, a7, -, -, a11, a12, a13⟩ := g2 h0
  have e := clC_e a5 a6
  obtain ⟨x1, x2, x3⟩ := a12
  have hlt : (la w ac (C r)).toNat < (C r).length := by omega
  have h1 := x3 _ hlt
  rw [show (((la w ac (C r)).toNat : Nat) : Int) = la w ac (C r) from by omega] at h1
  obtain ⟨j, hj, e1, e2⟩ := la_hit w ac (C r) (C r).length (Nat.le_refl _) (by rw [List.take_length]; exact a5)
  rw [List.take_length] at e1
  have ej : (la w ac (C r)).toNat = j := by omega
  rw [e]
  refine ⟨h1, a13 _ (List.getElem_mem hlt), ?_⟩
  subst ej
  exact e2
theorem c_numberOf (h : TCT V S M D C trb) (hw : w = 1 ∨ w = 2) (hd : s32 day = day) (hQ : Q (if rulC D C w 0 day (cnt M trb) < 0 then 0 else nbc (clC C w 0 (rulC D C w 0 day (cnt M trb)))) V S) : C_Terms_numberOf (d + 7) 106 w day V S Q := by
  obtain ⟨r, hr⟩ : ∃ r, r = rulC D C w 0 day (cnt M trb) := ⟨_, rfl⟩
  rw [← hr] at hQ
  rw [I_Terms_numberOf, h.1.k106]
  refine ⟨rfl, c_rulingOf h (by omega) l0 hd ?_⟩
  rw [← hr]
  refine c_textOf (d := d + 4) h hr ?_
  obtain ⟨-, g2⟩ := rvl_d h hr
  by_cases c : r < 0
  · rw [if_pos c] at hQ ⊢
    simp only [hQ, b_s32, b_eq0, b_01, l0, l1, true_and, and_true, and_self, true_implies, false_implies, implies_true, forall_const, not_true_eq_false, not_false_eq_true, reduceIte, ite_true, ite_false, reduceCtorEq, forall_eq, Classical.not_not, true_or, or_true, false_or, or_false, and_false, false_and, Int.reduceEq, Int.reduceLT, Int.reduceLE, Int.reduceAdd, Int.reduceSub, Int.reduceMul, Int.reduceNeg]
  · rw [if_neg c] at hQ ⊢
    obtain ⟨⟨a1, a2⟩, a3, a4, a5, a6, a7, a8, a9, a10, a11, a12⟩ := g2 (by omega)
    obtain ⟨p1, p2, p3⟩ := clC_p h hr (by omega)
    have em : (rvl C w 0 r).tmod 100 = la w 0 (C r) := by rw [Int.tmod_eq_emod_of_nonneg a1]; exact a4
    obtain ⟨⟨k1, k2, k3, k4, k5, k6, k7, k8, k9⟩, r1, r2, r3, r4⟩ := a10
    have hta := TA_ne (t := r) (by omega) a9
    have e2 : V (TA r + 2) (la w 0 (C r)) = nbc (clC C w 0 r) := by
      unfold nbc
      rw [if_neg (by omega), if_pos (by omega)]
      rcases p1.2 with q | q
      · exact q.2.2.1
      · omega
    simp (disch := omega) only [hta, s32_id (x := rvl C w 0 r), s32_id (x := 100), em, ne_eq, I_Text_first, k1, r2, c_val (d := d + 4) (A := TA r + 2) (i := la w 0 (C r)) k3 (by rw [k7]; omega) (by omega) (by rw [k7]; omega), e2, hQ, b_s32, b_eq0, b_01, l0, l1, true_and, and_true, and_self, true_implies, false_implies, implies_true, forall_const, not_true_eq_false, not_false_eq_true, reduceIte, ite_true, ite_false, reduceCtorEq, forall_eq, Classical.not_not, true_or, or_true, false_or, or_false, and_false, false_and, Int.reduceEq, Int.reduceLT, Int.reduceLE, Int.reduceAdd, Int.reduceSub, Int.reduceMul, Int.reduceNeg]
theorem c_daysFor {coins : Int} (h : TCT V S M D C trb) (hd : s32 day = day) (hc : s32 coins = coins) (hQ : Q (if rulC D C 0 coins day (cnt M trb) < 0 then coins else nbc (clC C 0 coins (rulC D C 0 coins day (cnt M trb)))) V S) : C_Terms_daysFor (d + 7) 106 day coins V S Q := by
  obtain ⟨r, hr⟩ : ∃ r, r = rulC D C 0 coins day (cnt M trb) := ⟨_, rfl⟩
  rw [← hr] at hQ
  rw [I_Terms_daysFor, h.1.k106]
  refine ⟨rfl, c_rulingOf h (by omega) hc hd ?_⟩
  rw [← hr]
  refine c_textOf (d := d + 4) h hr ?_
  obtain ⟨-, g2⟩ := rvl_d h hr
  by_cases c : r < 0
  · rw [if_pos c] at hQ ⊢
    simp only [hQ, b_s32, b_eq0, b_01, l0, l1, true_and, and_true, and_self, true_implies, false_implies, implies_true, forall_const, not_true_eq_false, not_false_eq_true, reduceIte, ite_true, ite_false, reduceCtorEq, forall_eq, Classical.not_not, true_or, or_true, false_or, or_false, and_false, false_and, Int.reduceEq, Int.reduceLT, Int.reduceLE, Int.reduceAdd, Int.reduceSub, Int.reduceMul, Int.reduceNeg]
  · rw [if_neg c] at hQ ⊢
    obtain ⟨⟨a1, a2⟩, a3, a4, a5, a6, a7, a8, a9, a10, a11, a12⟩ := g2 (by omega)
    obtain ⟨p1, p2, p3⟩ := clC_p h hr (by omega)
    have em : (rvl C 0 coins r).tmod 100 = la 0 coins (C r) := by rw [Int.tmod_eq_emod_of_nonneg a1]; exact a4
    obtain ⟨⟨k1, k2, k3, k4, k5, k6, k7, k8, k9⟩, r1, r2, r3, r4⟩ := a10
    have hta := TA_ne (t := r) (by omega) a9
    have e2 : V (TA r + 3) (la 0 coins (C r)) = nbc (clC C 0 coins r) := by
      unfold nbc
      rw [if_pos p3]
      rcases p1.2 with q | q
      · exact q.2.2.2
      · omega
    simp (disch := omega) only [hta, s32_id (x := rvl C 0 coins r), s32_id (x := 100), em, ne_eq, I_Text_second, k1, r3, c_val (d := d + 4) (A := TA r + 3) (i := la 0 coins (C r)) k4 (by rw [k8]; omega) (by omega) (by rw [k8]; omega), e2, hQ, b_s32, b_eq0, b_01, l0, l1, true_and, and_true, and_self, true_implies, false_implies, implies_true, forall_const, not_true_eq_false, not_false_eq_true, reduceIte, ite_true, ite_false, reduceCtorEq, forall_eq, Classical.not_not, true_or, or_true, false_or, or_false, and_false, false_and, Int.reduceEq, Int.reduceLT, Int.reduceLE, Int.reduceAdd, Int.reduceSub, Int.reduceMul, Int.reduceNeg]
end CU
