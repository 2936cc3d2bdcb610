/-! commands: best, by the model -/
def BMM (V : Mem) (B : BST) : Prop := V 137 51 = B.1 ∧ V 137 50 = (B.2.length : Int) ∧ (∀ j : Nat, j < B.2.length → V 166 (j : Int) = rwA B.2 j) ∧ B.2.length ≤ 7 ∧ 0 ≤ B.1 ∧ B.1 ≤ 9999
def GFW (V0 V : Mem) : Prop := ∀ a q, ¬ (a = 137 ∧ (q = 50 ∨ q = 51)) → ¬ (165 ≤ a ∧ a ≤ 168) → V a q = V0 a q
theorem GFW.fv {V0 V : Mem} (h : GFW V0 V) (hV : FV V0) : FV V := hV.fr (fun a q hd => h a q (by unfold VD at hd; omega) (by unfold VD at hd; omega))
/-- a bit taken out -/
theorem clr_n {u i : Nat} (hu : u < 8192) (hi : i ≤ 20) : ∃ w : Nat, iandI (u : Int) (ixorI (ishlI 1 (i : Int)) (-1)) = (w : Int) ∧ w ≤ u ∧ ∀ j, (w.testBit j = true ↔ (u.testBit j = true ∧ j ≠ i)) := by
  have ei := shl_c ⟨i, by omega⟩
  have ei : ishlI 1 (i : Int) = ((2 ^ i : Nat) : Int) := ei
  have hp : 2 ^ i ≤ 2 ^ 20 := Nat.pow_le_pow_right (n := 2) (by decide) hi
  have hp : 2 ^ i ≤ 1048576 := hp
  have hl : u &&& (i32 (ixorI (ishlI 1 (i : Int)) (-1))).toBitVec.toNat ≤ u := Nat.and_le_left
  refine ⟨u &&& (i32 (ixorI (ishlI 1 (i : Int)) (-1))).toBitVec.toNat, ?_, hl, fun j => ?_⟩
  · exact inN (x := i32 (u : Int) &&& i32 (ixorI (ishlI 1 (i : Int)) (-1))) (by rw [Int32.toBitVec_and, BitVec.toNat_and, n32_n (by omega)]) (by omega)
  · rw [Nat.testBit_and, Bool.and_eq_true]
    by_cases hj : j < 32
    · have e : (i32 (ixorI (ishlI 1 (i : Int)) (-1))).toBitVec.toNat.testBit j = !decide (i = j) := by
        show gb (ixorI (ishlI 1 (i : Int)) (-1)) j = _
        have m1 : gb (-1) j = true := by
          show ((i32 (-1)).toBitVec).getLsbD j = true
          rw [show (i32 (-1)).toBitVec = BitVec.allOnes 32 from by decide, BitVec.getLsbD_allOnes]
          exact decide_eq_true hj
        have m2 : gb (ishlI 1 (i : Int)) j = decide (i = j) := by
          rw [ei]
          show (i32 ((2 ^ i : Nat) : Int)).toBitVec.toNat.testBit j = _
          rw [n32_n (by omega), Nat.testBit_two_pow]
        rw [gb_xor, m1, m2]
        cases decide (i = j) <;> rfl
      rw [e]
      by_cases c : i = j
      · rw [decide_eq_true c]
        exact ⟨fun z => (by cases z.2), fun z => absurd c.symm z.2⟩
      · rw [decide_eq_false c]
        exact ⟨fun z => ⟨z.1, fun y => c y.symm⟩, fun z => ⟨z.1, rfl⟩⟩
    · have uf : u.testBit j = false := Nat.testBit_lt_two_pow (Nat.lt_of_lt_of_le (show u < 2 ^ 13 from hu) (Nat.pow_le_pow_right (n := 2) (by decide) (show 13 ≤ j by omega)))
      rw [uf]
      exact ⟨fun z => (by cases z.1), fun z => (by cases z.1)⟩
section BMA
variable {d n : Nat} {V : Mem} {S : Shp} {Q : Int → Mem → Shp → Prop} {U : Mem → Shp → Prop}
theorem p_minTo (hS : FS S) (hV : FV V) (hX : XYR n (V 138)) (hY : XYR n (V 139)) (n12 : n ≤ 12) {P : List Nat} (hP : ∀ x ∈ P, x < n) (hl : P.length ≤ 7) {h : Nat} (hh : h < n) (hw : ∀ j : Nat, j < P.length → V 165 (j : Int) = rwA P j) : C_m_minutesTo (d + 2) 137 (P.length : Int) (h : Int) V S Q ↔ Q (wyA (V 138) (V 139) P h) V S := by
  have x1 := hX h hh
  have x2 := hY h hh
  have sh : s32 (h : Int) = (h : Int) := s32_id (by omega) (by omega)
  cases P with
  | nil =>
    have A1 : ∀ Q'' : Int → Mem → Shp → Prop, C_m_abs (d + 1) 137 (V 138 (h : Int) - 0) V S Q'' ↔ Q'' (abI (V 138 (h : Int) - 0)) V S := fun Q'' => r_absI hS (by omega) (by omega)
    have A2 : ∀ Q'' : Int → Mem → Shp → Prop, C_m_abs (d + 1) 137 (V 139 (h : Int) - 0) V S Q'' ↔ Q'' (abI (V 139 (h : Int) - 0)) V S := fun Q'' => r_absI hS (by omega) (by omega)
    show C_m_minutesTo (d + 2) 137 0 (h : Int) V S Q ↔ _
    simp only [I_m_minutesTo, hS.k137, hS.k138, hS.n138, hV.r137_3, hS.k139, hS.n139, hV.r137_4, l0, sh, show (0 : Int) ≤ (h : Int) from by omega, show (h : Int) < 12 from by omega, A1, A2, b_s32, b_eq0, b_01, l0, l1, true_and, and_true, and_self, true_implies, false_implies, implies_true, forall_const, not_true_eq_false, not_false_eq_true, reduceIte, ite_true, ite_false, reduceCtorEq, forall_eq, Classical.not_not, true_or, or_true, false_or, or_false, and_false, false_and, Int.reduceEq, Int.reduceLT, Int.reduceLE, Int.reduceAdd, Int.reduceSub, Int.reduceMul, Int.reduceNeg]
    exact Iff.rfl
  | cons h0 P =>
    have y1 := hX h0 (hP h0 List.mem_cons_self)
    have y2 := hY h0 (hP h0 List.mem_cons_self)
    have l0' : h0 < n := hP h0 List.mem_cons_self
    have hl : P.length + 1 ≤ 7 := hl
    have e3 : ((h0 :: P).length : Int) = (P.length : Int) + 1 := by show ((P.length + 1 : Nat) : Int) = _; omega
    have sp : s32 ((P.length : Int) + 1) = (P.length : Int) + 1 := s32_id (by omega) (by omega)
    have sp2 : s32 ((P.length : Int) + 1 - 1) = (P.length : Int) := by rw [show (P.length : Int) + 1 - 1 = (P.length : Int) from by omega]; exact s32_id (by omega) (by omega)
    have eW : V 165 (P.length : Int) = (h0 : Int) := by
      rw [hw P.length (by show P.length < P.length + 1; omega)]
      exact if_pos rfl
    have sh0 : s32 (h0 : Int) = (h0 : Int) := s32_id (by omega) (by omega)
    have A1 : ∀ Q'' : Int → Mem → Shp → Prop, C_m_abs (d + 1) 137 (V 138 (h : Int) - V 138 (h0 : Int)) V S Q'' ↔ Q'' (abI (V 138 (h : Int) - V 138 (h0 : Int))) V S := fun Q'' => r_absI hS (by omega) (by omega)
    have A2 : ∀ Q'' : Int → Mem → Shp → Prop, C_m_abs (d + 1) 137 (V 139 (h : Int) - V 139 (h0 : Int)) V S Q'' ↔ Q'' (abI (V 139 (h : Int) - V 139 (h0 : Int))) V S := fun Q'' => r_absI hS (by omega) (by omega)
    rw [e3]
    simp only [I_m_minutesTo, hS.k137, hS.k138, hS.n138, hV.r137_3, hS.k139, hS.n139, hV.r137_4, hS.k165, hS.n165, hV.r137_46, sp, sp2, eW, sh0, sh, show ¬ (P.length : Int) + 1 = 0 from by omega, show (0 : Int) ≤ (P.length : Int) from by omega, show (P.length : Int) < 8 from by omega, show (0 : Int) ≤ (h0 : Int) from by omega, show (h0 : Int) < 12 from by omega, show (0 : Int) ≤ (h : Int) from by omega, show (h : Int) < 12 from by omega, A1, A2, b_s32, b_eq0, b_01, l0, l1, true_and, and_true, and_self, true_implies, false_implies, implies_true, forall_const, not_true_eq_false, not_false_eq_true, reduceIte, ite_true, ite_false, reduceCtorEq, forall_eq, Classical.not_not, true_or, or_true, false_or, or_false, and_false, false_and, Int.reduceEq, Int.reduceLT, Int.reduceLE, Int.reduceAdd, Int.reduceSub, Int.reduceMul, Int.reduceNeg]
    exact Iff.rfl
theorem m_copyW {g : Cnt} {s mn used mi co : Int} (hS : FS S) (hV : FV V) {p : Nat} (hp : p ≤ 6) (e1 : V 137 1 = (n : Int)) (hK : ∀ V', (∀ a q, ¬ a = 166 → V' a q = V a q) → (∀ i : Nat, i < p + 1 → V' 166 (i : Int) = V 165 (i : Int)) → ∀ u5 u6 u7 u8, K_m_findWay d U (36, [(2, 137), (0, s), (0, mn), (0, (p : Int) + 1), (0, used), u5, u6, u7, u8], [], up2 (up2 (up2 V' 165 ((p : Int) + 1) (if p + 1 < 7 then -1 else (n : Int))) 167 ((p : Int) + 1) mi) 168 ((p : Int) + 1) co, S, g)) : ∀ (N j : Nat) (V1 : Mem) (u5 : XV), N + j = p + 1 → (∀ a q, ¬ a = 166 → V1 a q = V a q) → (∀ i : Nat, i < j → V1 166 (i : Int) = V 165 (i : Int)) → K_m_findWay d U (246, [(2, 137), (0, s), (0, mn), (0, (p : Int)), (0, used), u5, (0, mi), (0, co), (0, (j : Int))], [], V1, S, g) := by
  have hV0 := hV
  have sp : s32 (p : Int) = (p : Int) := s32_id (by omega) (by omega)
  have sp1 : s32 ((p : Int) + 1) = (p : Int) + 1 := s32_id (by omega) (by omega)
  have s7 : s32 7 = 7 := s32_id (by omega) (by omega)
  intro N
  induction N with
  | zero =>
    intro j V1 u5 hj h1 h2
    have e : j = p + 1 := by omega
    subst e
    have hV : FV V1 := hV0.fr (fun a q hd => h1 a q (by unfold VD at hd; omega))
    have hk := hK V1 h1 h2
    have e1' : V1 137 1 = (n : Int) := (h1 _ _ (by omega)).trans e1
    have ej : ((p + 1 : Nat) : Int) = (p : Int) + 1 := by omega
    rw [ej, L_m_findWay_246]
    by_cases c7 : p + 1 < 7
    · rw [if_pos c7] at hk
      simp (disch := omega) only [sp, sp1, s7, show (p : Int) < (p : Int) + 1 from by omega, show (p : Int) + 1 < 7 from by omega, hS.k137, hS.k165, hS.n165, hV.r137_46, hS.k167, hS.n167, hV.r137_48, hS.k168, hS.n168, hV.r137_49, up2_ne, show (0 : Int) ≤ (p : Int) + 1 from by omega, show (p : Int) + 1 < 8 from by omega, forall_eq, hk, b_s32, b_eq0, b_01, l0, l1, true_and, and_true, and_self, true_implies, false_implies, implies_true, forall_const, not_true_eq_false, not_false_eq_true, reduceIte, ite_true, ite_false, reduceCtorEq, forall_eq, Classical.not_not, true_or, or_true, false_or, or_false, and_false, false_and, Int.reduceEq, Int.reduceLT, Int.reduceLE, Int.reduceAdd, Int.reduceSub, Int.reduceMul, Int.reduceNeg]
    · rw [if_neg c7] at hk
      simp (disch := omega) only [sp, sp1, s7, show (p : Int) < (p : Int) + 1 from by omega, show ¬ (p : Int) + 1 < 7 from by omega, hS.k137, hS.k165, hS.n165, hV.r137_46, hS.k167, hS.n167, hV.r137_48, hS.k168, hS.n168, hV.r137_49, e1', up2_ne, show (0 : Int) ≤ (p : Int) + 1 from by omega, show (p : Int) + 1 < 8 from by omega, forall_eq, hk, b_s32, b_eq0, b_01, l0, l1, true_and, and_true, and_self, true_implies, false_implies, implies_true, forall_const, not_true_eq_false, not_false_eq_true, reduceIte, ite_true, ite_false, reduceCtorEq, forall_eq, Classical.not_not, true_or, or_true, false_or, or_false, and_false, false_and, Int.reduceEq, Int.reduceLT, Int.reduceLE, Int.reduceAdd, Int.reduceSub, Int.reduceMul, Int.reduceNeg]
  | succ N ih =>
    intro j V1 u5 hj h1 h2
    have hV : FV V1 := hV0.fr (fun a q hd => h1 a q (by unfold VD at hd; omega))
    have sj : s32 (j : Int) = (j : Int) := s32_id (by omega) (by omega)
    have := ih (j + 1) (up2 V1 166 (j : Int) (V1 165 (j : Int))) (9, 0) (by omega) (fun a q ha => by rw [up2_ne (by omega)]; exact h1 a q ha) (fun i hi => by
      by_cases e : i = j
      · subst e; rw [up2_eq rfl rfl]; exact h1 _ _ (by omega)
      · rw [up2_ne (by omega)]; exact h2 i (by omega))
    rw [show ((j + 1 : Nat) : Int) = (j : Int) + 1 from by omega] at this
    rw [L_m_findWay_246]
    simp only [sp, sj, show ¬ (p : Int) < (j : Int) from by omega, hS.k137, hS.k165, hS.n165, hV.r137_46, hS.k166, hS.n166, hV.r137_47, show (0 : Int) ≤ (j : Int) from by omega, show (j : Int) < 8 from by omega, show (j : Int) < 7 from by omega, forall_eq, this, b_s32, b_eq0, b_01, l0, l1, true_and, and_true, and_self, true_implies, false_implies, implies_true, forall_const, not_true_eq_false, not_false_eq_true, reduceIte, ite_true, ite_false, reduceCtorEq, forall_eq, Classical.not_not, true_or, or_true, false_or, or_false, and_false, false_and, Int.reduceEq, Int.reduceLT, Int.reduceLE, Int.reduceAdd, Int.reduceSub, Int.reduceMul, Int.reduceNeg]
/-- the model goes on to one more home -/
theorem m_ext {g : Cnt} {s mn t c cv w mp : Int} (hS : FS S) (hV : FV V) (e1 : V 137 1 = (n : Int)) (n12 : n ≤ 12) {p h : Nat} (hp : p ≤ 6) (hh : h < n) (e0 : V 137 0 = t) (ht : 0 ≤ t ∧ t ≤ 599) (ec : V 140 (20 * (h : Int) + t / 30) = cv) (e7 : V 167 (p : Int) = mp) (e8 : V 168 (p : Int) = c) (hc : 0 ≤ c ∧ c ≤ 9000) (hcv : 0 ≤ cv ∧ cv ≤ 999) (hmin : ∀ Q' : Int → Mem → Shp → Prop, C_m_minutesTo d 137 (p : Int) (h : Int) V S Q' ↔ Q' w V S) {used : Nat} (hu : used < 8192) {B : BST} (hB : BMM V B) {P : List Nat} (hPl : P.length = p) (hw : ∀ j : Nat, j < p → V 165 (j : Int) = rwA P j)
    (hK : ∀ V2, (∀ a q, ¬ (a = 137 ∧ (q = 50 ∨ q = 51)) → ¬ (a = 165 ∧ (q = (p : Int) ∨ q = (p : Int) + 1)) → ¬ a = 166 → ¬ ((a = 167 ∨ a = 168) ∧ q = (p : Int) + 1) → V2 a q = V a q) → V2 165 (p : Int) = (h : Int) → V2 165 ((p : Int) + 1) = (if p + 1 < 7 then -1 else (n : Int)) → V2 167 ((p : Int) + 1) = mp + w → V2 168 ((p : Int) + 1) = c + cv → BMM V2 (bup B (c + cv) (h :: P)) → ∀ u5 u6 u7 u8, K_m_findWay d U (36, [(2, 137), (0, s), (0, mn), (0, (p : Int) + 1), (0, ((used ||| 2 ^ h : Nat) : Int)), u5, u6, u7, u8], [], V2, S, g)) (u6 u7 u8 : XV) : K_m_findWay d U (127, [(2, 137), (0, s), (0, mn), (0, (p : Int)), (0, (used : Int)), (0, (h : Int)), u6, u7, u8], [], V, S, g) := by
  have sp : s32 (p : Int) = (p : Int) := s32_id (by omega) (by omega)
  have sp1 : s32 ((p : Int) + 1) = (p : Int) + 1 := s32_id (by omega) (by omega)
  have s7 : s32 7 = 7 := s32_id (by omega) (by omega)
  have s30 : s32 30 = 30 := s32_id (by omega) (by omega)
  have sh : s32 (h : Int) = (h : Int) := s32_id (by omega) (by omega)
  have sn : s32 (n : Int) = (n : Int) := s32_id (by omega) (by omega)
  have st : s32 t = t := s32_id (by omega) (by omega)
  have et : t.tdiv 30 = t / 30 := Int.tdiv_eq_ediv_of_nonneg ht.1
  have sx : s32 (20 * (h : Int) + t / 30) = 20 * (h : Int) + t / 30 := s32_id (by omega) (by omega)
  have scc : s32 (c + cv) = c + cv := s32_id (by omega) (by omega)
  have ei := shl_c ⟨h, by omega⟩
  have ei : ishlI 1 (h : Int) = ((2 ^ h : Nat) : Int) := ei
  have hp2 : 2 ^ h < 2 ^ 13 := Nat.pow_lt_pow_right (by omega) (by omega)
  have hp2 : 2 ^ h < 8192 := hp2
  have eo : iorI (used : Int) ((2 ^ h : Nat) : Int) = ((used ||| 2 ^ h : Nat) : Int) := ior_n (by omega) (by omega)
  obtain ⟨b1, b2', b3, b4, b5, b6⟩ := id hB
  have sb1 : s32 B.1 = B.1 := s32_id (by omega) (by omega)
  have sb2 : s32 (B.2.length : Int) = (B.2.length : Int) := s32_id (by omega) (by omega)
  have hlen : (h :: P).length = p + 1 := by show P.length + 1 = p + 1; omega
  have hrw : ∀ j : Nat, j < p + 1 → (up2 V 165 (p : Int) (h : Int)) 165 (j : Int) = rwA (h :: P) j := fun j hj => by
    show _ = if j = P.length then (h : Int) else rwA P j
    by_cases e : j = P.length
    · rw [if_pos e, up2_eq rfl (by omega)]
    · rw [if_neg e, up2_ne (by omega)]
      exact hw j (by omega)
  -- where the best is kept
  have hup : (B.1 < c + cv ∨ (c + cv = B.1 ∧ p + 1 < B.2.length)) → K_m_findWay d U (246, [(2, 137), (0, s), (0, mn), (0, (p : Int)), (0, ((used ||| 2 ^ h : Nat) : Int)), (0, (h : Int)), (0, mp + w), (0, c + cv), (0, 0)], [], up2 (up2 (up2 V 165 (p : Int) (h : Int)) 137 51 (c + cv)) 137 50 ((p : Int) + 1), S, g) := fun q => by
    have hV4 : FV (up2 (up2 (up2 V 165 (p : Int) (h : Int)) 137 51 (c + cv)) 137 50 ((p : Int) + 1)) := hV.fr (fun a q hd => by rw [up2_ne (by unfold VD at hd; omega), up2_ne (by unfold VD at hd; omega), up2_ne (by unfold VD at hd; omega)])
    have k := m_copyW (d := d) (U := U) (g := g) (s := s) (mn := mn) (used := ((used ||| 2 ^ h : Nat) : Int)) (mi := mp + w) (co := c + cv) (n := n) hS hV4 hp (by rw [up2_ne (by omega), up2_ne (by omega), up2_ne (by omega)]; exact e1) (fun V' f1 f2 u5 u6 u7 u8 => ?_) (p + 1) 0 _ (0, (h : Int)) (by omega) (fun _ _ _ => rfl) (fun i hi => absurd hi (Nat.not_lt_zero i))
    · exact k
    · refine hK _ (fun a q n1 n2 n3 n4 => ?_) ?_ ?_ ?_ ?_ ?_ u5 u6 u7 u8
      · rw [up2_ne (by omega), up2_ne (by omega), up2_ne (by omega), f1 a q n3, up2_ne (by omega), up2_ne (by omega), up2_ne (by omega)]
      · rw [up2_ne (by omega), up2_ne (by omega), up2_ne (by omega), f1 _ _ (by omega), up2_ne (by omega), up2_ne (by omega), up2_eq rfl rfl]
      · rw [up2_ne (by omega), up2_ne (by omega), up2_eq rfl rfl]
      · rw [up2_ne (by omega), up2_eq rfl rfl]
      · rw [up2_eq rfl rfl]
      · unfold bup
        rw [hlen, if_pos q]
        refine ⟨?_, ?_, fun j hj => ?_, by show (h :: P).length ≤ 7; omega, by show 0 ≤ c + cv; omega, by show c + cv ≤ 9999; omega⟩
        · rw [up2_ne (by omega), up2_ne (by omega), up2_ne (by omega), f1 _ _ (by omega), up2_ne (by omega), up2_eq rfl rfl]
        · rw [up2_ne (by omega), up2_ne (by omega), up2_ne (by omega), f1 _ _ (by omega), up2_eq rfl rfl]
          show (p : Int) + 1 = ((h :: P).length : Int)
          omega
        · have hj : j < (h :: P).length := hj
          rw [up2_ne (by omega), up2_ne (by omega), up2_ne (by omega), f2 j (by omega), up2_ne (by omega), up2_ne (by omega)]
          exact hrw j (by omega)
  have hst : ¬ (B.1 < c + cv ∨ (c + cv = B.1 ∧ p + 1 < B.2.length)) → ∀ u5 u6 u7 u8, K_m_findWay d U (36, [(2, 137), (0, s), (0, mn), (0, (p : Int) + 1), (0, ((used ||| 2 ^ h : Nat) : Int)), u5, u6, u7, u8], [], up2 (up2 (up2 (up2 V 165 (p : Int) (h : Int)) 165 ((p : Int) + 1) (if p + 1 < 7 then -1 else (n : Int))) 167 ((p : Int) + 1) (mp + w)) 168 ((p : Int) + 1) (c + cv), S, g) := fun q u5 u6 u7 u8 => by
    refine hK _ (fun a q n1 n2 n3 n4 => ?_) ?_ ?_ ?_ ?_ ?_ u5 u6 u7 u8
    · rw [up2_ne (by omega), up2_ne (by omega), up2_ne (by omega), up2_ne (by omega)]
    · rw [up2_ne (by omega), up2_ne (by omega), up2_ne (by omega), up2_eq rfl rfl]
    · rw [up2_ne (by omega), up2_ne (by omega), up2_eq rfl rfl]
    · rw [up2_ne (by omega), up2_eq rfl rfl]
    · rw [up2_eq rfl rfl]
    · unfold bup
      rw [hlen, if_neg q]
      refine ⟨?_, ?_, fun j hj => ?_, b4, b5, b6⟩
      · rw [up2_ne (by omega), up2_ne (by omega), up2_ne (by omega), up2_ne (by omega)]; exact b1
      · rw [up2_ne (by omega), up2_ne (by omega), up2_ne (by omega), up2_ne (by omega)]; exact b2'
      · rw [up2_ne (by omega), up2_ne (by omega), up2_ne (by omega), up2_ne (by omega)]; exact b3 j hj
  have x51 : (up2 V 165 (p : Int) (h : Int)) 137 51 = B.1 := (up2_ne (by omega)).trans b1
  have x50 : (up2 V 165 (p : Int) (h : Int)) 137 50 = (B.2.length : Int) := (up2_ne (by omega)).trans b2'
  have x1 : (up2 V 165 (p : Int) (h : Int)) 137 1 = (n : Int) := (up2_ne (by omega)).trans e1
  have r46 : (up2 V 165 (p : Int) (h : Int)) 137 46 = 165 := (up2_ne (by omega)).trans hV.r137_46
  have a1 : 0 ≤ 20 * (h : Int) + t / 30 := by omega
  have a2 : 20 * (h : Int) + t / 30 < 240 := by omega
  rw [L_m_findWay_127]
  by_cases q1 : B.1 < c + cv
  · have k := hup (Or.inl q1)
    simp (disch := omega) only [hS.k137, hS.k165, hS.n165, hV.r137_46, hS.k167, hS.n167, hV.r137_48, hS.k168, hS.n168, hV.r137_49, hS.k140, hS.n140, hV.r137_5, e1, sn, sh, sp, show (h : Int) < (n : Int) from by omega, hmin, e7, e8, e0, st, s30, et, sx, ec, a1, a2, show ¬ (30 : Int) = 0 from by omega, ne_eq, show (0 : Int) ≤ (p : Int) from by omega, show (p : Int) < 8 from by omega, forall_eq, x51, sb1, scc, q1, ei, eo, k, b_s32, b_eq0, b_01, l0, l1, true_and, and_true, and_self, true_implies, false_implies, implies_true, forall_const, not_true_eq_false, not_false_eq_true, reduceIte, ite_true, ite_false, reduceCtorEq, forall_eq, Classical.not_not, true_or, or_true, false_or, or_false, and_false, false_and, Int.reduceEq, Int.reduceLT, Int.reduceLE, Int.reduceAdd, Int.reduceSub, Int.reduceMul, Int.reduceNeg]
  · by_cases q2 : c + cv = B.1
    · by_cases q3 : p + 1 < B.2.length
      · have k := hup (Or.inr ⟨q2, q3⟩)
        simp (disch := omega) only [hS.k137, hS.k165, hS.n165, hV.r137_46, hS.k167, hS.n167, hV.r137_48, hS.k168, hS.n168, hV.r137_49, hS.k140, hS.n140, hV.r137_5, e1, sn, sh, sp, sp1, show (h : Int) < (n : Int) from by omega, hmin, e7, e8, e0, st, s30, et, sx, ec, a1, a2, show ¬ (30 : Int) = 0 from by omega, ne_eq, show (0 : Int) ≤ (p : Int) from by omega, show (p : Int) < 8 from by omega, forall_eq, x51, x50, b1, b2', sb1, sb2, scc, q1, show (c + cv = B.1) = True from eq_true q2, show (p : Int) + 1 < (B.2.length : Int) from by omega, ei, eo, k, b_s32, b_eq0, b_01, l0, l1, true_and, and_true, and_self, true_implies, false_implies, implies_true, forall_const, not_true_eq_false, not_false_eq_true, reduceIte, ite_true, ite_false, reduceCtorEq, forall_eq, Classical.not_not, true_or, or_true, false_or, or_false, and_false, false_and, Int.reduceEq, Int.reduceLT, Int.reduceLE, Int.reduceAdd, Int.reduceSub, Int.reduceMul, Int.reduceNeg]
      · have k := hst (fun y => by omega)
        by_cases c7 : p + 1 < 7
        · rw [if_pos c7] at k
          simp (disch := omega) only [hS.k137, hS.k165, hS.n165, hV.r137_46, hS.k167, hS.n167, hV.r137_48, hS.k168, hS.n168, hV.r137_49, hS.k140, hS.n140, hV.r137_5, e1, sn, sh, sp, sp1, s7, show (h : Int) < (n : Int) from by omega, hmin, e7, e8, e0, st, s30, et, sx, ec, a1, a2, show ¬ (30 : Int) = 0 from by omega, ne_eq, show (0 : Int) ≤ (p : Int) from by omega, show (p : Int) < 8 from by omega, forall_eq, x51, x50, b1, b2', sb1, sb2, scc, q1, show (c + cv = B.1) = True from eq_true q2, show ¬ (p : Int) + 1 < (B.2.length : Int) from by omega, show (p : Int) + 1 < 7 from by omega, show (0 : Int) ≤ (p : Int) + 1 from by omega, show (p : Int) + 1 < 8 from by omega, up2_ne, ei, eo, k, b_s32, b_eq0, b_01, l0, l1, true_and, and_true, and_self, true_implies, false_implies, implies_true, forall_const, not_true_eq_false, not_false_eq_true, reduceIte, ite_true, ite_false, reduceCtorEq, forall_eq, Classical.not_not, true_or, or_true, false_or, or_false, and_false, false_and, Int.reduceEq, Int.reduceLT, Int.reduceLE, Int.reduceAdd, Int.reduceSub, Int.reduceMul, Int.reduceNeg]
        · rw [if_neg c7] at k
          simp (disch := omega) only [hS.k137, hS.k165, hS.n165, hV.r137_46, hS.k167, hS.n167, hV.r137_48, hS.k168, hS.n168, hV.r137_49, hS.k140, hS.n140, hV.r137_5, e1, sn, sh, sp, sp1, s7, show (h : Int) < (n : Int) from by omega, hmin, e7, e8, e0, st, s30, et, sx, ec, a1, a2, show ¬ (30 : Int) = 0 from by omega, ne_eq, show (0 : Int) ≤ (p : Int) from by omega, show (p : Int) < 8 from by omega, forall_eq, x51, x50, b1, b2', sb1, sb2, scc, q1, show (c + cv = B.1) = True from eq_true q2, show ¬ (p : Int) + 1 < (B.2.length : Int) from by omega, show ¬ (p : Int) + 1 < 7 from by omega, show (0 : Int) ≤ (p : Int) + 1 from by omega, show (p : Int) + 1 < 8 from by omega, up2_ne, ei, eo, k, b_s32, b_eq0, b_01, l0, l1, true_and, and_true, and_self, true_implies, false_implies, implies_true, forall_const, not_true_eq_false, not_false_eq_true, reduceIte, ite_true, ite_false, reduceCtorEq, forall_eq, Classical.not_not, true_or, or_true, false_or, or_false, and_false, false_and, Int.reduceEq, Int.reduceLT, Int.reduceLE, Int.reduceAdd, Int.reduceSub, Int.reduceMul, Int.reduceNeg]
    · have k := hst (fun y => by omega)
      by_cases c7 : p + 1 < 7
      · rw [if_pos c7] at k
        simp (disch := omega) only [hS.k137, hS.k165, hS.n165, hV.r137_46, hS.k167, hS.n167, hV.r137_48, hS.k168, hS.n168, hV.r137_49, hS.k140, hS.n140, hV.r137_5, e1, sn, sh, sp, sp1, s7, show (h : Int) < (n : Int) from by omega, hmin, e7, e8, e0, st, s30, et, sx, ec, a1, a2, show ¬ (30 : Int) = 0 from by omega, ne_eq, show (0 : Int) ≤ (p : Int) from by omega, show (p : Int) < 8 from by omega, forall_eq, x51, x50, b1, b2', sb1, sb2, scc, q1, q2, show (p : Int) + 1 < 7 from by omega, show (0 : Int) ≤ (p : Int) + 1 from by omega, show (p : Int) + 1 < 8 from by omega, up2_ne, ei, eo, k, b_s32, b_eq0, b_01, l0, l1, true_and, and_true, and_self, true_implies, false_implies, implies_true, forall_const, not_true_eq_false, not_false_eq_true, reduceIte, ite_true, ite_false, reduceCtorEq, forall_eq, Classical.not_not, true_or, or_true, false_or, or_false, and_false, false_and, Int.reduceEq, Int.reduceLT, Int.reduceLE, Int.reduceAdd, Int.reduceSub, Int.reduceMul, Int.reduceNeg]
      · rw [if_neg c7] at k
        simp (disch := omega) only [hS.k137, hS.k165, hS.n165, hV.r137_46, hS.k167, hS.n167, hV.r137_48, hS.k168, hS.n168, hV.r137_49, hS.k140, hS.n140, hV.r137_5, e1, sn, sh, sp, sp1, s7, show (h : Int) < (n : Int) from by omega, hmin, e7, e8, e0, st, s30, et, sx, ec, a1, a2, show ¬ (30 : Int) = 0 from by omega, ne_eq, show (0 : Int) ≤ (p : Int) from by omega, show (p : Int) < 8 from by omega, forall_eq, x51, x50, b1, b2', sb1, sb2, scc, q1, q2, show ¬ (p : Int) + 1 < 7 from by omega, show (0 : Int) ≤ (p : Int) + 1 from by omega, show (p : Int) + 1 < 8 from by omega, up2_ne, ei, eo, k, b_s32, b_eq0, b_01, l0, l1, true_and, and_true, and_self, true_implies, false_implies, implies_true, forall_const, not_true_eq_false, not_false_eq_true, reduceIte, ite_true, ite_false, reduceCtorEq, forall_eq, Classical.not_not, true_or, or_true, false_or, or_false, and_false, false_and, Int.reduceEq, Int.reduceLT, Int.reduceLE, Int.reduceAdd, Int.reduceSub, Int.reduceMul, Int.reduceNeg]
end BMA
