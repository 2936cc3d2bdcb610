section TDY
variable {d M : Nat} {n m i t t0 b c l r D p q set dy last nn lit kk : Int} {V V0 V1 V2 Vm Wd W W' : Mem} {S : Shp} {Q : Int → Mem → Shp → Prop} {Dy : Int → Int} {C : Int → List CL}
theorem LTn_cg {A B : Mem} : ∀ N : Nat, (∀ j : Nat, j < N → A 158 (600 * (j : Int) + t) = B 158 (600 * (j : Int) + t)) → LTn A set t N = LTn B set t N
  | 0, _ => rfl
  | N + 1, h => by
    unfold LTn
    rw [LTn_cg N (fun j hj => h j (by omega)), h N (by omega)]
theorem triLamps (d : Nat) (h : INV n V0 S) (hn : n ≤ 40000) (h0 : V0 137 0 = t0) (ht0 : t0 ≤ t ∧ t ≤ 599) (hM10 : M ≤ 10) (hTM : TM Wd true)
    (g1 : 0 ≤ nbT Wd 1 t true ∧ nbT Wd 1 t true ≤ 999) (g2 : nbT Wd 2 t true = 0 ∨ nbT Wd 2 t true = 1)
    (er : rulC Dy C 4 0 t (cnt M true) < 0 ↔ rulr Wd 4 0 t true < 0) (ec : 0 ≤ rulr Wd 4 0 t true → clC C 4 0 (rulC Dy C 4 0 t (cnt M true)) = clM Wd 4 0 (rulr Wd 4 0 t true)) :
    ∀ (N k : Nat) (V Vm V2 : Mem), ((N + k : Nat) : Int) = V0 137 2 → TS0 V0 Wd V Vm S M Dy C t0 t → (∀ j, 0 ≤ j → j < (k : Int) → LMP V0 V Vm t0 (t + 1) j) → (∀ j, (k : Int) ≤ j → j < V0 137 2 → LMP V0 V Vm t0 t j) → AGV set V V2 →
    ∃ (V' Vm' V2' : Mem), TS0 V0 Wd V' Vm' S M Dy C t0 t ∧ (∀ j, 0 ≤ j → j < V0 137 2 → LMP V0 V' Vm' t0 (t + 1) j) ∧ (∀ j, 0 ≤ j → j < (k : Int) → Vm' 158 (600 * j + t) = Vm 158 (600 * j + t)) ∧ (∀ j, (k : Int) ≤ j → j < V0 137 2 → 0 ≤ Vm' 158 (600 * j + t) ∧ Vm' 158 (600 * j + t) ≤ 6) ∧ (∀ q, Vm' 177 q = Vm 177 q ∧ Vm' 144 q = Vm 144 q) ∧ AGV set V' V2' ∧ (∀ p q, 137 ≤ p → p ≤ 199 → V2' p q = V2 p q) ∧
      (∀ (Q : Int → Mem → Shp → Prop) (g : Cnt) (L : Int) (u6 : XV), (∀ u6, K_x_litDays (d + 15) Q (67, [(2, 100), (0, set), (0, last), (0, L + (LTn Vm' set t (N + k) - LTn Vm' set t k)), (0, dy), (0, V0 137 2), u6], [], V2', S, g)) → K_x_litDays (d + 15) Q (67, [(2, 100), (0, set), (0, last), (0, L), (0, dy), (0, (k : Int)), u6], [], V2, S, g)) ∧
      (∀ (W : Mem) (U : Mem → Shp → Prop) (g : Cnt), FV W → MSC Vm W → (∀ W', FV W' → MSC Vm' W' → (∀ p q, ¬ (137 ≤ p ∧ p ≤ 199) → W' p q = W p q) → K_m_goDay (d + 15) U (2, [(2, 137), (0, V0 137 2)], [], W', S, g)) → K_m_goDay (d + 15) U (2, [(2, 137), (0, (k : Int))], [], W, S, g)) := by
  intro N
  induction N with
  | zero =>
    intro k V Vm V2 hN hst hD hL hA
    have e : (k : Int) = V0 137 2 := by omega
    rw [e]
    refine ⟨V, Vm, V2, hst, fun j j0 j1 => hD j j0 (by omega), fun _ _ _ => rfl, fun j j0 j1 => by omega, fun _ => ⟨rfl, rfl⟩, hA, fun _ _ _ _ => rfl, fun Q g L u6 hU => ?_, fun W U g hW eW hU => hU W hW eW (fun _ _ _ => rfl)⟩
    have := hU u6
    rw [Nat.zero_add, Int.sub_self, Int.add_zero] at this
    exact this
  | succ N ih =>
    intro k V Vm V2 hN hst hD hL hA
    obtain ⟨V1, Vm1, V21, a1, a2, a3, a4, a5, aq, a6, a7, a8, a9⟩ := triLamp (dy := dy) (last := last) d h hn h0 ht0 k (by omega) hM10 hTM hst g1 g2 er ec (hL _ (Int.le_refl _) (by omega)) hA
    obtain ⟨V2', Vm2, V22, b1, b2', b3, b4, bq, b5, b6, b7, b8⟩ := ih (k + 1) V1 Vm1 V21 (by omega) a1 (fun j j0 j1 => by
      by_cases e : j = (k : Int)
      · rw [e]; exact a2
      · exact a3 j (t + 1) j0 (by omega) e (by have := h.1.n599; omega) (by omega) (hD j j0 (by omega))) (fun j j0 j1 => a3 j t (by omega) j1 (by omega) (by have := h.1.n599; omega) (by omega) (hL j (by omega) j1)) a6
    have ek : ((k + 1 : Nat) : Int) = (k : Int) + 1 := by omega
    rw [ek] at b3 b4 b7 b8
    refine ⟨V2', Vm2, V22, b1, b2', fun j j0 j1 => (b3 j j0 (by omega)).trans (a4 j (by omega)), fun j j0 j1 => ?_, fun q => ⟨(bq q).1.trans (aq q).1, (bq q).2.trans (aq q).2⟩, b5, fun p q p0 p1 => (b6 p q p0 p1).trans (a7 p q p0 p1), fun Q g L u6 hU => ?_, fun W U g hW eW hU => a9 W U g hW eW (fun W1 hW1 eW1 s1 => b8 W1 U g hW1 eW1 (fun W2 hW2 eW2 s2 => hU W2 hW2 eW2 (fun p q hp => (s2 p q hp).trans (s1 p q hp))))⟩
    · by_cases e : j = (k : Int)
      · rw [e, b3 _ (by omega) (by omega)]; exact a5
      · exact b4 j (by omega) j1
    · refine a8 Q g L u6 (fun u6 => b7 Q g _ u6 (fun u6 => ?_))
      have := hU u6
      have e1 : N + (k + 1) = N + 1 + k := by omega
      have e2 : LTn Vm2 set t (k + 1) = LTn Vm2 set t k + b2 (tld set (k : Int) && litk (Vm1 158 (600 * (k : Int) + t))) := by
        rw [LTn, b3 _ (by omega) (by omega)]
      rw [e1, e2, show L + b2 (tld set (k : Int) && litk (Vm1 158 (600 * (k : Int) + t))) + (LTn Vm2 set t (N + 1 + k) - (LTn Vm2 set t k + b2 (tld set (k : Int) && litk (Vm1 158 (600 * (k : Int) + t))))) = L + (LTn Vm2 set t (N + 1 + k) - LTn Vm2 set t k) from by omega]
      exact this
/-- the model's counting of lit days -/
theorem m_lit {g : Cnt} (hS : FS S) (hV : FV W) (h0 : W 137 0 = t + 1) (ht : 0 ≤ t ∧ t ≤ 599) (hl : 0 ≤ W 137 2 ∧ W 137 2 ≤ 20) (hk : ∀ j, 0 ≤ j → j < W 137 2 → 0 ≤ W 158 (600 * j + t) ∧ W 158 (600 * j + t) ≤ 6) : ∀ (N k : Nat) (L : Int) (u7 : XV), ((N + k : Nat) : Int) = W 137 2 → K_m_tried (d + 1) Q (148, [(2, 137), (0, set), (0, nn), (0, t0), (0, L + (LTn W set t (N + k) - LTn W set t k)), (0, kk + 1), (0, W 137 2), (9, 0)], [], W, S, g) → K_m_tried (d + 1) Q (171, [(2, 137), (0, set), (0, nn), (0, t0), (0, L), (0, kk), (0, (k : Int)), u7], [], W, S, g) := by
  intro N
  induction N with
  | zero =>
    intro k L u7 hN hK
    have e : (k : Int) = W 137 2 := by omega
    rw [Nat.zero_add, Int.sub_self, Int.add_zero] at hK
    have s2 : s32 (W 137 2) = W 137 2 := s32_id (by omega) (by omega)
    rw [e, L_m_tried_171]
    simp (disch := omega) only [hS.k137, s2, Int.lt_irrefl, hK, b_s32, b_eq0, b_01, l0, l1, true_and, and_true, and_self, true_implies, false_implies, implies_true, forall_const, not_true_eq_false, not_false_eq_true, reduceIte, ite_true, ite_false, reduceCtorEq, forall_eq, Classical.not_not, true_or, or_true, false_or, or_false, and_false, false_and, Int.reduceEq, Int.reduceLT, Int.reduceLE, Int.reduceAdd, Int.reduceSub, Int.reduceMul, Int.reduceNeg]
  | succ N ih =>
    intro k L u7 hN hK
    have s2 : s32 (W 137 2) = W 137 2 := s32_id (by omega) (by omega)
    have sk : s32 (k : Int) = (k : Int) := s32_id (by omega) (by omega)
    have sx : s32 (600 * (k : Int) + (t + 1) - 1) = 600 * (k : Int) + t := by rw [show 600 * (k : Int) + (t + 1) - 1 = 600 * (k : Int) + t from by omega]; exact s32_id (by omega) (by omega)
    have hx := hk (k : Int) (by omega) (by omega)
    have svx : s32 (W 158 (600 * (k : Int) + t)) = W 158 (600 * (k : Int) + t) := s32_id (by omega) (by omega)
    have e2 : LTn W set t (k + 1) = LTn W set t k + b2 (tld set (k : Int) && litk (W 158 (600 * (k : Int) + t))) := rfl
    have ih' := fun u7 => ih (k + 1) (L + b2 (tld set (k : Int) && litk (W 158 (600 * (k : Int) + t)))) u7 (by omega) (by
      rw [show N + (k + 1) = N + 1 + k from by omega, e2, show L + b2 (tld set (k : Int) && litk (W 158 (600 * (k : Int) + t))) + (LTn W set t (N + 1 + k) - (LTn W set t k + b2 (tld set (k : Int) && litk (W 158 (600 * (k : Int) + t))))) = L + (LTn W set t (N + 1 + k) - LTn W set t k) from by omega]
      exact hK)
    rw [show ((k + 1 : Nat) : Int) = (k : Int) + 1 from by omega] at ih'
    rw [L_m_tried_171]
    by_cases ct : tld set (k : Int) = true
    · have ea : s32 (iandI (ishrI set (k : Int)) 1) = 1 := by rw [and_b, show gb (ishrI set (k : Int)) 0 = true from ct]; decide
      rw [ct, Bool.true_and] at ih'
      by_cases c1 : 1 ≤ W 158 (600 * (k : Int) + t) ∧ W 158 (600 * (k : Int) + t) ≤ 3
      · have el : litk (W 158 (600 * (k : Int) + t)) = true := decide_eq_true (Or.inl c1)
        rw [el] at ih'
        have ih' : ∀ u7, K_m_tried (d + 1) Q (171, [(2, 137), (0, set), (0, nn), (0, t0), (0, L + 1), (0, kk), (0, (k : Int) + 1), u7], [], W, S, g) := ih'
        simp (disch := omega) only [hS.k137, hS.k158, hS.n158, hV.r137_23, s2, sk, sx, h0, ea, r_in hS, svx, c1, s32_id (x := 1), s32_id (x := 3), show (k : Int) < W 137 2 from by omega, show 0 ≤ 600 * (k : Int) + t from by omega, show 600 * (k : Int) + t < 12000 from by omega, ih', b_s32, b_eq0, b_01, l0, l1, true_and, and_true, and_self, true_implies, false_implies, implies_true, forall_const, not_true_eq_false, not_false_eq_true, reduceIte, ite_true, ite_false, reduceCtorEq, forall_eq, Classical.not_not, true_or, or_true, false_or, or_false, and_false, false_and, Int.reduceEq, Int.reduceLT, Int.reduceLE, Int.reduceAdd, Int.reduceSub, Int.reduceMul, Int.reduceNeg]
      · by_cases c2 : W 158 (600 * (k : Int) + t) = 6
        · have el : litk (W 158 (600 * (k : Int) + t)) = true := decide_eq_true (Or.inr c2)
          rw [el] at ih'
          have ih' : ∀ u7, K_m_tried (d + 1) Q (171, [(2, 137), (0, set), (0, nn), (0, t0), (0, L + 1), (0, kk), (0, (k : Int) + 1), u7], [], W, S, g) := ih'
          simp (disch := omega) only [hS.k137, hS.k158, hS.n158, hV.r137_23, s2, sk, sx, h0, ea, r_in hS, svx, c1, c2, s32_id (x := 1), s32_id (x := 3), s32_id (x := 6), show ¬ (1 ≤ (6 : Int) ∧ (6 : Int) ≤ 3) from by omega, show (k : Int) < W 137 2 from by omega, show 0 ≤ 600 * (k : Int) + t from by omega, show 600 * (k : Int) + t < 12000 from by omega, ih', b_s32, b_eq0, b_01, l0, l1, true_and, and_true, and_self, true_implies, false_implies, implies_true, forall_const, not_true_eq_false, not_false_eq_true, reduceIte, ite_true, ite_false, reduceCtorEq, forall_eq, Classical.not_not, true_or, or_true, false_or, or_false, and_false, false_and, Int.reduceEq, Int.reduceLT, Int.reduceLE, Int.reduceAdd, Int.reduceSub, Int.reduceMul, Int.reduceNeg]
        · have el : litk (W 158 (600 * (k : Int) + t)) = false := decide_eq_false (fun q => q.elim c1 c2)
          rw [el] at ih'
          have ih' : ∀ u7, K_m_tried (d + 1) Q (171, [(2, 137), (0, set), (0, nn), (0, t0), (0, L + 0), (0, kk), (0, (k : Int) + 1), u7], [], W, S, g) := ih'
          simp (disch := omega) only [hS.k137, hS.k158, hS.n158, hV.r137_23, s2, sk, sx, h0, ea, r_in hS, svx, c1, c2, s32_id (x := 1), s32_id (x := 3), s32_id (x := 6), show (k : Int) < W 137 2 from by omega, show 0 ≤ 600 * (k : Int) + t from by omega, show 600 * (k : Int) + t < 12000 from by omega, ih', b_s32, b_eq0, b_01, l0, l1, true_and, and_true, and_self, true_implies, false_implies, implies_true, forall_const, not_true_eq_false, not_false_eq_true, reduceIte, ite_true, ite_false, reduceCtorEq, forall_eq, Classical.not_not, true_or, or_true, false_or, or_false, and_false, false_and, Int.reduceEq, Int.reduceLT, Int.reduceLE, Int.reduceAdd, Int.reduceSub, Int.reduceMul, Int.reduceNeg]
    · have cf := nf ct
      have ea : s32 (iandI (ishrI set (k : Int)) 1) = 0 := by rw [and_b, show gb (ishrI set (k : Int)) 0 = false from cf]; decide
      rw [cf, Bool.false_and] at ih'
      have ih' : ∀ u7, K_m_tried (d + 1) Q (171, [(2, 137), (0, set), (0, nn), (0, t0), (0, L + 0), (0, kk), (0, (k : Int) + 1), u7], [], W, S, g) := ih'
      simp (disch := omega) only [hS.k137, hS.k158, hS.n158, hV.r137_23, s2, sk, sx, h0, ea, show ¬ (0 : Int) = 1 from by omega, show (k : Int) < W 137 2 from by omega, show 0 ≤ 600 * (k : Int) + t from by omega, show 600 * (k : Int) + t < 12000 from by omega, ih', b_s32, b_eq0, b_01, l0, l1, true_and, and_true, and_self, true_implies, false_implies, implies_true, forall_const, not_true_eq_false, not_false_eq_true, reduceIte, ite_true, ite_false, reduceCtorEq, forall_eq, Classical.not_not, true_or, or_true, false_or, or_false, and_false, false_and, Int.reduceEq, Int.reduceLT, Int.reduceLE, Int.reduceAdd, Int.reduceSub, Int.reduceMul, Int.reduceNeg]
end TDY
