/-! commands: pass -/
section PS
variable {d : Nat} {n m i t a b : Int} {V V0 Vm VF W W' : Mem} {S : Shp}
theorem dayLoop (d : Nat) (h : INV n V0 S) (hn : n ≤ 40000) (h0 : V0 137 0 = t) : ∀ (N : Nat) (i : Int) (V Vm : Mem), (N : Int) + i = V0 137 2 → 0 ≤ i → CFd t i V0 V → MFd t i V0 Vm → SETL V0 V t → (∀ j, 0 ≤ j → j < i → DON V0 V Vm t j) →
    ∃ V' Vm' : Mem, CFd t (V0 137 2) V0 V' ∧ MFd t (V0 137 2) V0 Vm' ∧ (∀ j, 0 ≤ j → j < V0 137 2 → DON V0 V' Vm' t j) ∧ (∀ p q, 137 ≤ p → p ≤ 199 → V' p q = V p q) ∧
      (∀ (U : Mem → Shp → Prop) (g : Cnt) (u2 u3 : XV), (∀ u2 u3, K_x_passOneDay (d + 14) U (13, [(2, 100), (0, V0 137 2), u2, u3], [], V', S, g)) → K_x_passOneDay (d + 14) U (13, [(2, 100), (0, i), u2, u3], [], V, S, g)) ∧
      (∀ (W : Mem) (U : Mem → Shp → Prop) (g : Cnt), FV W → MSC Vm W → (∀ W', FV W' → MSC Vm' W' → (∀ p q, ¬ (137 ≤ p ∧ p ≤ 199) → W' p q = W p q) → K_m_goDay (d + 14) U (2, [(2, 137), (0, V0 137 2)], [], W', S, g)) → K_m_goDay (d + 14) U (2, [(2, 137), (0, i)], [], W, S, g)) := by
  intro N
  induction N with
  | zero =>
    intro i V Vm hN i0 hC hM hs hD
    have e : i = V0 137 2 := by omega
    rw [e] at hC hM hD ⊢
    exact ⟨V, Vm, hC, hM, hD, fun _ _ _ _ => rfl, fun U g u2 u3 hU => hU u2 u3, fun W U g hW eW hU => hU W hW eW (fun _ _ _ => rfl)⟩
  | succ N ih =>
    intro i V Vm hN i0 hC hM hs hD
    obtain ⟨V1, Vm1, c1, c2, c3, c4, c5, cm, c6, c7⟩ := dayStep d h hn h0 i0 (by omega) hC hM hs
    obtain ⟨V2, Vm2, g1, g2, g3, gm, g4, g5⟩ := ih (i + 1) V1 Vm1 (by omega) (by omega) c1 c2 c3 (fun j j0 j1 => by
      by_cases e : j = i
      · rw [e]; exact c4
      · exact c5 j j0 (by omega) (hD j j0 (by omega)))
    refine ⟨V2, Vm2, g1, g2, g3, fun p q p0 p1 => (gm p q p0 p1).trans (cm p q p0 p1), fun U g u2 u3 hU => c6 U g u2 u3 (fun u2 u3 => g4 U g u2 u3 hU), fun W U g hW eW hU => c7 W U g hW eW (fun W1 hW1 eW1 s1 => g5 W1 U g hW1 eW1 (fun W2 hW2 eW2 s2 => hU W2 hW2 eW2 (fun p q hp => (s2 p q hp).trans (s1 p q hp))))⟩
theorem c_settle {U : Mem → Shp → Prop} (h : INV n V0 S) (hV : FV V) (hC : ∀ p q, ¬ (137 ≤ p ∧ p ≤ 199) → V p q = V0 p q) (st : s32 t = t) (t0 : 0 ≤ t) (hU : U (up2 (up2 (up2 (up2 (up2 V 106 4 (t / 30)) 106 5 (nbT V0 1 t false)) 106 6 (nbT V0 2 t false)) 106 7 (oft (rulr V0 4 0 t false))) 106 8 (ofc (csM V0) (rulr V0 4 0 t false))) S) : C_Terms_settle (d + 9) 106 t V S U := by
  have hS := h.1.1
  have hT : TCT V S (V0 137 24).toNat (fun u => V0 159 u) (csM V0) false := h.tct.fr hV (fun p q n0 _ _ => hC p q n0)
  have up : ∀ (V : Mem) (k v : Int), TCT V S (V0 137 24).toNat (fun u => V0 159 u) (csM V0) false → 4 ≤ k → k ≤ 8 → TCT (up2 V 106 k v) S (V0 137 24).toNat (fun u => V0 159 u) (csM V0) false := fun V k v hT k4 k7 => hT.fr (hT.2.1.fr (fun p q hd => up2_ne (by unfold VD at hd; omega))) (fun p q _ _ n2 => up2_ne (by omega))
  have e30 : (s32 t).tdiv (s32 30) = t / 30 := by rw [st, s32_id (x := 30) (by omega) (by omega)]; exact Int.tdiv_eq_ediv_of_nonneg t0
  have s30 : s32 30 ≠ 0 := by rw [s32_id (x := 30) (by omega) (by omega)]; omega
  have s100 : s32 100 ≠ 0 := by rw [s32_id (x := 100) (by omega) (by omega)]; omega
  have h1 := up V 4 (t / 30) hT (by omega) (by omega)
  rw [I_Terms_settle, e30]
  refine ⟨hS.k106, s30, ?_⟩
  simp only [hS.k106, forall_eq, I_Terms_graceOf, I_Terms_runOf, b_s32, b_eq0, b_01, l0, l1, true_and, and_true, and_self, true_implies, false_implies, implies_true, forall_const, not_true_eq_false, not_false_eq_true, reduceIte, ite_true, ite_false, reduceCtorEq, forall_eq, Classical.not_not, true_or, or_true, false_or, or_false, and_false, false_and, Int.reduceEq, Int.reduceLT, Int.reduceLE, Int.reduceAdd, Int.reduceSub, Int.reduceMul, Int.reduceNeg]
  refine c_numberOf (d := d) h1 (Or.inl rfl) st ?_
  rw [rul_c]
  have h2 := up _ 5 (nbT V0 1 t false) h1 (by omega) (by omega)
  simp only [hS.k106, forall_eq, b_s32, b_eq0, b_01, l0, l1, true_and, and_true, and_self, true_implies, false_implies, implies_true, forall_const, not_true_eq_false, not_false_eq_true, reduceIte, ite_true, ite_false, reduceCtorEq, forall_eq, Classical.not_not, true_or, or_true, false_or, or_false, and_false, false_and, Int.reduceEq, Int.reduceLT, Int.reduceLE, Int.reduceAdd, Int.reduceSub, Int.reduceMul, Int.reduceNeg]
  refine c_numberOf (d := d) h2 (Or.inr rfl) st ?_
  rw [rul_c]
  have h3 := up _ 6 (nbT V0 2 t false) h2 (by omega) (by omega)
  simp only [hS.k106, forall_eq, b_s32, b_eq0, b_01, l0, l1, true_and, and_true, and_self, true_implies, false_implies, implies_true, forall_const, not_true_eq_false, not_false_eq_true, reduceIte, ite_true, ite_false, reduceCtorEq, forall_eq, Classical.not_not, true_or, or_true, false_or, or_false, and_false, false_and, Int.reduceEq, Int.reduceLT, Int.reduceLE, Int.reduceAdd, Int.reduceSub, Int.reduceMul, Int.reduceNeg]
  refine c_rulingOf (d := d + 2) h3 (by omega) l0 st ?_
  refine c_textOf (d := d + 6) h3 rfl ?_
  rw [rvl_m h3 rfl, rul_c]
  simp only [hS.k106, forall_eq, b_s32, b_eq0, b_01, l0, l1, true_and, and_true, and_self, true_implies, false_implies, implies_true, forall_const, not_true_eq_false, not_false_eq_true, reduceIte, ite_true, ite_false, reduceCtorEq, forall_eq, Classical.not_not, true_or, or_true, false_or, or_false, and_false, false_and, Int.reduceEq, Int.reduceLT, Int.reduceLE, Int.reduceAdd, Int.reduceSub, Int.reduceMul, Int.reduceNeg]
  exact ⟨s100, hU⟩
/-- one day -/
theorem dayPair (d : Nat) (h : INV n (mix V Vm) S) (hV : FV V) (hn : n ≤ 40000) (h0 : Vm 137 0 = t) (t1 : t ≤ 598) :
    ∃ V' Vm' : Mem, INV (n + 1) (mix V' Vm') S ∧ FV V' ∧ Vm' 137 0 = t + 1 ∧ (∀ p q, 137 ≤ p → p ≤ 199 → V' p q = V p q) ∧ V' 100 12 = t + 1 ∧
      (∀ (U : Mem → Shp → Prop), U V' S → C_x_passOneDay (d + 16) 100 V S U) ∧
      (∀ (W : Mem) (U : Mem → Shp → Prop), FV W → MSC Vm W → (∀ W', FV W' → MSC Vm' W' → (∀ p q, ¬ (137 ≤ p ∧ p ≤ 199) → W' p q = W p q) → U W' S) → C_m_goDay (d + 16) 137 W S U) := by
  have hk := h.1
  have hS := hk.1
  have h0' : mix V Vm 137 0 = t := (mix_m (by omega)).trans h0
  have n20 := hk.n20
  have n599 := hk.n599
  rw [h0'] at n599
  have st : s32 t = t := s32_id (by omega) (by omega)
  have hC : ∀ p q, ¬ (137 ≤ p ∧ p ≤ 199) → V p q = mix V Vm p q := fun p q hp => (mix_c hp).symm
  generalize hV0 : mix V Vm = V0 at *
  have c12 : V 100 12 = t := (hC _ _ (by omega)).trans (hk.2.2.1.2.2.1.1.trans h0')
  have c11 : V 100 11 = V0 137 2 := (hC _ _ (by omega)).trans hk.2.2.1.2.1.1
  have hMm : ∀ p q, 137 ≤ p → p ≤ 199 → Vm p q = V0 p q := fun p q p0 p1 => by rw [← hV0]; exact (mix_m ⟨p0, p1⟩).symm
  have s2' : s32 (V0 137 2) = V0 137 2 := s32_id (by have := hk.2.2.1.2.1.2.1; omega) (by omega)
  have l20 := hk.2.2.1.2.1.2.1
  generalize hVs : up2 (up2 (up2 (up2 (up2 V 106 4 (t / 30)) 106 5 (nbT V0 1 t false)) 106 6 (nbT V0 2 t false)) 106 7 (oft (rulr V0 4 0 t false))) 106 8 (ofc (csM V0) (rulr V0 4 0 t false)) = Vs
  have Fs : ∀ p q, ¬ (p = 106 ∧ 4 ≤ q ∧ q ≤ 8) → Vs p q = V p q := by
    intro p q hp
    subst hVs
    rw [up2_ne (by omega), up2_ne (by omega), up2_ne (by omega), up2_ne (by omega), up2_ne (by omega)]
  have hs : SETL V0 Vs t := by
    unfold SETL OFS
    subst hVs
    simp (disch := omega) only [up2_ne, up2_eq, and_self]
  obtain ⟨V2, Vm2, ⟨hV2, g1⟩, g2, g3, gm, g4, g5⟩ := dayLoop (d + 1) h hn h0' (V0 137 2).toNat 0 Vs Vm (by omega) (Int.le_refl _) ⟨hV.fr (fun p q hd => Fs p q (by unfold VD at hd; omega)), fun p q n0 _ n2 => (Fs p q n2).trans (hC p q n0)⟩ (fun p q p0 p1 _ _ _ => hMm p q p0 p1) hs (fun j j0 j1 => by omega)
  have hC2 : V2 100 12 = t := (g1 _ _ (by omega) (by omega) (by omega)).trans (hk.2.2.1.2.2.1.1.trans h0')
  have hC11 : V2 100 11 = V0 137 2 := (g1 _ _ (by omega) (by omega) (by omega)).trans hk.2.2.1.2.1.1
  have hM0 : Vm2 137 0 = t := (g2 _ _ (by omega) (by omega) (by unfold RCf; omega) (by omega) (by omega)).trans h0'
  have hM2 : Vm2 137 2 = V0 137 2 := g2 _ _ (by omega) (by omega) (by unfold RCf; omega) (by omega) (by omega)
  have G : ∀ p q, ¬ ((p = 100 ∧ q = 12) ∨ (p = 137 ∧ (q = 0 ∨ (30 ≤ q ∧ q ≤ 39) ∨ (42 ≤ q ∧ q ≤ 44))) ∨ (162 ≤ p ∧ p ≤ 164) ∨ (p = 106 ∧ 4 ≤ q ∧ q ≤ 8) ∨ (1000 ≤ p ∧ p < 1200 ∧ p % 10 = 1 ∧ q ≤ 3) ∨ (1000 ≤ p ∧ p < 1200 ∧ p % 10 = 5 ∧ q = t) ∨ (146 ≤ p ∧ p ≤ 148 ∧ q < V0 137 2) ∨ (p = 158 ∧ q % 600 = t)) → mix (up2 V2 100 12 (t + 1)) (up2 Vm2 137 0 (t + 1)) p q = V0 p q := by
    intro p q hw
    by_cases hp : 137 ≤ p ∧ p ≤ 199
    · rw [mix_m hp, up2_ne (by omega)]
      exact g2 p q hp.1 hp.2 (by unfold RCf; omega) (by omega) (by omega)
    · rw [mix_c hp, up2_ne (by omega)]
      exact g1 p q hp (by omega) (by omega)
  refine ⟨up2 V2 100 12 (t + 1), up2 Vm2 137 0 (t + 1), ?_, hV2.fr (fun p q hd => up2_ne (by unfold VD at hd; omega)), up2_eq rfl rfl, fun p q p0 p1 => ?_, up2_eq rfl rfl, fun U hU => ?_, fun W U hW eW hU => ?_⟩
  · refine dayEnd h h0' t1 G ((mix_c (by omega)).trans (up2_eq rfl rfl)) ((mix_m (by omega)).trans (up2_eq rfl rfl)) (fun j j0 j1 => ?_)
    have := g3 j j0 j1
    unfold DON at this ⊢
    simp (disch := omega) only [mix_c, mix_m, up2_ne]
    exact this
  · rw [up2_ne (by omega), gm p q p0 p1]
    exact Fs p q (by omega)
  · rw [I_x_passOneDay]
    simp only [hS.k100, hV.r100_4, c12, b_s32, b_eq0, b_01, l0, l1, true_and, and_true, and_self, true_implies, false_implies, implies_true, forall_const, not_true_eq_false, not_false_eq_true, reduceIte, ite_true, ite_false, reduceCtorEq, forall_eq, Classical.not_not, true_or, or_true, false_or, or_false, and_false, false_and, Int.reduceEq, Int.reduceLT, Int.reduceLE, Int.reduceAdd, Int.reduceSub, Int.reduceMul, Int.reduceNeg]
    refine c_settle (d := d + 6) h hV hC st (by omega) ?_
    rw [hVs]
    refine g4 U (0, 0) (9, 0) (9, 0) (fun u2 u3 => ?_)
    rw [L_x_passOneDay_13]
    simp (disch := omega) only [hS.k100, hC11, hC2, s2', Int.lt_irrefl, hU, b_s32, b_eq0, b_01, l0, l1, true_and, and_true, and_self, true_implies, false_implies, implies_true, forall_const, not_true_eq_false, not_false_eq_true, reduceIte, ite_true, ite_false, reduceCtorEq, forall_eq, Classical.not_not, true_or, or_true, false_or, or_false, and_false, false_and, Int.reduceEq, Int.reduceLT, Int.reduceLE, Int.reduceAdd, Int.reduceSub, Int.reduceMul, Int.reduceNeg]
  · rw [I_m_goDay]
    refine ⟨hS.k137, g5 W U (0, 0) hW eW (fun W1 hW1 eW1 sW => ?_)⟩
    have e0 : W1 137 0 = t := (eW1 _ _ (by omega) (by omega) (by unfold RCf; omega)).trans hM0
    have e2 : W1 137 2 = V0 137 2 := (eW1 _ _ (by omega) (by omega) (by unfold RCf; omega)).trans hM2
    have := hU (up2 W1 137 0 (t + 1)) (hW1.fr (fun p q hd => up2_ne (by unfold VD at hd; omega))) (fun p q p0 p1 n1 => up2_cg (eW1 p q p0 p1 n1)) (fun p q hp => by rw [up2_ne (by omega)]; exact sW p q hp)
    rw [L_m_goDay_2]
    simp (disch := omega) only [hS.k137, e0, e2, s2', Int.lt_irrefl, this, b_s32, b_eq0, b_01, l0, l1, true_and, and_true, and_self, true_implies, false_implies, implies_true, forall_const, not_true_eq_false, not_false_eq_true, reduceIte, ite_true, ite_false, reduceCtorEq, forall_eq, Classical.not_not, true_or, or_true, false_or, or_false, and_false, false_and, Int.reduceEq, Int.reduceLT, Int.reduceLE, Int.reduceAdd, Int.reduceSub, Int.reduceMul, Int.reduceNeg]
theorem daysPair (d : Nat) : ∀ (N : Nat) (n k t : Int) (V Vm : Mem), INV n (mix V Vm) S → FV V → n + (N : Int) ≤ 40000 → Vm 137 0 = t → t + (N : Int) ≤ 599 → V 100 12 = t → 0 ≤ k → (N : Int) + k = b → b ≤ 60 →
    ∃ V' Vm' : Mem, INV (n + (N : Int)) (mix V' Vm') S ∧ FV V' ∧ Vm' 137 0 = t + (N : Int) ∧ (∀ p q, 137 ≤ p → p ≤ 199 → V' p q = V p q) ∧
      (∀ (Q : Int → Mem → Shp → Prop) (g : Cnt), Q (t + (N : Int)) V' S → K_x_pass (d + 16) Q (27, [(2, 100), (0, b), (0, k)], [], V, S, g)) ∧
      (∀ (W : Mem) (Q : Int → Mem → Shp → Prop) (g : Cnt), FV W → MSC Vm W → (∀ W', FV W' → MSC Vm' W' → (∀ p q, ¬ (137 ≤ p ∧ p ≤ 199) → W' p q = W p q) → Q (t + (N : Int)) W' S) → K_m_pass (d + 16) Q (28, [(2, 137), (0, b), (0, k)], [], W, S, g)) := by
  intro N
  induction N with
  | zero =>
    intro n k t V Vm h hV hn h0 ht h12 k0 hb hb6
    have e : k = b := by omega
    subst e
    have hS := h.1.1
    have sk : s32 k = k := s32_id (by omega) (by omega)
    refine ⟨V, Vm, h.up (by omega), hV, by omega, fun _ _ _ _ => rfl, fun Q g hQ => ?_, fun W Q g hW eW hQ => ?_⟩
    · have hQ : Q t V S := by rw [show t = t + ((0 : Nat) : Int) from by omega]; exact hQ
      rw [L_x_pass_27]
      simp (disch := omega) only [sk, Int.lt_irrefl, hS.k100, h12, hQ, b_s32, b_eq0, b_01, l0, l1, true_and, and_true, and_self, true_implies, false_implies, implies_true, forall_const, not_true_eq_false, not_false_eq_true, reduceIte, ite_true, ite_false, reduceCtorEq, forall_eq, Classical.not_not, true_or, or_true, false_or, or_false, and_false, false_and, Int.reduceEq, Int.reduceLT, Int.reduceLE, Int.reduceAdd, Int.reduceSub, Int.reduceMul, Int.reduceNeg]
    · have e0 : W 137 0 = t := (eW _ _ (by omega) (by omega) (by unfold RCf; omega)).trans h0
      have := hQ W hW eW (fun _ _ _ => rfl)
      have : Q t W S := by rw [show t = t + ((0 : Nat) : Int) from by omega]; exact this
      rw [L_m_pass_28]
      simp (disch := omega) only [sk, Int.lt_irrefl, hS.k137, e0, this, b_s32, b_eq0, b_01, l0, l1, true_and, and_true, and_self, true_implies, false_implies, implies_true, forall_const, not_true_eq_false, not_false_eq_true, reduceIte, ite_true, ite_false, reduceCtorEq, forall_eq, Classical.not_not, true_or, or_true, false_or, or_false, and_false, false_and, Int.reduceEq, Int.reduceLT, Int.reduceLE, Int.reduceAdd, Int.reduceSub, Int.reduceMul, Int.reduceNeg]
  | succ N ih =>
    intro n k t V Vm h hV hn h0 ht h12 k0 hb hb6
    have hS := h.1.1
    have eN : ((N + 1 : Nat) : Int) = (N : Int) + 1 := by omega
    obtain ⟨V1, Vm1, i1, i2, i3, i4, i5, i6, i7⟩ := dayPair d h hV (by omega) h0 (by omega)
    obtain ⟨V2, Vm2, j1, j2, j3, j4, j5, j6⟩ := ih (n + 1) (k + 1) (t + 1) V1 Vm1 i1 i2 (by omega) i3 (by omega) i5 (by omega) (by omega) hb6
    have sk : s32 k = k := s32_id (by omega) (by omega)
    have sb : s32 b = b := s32_id (by omega) (by omega)
    rw [show t + 1 + (N : Int) = t + ((N + 1 : Nat) : Int) from by omega] at j3 j5 j6
    rw [show n + 1 + (N : Int) = n + ((N + 1 : Nat) : Int) from by omega] at j1
    refine ⟨V2, Vm2, j1, j2, j3, fun p q p0 p1 => (j4 p q p0 p1).trans (i4 p q p0 p1), fun Q g hQ => ?_, fun W Q g hW eW hQ => ?_⟩
    · rw [L_x_pass_27]
      simp (disch := omega) only [sk, sb, show k < b from by omega, b_s32, b_eq0, b_01, l0, l1, true_and, and_true, and_self, true_implies, false_implies, implies_true, forall_const, not_true_eq_false, not_false_eq_true, reduceIte, ite_true, ite_false, reduceCtorEq, forall_eq, Classical.not_not, true_or, or_true, false_or, or_false, and_false, false_and, Int.reduceEq, Int.reduceLT, Int.reduceLE, Int.reduceAdd, Int.reduceSub, Int.reduceMul, Int.reduceNeg]
      exact i6 _ (j5 Q g hQ)
    · rw [L_m_pass_28]
      simp (disch := omega) only [sk, sb, show k < b from by omega, b_s32, b_eq0, b_01, l0, l1, true_and, and_true, and_self, true_implies, false_implies, implies_true, forall_const, not_true_eq_false, not_false_eq_true, reduceIte, ite_true, ite_false, reduceCtorEq, forall_eq, Classical.not_not, true_or, or_true, false_or, or_false, and_false, false_and, Int.reduceEq, Int.reduceLT, Int.reduceLE, Int.reduceAdd, Int.reduceSub, Int.reduceMul, Int.reduceNeg]
      exact i7 W _ hW eW (fun W1 hW1 eW1 s1 => j6 W1 Q g hW1 eW1 (fun W2 hW2 eW2 s2 => hQ W2 hW2 eW2 (fun p q hp => (s2 p q hp).trans (s1 p q hp))))
theorem MSC.inv (h : INV n (mix V Vm) S) (e : MSC Vm W) (s : ∀ p q, ¬ (137 ≤ p ∧ p ≤ 199) → W p q = V p q) : INV n W S := by
  refine INV.rr h (fun p q hn => ?_) (Int.le_refl _)
  by_cases hp : 137 ≤ p ∧ p ≤ 199
  · rw [mix_m hp]; exact e p q hp.1 hp.2 hn
  · rw [mix_c hp]; exact s p q hp
/-- a pass: n grows by the days that go by -/
theorem cmd_pass (h : INV n V S) (hn : n + 60 ≤ 40000) (ha : s32 a = a) : C_x_pass (d + 20) 100 a V S (fun r V1 S1 => C_m_pass (d + 20) 137 a V1 S1 (fun r' V2 S2 => r = r' ∧ INV (n + 60) V2 S2)) := by
  have hk := h.1
  have hS := hk.1
  have hV := hk.2.1
  have n599 := hk.n599
  have c12 := hk.2.2.1.2.2.1.1
  have h60 := h.up (show n ≤ n + 60 by omega)
  by_cases h1 : 1 ≤ a ∧ a ≤ 60
  · by_cases h2 : 599 - V 137 0 < a
    · simp (disch := omega) only [I_x_pass, I_m_pass, p_isWithin, r_in hS, ha, h1, h2, hS.k100, hS.k137, c12, s32_id (x := 1), s32_id (x := 60), s32_id (x := 599 - V 137 0), s32_id (x := V 137 0 + a), s32_id (x := 600), show ¬ V 137 0 + a < 600 from by omega, h60, b_s32, b_eq0, b_01, l0, l1, true_and, and_true, and_self, true_implies, false_implies, implies_true, forall_const, not_true_eq_false, not_false_eq_true, reduceIte, ite_true, ite_false, reduceCtorEq, forall_eq, Classical.not_not, true_or, or_true, false_or, or_false, and_false, false_and, Int.reduceEq, Int.reduceLT, Int.reduceLE, Int.reduceAdd, Int.reduceSub, Int.reduceMul, Int.reduceNeg]
    · rw [← mix_self (V := V)] at h
      obtain ⟨V1, Vm1, i1, i2, i3, i4, i5, i6⟩ := daysPair (b := a) (d + 3) a.toNat n 0 (V 137 0) V V h hV (by omega) rfl (by omega) c12 (Int.le_refl _) (by omega) h1.2
      have ea : (a.toNat : Int) = a := by omega
      rw [ea] at i1 i3 i5 i6
      simp (disch := omega) only [I_x_pass, p_isWithin, ha, h1, h2, hS.k100, c12, s32_id (x := 1), s32_id (x := 60), s32_id (x := 599 - V 137 0), b_s32, b_eq0, b_01, l0, l1, true_and, and_true, and_self, true_implies, false_implies, implies_true, forall_const, not_true_eq_false, not_false_eq_true, reduceIte, ite_true, ite_false, reduceCtorEq, forall_eq, Classical.not_not, true_or, or_true, false_or, or_false, and_false, false_and, Int.reduceEq, Int.reduceLT, Int.reduceLE, Int.reduceAdd, Int.reduceSub, Int.reduceMul, Int.reduceNeg]
      refine i5 _ (0, 0) ?_
      have e0' : V1 137 0 = V 137 0 := i4 _ _ (by omega) (by omega)
      simp (disch := omega) only [I_m_pass, r_in hS, ha, h1, hS.k137, e0', s32_id (x := 1), s32_id (x := 60), s32_id (x := V 137 0 + a), s32_id (x := 600), show V 137 0 + a < 600 from by omega, b_s32, b_eq0, b_01, l0, l1, true_and, and_true, and_self, true_implies, false_implies, implies_true, forall_const, not_true_eq_false, not_false_eq_true, reduceIte, ite_true, ite_false, reduceCtorEq, forall_eq, Classical.not_not, true_or, or_true, false_or, or_false, and_false, false_and, Int.reduceEq, Int.reduceLT, Int.reduceLE, Int.reduceAdd, Int.reduceSub, Int.reduceMul, Int.reduceNeg]
      refine i6 V1 _ (0, 0) i2 (fun p q p0 p1 _ => i4 p q p0 p1) (fun W' hW' eW' s' => ?_)
      have hi := MSC.inv i1 eW' s'
      exact ⟨rfl, hi.up (by omega)⟩
  · simp (disch := omega) only [I_x_pass, I_m_pass, p_isWithin, r_in hS, ha, h1, hS.k100, hS.k137, s32_id (x := 1), s32_id (x := 60), h60, b_s32, b_eq0, b_01, l0, l1, true_and, and_true, and_self, true_implies, false_implies, implies_true, forall_const, not_true_eq_false, not_false_eq_true, reduceIte, ite_true, ite_false, reduceCtorEq, forall_eq, Classical.not_not, true_or, or_true, false_or, or_false, and_false, false_and, Int.reduceEq, Int.reduceLT, Int.reduceLE, Int.reduceAdd, Int.reduceSub, Int.reduceMul, Int.reduceNeg]
end PS
