/-! a day of all lamps while a draft is tried -/
def litk (x : Int) : Bool := decide ((1 ≤ x ∧ x ≤ 3) ∨ x = 6)
def tld (set i : Int) : Bool := gb (ishrI set i) 0
def LTn (Vm : Mem) (set t : Int) : Nat → Int
  | 0 => 0
  | N + 1 => LTn Vm set t N + b2 (tld set (N : Int) && litk (Vm 158 (600 * (N : Int) + t)))
def TS0 (V0 Wd V Vm : Mem) (S : Shp) (M : Nat) (Dy : Int → Int) (C : Int → List CL) (t0 t : Int) : Prop := CFt M V0 V ∧ MFt t0 V0 Vm ∧ Vm 137 0 = t ∧ TCT V S M Dy C true ∧ TEQ Wd Vm ∧ (V 106 4 = t / 30 ∧ V 106 5 = nbT Wd 1 t true ∧ V 106 6 = nbT Wd 2 t true ∧ OFS V C (rulC Dy C 4 0 t (cnt M true)))
def AGV (set : Int) (V V2 : Mem) : Prop := FV V2 ∧ ∀ p q, ¬ (137 ≤ p ∧ p ≤ 199) → ¬ (1000 ≤ p ∧ p < 1200 ∧ p % 10 = 2 ∧ q ≤ 3 ∧ tld set ((p - 1002) / 10) = false) → V2 p q = V p q
section TL
variable {d M : Nat} {n m i t t0 b c l r D p q set dy last : Int} {V V0 V1 V2 Vm Wd W W' : Mem} {S : Shp} {Q : Int → Mem → Shp → Prop} {Dy : Int → Int} {C : Int → List CL}
theorem p_isLit (hS : FS S) (hV : FV V) (hc : 0 ≤ c ∧ c ≤ 6) : C_Acts_isLit (d + 4) c V S Q ↔ Q (b2 (litk c)) V S := by
  rw [I_Acts_isLit, p_isUnder hS hV (by omega) (by omega) (by omega), p_isUnder hS hV (by omega) (by omega) (by omega)]
  rcases (by omega : c = 0 ∨ c = 1 ∨ c = 2 ∨ c = 3 ∨ c = 4 ∨ c = 5 ∨ c = 6) with rfl | rfl | rfl | rfl | rfl | rfl | rfl
  · rw [if_neg (by decide), if_neg (by decide), show b2 (litk 0) = 0 from by decide]; simp (disch := omega) only [b_s32, b_eq0, b_01, l0, l1, true_and, and_true, and_self, true_implies, false_implies, implies_true, forall_const, not_true_eq_false, not_false_eq_true, reduceIte, ite_true, ite_false, reduceCtorEq, forall_eq, Classical.not_not, true_or, or_true, false_or, or_false, and_false, false_and, Int.reduceEq, Int.reduceLT, Int.reduceLE, Int.reduceAdd, Int.reduceSub, Int.reduceMul, Int.reduceNeg]
  · rw [if_pos (by decide), show b2 (litk 1) = 1 from by decide]; simp (disch := omega) only [b_s32, b_eq0, b_01, l0, l1, true_and, and_true, and_self, true_implies, false_implies, implies_true, forall_const, not_true_eq_false, not_false_eq_true, reduceIte, ite_true, ite_false, reduceCtorEq, forall_eq, Classical.not_not, true_or, or_true, false_or, or_false, and_false, false_and, Int.reduceEq, Int.reduceLT, Int.reduceLE, Int.reduceAdd, Int.reduceSub, Int.reduceMul, Int.reduceNeg]
  · rw [if_neg (by decide), if_pos (by decide), show b2 (litk 2) = 1 from by decide]; simp (disch := omega) only [b_s32, b_eq0, b_01, l0, l1, true_and, and_true, and_self, true_implies, false_implies, implies_true, forall_const, not_true_eq_false, not_false_eq_true, reduceIte, ite_true, ite_false, reduceCtorEq, forall_eq, Classical.not_not, true_or, or_true, false_or, or_false, and_false, false_and, Int.reduceEq, Int.reduceLT, Int.reduceLE, Int.reduceAdd, Int.reduceSub, Int.reduceMul, Int.reduceNeg]
  · rw [if_neg (by decide), if_pos (by decide), show b2 (litk 3) = 1 from by decide]; simp (disch := omega) only [b_s32, b_eq0, b_01, l0, l1, true_and, and_true, and_self, true_implies, false_implies, implies_true, forall_const, not_true_eq_false, not_false_eq_true, reduceIte, ite_true, ite_false, reduceCtorEq, forall_eq, Classical.not_not, true_or, or_true, false_or, or_false, and_false, false_and, Int.reduceEq, Int.reduceLT, Int.reduceLE, Int.reduceAdd, Int.reduceSub, Int.reduceMul, Int.reduceNeg]
  · rw [if_neg (by decide), if_neg (by decide), show b2 (litk 4) = 0 from by decide]; simp (disch := omega) only [b_s32, b_eq0, b_01, l0, l1, true_and, and_true, and_self, true_implies, false_implies, implies_true, forall_const, not_true_eq_false, not_false_eq_true, reduceIte, ite_true, ite_false, reduceCtorEq, forall_eq, Classical.not_not, true_or, or_true, false_or, or_false, and_false, false_and, Int.reduceEq, Int.reduceLT, Int.reduceLE, Int.reduceAdd, Int.reduceSub, Int.reduceMul, Int.reduceNeg]
  · rw [if_neg (by decide), if_neg (by decide), show b2 (litk 5) = 0 from by decide]; simp (disch := omega) only [b_s32, b_eq0, b_01, l0, l1, true_and, and_true, and_self, true_implies, false_implies, implies_true, forall_const, not_true_eq_false, not_false_eq_true, reduceIte, ite_true, ite_false, reduceCtorEq, forall_eq, Classical.not_not, true_or, or_true, false_or, or_false, and_false, false_and, Int.reduceEq, Int.reduceLT, Int.reduceLE, Int.reduceAdd, Int.reduceSub, Int.reduceMul, Int.reduceNeg]
  · rw [if_pos (by decide), show b2 (litk 6) = 1 from by decide]; simp (disch := omega) only [b_s32, b_eq0, b_01, l0, l1, true_and, and_true, and_self, true_implies, false_implies, implies_true, forall_const, not_true_eq_false, not_false_eq_true, reduceIte, ite_true, ite_false, reduceCtorEq, forall_eq, Classical.not_not, true_or, or_true, false_or, or_false, and_false, false_and, Int.reduceEq, Int.reduceLT, Int.reduceLE, Int.reduceAdd, Int.reduceSub, Int.reduceMul, Int.reduceNeg]
theorem upB_cg (h : V2 p q = V p q) : upB V2 b c l r D p q = upB V b c l r D p q := by
  unfold upB
  exact up2_cg (up2_cg (up2_cg (up2_cg h)))
theorem b2_01 (v : Bool) : b2 v = 0 ∨ b2 v = 1 := by cases v; exact Or.inl rfl; exact Or.inr rfl
/-- one lamp: the virtual memory, the model, and the component's own -/
theorem triLamp (d : Nat) (h : INV n V0 S) (hn : n ≤ 40000) (h0 : V0 137 0 = t0) (ht0 : t0 ≤ t ∧ t ≤ 599) (k : Nat) (i1 : (k : Int) < V0 137 2) (hM10 : M ≤ 10) (hTM : TM Wd true) (hst : TS0 V0 Wd V Vm S M Dy C t0 t)
    (g1 : 0 ≤ nbT Wd 1 t true ∧ nbT Wd 1 t true ≤ 999) (g2 : nbT Wd 2 t true = 0 ∨ nbT Wd 2 t true = 1)
    (er : rulC Dy C 4 0 t (cnt M true) < 0 ↔ rulr Wd 4 0 t true < 0) (ec : 0 ≤ rulr Wd 4 0 t true → clC C 4 0 (rulC Dy C 4 0 t (cnt M true)) = clM Wd 4 0 (rulr Wd 4 0 t true))
    (hL : LMP V0 V Vm t0 t (k : Int)) (hA : AGV set V V2) :
    ∃ (V' Vm' V2' : Mem), TS0 V0 Wd V' Vm' S M Dy C t0 t ∧ LMP V0 V' Vm' t0 (t + 1) (k : Int) ∧
      (∀ j T, 0 ≤ j → j < V0 137 2 → j ≠ (k : Int) → 0 ≤ T → T ≤ 600 → LMP V0 V Vm t0 T j → LMP V0 V' Vm' t0 T j) ∧ (∀ j, j ≠ (k : Int) → Vm' 158 (600 * j + t) = Vm 158 (600 * j + t)) ∧ (0 ≤ Vm' 158 (600 * (k : Int) + t) ∧ Vm' 158 (600 * (k : Int) + t) ≤ 6) ∧ (∀ q, Vm' 177 q = Vm 177 q ∧ Vm' 144 q = Vm 144 q) ∧ AGV set V' V2' ∧ (∀ p q, 137 ≤ p → p ≤ 199 → V2' p q = V2 p q) ∧
      (∀ (Q : Int → Mem → Shp → Prop) (g : Cnt) (L : Int) (u6 : XV), (∀ u6, K_x_litDays (d + 15) Q (67, [(2, 100), (0, set), (0, last), (0, L + b2 (tld set (k : Int) && litk (Vm' 158 (600 * (k : Int) + t)))), (0, dy), (0, (k : Int) + 1), u6], [], V2', S, g)) → K_x_litDays (d + 15) Q (67, [(2, 100), (0, set), (0, last), (0, L), (0, dy), (0, (k : Int)), u6], [], V2, S, g)) ∧
      (∀ (W : Mem) (U : Mem → Shp → Prop) (g : Cnt), FV W → MSC Vm W → (∀ W', FV W' → MSC Vm' W' → (∀ p q, ¬ (137 ≤ p ∧ p ≤ 199) → W' p q = W p q) → K_m_goDay (d + 15) U (2, [(2, 137), (0, (k : Int) + 1)], [], W', S, g)) → K_m_goDay (d + 15) U (2, [(2, 137), (0, (k : Int))], [], W, S, g)) := by
  have hk := h.1
  have hS := hk.1
  have n20 := hk.n20
  have l20 := hk.2.2.1.2.1.2.1
  obtain ⟨hC, hM, h137, hT, eT, hs⟩ := hst
  obtain ⟨κ, c, l, r, V', Vm', eV', κr, eκ, t1, t2, t3, t4, tq, t5, t6, t7, hHom, hc, hm⟩ := triStep (d + 1) h hn h0 ht0 (by omega) i1 hM10 hC hM h137 hT hTM eT hs g1 g2 er ec hL
  obtain ⟨hVC, hC⟩ := hC
  obtain ⟨hV2, hA⟩ := hA
  obtain ⟨⟨k0, k1, k2, k3, k4, k5, k6, k7⟩, r1, r2, r4, r5, r6, r7, r8⟩ := hk.lamp (a := (k : Int)) (by omega) i1
  have TC2 : TCT V2 S M Dy C true := hT.fr hV2 (fun p q n0 n1 _ => hA p q n0 (by omega))
  have fs' : ∀ p q, ¬ (p = 1002 + 10 * (k : Int)) → V' p q = V p q := fun p q hp => by rw [eV']; exact upB_ne hp
  have TS' : TS0 V0 Wd V' Vm' S M Dy C t0 t := by
    refine ⟨t1, t2, t3, hT.fr t1.1 (fun p q n0 n1 _ => fs' p q (by omega)), eT.tr t4, ?_⟩
    unfold OFS at hs ⊢
    rw [fs' _ _ (by omega), fs' _ _ (by omega), fs' _ _ (by omega), fs' _ _ (by omega), fs' _ _ (by omega)]
    exact hs
  have c11 : V2 100 11 = V0 137 2 := (hA _ _ (by omega) (by omega)).trans ((hC _ _ (by omega) (by omega) (by omega) (by unfold TA; omega)).trans hk.2.2.1.2.1.1)
  have si : s32 (k : Int) = (k : Int) := s32_id (by omega) (by omega)
  have s2' : s32 (V0 137 2) = V0 137 2 := s32_id (by omega) (by omega)
  have ql := fun (Q : Int → Mem → Shp → Prop) => q_lampAt (d := d + 14) (a := (k : Int)) (L := V0 137 2) (V := V2) (S := S) (Q := Q) hS hV2 ⟨c11, by omega, by omega⟩ (fun i' q0 q1 => (hA _ _ (by omega) (by omega)).trans ((hC _ _ (by omega) (by omega) (by omega) (by unfold TA; omega)).trans (hk.lamp q0 q1).2.1))
  have v5 : V2 (1000 + 10 * (k : Int)) 5 = 1002 + 10 * (k : Int) := (hA _ _ (by omega) (by omega)).trans ((hC _ _ (by omega) (by omega) (by omega) (by unfold TA; omega)).trans r5)
  have hki : (1002 + 10 * (k : Int) - 1002) / 10 = (k : Int) := by omega
  by_cases ct : tld set (k : Int) = true
  · refine ⟨V', Vm', upB V2 (1002 + 10 * (k : Int)) c l r (if κ = 5 then V (1002 + 10 * (k : Int)) 3 + 1 else 0), TS', t5, t6, t7, by rw [eκ]; exact κr, tq, ⟨hV2.fr (fun p q hd => upB_ne (by unfold VD at hd; omega)), fun p q n0 n1 => ?_⟩, fun p q p0 p1 => upB_ne (by omega), fun Q g L u6 hU => ?_, fun W U g hW eW hU => hm W U g hW eW hU⟩
    · rw [eV']
      refine upB_cg ?_
      by_cases e : p = 1002 + 10 * (k : Int)
      · refine hA p q n0 (fun z => ?_)
        have z5 := z.2.2.2.2
        rw [e, hki, ct] at z5
        cases z5
      · exact hA p q n0 n1
    · have hV := hV2
      have ea : s32 (iandI (ishrI set (k : Int)) 1) = 1 := by rw [and_b, show gb (ishrI set (k : Int)) 0 = true from ct]; decide
      have hb : ∀ q, V2 (1002 + 10 * (k : Int)) q = V (1002 + 10 * (k : Int)) q := fun q => hA _ q (by omega) (fun z => by
        have z5 := z.2.2.2.2
        rw [hki, ct] at z5
        cases z5)
      have hL2 : ∀ q, V2 (1000 + 10 * (k : Int)) q = V (1000 + 10 * (k : Int)) q := fun q => hA _ q (by omega) (by omega)
      have H2 : HOM V2 Vm S (k : Int) (1002 + 10 * (k : Int)) t := by
        obtain ⟨m1, -⟩ := hL
        have mv : ∀ p q, 140 ≤ p → p ≤ 145 → Vm p q = V0 p q := fun p q p0 p1 => hM p q (by omega) (by omega) (by unfold RCf; omega) (by omega) (by omega) (by omega) (by omega) (by omega)
        exact h.hom (by omega) i1 ⟨by have := hk.n599; omega, by omega⟩ k2 (fun q _ _ => (hL2 q).trans (hC _ _ (by omega) (by omega) (by omega) (by unfold TA; omega))) (fun p q p0 p1 => (hA p q (by omega) (by omega)).trans (hC p q (by omega) (by omega) (by omega) (by unfold TA; omega))) ⟨mv _ _ (by omega) (by omega), mv _ _ (by omega) (by omega)⟩ (fun q => mv _ _ (by omega) (by omega)) ⟨(hb 0).trans m1.1, (hb 1).trans m1.2.1, (hb 2).trans m1.2.2⟩
      rw [eκ] at hU
      rw [L_x_litDays_67]
      simp (disch := omega) only [hS.k100, hV.r100_4, c11, si, s2', i1, ql, ea, k0, v5, show ¬ 1000 + 10 * (k : Int) = -1 from by omega, show (0 : Int) ≤ (k : Int) from by omega, b_s32, b_eq0, b_01, l0, l1, true_and, and_true, and_self, true_implies, false_implies, implies_true, forall_const, not_true_eq_false, not_false_eq_true, reduceIte, ite_true, ite_false, reduceCtorEq, forall_eq, Classical.not_not, true_or, or_true, false_or, or_false, and_false, false_and, Int.reduceEq, Int.reduceLT, Int.reduceLE, Int.reduceAdd, Int.reduceSub, Int.reduceMul, Int.reduceNeg]
      refine hc V2 (1002 + 10 * (k : Int)) k2 TC2 H2 (fun q => ⟨hL2 q, hb q, hA _ _ (by omega) (by omega)⟩) _ ?_
      have hVu : FV (upB V2 (1002 + 10 * (k : Int)) c l r (if κ = 5 then V (1002 + 10 * (k : Int)) 3 + 1 else 0)) := hV2.fr (fun p q hd => upB_ne (by unfold VD at hd; omega))
      rw [p_isLit (d := d + 11) hS hVu κr]
      rw [ct, Bool.true_and] at hU
      cases hq : litk κ
      · rw [hq] at hU
        have hU : ∀ u6, K_x_litDays (d + 15) Q (67, [(2, 100), (0, set), (0, last), (0, L), (0, dy), (0, (k : Int) + 1), u6], [], _, S, g) := fun u6 => by have := hU u6; rw [show L + b2 false = L from Int.add_zero L] at this; exact this
        simp only [show s32 (b2 false) = 0 from by decide, hU, b_s32, b_eq0, b_01, l0, l1, true_and, and_true, and_self, true_implies, false_implies, implies_true, forall_const, not_true_eq_false, not_false_eq_true, reduceIte, ite_true, ite_false, reduceCtorEq, forall_eq, Classical.not_not, true_or, or_true, false_or, or_false, and_false, false_and, Int.reduceEq, Int.reduceLT, Int.reduceLE, Int.reduceAdd, Int.reduceSub, Int.reduceMul, Int.reduceNeg]
      · rw [hq] at hU
        have hU : ∀ u6, K_x_litDays (d + 15) Q (67, [(2, 100), (0, set), (0, last), (0, L + 1), (0, dy), (0, (k : Int) + 1), u6], [], _, S, g) := hU
        simp only [show ¬ s32 (b2 true) = 0 from by decide, hU, b_s32, b_eq0, b_01, l0, l1, true_and, and_true, and_self, true_implies, false_implies, implies_true, forall_const, not_true_eq_false, not_false_eq_true, reduceIte, ite_true, ite_false, reduceCtorEq, forall_eq, Classical.not_not, true_or, or_true, false_or, or_false, and_false, false_and, Int.reduceEq, Int.reduceLT, Int.reduceLE, Int.reduceAdd, Int.reduceSub, Int.reduceMul, Int.reduceNeg]
  · have cf := nf ct
    refine ⟨V', Vm', V2, TS', t5, t6, t7, by rw [eκ]; exact κr, tq, ⟨hV2, fun p q n0 n1 => ?_⟩, fun p q p0 p1 => rfl, fun Q g L u6 hU => ?_, fun W U g hW eW hU => hm W U g hW eW hU⟩
    · by_cases e : p = 1002 + 10 * (k : Int)
      · have q4 : 4 ≤ q := by
          by_cases q4 : 4 ≤ q
          · exact q4
          · refine absurd ⟨by omega, by omega, by omega, by omega, ?_⟩ n1
            rw [e, hki]
            exact cf
        rw [eV', upB_n4 q4]
        exact hA p q n0 (by omega)
      · rw [fs' p q e]
        exact hA p q n0 n1
    · have hV := hV2
      have ea : s32 (iandI (ishrI set (k : Int)) 1) = 0 := by rw [and_b, show gb (ishrI set (k : Int)) 0 = false from cf]; decide
      rw [cf, Bool.false_and] at hU
      have hU : ∀ u6, K_x_litDays (d + 15) Q (67, [(2, 100), (0, set), (0, last), (0, L), (0, dy), (0, (k : Int) + 1), u6], [], V2, S, g) := fun u6 => by have := hU u6; rw [show L + b2 false = L from Int.add_zero L] at this; exact this
      rw [L_x_litDays_67]
      simp (disch := omega) only [hS.k100, c11, si, s2', i1, ql, ea, hU, show ¬ 1000 + 10 * (k : Int) = -1 from by omega, show (0 : Int) ≤ (k : Int) from by omega, b_s32, b_eq0, b_01, l0, l1, true_and, and_true, and_self, true_implies, false_implies, implies_true, forall_const, not_true_eq_false, not_false_eq_true, reduceIte, ite_true, ite_false, reduceCtorEq, forall_eq, Classical.not_not, true_or, or_true, false_or, or_false, and_false, false_and, Int.reduceEq, Int.reduceLT, Int.reduceLE, Int.reduceAdd, Int.reduceSub, Int.reduceMul, Int.reduceNeg]
end TL
