section TDZ
variable {d M : Nat} {n m i t t0 p q set last nn lit kk : Int} {V V0 V1 V2 Vm Wd W W' : Mem} {S : Shp} {Q : Int → Mem → Shp → Prop}
/-- between the days of a trial -/
def TSB (V0 Wd V Vm V2 : Mem) (S : Shp) (M : Nat) (set t0 t : Int) : Prop := CFt M V0 V ∧ MFt t0 V0 Vm ∧ Vm 137 0 = t ∧ TCT V S M (DyT Wd M) (CTT Wd M) true ∧ TEQ Wd Vm ∧ (∀ j, 0 ≤ j → j < V0 137 2 → LMP V0 V Vm t0 t j) ∧ AGV set V V2
def set4 (V : Mem) (t a b c e : Int) : Mem := up2 (up2 (up2 (up2 (up2 V 106 4 (t / 30)) 106 5 a) 106 6 b) 106 7 c) 106 8 e
theorem set4_ne {a b c e : Int} (h : ¬ (p = 106 ∧ 4 ≤ q ∧ q ≤ 8)) : set4 V t a b c e p q = V p q := by
  unfold set4
  rw [up2_ne (by omega), up2_ne (by omega), up2_ne (by omega), up2_ne (by omega), up2_ne (by omega)]
theorem set4_cg {a b c e : Int} (h : V2 p q = V p q) : set4 V2 t a b c e p q = set4 V t a b c e p q := up2_cg (up2_cg (up2_cg (up2_cg (up2_cg h))))
theorem LMP.cg {A B : Mem} {j T : Int} (h : LMP V0 V Vm t0 T j) (h1 : ∀ k, A (1002 + 10 * j) k = V (1002 + 10 * j) k) (h2 : ∀ p k, 146 ≤ p → p ≤ 158 → B p k = Vm p k) : LMP V0 A B t0 T j := by
  unfold LMP at h ⊢
  simp (disch := omega) only [h1, h2]
  exact h
theorem triDays (d : Nat) (h : INV n V0 S) (hn : n ≤ 40000) (h0 : V0 137 0 = t0) (hM10 : M ≤ 10) (hTM : TM Wd true) (hMW : (M : Int) = Wd 137 24)
    (hg : ∀ t, (0 ≤ nbT Wd 1 t true ∧ nbT Wd 1 t true ≤ 999) ∧ (nbT Wd 2 t true = 0 ∨ nbT Wd 2 t true = 1)) (hla : last ≤ 599) (hlb : last ≤ t0 + nn - 1) (hlc : last = 599 ∨ last = t0 + nn - 1) (hnn : 1 ≤ nn ∧ nn ≤ 60) :
    ∀ (N : Nat) (t kk lit : Int) (V Vm V2 : Mem), (N : Int) + t = last + 1 → t = t0 + kk → 0 ≤ kk → TSB V0 Wd V Vm V2 S M set t0 t →
    ∃ (R : Int) (V' Vm' V2' : Mem), TSB V0 Wd V' Vm' V2' S M set t0 (last + 1) ∧ (∀ q, Vm' 177 q = Vm 177 q ∧ Vm' 144 q = Vm 144 q) ∧ (∀ p q, 137 ≤ p → p ≤ 199 → V2' p q = V2 p q) ∧
      (∀ (Q : Int → Mem → Shp → Prop) (g : Cnt) (u5 u6 : XV), Q R V2' S → K_x_litDays (d + 15) Q (49, [(2, 100), (0, set), (0, last), (0, lit), (0, t), u5, u6], [], V2, S, g)) ∧
      (∀ (W : Mem) (Q : Int → Mem → Shp → Prop) (g : Cnt) (u6 u7 : XV), FV W → MSC Vm W → (∀ W', FV W' → MSC Vm' W' → (∀ p q, ¬ (137 ≤ p ∧ p ≤ 199) → W' p q = W p q) → C_m_putBack (d + 16) 137 (up2 W' 137 0 t0) S (fun V2 S2 => ((S2.1 137 = 12 ∧ (s32 0 = 0 ∨ s32 0 = 1)) ∧ ∀ V3 : Mem, V3 = up2 V2 137 45 0 → Q R V3 S2))) → K_m_tried (d + 16) Q (148, [(2, 137), (0, set), (0, nn), (0, t0), (0, lit), (0, kk), u6, u7], [], W, S, g)) := by
  have hk := h.1
  have hS := hk.1
  have n599 := hk.n599
  have n20 := hk.n20
  have l20 := hk.2.2.1.2.1.2.1
  intro N
  induction N with
  | zero =>
    intro t kk lit V Vm V2 hN ht hk0 hst
    have e : t = last + 1 := by omega
    have sl : s32 last = last := s32_id (by omega) (by omega)
    have st : s32 t = t := s32_id (by omega) (by omega)
    have skk : s32 kk = kk := s32_id (by omega) (by omega)
    have snn : s32 nn = nn := s32_id (by omega) (by omega)
    refine ⟨lit, V, Vm, V2, by rw [← e]; exact hst, fun _ => ⟨rfl, rfl⟩, fun _ _ _ _ => rfl, fun Q g u5 u6 hQ => ?_, fun W Q g u6 u7 hW eW hQ => ?_⟩
    · have hl : last < t := by omega
      cases u5 with
      | mk a1 a2 => cases u6 with
        | mk c1 c2 =>
          rw [L_x_litDays_49]
          simp (disch := omega) only [sl, st, hl, hQ, b_s32, b_eq0, b_01, l0, l1, true_and, and_true, and_self, true_implies, false_implies, implies_true, forall_const, not_true_eq_false, not_false_eq_true, reduceIte, ite_true, ite_false, reduceCtorEq, forall_eq, Classical.not_not, true_or, or_true, false_or, or_false, and_false, false_and, Int.reduceEq, Int.reduceLT, Int.reduceLE, Int.reduceAdd, Int.reduceSub, Int.reduceMul, Int.reduceNeg]
    · have w0 : W 137 0 = t := (eW _ _ (by omega) (by omega) (by unfold RCf; omega)).trans hst.2.2.1
      have := hQ W hW eW (fun _ _ _ => rfl)
      rw [L_m_tried_148]
      by_cases c1 : kk < nn
      · simp (disch := omega) only [skk, snn, c1, hS.k137, w0, st, s32_id (x := 600), show ¬ t < 600 from by omega, forall_eq, b_s32, b_eq0, b_01, l0, l1, true_and, and_true, and_self, true_implies, false_implies, implies_true, forall_const, not_true_eq_false, not_false_eq_true, reduceIte, ite_true, ite_false, reduceCtorEq, forall_eq, Classical.not_not, true_or, or_true, false_or, or_false, and_false, false_and, Int.reduceEq, Int.reduceLT, Int.reduceLE, Int.reduceAdd, Int.reduceSub, Int.reduceMul, Int.reduceNeg]
        simp only [forall_eq, b_s32, b_eq0, b_01, l0, l1, true_and, and_true, and_self, true_implies, false_implies, implies_true, forall_const, not_true_eq_false, not_false_eq_true, reduceIte, ite_true, ite_false, reduceCtorEq, forall_eq, Classical.not_not, true_or, or_true, false_or, or_false, and_false, false_and, Int.reduceEq, Int.reduceLT, Int.reduceLE, Int.reduceAdd, Int.reduceSub, Int.reduceMul, Int.reduceNeg] at this
        exact this
      · simp (disch := omega) only [skk, snn, c1, hS.k137, forall_eq, b_s32, b_eq0, b_01, l0, l1, true_and, and_true, and_self, true_implies, false_implies, implies_true, forall_const, not_true_eq_false, not_false_eq_true, reduceIte, ite_true, ite_false, reduceCtorEq, forall_eq, Classical.not_not, true_or, or_true, false_or, or_false, and_false, false_and, Int.reduceEq, Int.reduceLT, Int.reduceLE, Int.reduceAdd, Int.reduceSub, Int.reduceMul, Int.reduceNeg]
        simp only [forall_eq, b_s32, b_eq0, b_01, l0, l1, true_and, and_true, and_self, true_implies, false_implies, implies_true, forall_const, not_true_eq_false, not_false_eq_true, reduceIte, ite_true, ite_false, reduceCtorEq, forall_eq, Classical.not_not, true_or, or_true, false_or, or_false, and_false, false_and, Int.reduceEq, Int.reduceLT, Int.reduceLE, Int.reduceAdd, Int.reduceSub, Int.reduceMul, Int.reduceNeg] at this
        exact this
  | succ N ih =>
    intro t kk lit V Vm V2 hN ht hk0 hst
    have sl : s32 last = last := s32_id (by omega) (by omega)
    have st : s32 t = t := s32_id (by omega) (by omega)
    have skk : s32 kk = kk := s32_id (by omega) (by omega)
    have snn : s32 nn = nn := s32_id (by omega) (by omega)
    obtain ⟨⟨hVC, c1⟩, c2, c3, c4, c5, c6, ⟨hV2, c7⟩⟩ := hst
    obtain ⟨g1, g2⟩ := hg t
    obtain ⟨er, ec⟩ := rul_t (aw := 4) (ac := 0) (day := t) hMW
    have TC2 : TCT V2 S M (DyT Wd M) (CTT Wd M) true := c4.fr hV2 (fun p q n0 n1 _ => c7 p q n0 (by omega))
    generalize hr : oft (rulC (DyT Wd M) (CTT Wd M) 4 0 t (cnt M true)) = rr
    generalize hr2 : ofc (CTT Wd M) (rulC (DyT Wd M) (CTT Wd M) 4 0 t (cnt M true)) = re
    have sf : ∀ X : Mem, FV X → FV (set4 X t (nbT Wd 1 t true) (nbT Wd 2 t true) rr re) := fun X hX => hX.fr (fun p q hd => set4_ne (by unfold VD at hd; omega))
    have hstS : TS0 V0 Wd (set4 V t (nbT Wd 1 t true) (nbT Wd 2 t true) rr re) Vm S M (DyT Wd M) (CTT Wd M) t0 t := by
      refine ⟨⟨sf V hVC, fun p q n0 n1 n2 n3 => (set4_ne (by omega)).trans (c1 p q n0 n1 n2 n3)⟩, c2, c3, c4.fr (sf V hVC) (fun p q _ _ n2 => set4_ne n2), c5, ?_⟩
      unfold OFS
      rw [hr, hr2]
      unfold set4
      simp (disch := omega) only [up2_ne, up2_eq, and_self]
    obtain ⟨V1, Vm1, V21, a1, a2, -, a4, aq, a5, a6, a7, a8⟩ := triLamps (dy := t) (last := last) (set := set) (V2 := set4 V2 t (nbT Wd 1 t true) (nbT Wd 2 t true) rr re) d h hn h0 ⟨by omega, by omega⟩ hM10 hTM g1 g2 er ec (V0 137 2).toNat 0 _ Vm (by omega) hstS (fun j j0 j1 => by omega) (fun j j0 j1 => (c6 j (by omega) j1).cg (fun k => set4_ne (by omega)) (fun _ _ _ _ => rfl)) ⟨sf V2 hV2, fun p q n0 n1 => set4_cg (c7 p q n0 n1)⟩
    obtain ⟨b1, b2', b3, b4, b5, -⟩ := a1
    have hst2 : TSB V0 Wd V1 (up2 Vm1 137 0 (t + 1)) V21 S M set t0 (t + 1) := ⟨b1, fun p q p0 p1 n1 n2 n3 n4 n5 n6 => (up2_ne (by omega)).trans (b2' p q p0 p1 n1 n2 n3 n4 n5 n6), up2_eq rfl rfl, b4, fun p q hh => (up2_ne (by omega)).trans (b5 p q hh), fun j j0 j1 => (a2 j j0 j1).cg (fun _ => rfl) (fun p k p0 p1 => up2_ne (by omega)), a5⟩
    obtain ⟨R, V', Vm', V2', e1, eq, e2, e3, e4⟩ := ih (t + 1) (kk + 1) (lit + LTn Vm1 set t (V0 137 2).toNat) V1 _ V21 (by omega) (by omega) (by omega) hst2
    have m0 : ∀ p q, 137 ≤ p → p ≤ 199 → V21 p q = V2 p q := fun p q p0 p1 => (a6 p q p0 p1).trans (set4_ne (by omega))
    refine ⟨R, V', Vm', V2', e1, fun q => ⟨(eq q).1.trans ((up2_ne (by omega)).trans (aq q).1), (eq q).2.trans ((up2_ne (by omega)).trans (aq q).2)⟩, fun p q p0 p1 => (e2 p q p0 p1).trans (m0 p q p0 p1), fun Q g u5 u6 hQ => ?_, fun W Q g u6 u7 hW eW hQ => ?_⟩
    · have hV := hV2
      have c11 : V21 100 11 = V0 137 2 := by
        obtain ⟨hh, hh2⟩ := a5
        obtain ⟨hb, hb2⟩ := b1
        exact (hh2 _ _ (by omega) (by omega)).trans ((hb2 _ _ (by omega) (by omega) (by omega) (by unfold TA; omega)).trans hk.2.2.1.2.1.1)
      have s2' : s32 (V0 137 2) = V0 137 2 := s32_id (by omega) (by omega)
      cases u5 with
      | mk a1' a2' => cases u6 with
        | mk c1' c2' =>
          rw [L_x_litDays_49]
          simp (disch := omega) only [sl, st, show ¬ last < t from by omega, hS.k100, hV.r100_4, b_s32, b_eq0, b_01, l0, l1, true_and, and_true, and_self, true_implies, false_implies, implies_true, forall_const, not_true_eq_false, not_false_eq_true, reduceIte, ite_true, ite_false, reduceCtorEq, forall_eq, Classical.not_not, true_or, or_true, false_or, or_false, and_false, false_and, Int.reduceEq, Int.reduceLT, Int.reduceLE, Int.reduceAdd, Int.reduceSub, Int.reduceMul, Int.reduceNeg]
          refine c_settleG (d := d + 6) TC2 st (by omega) ?_
          rw [nb_t hMW, nb_t hMW, hr, hr2]
          refine a7 Q g lit (9, 0) (fun u6 => ?_)
          have := e3 Q g (0, V0 137 2) (9, 0) hQ
          rw [show LTn Vm1 set t 0 = 0 from rfl, Int.sub_zero, L_x_litDays_67]
          simp (disch := omega) only [Nat.add_zero, hS.k100, c11, s2', Int.lt_irrefl, this, b_s32, b_eq0, b_01, l0, l1, true_and, and_true, and_self, true_implies, false_implies, implies_true, forall_const, not_true_eq_false, not_false_eq_true, reduceIte, ite_true, ite_false, reduceCtorEq, forall_eq, Classical.not_not, true_or, or_true, false_or, or_false, and_false, false_and, Int.reduceEq, Int.reduceLT, Int.reduceLE, Int.reduceAdd, Int.reduceSub, Int.reduceMul, Int.reduceNeg]
    · have w0 : W 137 0 = t := (eW _ _ (by omega) (by omega) (by unfold RCf; omega)).trans c3
      rw [L_m_tried_148]
      simp (disch := omega) only [skk, snn, show kk < nn from by omega, hS.k137, w0, st, s32_id (x := 600), show t < 600 from by omega, b_s32, b_eq0, b_01, l0, l1, true_and, and_true, and_self, true_implies, false_implies, implies_true, forall_const, not_true_eq_false, not_false_eq_true, reduceIte, ite_true, ite_false, reduceCtorEq, forall_eq, Classical.not_not, true_or, or_true, false_or, or_false, and_false, false_and, Int.reduceEq, Int.reduceLT, Int.reduceLE, Int.reduceAdd, Int.reduceSub, Int.reduceMul, Int.reduceNeg]
      rw [I_m_goDay]
      refine ⟨hS.k137, a8 W _ (0, 0) hW eW (fun W1 hW1 eW1 s1 => ?_)⟩
      have x0 : W1 137 0 = t := (eW1 _ _ (by omega) (by omega) (by unfold RCf; omega)).trans b3
      have x2 : W1 137 2 = V0 137 2 := (eW1 _ _ (by omega) (by omega) (by unfold RCf; omega)).trans (b2' _ _ (by omega) (by omega) (by unfold RCf; omega) (by omega) (by omega) (by omega) (by omega) (by omega))
      have s2' : s32 (V0 137 2) = V0 137 2 := s32_id (by omega) (by omega)
      rw [L_m_goDay_2]
      simp (disch := omega) only [hS.k137, x0, x2, s2', Int.lt_irrefl, forall_eq, b_s32, b_eq0, b_01, l0, l1, true_and, and_true, and_self, true_implies, false_implies, implies_true, forall_const, not_true_eq_false, not_false_eq_true, reduceIte, ite_true, ite_false, reduceCtorEq, forall_eq, Classical.not_not, true_or, or_true, false_or, or_false, and_false, false_and, Int.reduceEq, Int.reduceLT, Int.reduceLE, Int.reduceAdd, Int.reduceSub, Int.reduceMul, Int.reduceNeg]
      have hW2 : FV (up2 W1 137 0 (t + 1)) := hW1.fr (fun p q hd => up2_ne (by unfold VD at hd; omega))
      have y2 : (up2 W1 137 0 (t + 1)) 137 2 = V0 137 2 := (up2_ne (by omega)).trans x2
      have y158 : ∀ k, (up2 W1 137 0 (t + 1)) 158 k = Vm1 158 k := fun k => (up2_ne (by omega)).trans (eW1 _ _ (by omega) (by omega) (by unfold RCf; omega))
      refine m_lit (d := d + 15) hS hW2 (up2_eq rfl rfl) ⟨by omega, by omega⟩ (by rw [y2]; omega) (fun j j0 j1 => by rw [y158]; exact a4 j (by omega) (by rw [y2] at j1; exact j1)) (V0 137 2).toNat 0 lit (9, 0) (by rw [y2]; omega) ?_
      rw [Nat.add_zero, show ∀ X, LTn X set t 0 = 0 from fun _ => rfl, Int.sub_zero, LTn_cg (B := Vm1) _ (fun j _ => y158 _)]
      exact e4 _ Q g _ _ hW2 (fun p q p0 p1 n1 => up2_cg (eW1 p q p0 p1 n1)) (fun W2 hW2' eW2 s2 => hQ W2 hW2' eW2 (fun p q hp => (s2 p q hp).trans ((up2_ne (by omega)).trans (s1 p q hp))))
end TDZ
