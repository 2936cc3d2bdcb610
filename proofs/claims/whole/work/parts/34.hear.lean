/-! commands: take, of -/
section HP
variable {d : Nat} {n m a b c e i x L T D : Int} {V W Vm : Mem} {S : Shp} {Q : Int → Mem → Shp → Prop} {U : Mem → Shp → Prop}
theorem sr_p (T a x : Int) : ∀ (N : Nat) (c : Int), 0 ≤ c → (sr T a x N c).2 = 0 ∨ (c ≤ (sr T a x N c).1 ∧ (sr T a x N c).1 < c + N ∧ bt T (sr T a x N c).1 = false ∧ 1 ≤ (sr T a x N c).2 ∧ (sr T a x N c).2 ≤ 60) := by
  intro N
  induction N with
  | zero =>
    intro c c0
    exact Or.inl rfl
  | succ N ih =>
    intro c c0
    have hr := dd_r a c x
    unfold sr
    by_cases h : bt T c = true
    · rw [if_pos h]
      rcases ih (c + 1) (by omega) with g | ⟨g1, g2, g3, g4⟩
      · exact Or.inl g
      · exact Or.inr ⟨by omega, by omega, g3, g4⟩
    · rw [if_neg h]
      by_cases h2 : dd a c x = 0
      · rw [if_pos h2]
        rcases ih (c + 1) (by omega) with g | ⟨g1, g2, g3, g4⟩
        · exact Or.inl g
        · exact Or.inr ⟨by omega, by omega, g3, g4⟩
      · rw [if_neg h2]
        refine Or.inr ⟨by show c ≤ c; omega, by show c < c + ((N + 1 : Nat) : Int); omega, ?_, by show 1 ≤ dd a c x; omega, hr.2⟩
        cases hb : bt T c with
        | true => exact (h hb).elim
        | false => rfl
theorem accM_mix (i0 : 0 ≤ i) (r : Int × Int) : accM (mix W Vm) i L r = mix W (accM Vm i L r) := by
  unfold accM
  rw [mix_m (by omega), mix_m (by omega), mix_m (by omega), mix_m (by omega), mix_upm (by omega), mix_upm (by omega), mix_upm (by omega), mix_upm (by omega), mix_upm (by omega)]
theorem FV.mm (h : FV (mix V Vm)) (hw : FV W) : FV (mix W Vm) := h.mixm hw
theorem LSK.mx (h : LSK (mix V Vm) S i) (i0 : 0 ≤ i) : LSK V S i := by
  obtain ⟨h1, h2, h3, h4, h5, h6, h7, h8⟩ := h
  refine ⟨h1, ?_, ?_, ?_, ?_, ?_, ?_, ?_⟩
  · rw [mix_c (by omega)] at h2; exact h2
  · rw [mix_c (by omega)] at h3; exact h3
  · rw [mix_c (by omega)] at h4; exact h4
  · rw [mix_c (by omega)] at h5; exact h5
  · rw [mix_c (by omega)] at h6; exact h6
  · rw [mix_c (by omega)] at h7; exact h7
  · rw [mix_c (by omega)] at h8; exact h8
theorem hear_pair (d : Nat) (h : INV n (mix V Vm) S) (hm : n ≤ 40000) (i0 : 0 ≤ i) (i1 : i < Vm 137 2) (hx : s32 x = x) : ∃ (r : Int) (V1 Vm1 : Mem), (0 ≤ r ∧ r ≤ 60) ∧ INV (n + 1) (mix V1 Vm1) S ∧ (∀ a k, ¬ (1000 ≤ a ∧ a < 1200) → V1 a k = V a k) ∧ (∀ k, Vm1 137 k = Vm 137 k) ∧ (∀ a k, 179 ≤ a → Vm1 a k = Vm a k) ∧ (∀ Q : Int → Mem → Shp → Prop, Q r V1 S → C_Lamp_hearNumber (d + 6) (1000 + 10 * i) x V S Q) ∧ (∀ (W : Mem) (Q : Int → Mem → Shp → Prop), FV W → Q r (mix W Vm1) S → C_m_takesCode (d + 6) 137 i x (mix W Vm) S Q) := by
  have hk := h.1
  have hS := hk.1
  have n20 := hk.n20
  have n12 := hk.n12
  rw [mix_m (by omega)] at n20 n12
  have i1' : i < mix V Vm 137 2 := by rw [mix_m (by omega)]; exact i1
  have hl0 := hk.lamp i0 i1'
  have hl := hl0.mx i0
  obtain ⟨hA, hB, hM, hO, hC, -⟩ := h.2.2.2.1
  have hB1 := hB i i0 i1'
  have hM1 := hM i i0 i1'
  have hO1 := hO i i0 i1'
  have hC1 := hC i i0 i1'
  obtain ⟨ow, ol⟩ := LM1.ow hM1 hB1 hm
  unfold LB1 at hB1
  unfold LM1 at hM1
  unfold LO1 at hO1
  unfold LC1 at hC1
  simp (disch := omega) only [mix_m, mix_c] at hB1 hM1 hO1 hC1 ow ol
  obtain ⟨⟨k0, k1, k2, k3, k4, k5, k6, k7⟩, r1, r2, r4, r5, r6, r7, r8⟩ := hl
  have hl : LSK V S i := hl0.mx i0
  obtain ⟨b1, ⟨b2, b3, b4⟩, b5⟩ := hB1
  have hi : s32 i = i := s32_id (by omega) (by omega)
  by_cases hst : V (1000 + 10 * i) 9 = 1
  · obtain ⟨c1, c2, c3, c4, ⟨c5, c6, c7, c8⟩, c9⟩ := hC1
    obtain ⟨f1, f2, f3, f4, f5, f6, f7, f8⟩ := hM1
    have hst2 : Vm 144 i = 1 := by omega
    have hO2 := hO1 hst2
    obtain ⟨E, hE⟩ : ∃ E : Int, E = if Vm 149 i + 8 ≤ 64 then Vm 149 i + 8 else 64 := ⟨_, rfl⟩
    have hE2 : Vm 149 i ≤ E ∧ E ≤ 64 ∧ E ≤ Vm 149 i + 8 := by
      rw [hE]; split <;> omega
    have hN : (((E - Vm 149 i).toNat : Nat) : Int) + Vm 149 i = E := by omega
    have hsr := sr_p (V (1003 + 10 * i) 0) i x (E - Vm 149 i).toNat (Vm 149 i) c5
    have low := fun (Q : Int → Mem → Shp → Prop) => p_low (d := d + 1) (V := V) (Q := Q) (S := S) (a := 1003 + 10 * i) (L := Vm 149 i) k3 c5 c6 (by rw [c1]; exact c7) (by rw [c1]; exact c8)
    have kx := fun (Q : Int → Mem → Shp → Prop) => kx_accept (d := d + 2) (V := V) (Q := Q) (S := S) (g := (0, 0)) (A := 1003 + 10 * i) (E := E) k3 i0 (show i ≤ 19 by omega) hx hE2.2.1 (E - Vm 149 i).toNat (Vm 149 i) (0, Vm 149 i) (9, 0) c5 hN
    have km := fun (W : Mem) (hW : FV W) (Q : Int → Mem → Shp → Prop) => km_19 (d := d + 3) (V := mix W Vm) (Q := Q) (S := S) (g := (0, 0)) (L := Vm 149 i) hS (hk.2.1.mm hW) hx i0 (show i < 20 by omega) (by rw [mix_m (by omega)]) c5 c6 (E - Vm 149 i).toNat (Vm 149 i) (9, 0) c5 (by rw [hN, hE])
    rw [c1] at hsr
    simp only [c1] at kx
    have mT : ∀ W, mix W Vm 155 i = Vm 155 i := fun W => mix_m (by omega)
    have m144 : ∀ W, mix W Vm 144 i = Vm 144 i := fun W => mix_m (by omega)
    have m149 : ∀ W, mix W Vm 149 i = Vm 149 i := fun W => mix_m (by omega)
    simp only [mT, accM_mix i0] at km
    generalize sr (Vm 155 i) i x (E - Vm 149 i).toNat (Vm 149 i) = R at hsr kx km
    obtain ⟨Rc, Rd⟩ := R
    dsimp only at hsr kx km
    have eE : (if 64 < Vm 149 i + 8 then (64 : Int) else Vm 149 i + 8) = E := by
      rw [hE]; by_cases q : Vm 149 i + 8 ≤ 64
      · rw [if_pos q, if_neg (by omega)]
      · rw [if_neg q, if_pos (by omega)]
    have hx1 : ∀ Q : Int → Mem → Shp → Prop, C_Lamp_becomeOwnedIfPaid (d + 5) (1000 + 10 * i) (up2 (accV V (1003 + 10 * i) (Rc, Rd)) (1001 + 10 * i) 0 (accV V (1003 + 10 * i) (Rc, Rd) (1001 + 10 * i) 0 + Rd)) S (fun V3 S3 => Q Rd V3 S3) → C_Lamp_hearNumber (d + 6) (1000 + 10 * i) x V S Q := by
      intro Q hQ
      rw [I_Lamp_hearNumber]
      have ea : ∀ k, accV V (1003 + 10 * i) (Rc, Rd) (1000 + 10 * i) k = V (1000 + 10 * i) k := by
        intro k
        unfold accV
        split
        · rfl
        · simp (disch := omega) only [up2_ne]
      simp (disch := omega) only [k0, k1, hst, l1, r2, r4, r6, I_Codes_accept, k3, low, p_min, s32_id, s32_ite, eE, kx, ea, forall_eq, b_s32, b_eq0, b_01, l0, l1, true_and, and_true, and_self, true_implies, false_implies, implies_true, forall_const, not_true_eq_false, not_false_eq_true, reduceIte, ite_true, ite_false, reduceCtorEq, forall_eq, Classical.not_not, true_or, or_true, false_or, or_false, and_false, false_and, Int.reduceEq, Int.reduceLT, Int.reduceLE, Int.reduceAdd, Int.reduceSub, Int.reduceMul, Int.reduceNeg]
      exact hQ
    have hm1 : ∀ (W : Mem), FV W → ∀ (Q : Int → Mem → Shp → Prop), (if Rd = 0 then Q 0 (mix W Vm) S else C_m_look (d + 5) 137 i (mix W (accM Vm i (Vm 149 i) (Rc, Rd))) S (fun V1 S1 => Q Rd V1 S1)) → C_m_takesCode (d + 6) 137 i x (mix W Vm) S Q := by
      intro W hW Q hQ
      have hV := hk.2.1.mm hW
      rw [I_m_takesCode]
      simp (disch := omega) only [hS.k137, hS.k144, hS.n144, hV.r137_9, hS.k149, hS.n149, hV.r137_14, hi, i0, show i < 20 from by omega, m144, m149, hst2, l1, km W hW, b_s32, b_eq0, b_01, l0, l1, true_and, and_true, and_self, true_implies, false_implies, implies_true, forall_const, not_true_eq_false, not_false_eq_true, reduceIte, ite_true, ite_false, reduceCtorEq, forall_eq, Classical.not_not, true_or, or_true, false_or, or_false, and_false, false_and, Int.reduceEq, Int.reduceLT, Int.reduceLE, Int.reduceAdd, Int.reduceSub, Int.reduceMul, Int.reduceNeg]
      exact hQ
    by_cases hd : Rd = 0
    · subst hd
      refine ⟨0, V, Vm, ⟨by omega, by omega⟩, h.up (by omega), fun _ _ _ => rfl, fun _ => rfl, fun _ _ _ => rfl, fun Q hQ => ?_, fun W Q hW hQ => ?_⟩
      · apply hx1
        have ea : accV V (1003 + 10 * i) (Rc, 0) = V := by unfold accV; exact if_pos rfl
        rw [ea, Int.add_zero, up2_self, q_becomeOwned hl]
        have hc : ¬ (s32 (V (1000 + 10 * i) 9) = 1 ∧ s32 (V (1000 + 10 * i) 8 - V (1001 + 10 * i) 2 - V (1001 + 10 * i) 0) ≤ 0 ∧ s32 (V (1001 + 10 * i) 1) = 0) := by
          rw [b1.1, f1, f2, f3, ow, ol]
          exact fun q => hO2 q.2
        rw [if_neg hc, up2_self]
        exact hQ
      · apply hm1 W hW
        rw [if_pos rfl]
        exact hQ
    · obtain ⟨s1, s2, s3, s4, s5⟩ : Vm 149 i ≤ Rc ∧ Rc < Vm 149 i + ((E - Vm 149 i).toNat : Nat) ∧ bt (Vm 155 i) Rc = false ∧ 1 ≤ Rd ∧ Rd ≤ 60 := hsr.elim (fun q => (hd q).elim) id
      have hRc : 0 ≤ Rc ∧ Rc < 64 := by omega
      generalize hst' : (if Vm 142 i - Vm 148 i - (Vm 146 i + Rd) ≤ 0 ∧ Vm 147 i = 0 then (4 : Int) else 1) = st
      have hs : (st = 4 ∧ Vm 142 i - Vm 148 i - (Vm 146 i + Rd) ≤ 0 ∧ Vm 147 i = 0) ∨ (st = 1 ∧ ¬ (Vm 142 i - Vm 148 i - (Vm 146 i + Rd) ≤ 0 ∧ Vm 147 i = 0)) := by
        by_cases g : Vm 142 i - Vm 148 i - (Vm 146 i + Rd) ≤ 0 ∧ Vm 147 i = 0
        · rw [if_pos g] at hst'; exact Or.inl ⟨hst'.symm, g⟩
        · rw [if_neg g] at hst'; exact Or.inr ⟨hst'.symm, g⟩
      have ow' : s32 (Vm 142 i - Vm 148 i - (Vm 146 i + Rd)) = Vm 142 i - Vm 148 i - (Vm 146 i + Rd) := s32_id (by omega) (by omega)
      have hlw := lw_p (T := lorI (Vm 155 i) (lshlI 1 Rc)) (64 - Vm 149 i).toNat (Vm 149 i) (by omega)
      generalize hLW : lw (lorI (Vm 155 i) (lshlI 1 Rc)) (64 - Vm 149 i).toNat (Vm 149 i) = LW at hlw
      generalize hV1 : up2 (up2 (up2 (up2 (up2 V (1003 + 10 * i) 0 (lorI (V (1003 + 10 * i) 0) (lshlI 1 Rc))) (1003 + 10 * i) 1 (V (1003 + 10 * i) 1 + 1)) (1003 + 10 * i) 2 (V (1003 + 10 * i) 2 + Rd)) (1001 + 10 * i) 0 (V (1001 + 10 * i) 0 + Rd)) (1000 + 10 * i) 9 st = V1
      generalize hVm1 : up2 (up2 (up2 (up2 (up2 (up2 Vm 146 i (Vm 146 i + Rd)) 155 i (lorI (Vm 155 i) (lshlI 1 Rc))) 153 i (Vm 153 i + 1)) 154 i (Vm 154 i + Rd)) 149 i LW) 144 i st = Vm1
      refine ⟨Rd, V1, Vm1, ⟨by omega, by omega⟩, ?_, ?_, ?_, ?_, fun Q hQ => ?_, fun W Q hW hQ => ?_⟩
      · refine h.lampC (by omega) i0 i1' (fun p q hw => ?_) ?_
        · unfold WC at hw
          unfold mix
          split
          · subst hVm1
            simp (disch := omega) only [up2_ne]
          · subst hV1
            simp (disch := omega) only [up2_ne]
        · unfold LB1 LM1 LO1 LC1
          simp (disch := omega) only [mix_m, mix_c]
          have e0 : Vm1 137 0 = Vm 137 0 ∧ Vm1 137 1 = Vm 137 1 ∧ Vm1 142 i = Vm 142 i ∧ Vm1 156 i = Vm 156 i ∧ Vm1 152 i = Vm 152 i ∧ Vm1 145 i = Vm 145 i ∧ Vm1 147 i = Vm 147 i ∧ Vm1 148 i = Vm 148 i ∧ Vm1 150 i = Vm 150 i := by
            subst hVm1
            simp (disch := omega) only [up2_ne, b_s32, b_eq0, b_01, l0, l1, true_and, and_true, and_self, true_implies, false_implies, implies_true, forall_const, not_true_eq_false, not_false_eq_true, reduceIte, ite_true, ite_false, reduceCtorEq, forall_eq, Classical.not_not, true_or, or_true, false_or, or_false, and_false, false_and, Int.reduceEq, Int.reduceLT, Int.reduceLE, Int.reduceAdd, Int.reduceSub, Int.reduceMul, Int.reduceNeg]
          have e1 : Vm1 144 i = st ∧ Vm1 146 i = Vm 146 i + Rd ∧ Vm1 155 i = lorI (Vm 155 i) (lshlI 1 Rc) ∧ Vm1 153 i = Vm 153 i + 1 ∧ Vm1 154 i = Vm 154 i + Rd ∧ Vm1 149 i = LW := by
            subst hVm1
            simp (disch := omega) only [up2_ne, up2_eq, b_s32, b_eq0, b_01, l0, l1, true_and, and_true, and_self, true_implies, false_implies, implies_true, forall_const, not_true_eq_false, not_false_eq_true, reduceIte, ite_true, ite_false, reduceCtorEq, forall_eq, Classical.not_not, true_or, or_true, false_or, or_false, and_false, false_and, Int.reduceEq, Int.reduceLT, Int.reduceLE, Int.reduceAdd, Int.reduceSub, Int.reduceMul, Int.reduceNeg]
          have e2 : V1 (1000 + 10 * i) 9 = st ∧ V1 (1001 + 10 * i) 0 = V (1001 + 10 * i) 0 + Rd ∧ V1 (1003 + 10 * i) 0 = lorI (V (1003 + 10 * i) 0) (lshlI 1 Rc) ∧ V1 (1003 + 10 * i) 1 = V (1003 + 10 * i) 1 + 1 ∧ V1 (1003 + 10 * i) 2 = V (1003 + 10 * i) 2 + Rd := by
            subst hV1
            simp (disch := omega) only [up2_ne, up2_eq, b_s32, b_eq0, b_01, l0, l1, true_and, and_true, and_self, true_implies, false_implies, implies_true, forall_const, not_true_eq_false, not_false_eq_true, reduceIte, ite_true, ite_false, reduceCtorEq, forall_eq, Classical.not_not, true_or, or_true, false_or, or_false, and_false, false_and, Int.reduceEq, Int.reduceLT, Int.reduceLE, Int.reduceAdd, Int.reduceSub, Int.reduceMul, Int.reduceNeg]
          have e3 : V1 (1000 + 10 * i) 8 = V (1000 + 10 * i) 8 ∧ V1 (1000 + 10 * i) 10 = V (1000 + 10 * i) 10 ∧ V1 (1000 + 10 * i) 11 = V (1000 + 10 * i) 11 ∧ V1 (1000 + 10 * i) 12 = V (1000 + 10 * i) 12 ∧ V1 (1001 + 10 * i) 1 = V (1001 + 10 * i) 1 ∧ V1 (1001 + 10 * i) 2 = V (1001 + 10 * i) 2 ∧ V1 (1003 + 10 * i) 4 = V (1003 + 10 * i) 4 := by
            subst hV1
            simp (disch := omega) only [up2_ne, b_s32, b_eq0, b_01, l0, l1, true_and, and_true, and_self, true_implies, false_implies, implies_true, forall_const, not_true_eq_false, not_false_eq_true, reduceIte, ite_true, ite_false, reduceCtorEq, forall_eq, Classical.not_not, true_or, or_true, false_or, or_false, and_false, false_and, Int.reduceEq, Int.reduceLT, Int.reduceLE, Int.reduceAdd, Int.reduceSub, Int.reduceMul, Int.reduceNeg]
          have e4 : ∀ c, V1 (1004 + 10 * i) c = V (1004 + 10 * i) c := by
            intro c
            subst hV1
            simp (disch := omega) only [up2_ne]
          have e5 : ∀ c, Vm1 157 c = Vm 157 c := by
            intro c
            subst hVm1
            simp (disch := omega) only [up2_ne]
          simp only [e0, e1, e2, e3, e4, e5]
          refine ⟨⟨b1, ⟨trivial, by omega, by omega⟩, b5⟩, ⟨by omega, f2, f3, by omega, f5, by omega, f7, by omega⟩, by omega, by rw [c1], by rw [c2], by rw [c3], c4, ⟨by omega, by omega, fun c q0 q1 => ?_, hlw.2.2.2⟩, c9⟩
          by_cases q : c < Vm 149 i
          · rw [lor_bit hRc.1 hRc.2 q0 (by omega), c7 c q0 q]; rfl
          · exact hlw.2.2.1 c (by omega) q1
      · intro a k hak
        subst hV1
        simp (disch := omega) only [up2_ne]
      · intro k
        subst hVm1
        simp (disch := omega) only [up2_ne]
      · intro a k hak
        subst hVm1
        simp (disch := omega) only [up2_ne]
      · apply hx1
        have ea : accV V (1003 + 10 * i) (Rc, Rd) = up2 (up2 (up2 V (1003 + 10 * i) 0 (lorI (V (1003 + 10 * i) 0) (lshlI 1 Rc))) (1003 + 10 * i) 1 (V (1003 + 10 * i) 1 + 1)) (1003 + 10 * i) 2 (V (1003 + 10 * i) 2 + Rd) := by unfold accV; exact if_neg hd
        rw [ea]
        have hl2 : LSK (up2 (up2 (up2 (up2 V (1003 + 10 * i) 0 (lorI (V (1003 + 10 * i) 0) (lshlI 1 Rc))) (1003 + 10 * i) 1 (V (1003 + 10 * i) 1 + 1)) (1003 + 10 * i) 2 (V (1003 + 10 * i) 2 + Rd)) (1001 + 10 * i) 0 (up2 (up2 (up2 V (1003 + 10 * i) 0 (lorI (V (1003 + 10 * i) 0) (lshlI 1 Rc))) (1003 + 10 * i) 1 (V (1003 + 10 * i) 1 + 1)) (1003 + 10 * i) 2 (V (1003 + 10 * i) 2 + Rd) (1001 + 10 * i) 0 + Rd)) S i := by
          refine ⟨⟨k0, k1, k2, k3, k4, k5, k6, k7⟩, ?_⟩
          simp (disch := omega) only [up2_ne]
          exact ⟨r1, r2, r4, r5, r6, r7, r8⟩
        rw [q_becomeOwned hl2]
        simp (disch := omega) only [up2_ne, up2_eq, f1, f2, f3, b1.1, hst, l1, ow', ol, b_s32, b_eq0, b_01, l0, l1, true_and, and_true, and_self, true_implies, false_implies, implies_true, forall_const, not_true_eq_false, not_false_eq_true, reduceIte, ite_true, ite_false, reduceCtorEq, forall_eq, Classical.not_not, true_or, or_true, false_or, or_false, and_false, false_and, Int.reduceEq, Int.reduceLT, Int.reduceLE, Int.reduceAdd, Int.reduceSub, Int.reduceMul, Int.reduceNeg]
        simp (disch := omega) only [f1] at hV1
        rw [hst', hV1]
        exact hQ
      · apply hm1 W hW
        rw [if_neg hd]
        have hV := hk.2.1.mm hW
        have hV2 : FV (mix W (accM Vm i (Vm 149 i) (Rc, Rd))) := by
          refine hV.fr (fun p q hd => ?_)
          unfold VD at hd
          unfold mix accM
          split
          · simp (disch := omega) only [up2_ne]
          · rfl
        rw [r_look hS hV2 i0 (by omega)]
        simp (disch := omega) only [mix_m]
        unfold accM
        dsimp only
        rw [hLW]
        simp (disch := omega) only [up2_ne, up2_eq, hst2, l1, ow', ol, b_s32, b_eq0, b_01, l0, l1, true_and, and_true, and_self, true_implies, false_implies, implies_true, forall_const, not_true_eq_false, not_false_eq_true, reduceIte, ite_true, ite_false, reduceCtorEq, forall_eq, Classical.not_not, true_or, or_true, false_or, or_false, and_false, false_and, Int.reduceEq, Int.reduceLT, Int.reduceLE, Int.reduceAdd, Int.reduceSub, Int.reduceMul, Int.reduceNeg]
        rw [hst', mix_upm (by omega), hVm1]
        exact hQ
  · refine ⟨0, V, Vm, ⟨by omega, by omega⟩, h.up (by omega), fun _ _ _ => rfl, fun _ => rfl, fun _ _ _ => rfl, fun Q hQ => ?_, fun W Q hW hQ => ?_⟩
    · have hs : ¬ s32 (V (1000 + 10 * i) 9) = 1 := by rw [s32_id (by omega) (by omega)]; exact hst
      rw [I_Lamp_hearNumber]
      simp only [k0, hs, l1, b_s32, b_eq0, b_01, l0, l1, true_and, and_true, and_self, true_implies, false_implies, implies_true, forall_const, not_true_eq_false, not_false_eq_true, reduceIte, ite_true, ite_false, reduceCtorEq, forall_eq, Classical.not_not, true_or, or_true, false_or, or_false, and_false, false_and, Int.reduceEq, Int.reduceLT, Int.reduceLE, Int.reduceAdd, Int.reduceSub, Int.reduceMul, Int.reduceNeg]
      exact hQ
    · have hV := hk.2.1.mm hW
      have hs : ¬ s32 (Vm 144 i) = 1 := by rw [s32_id (by omega) (by omega)]; omega
      have m144 : mix W Vm 144 i = Vm 144 i := mix_m (by omega)
      rw [I_m_takesCode]
      simp (disch := omega) only [hS.k137, hS.k144, hS.n144, hV.r137_9, hi, i0, show i < 20 from by omega, m144, hs, l1, b_s32, b_eq0, b_01, l0, l1, true_and, and_true, and_self, true_implies, false_implies, implies_true, forall_const, not_true_eq_false, not_false_eq_true, reduceIte, ite_true, ite_false, reduceCtorEq, forall_eq, Classical.not_not, true_or, or_true, false_or, or_false, and_false, false_and, Int.reduceEq, Int.reduceLT, Int.reduceLE, Int.reduceAdd, Int.reduceSub, Int.reduceMul, Int.reduceNeg]
      exact hQ
theorem mix_eq {V1 V : Mem} (h : ∀ a k, 137 ≤ a ∧ a ≤ 199 → V1 a k = V a k) : mix V1 V = V1 := by
  funext a k
  unfold mix
  split
  · rename_i q; exact (h a k q).symm
  · rfl
theorem cmd_take (h : INV n V S) (hn : n + 1 ≤ m) (hm : m ≤ 40000) (ha : s32 a = a) (hb : s32 b = b) : C_x_take (d + 8) 100 a b V S (fun r V1 S1 => C_m_take (d + 8) 137 a b V1 S1 (fun r' V2 S2 => r = r' ∧ INV m V2 S2)) := by
  have hup := h.up (show n ≤ m by omega)
  have hk := h.1
  have hS := hk.1
  by_cases h1 : 0 ≤ a ∧ a < V 137 2
  · have g0 : ¬ 1000 + 10 * a = -1 := by omega
    rw [← mix_self (V := V)] at h
    obtain ⟨r, V1, Vm1, -, i1, i2, i3, i4, i5, i6⟩ := hear_pair (d + 1) h (by omega) h1.1 h1.2 hb
    simp only [I_x_take, p_lampAt hk, ha, h1, g0, hS.k100, b_s32, b_eq0, b_01, l0, l1, true_and, and_true, and_self, true_implies, false_implies, implies_true, forall_const, not_true_eq_false, not_false_eq_true, reduceIte, ite_true, ite_false, reduceCtorEq, forall_eq, Classical.not_not, true_or, or_true, false_or, or_false, and_false, false_and, Int.reduceEq, Int.reduceLT, Int.reduceLE, Int.reduceAdd, Int.reduceSub, Int.reduceMul, Int.reduceNeg]
    apply i5
    have hV1 : FV V1 := hk.2.1.fr (fun p q hd => i2 p q (by unfold VD at hd; omega))
    have e2 : V1 137 2 = V 137 2 := i2 _ _ (by omega)
    have e1 : V1 137 1 = V 137 1 := i2 _ _ (by omega)
    have q1 : ∀ Q : Int → Mem → Shp → Prop, C_m_isLamp (d + 7) 137 a V1 S Q ↔ Q (if 0 ≤ a ∧ a < V 137 2 then 1 else 0) V1 S := by
      intro Q
      rw [I_m_isLamp, r_in hS, b_s32, b_01, l0, ha, e2, s32_id (x := V 137 2 - 1) (by have := hk.n20; omega) (by have := hk.n20; omega), hS.k137]
      have e : (0 ≤ a ∧ a ≤ V 137 2 - 1) ↔ (0 ≤ a ∧ a < V 137 2) := by omega
      simp [e]
    simp only [I_m_take, q1, h1, hS.k137, b_s32, b_eq0, b_01, l0, l1, true_and, and_true, and_self, true_implies, false_implies, implies_true, forall_const, not_true_eq_false, not_false_eq_true, reduceIte, ite_true, ite_false, reduceCtorEq, forall_eq, Classical.not_not, true_or, or_true, false_or, or_false, and_false, false_and, Int.reduceEq, Int.reduceLT, Int.reduceLE, Int.reduceAdd, Int.reduceSub, Int.reduceMul, Int.reduceNeg]
    have g := i6 V1 (fun r2 V2 S2 => r = r2 ∧ INV m V2 S2) hV1 ⟨rfl, i1.up hn⟩
    rw [mix_eq (fun a k q => i2 a k (by omega))] at g
    exact g
  · simp (disch := omega) only [I_x_take, I_m_take, p_lampAt hk, p_isLamp hk, ha, h1, hS.k100, hS.k137, s32_id, hup, b_s32, b_eq0, b_01, l0, l1, true_and, and_true, and_self, true_implies, false_implies, implies_true, forall_const, not_true_eq_false, not_false_eq_true, reduceIte, ite_true, ite_false, reduceCtorEq, forall_eq, Classical.not_not, true_or, or_true, false_or, or_false, and_false, false_and, Int.reduceEq, Int.reduceLT, Int.reduceLE, Int.reduceAdd, Int.reduceSub, Int.reduceMul, Int.reduceNeg]
theorem km_dark {g : Cnt} (hS : FS S) (hV : FV V) (i0 : 0 ≤ i) (i1 : i < 20) (t0 : 0 ≤ V 137 0 ∧ V 137 0 ≤ 600) (b0 : 0 ≤ V 151 i ∧ V 151 i ≤ V 137 0) (D1 : D ≤ V 137 0 - V 151 i) (D2 : ∀ n, 0 ≤ n → n < D → V 158 (600 * i + V 137 0 - n - 1) = 5) (D3 : D < V 137 0 - V 151 i → ¬ s32 (V 158 (600 * i + V 137 0 - D - 1)) = 5) : ∀ (N : Nat) (k : Int), 0 ≤ k → (N : Int) + k = D → (K_m_darkAhead d Q (2, [(2, 137), (0, i), (0, k)], [], V, S, g) ↔ Q D V S) := by
  have hi : s32 i = i := s32_id (by omega) (by omega)
  have s5 : s32 5 = 5 := s32_id (by omega) (by omega)
  intro N
  induction N with
  | zero =>
    intro k k0 hN
    have hk : k = D := by omega
    subst hk
    rw [L_m_darkAhead_2]
    by_cases h : k < V 137 0 - V 151 i
    · have := D3 h
      simp (disch := omega) only [hS.k137, hS.k151, hS.n151, hV.r137_16, hS.k158, hS.n158, hV.r137_23, hi, i0, i1, s32_id (x := V 151 i), s32_id (x := V 137 0 - k - 1), s32_id (x := 600 * i + V 137 0 - k - 1), show ¬ V 137 0 - k - 1 < V 151 i from by omega, show 0 ≤ 600 * i + V 137 0 - k - 1 from by omega, show 600 * i + V 137 0 - k - 1 < 12000 from by omega, this, s5, b_s32, b_eq0, b_01, l0, l1, true_and, and_true, and_self, true_implies, false_implies, implies_true, forall_const, not_true_eq_false, not_false_eq_true, reduceIte, ite_true, ite_false, reduceCtorEq, forall_eq, Classical.not_not, true_or, or_true, false_or, or_false, and_false, false_and, Int.reduceEq, Int.reduceLT, Int.reduceLE, Int.reduceAdd, Int.reduceSub, Int.reduceMul, Int.reduceNeg]
    · simp (disch := omega) only [hS.k137, hS.k151, hS.n151, hV.r137_16, hS.k158, hS.n158, hV.r137_23, hi, i0, i1, s32_id (x := V 151 i), s32_id (x := V 137 0 - k - 1), show V 137 0 - k - 1 < V 151 i from by omega, b_s32, b_eq0, b_01, l0, l1, true_and, and_true, and_self, true_implies, false_implies, implies_true, forall_const, not_true_eq_false, not_false_eq_true, reduceIte, ite_true, ite_false, reduceCtorEq, forall_eq, Classical.not_not, true_or, or_true, false_or, or_false, and_false, false_and, Int.reduceEq, Int.reduceLT, Int.reduceLE, Int.reduceAdd, Int.reduceSub, Int.reduceMul, Int.reduceNeg]
  | succ N ih =>
    intro k k0 hN
    have ih' := ih (k + 1) (by omega) (by omega)
    have h5 := D2 k k0 (by omega)
    rw [L_m_darkAhead_2, ← ih']
    simp (disch := omega) only [hS.k137, hS.k151, hS.n151, hV.r137_16, hS.k158, hS.n158, hV.r137_23, hi, i0, i1, s32_id (x := V 151 i), s32_id (x := V 137 0 - k - 1), s32_id (x := 600 * i + V 137 0 - k - 1), show ¬ V 137 0 - k - 1 < V 151 i from by omega, show 0 ≤ 600 * i + V 137 0 - k - 1 from by omega, show 600 * i + V 137 0 - k - 1 < 12000 from by omega, h5, s5, b_s32, b_eq0, b_01, l0, l1, true_and, and_true, and_self, true_implies, false_implies, implies_true, forall_const, not_true_eq_false, not_false_eq_true, reduceIte, ite_true, ite_false, reduceCtorEq, forall_eq, Classical.not_not, true_or, or_true, false_or, or_false, and_false, false_and, Int.reduceEq, Int.reduceLT, Int.reduceLE, Int.reduceAdd, Int.reduceSub, Int.reduceMul, Int.reduceNeg]
theorem r_dark (hS : FS S) (hV : FV V) (i0 : 0 ≤ i) (i1 : i < 20) (t0 : 0 ≤ V 137 0 ∧ V 137 0 ≤ 600) (b0 : 0 ≤ V 151 i ∧ V 151 i ≤ V 137 0) (D0 : 0 ≤ D) (D1 : D ≤ V 137 0 - V 151 i) (D2 : ∀ n, 0 ≤ n → n < D → V 158 (600 * i + V 137 0 - n - 1) = 5) (D3 : D < V 137 0 - V 151 i → ¬ s32 (V 158 (600 * i + V 137 0 - D - 1)) = 5) : C_m_darkAhead (d + 1) 137 i V S Q ↔ Q D V S := by
  rw [I_m_darkAhead, hS.k137, km_dark hS hV i0 i1 t0 b0 D1 D2 D3 D.toNat 0 (by omega) (by omega)]
  simp only [b_s32, b_eq0, b_01, l0, l1, true_and, and_true, and_self, true_implies, false_implies, implies_true, forall_const, not_true_eq_false, not_false_eq_true, reduceIte, ite_true, ite_false, reduceCtorEq, forall_eq, Classical.not_not, true_or, or_true, false_or, or_false, and_false, false_and, Int.reduceEq, Int.reduceLT, Int.reduceLE, Int.reduceAdd, Int.reduceSub, Int.reduceMul, Int.reduceNeg]
theorem cmd_of (h : INV n V S) (hn : n ≤ m) (ha : s32 a = a) (hb : s32 b = b) : C_x_of (d + 6) 100 a b V S (fun r V1 S1 => C_m_of (d + 6) 137 a b V1 S1 (fun r' V2 S2 => r = r' ∧ INV m V2 S2)) := by
  have hup := h.up hn
  have hk := h.1
  have hS := hk.1
  have hV := hk.2.1
  have n20 := hk.n20
  have n599 := hk.n599
  by_cases h1 : 0 ≤ a ∧ a < V 137 2
  · have g0 : ¬ 1000 + 10 * a = -1 := by omega
    have g1 : a < 20 := by omega
    obtain ⟨hA, hB, hM, hO, hC, hK, -⟩ := h.2.2.2.1
    obtain ⟨⟨b1, b2, b3⟩, ⟨b4, b5, b6⟩, ⟨b7, b8, b9⟩, -, b10⟩ := hB a h1.1 h1.2
    obtain ⟨f1, f2, f3, -⟩ := hM a h1.1 h1.2
    obtain ⟨c1, c2, c3, ⟨c4, c5, c6⟩, ⟨c7, c8, c9, c10⟩, -⟩ := hC a h1.1 h1.2
    obtain ⟨-, -, ⟨a1, a2, a3⟩⟩ := hA a h1.1 h1.2
    obtain ⟨kk1, D0, D1, D2, D3⟩ := hK a h1.1 h1.2
    obtain ⟨⟨k0, k1, k2, k3, -⟩, r1, r2, r4, r5, r6, r7, r8⟩ := hk.lamp h1.1 h1.2
    have low := fun (Q : Int → Mem → Shp → Prop) => p_low (d := d + 2) (V := V) (Q := Q) (S := S) (a := 1003 + 10 * a) (L := V 149 a) k3 c7 c8 (by rw [c1]; exact c9) (by rw [c1]; exact c10)
    have dk := fun (Q : Int → Mem → Shp → Prop) => r_dark (d := d + 4) (V := V) (Q := Q) (S := S) (i := a) (D := V (1001 + 10 * a) 3) hS hV h1.1 g1 (by omega) ⟨a2, a3⟩ D0 D1 D2 (fun q => by
      have := D3 q
      have g := (kk1 (V 137 0 - V (1001 + 10 * a) 3 - 1) (by omega) (by omega)).2
      rw [show 600 * a + (V 137 0 - V (1001 + 10 * a) 3 - 1) = 600 * a + V 137 0 - V (1001 + 10 * a) 3 - 1 from by omega] at g
      rw [s32_id (by omega) (by omega)]
      exact this)
    rcases (by omega : b = 0 ∨ b = 1 ∨ b = 2 ∨ b = 3 ∨ b = 4 ∨ b = 5 ∨ b = 6 ∨ b = 7 ∨ b = 8 ∨ b = 9 ∨ b = 10 ∨ (b ≠ 0 ∧ b ≠ 1 ∧ b ≠ 2 ∧ b ≠ 3 ∧ b ≠ 4 ∧ b ≠ 5 ∧ b ≠ 6 ∧ b ≠ 7 ∧ b ≠ 8 ∧ b ≠ 9 ∧ b ≠ 10)) with rfl | rfl | rfl | rfl | rfl | rfl | rfl | rfl | rfl | rfl | rfl | ⟨u0, u1, u2, u3, u4, u5, u6, u7, u8, u9, u10⟩
    · simp only [I_x_of, I_m_of, p_lampAt hk, p_isLamp hk, ha, hb, h1, g0, g1, hS.k100, hS.k137, k0, b4, hS.k144, hS.n144, hV.r137_9, hup, b_s32, b_eq0, b_01, l0, l1, true_and, and_true, and_self, true_implies, false_implies, implies_true, forall_const, not_true_eq_false, not_false_eq_true, reduceIte, ite_true, ite_false, reduceCtorEq, forall_eq, Classical.not_not, true_or, or_true, false_or, or_false, and_false, false_and, Int.reduceEq, Int.reduceLT, Int.reduceLE, Int.reduceAdd, Int.reduceSub, Int.reduceMul, Int.reduceNeg]
    · rcases b10 with ⟨q1, q2⟩ | ⟨q1, q2, q3⟩
      · have : s32 (V 145 a) = -1 := by rw [q1]; exact s32_id (by omega) (by omega)
        simp only [I_x_of, I_m_of, p_lampAt hk, p_isLamp hk, ha, hb, h1, g0, g1, hS.k100, hS.k137, k0, q2, this, hS.k145, hS.n145, hV.r137_10, hup, b_s32, b_eq0, b_01, l0, l1, true_and, and_true, and_self, true_implies, false_implies, implies_true, forall_const, not_true_eq_false, not_false_eq_true, reduceIte, ite_true, ite_false, reduceCtorEq, forall_eq, Classical.not_not, true_or, or_true, false_or, or_false, and_false, false_and, Int.reduceEq, Int.reduceLT, Int.reduceLE, Int.reduceAdd, Int.reduceSub, Int.reduceMul, Int.reduceNeg]
      · have : s32 (V 145 a) = V 145 a := s32_id (by have := hk.n12; omega) (by have := hk.n12; omega)
        obtain ⟨⟨kh, -⟩, -, rh, -⟩ := hk.home q1 q2
        simp only [I_x_of, I_m_of, p_lampAt hk, p_isLamp hk, ha, hb, h1, g0, g1, hS.k100, hS.k137, k0, q3, this, kh, rh, hS.k145, hS.n145, hV.r137_10, hup, b_s32, b_eq0, b_01, l0, l1, true_and, and_true, and_self, true_implies, false_implies, implies_true, forall_const, not_true_eq_false, not_false_eq_true, reduceIte, ite_true, ite_false, reduceCtorEq, forall_eq, Classical.not_not, true_or, or_true, false_or, or_false, and_false, false_and, Int.reduceEq, Int.reduceLT, Int.reduceLE, Int.reduceAdd, Int.reduceSub, Int.reduceMul, Int.reduceNeg, show ¬ V 145 a < 0 from by omega, show ¬ 2000 + 10 * V 145 a = -1 from by omega]
    · simp only [I_x_of, I_m_of, p_lampAt hk, p_isLamp hk, ha, hb, h1, g0, g1, hS.k100, hS.k137, k0, k1, r4, f1, hS.k146, hS.n146, hV.r137_11, hup, b_s32, b_eq0, b_01, l0, l1, true_and, and_true, and_self, true_implies, false_implies, implies_true, forall_const, not_true_eq_false, not_false_eq_true, reduceIte, ite_true, ite_false, reduceCtorEq, forall_eq, Classical.not_not, true_or, or_true, false_or, or_false, and_false, false_and, Int.reduceEq, Int.reduceLT, Int.reduceLE, Int.reduceAdd, Int.reduceSub, Int.reduceMul, Int.reduceNeg, show ¬ s32 2 = 0 from by decide, show ¬ s32 2 = 1 from by decide]
    · simp only [I_x_of, I_m_of, p_lampAt hk, p_isLamp hk, ha, hb, h1, g0, g1, hS.k100, hS.k137, k0, k1, r4, f2, hS.k147, hS.n147, hV.r137_12, hup, b_s32, b_eq0, b_01, l0, l1, true_and, and_true, and_self, true_implies, false_implies, implies_true, forall_const, not_true_eq_false, not_false_eq_true, reduceIte, ite_true, ite_false, reduceCtorEq, forall_eq, Classical.not_not, true_or, or_true, false_or, or_false, and_false, false_and, Int.reduceEq, Int.reduceLT, Int.reduceLE, Int.reduceAdd, Int.reduceSub, Int.reduceMul, Int.reduceNeg]
    · simp only [I_x_of, I_m_of, p_lampAt hk, p_isLamp hk, ha, hb, h1, g0, g1, hS.k100, hS.k137, k0, k1, r4, f3, hS.k148, hS.n148, hV.r137_13, hup, b_s32, b_eq0, b_01, l0, l1, true_and, and_true, and_self, true_implies, false_implies, implies_true, forall_const, not_true_eq_false, not_false_eq_true, reduceIte, ite_true, ite_false, reduceCtorEq, forall_eq, Classical.not_not, true_or, or_true, false_or, or_false, and_false, false_and, Int.reduceEq, Int.reduceLT, Int.reduceLE, Int.reduceAdd, Int.reduceSub, Int.reduceMul, Int.reduceNeg]
    · simp only [I_x_of, I_m_of, p_lampAt hk, p_isLamp hk, ha, hb, h1, g0, g1, hS.k100, hS.k137, p_owed hk h1.1 h1.2, p_mowed hk h1.1 h1.2 ha, b1, f1, f3, hup, b_s32, b_eq0, b_01, l0, l1, true_and, and_true, and_self, true_implies, false_implies, implies_true, forall_const, not_true_eq_false, not_false_eq_true, reduceIte, ite_true, ite_false, reduceCtorEq, forall_eq, Classical.not_not, true_or, or_true, false_or, or_false, and_false, false_and, Int.reduceEq, Int.reduceLT, Int.reduceLE, Int.reduceAdd, Int.reduceSub, Int.reduceMul, Int.reduceNeg]
    · simp only [I_x_of, I_m_of, p_lampAt hk, p_isLamp hk, ha, hb, h1, g0, g1, hS.k100, hS.k137, k0, b1, hS.k142, hS.n142, hV.r137_7, hup, b_s32, b_eq0, b_01, l0, l1, true_and, and_true, and_self, true_implies, false_implies, implies_true, forall_const, not_true_eq_false, not_false_eq_true, reduceIte, ite_true, ite_false, reduceCtorEq, forall_eq, Classical.not_not, true_or, or_true, false_or, or_false, and_false, false_and, Int.reduceEq, Int.reduceLT, Int.reduceLE, Int.reduceAdd, Int.reduceSub, Int.reduceMul, Int.reduceNeg]
    · by_cases q : s32 (V 156 a) = 0
      · simp only [I_x_of, I_m_of, p_lampAt hk, p_isLamp hk, ha, hb, h1, g0, g1, hS.k100, hS.k137, k0, b7, q, hS.k156, hS.n156, hV.r137_21, hup, b_s32, b_eq0, b_01, l0, l1, true_and, and_true, and_self, true_implies, false_implies, implies_true, forall_const, not_true_eq_false, not_false_eq_true, reduceIte, ite_true, ite_false, reduceCtorEq, forall_eq, Classical.not_not, true_or, or_true, false_or, or_false, and_false, false_and, Int.reduceEq, Int.reduceLT, Int.reduceLE, Int.reduceAdd, Int.reduceSub, Int.reduceMul, Int.reduceNeg]
      · simp only [I_x_of, I_m_of, p_lampAt hk, p_isLamp hk, ha, hb, h1, g0, g1, hS.k100, hS.k137, k0, b7, q, hS.k156, hS.n156, hV.r137_21, hup, b_s32, b_eq0, b_01, l0, l1, true_and, and_true, and_self, true_implies, false_implies, implies_true, forall_const, not_true_eq_false, not_false_eq_true, reduceIte, ite_true, ite_false, reduceCtorEq, forall_eq, Classical.not_not, true_or, or_true, false_or, or_false, and_false, false_and, Int.reduceEq, Int.reduceLT, Int.reduceLE, Int.reduceAdd, Int.reduceSub, Int.reduceMul, Int.reduceNeg]
    · simp only [I_x_of, I_m_of, p_lampAt hk, p_isLamp hk, ha, hb, h1, g0, g1, hS.k100, hS.k137, k0, r6, low, hS.k149, hS.n149, hV.r137_14, hup, b_s32, b_eq0, b_01, l0, l1, true_and, and_true, and_self, true_implies, false_implies, implies_true, forall_const, not_true_eq_false, not_false_eq_true, reduceIte, ite_true, ite_false, reduceCtorEq, forall_eq, Classical.not_not, true_or, or_true, false_or, or_false, and_false, false_and, Int.reduceEq, Int.reduceLT, Int.reduceLE, Int.reduceAdd, Int.reduceSub, Int.reduceMul, Int.reduceNeg]
    · simp only [I_x_of, I_m_of, p_lampAt hk, p_isLamp hk, ha, hb, h1, g0, g1, hS.k100, hS.k137, k0, k3, r6, c4, hS.k150, hS.n150, hV.r137_15, hup, b_s32, b_eq0, b_01, l0, l1, true_and, and_true, and_self, true_implies, false_implies, implies_true, forall_const, not_true_eq_false, not_false_eq_true, reduceIte, ite_true, ite_false, reduceCtorEq, forall_eq, Classical.not_not, true_or, or_true, false_or, or_false, and_false, false_and, Int.reduceEq, Int.reduceLT, Int.reduceLE, Int.reduceAdd, Int.reduceSub, Int.reduceMul, Int.reduceNeg]
    · simp only [I_x_of, I_m_of, p_lampAt hk, p_isLamp hk, ha, hb, h1, g0, g1, hS.k100, hS.k137, k0, k1, r4, dk, hup, b_s32, b_eq0, b_01, l0, l1, true_and, and_true, and_self, true_implies, false_implies, implies_true, forall_const, not_true_eq_false, not_false_eq_true, reduceIte, ite_true, ite_false, reduceCtorEq, forall_eq, Classical.not_not, true_or, or_true, false_or, or_false, and_false, false_and, Int.reduceEq, Int.reduceLT, Int.reduceLE, Int.reduceAdd, Int.reduceSub, Int.reduceMul, Int.reduceNeg]
    · simp only [I_x_of, I_m_of, p_lampAt hk, p_isLamp hk, ha, hb, h1, g0, g1, hS.k100, hS.k137, u0, u1, u2, u3, u4, u5, u6, u7, u8, u9, u10, hup, b_s32, b_eq0, b_01, l0, l1, true_and, and_true, and_self, true_implies, false_implies, implies_true, forall_const, not_true_eq_false, not_false_eq_true, reduceIte, ite_true, ite_false, reduceCtorEq, forall_eq, Classical.not_not, true_or, or_true, false_or, or_false, and_false, false_and, Int.reduceEq, Int.reduceLT, Int.reduceLE, Int.reduceAdd, Int.reduceSub, Int.reduceMul, Int.reduceNeg]
  · simp (disch := omega) only [I_x_of, I_m_of, p_lampAt hk, p_isLamp hk, ha, h1, hS.k100, hS.k137, s32_id, hup, b_s32, b_eq0, b_01, l0, l1, true_and, and_true, and_self, true_implies, false_implies, implies_true, forall_const, not_true_eq_false, not_false_eq_true, reduceIte, ite_true, ite_false, reduceCtorEq, forall_eq, Classical.not_not, true_or, or_true, false_or, or_false, and_false, false_and, Int.reduceEq, Int.reduceLT, Int.reduceLE, Int.reduceAdd, Int.reduceSub, Int.reduceMul, Int.reduceNeg]
end HP
