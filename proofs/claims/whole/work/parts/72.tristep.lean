/-! a day of one lamp while a draft is tried -/
def LMP (V0 V Vm : Mem) (t0 t j : Int) : Prop := (V (1002 + 10 * j) 0 = Vm 146 j ∧ V (1002 + 10 * j) 1 = Vm 147 j ∧ V (1002 + 10 * j) 2 = Vm 148 j) ∧ (Vm 146 j + Vm 148 j = V0 146 j + V0 148 j ∧ 0 ≤ Vm 146 j ∧ 0 ≤ Vm 148 j) ∧ (V0 147 j ≤ Vm 147 j ∧ Vm 147 j ≤ V0 147 j + (t - t0)) ∧ (0 ≤ V (1002 + 10 * j) 3 ∧ V (1002 + 10 * j) 3 ≤ t - V0 151 j ∧ (∀ n, 0 ≤ n → n < V (1002 + 10 * j) 3 → Vm 158 (600 * j + t - n - 1) = 5) ∧ (V (1002 + 10 * j) 3 < t - V0 151 j → Vm 158 (600 * j + t - V (1002 + 10 * j) 3 - 1) ≠ 5 ∧ 0 ≤ Vm 158 (600 * j + t - V (1002 + 10 * j) 3 - 1) ∧ Vm 158 (600 * j + t - V (1002 + 10 * j) 3 - 1) ≤ 6))
def CFt (M : Nat) (V0 V : Mem) : Prop := FV V ∧ ∀ p q, ¬ (137 ≤ p ∧ p ≤ 199) → ¬ (1000 ≤ p ∧ p < 1200 ∧ p % 10 = 2 ∧ q ≤ 3) → ¬ (p = 106 ∧ 3 ≤ q ∧ q ≤ 8) → ¬ (p = TA (M : Int) ∧ q = 0) → V p q = V0 p q
def MFt (t0 : Int) (V0 Vm : Mem) : Prop := ∀ p q, 137 ≤ p → p ≤ 199 → ¬ RCf p q → ¬ (p = 137 ∧ (q = 0 ∨ q = 45)) → ¬ (146 ≤ p ∧ p ≤ 148 ∧ 0 ≤ q ∧ q < V0 137 2) → ¬ (p = 158 ∧ t0 ≤ q % 600) → ¬ (159 ≤ p ∧ p ≤ 161 ∧ (p = 160 → 1000 ≤ q ∧ q < 1100) ∧ (p ≠ 160 → q = 10)) → ¬ p = 177 → Vm p q = V0 p q
section TS
variable {d M : Nat} {n m i t t0 b c l r D p q gr ru : Int} {V V0 Vm Wd W W' : Mem} {S : Shp} {Dy : Int → Int} {C : Int → List CL}
theorem triStep (d : Nat) (h : INV n V0 S) (hn : n ≤ 40000) (h0 : V0 137 0 = t0) (ht0 : t0 ≤ t ∧ t ≤ 599) (i0 : 0 ≤ i) (i1 : i < V0 137 2) (hM10 : M ≤ 10) (hC : CFt M V0 V) (hM : MFt t0 V0 Vm) (h137 : Vm 137 0 = t)
    (hT : TCT V S M Dy C true) (hTM : TM Wd true) (eT : TEQ Wd Vm) (hs : V 106 4 = t / 30 ∧ V 106 5 = nbT Wd 1 t true ∧ V 106 6 = nbT Wd 2 t true ∧ OFS V C (rulC Dy C 4 0 t (cnt M true)))
    (g1 : 0 ≤ nbT Wd 1 t true ∧ nbT Wd 1 t true ≤ 999) (g2 : nbT Wd 2 t true = 0 ∨ nbT Wd 2 t true = 1)
    (er : rulC Dy C 4 0 t (cnt M true) < 0 ↔ rulr Wd 4 0 t true < 0) (ec : 0 ≤ rulr Wd 4 0 t true → clC C 4 0 (rulC Dy C 4 0 t (cnt M true)) = clM Wd 4 0 (rulr Wd 4 0 t true))
    (hL : LMP V0 V Vm t0 t i) :
    ∃ (κ c l r : Int) (V' Vm' : Mem), V' = upB V (1002 + 10 * i) c l r (if κ = 5 then V (1002 + 10 * i) 3 + 1 else 0) ∧ (0 ≤ κ ∧ κ ≤ 6) ∧ Vm' 158 (600 * i + t) = κ ∧ CFt M V0 V' ∧ MFt t0 V0 Vm' ∧ Vm' 137 0 = t ∧ TEQ Vm Vm' ∧ (∀ q, Vm' 177 q = Vm 177 q ∧ Vm' 144 q = Vm 144 q) ∧ LMP V0 V' Vm' t0 (t + 1) i ∧
      (∀ j T, 0 ≤ j → j < V0 137 2 → j ≠ i → 0 ≤ T → T ≤ 600 → LMP V0 V Vm t0 T j → LMP V0 V' Vm' t0 T j) ∧ (∀ j, j ≠ i → Vm' 158 (600 * j + t) = Vm 158 (600 * j + t)) ∧
      HOM V Vm S i (1002 + 10 * i) t ∧
      (∀ (V2 : Mem) (bb : Int), S.1 bb = 6 → TCT V2 S M Dy C true → HOM V2 Vm S i bb t → SAM V V2 i (1002 + 10 * i) bb → ∀ Q : Int → Mem → Shp → Prop, Q κ (upB V2 bb c l r (if κ = 5 then V (1002 + 10 * i) 3 + 1 else 0)) S → C_Terms_goBy (d + 14) 106 (1000 + 10 * i) bb V2 S Q) ∧
      (∀ (W : Mem) (U : Mem → Shp → Prop) (g : Cnt), FV W → MSC Vm W → (∀ W', FV W' → MSC Vm' W' → (∀ p q, ¬ (137 ≤ p ∧ p ≤ 199) → W' p q = W p q) → K_m_goDay (d + 14) U (2, [(2, 137), (0, i + 1)], [], W', S, g)) → K_m_goDay (d + 14) U (2, [(2, 137), (0, i)], [], W, S, g)) := by
  have hk := h.1
  have hS := hk.1
  have n20 := hk.n20
  have n599 := hk.n599
  rw [h0] at n599
  have st : s32 t = t := s32_id (by omega) (by omega)
  obtain ⟨hA, hB, hMM, hO, -, hK, -⟩ := h.2.2.2.1
  have hO1 := hO i i0 i1
  obtain ⟨-, -, ⟨-, x1, x2⟩⟩ := hA i i0 i1
  rw [h0] at x2
  obtain ⟨⟨b1, b2, b3⟩, ⟨b4, b5, b6⟩, ⟨b7, b8, b9⟩, -⟩ := hB i i0 i1
  obtain ⟨f1, f2, f3, f4, f5, f6, f7, f8⟩ := hMM i i0 i1
  obtain ⟨⟨k0, k1, k2, k3, k4, k5, k6, k7⟩, r1, r2, r4, r5, r6, r7, r8⟩ := hk.lamp i0 i1
  obtain ⟨hV, hC⟩ := hC
  obtain ⟨⟨m1, m2, m3⟩, ⟨m4, m5, m6⟩, ⟨m7, m8⟩, D0, D1, D2, D3⟩ := hL
  have mv : ∀ p q, 141 ≤ p → p ≤ 156 → ¬ (146 ≤ p ∧ p ≤ 148) → Vm p q = V0 p q := fun p q p0 p1 p2 => hM p q (by omega) (by omega) (by unfold RCf; omega) (by omega) (by omega) (by omega) (by omega) (by omega)
  have v144 : Vm 144 i = V0 144 i := mv _ _ (by omega) (by omega) (by omega)
  have v156 : Vm 156 i = V0 156 i := mv _ _ (by omega) (by omega) (by omega)
  have v142 : Vm 142 i = V0 142 i := mv _ _ (by omega) (by omega) (by omega)
  have v145 : Vm 145 i = V0 145 i := mv _ _ (by omega) (by omega) (by omega)
  have v151 : Vm 151 i = V0 151 i := mv _ _ (by omega) (by omega) (by omega)
  have vl : ∀ k, V (1000 + 10 * i) k = V0 (1000 + 10 * i) k := fun k => hC _ _ (by omega) (by omega) (by omega) (by unfold TA; omega)
  have hHom : HOM V Vm S i (1002 + 10 * i) t := h.hom i0 i1 ⟨by omega, by omega⟩ k2 (fun k _ _ => vl k) (fun p k p0 p1 => hC p k (by omega) (by omega) (by omega) (by unfold TA; omega)) ⟨v142, v145⟩ (fun k => hM _ _ (by omega) (by omega) (by unfold RCf; omega) (by omega) (by omega) (by omega) (by omega) (by omega)) ⟨m1, m2, m3⟩
  obtain ⟨κ, c, l, r, κr, cr, lr, hc, hm⟩ := lampDay (b := 1002 + 10 * i) (V := V) (Vm := Vm) (S := S) (trb := true) (i := i) (t := t) (gr := nbT Wd 1 t true) (ru := nbT Wd 2 t true) d hT (eT.tm hTM) i0 (by omega) ⟨by omega, by omega⟩ k0 k2
    hs (s32_id (by omega) (by omega)) g2 h137
    ⟨by rw [vl, v144]; exact b4, by omega, by omega⟩ ⟨by rw [vl, v156]; exact b7, by omega, by omega⟩
    ⟨m1, m2, m3⟩ (by omega) (by omega) (by omega)
    (by rw [eT.rul]; exact er) (by rw [eT.cl, eT.rul]; exact ec) hHom
    (fun W hW eW V' Q hv => by
      have w137 : V' 137 0 = t := (hv _ _ (by omega)).trans ((eW _ _ (by omega) (by omega) (by unfold RCf; omega)).trans h137)
      have w151 : V' 151 i = V0 151 i := (hv _ _ (by omega)).trans ((eW _ _ (by omega) (by omega) (by unfold RCf; omega)).trans v151)
      have w158 : ∀ k, V' 158 k = Vm 158 k := fun k => (hv _ _ (by omega)).trans (eW _ _ (by omega) (by omega) (by unfold RCf; omega))
      refine r_dark (D := V (1002 + 10 * i) 3) hS (hW.fr (fun a k q => hv a k (by unfold VD at q; omega))) i0 (by omega) (by rw [w137]; omega) (by rw [w137, w151]; omega) D0 (by rw [w137, w151]; exact D1) ?_ ?_
      · rw [w137]
        intro n n0 n1
        rw [w158]
        exact D2 n n0 n1
      · rw [w137, w151]
        intro q
        rw [w158]
        obtain ⟨z1, z2, z3⟩ := D3 q
        rw [s32_id (by omega) (by omega)]
        exact z1)
    (fun W Q hW eW hq => graceT (d := d + 1) hS hTM hW (eT.tr eW.te) st hq)
    (fun W Q hW eW hq => runT (d := d + 1) hS hTM hW (eT.tr eW.te) st g2 hq)
  have uv := upB_v (V := V) (b := 1002 + 10 * i) (c := c) (l := l) (r := r) (D := if κ = 5 then V (1002 + 10 * i) 3 + 1 else 0)
  obtain ⟨y1, y2, y3, y4⟩ := uv
  refine ⟨κ, c, l, r, upB V (1002 + 10 * i) c l r (if κ = 5 then V (1002 + 10 * i) 3 + 1 else 0), up2 (up2 (up2 (up2 Vm 146 i c) 147 i l) 148 i r) 158 (600 * i + t) κ, rfl, κr, up2_eq rfl rfl, ⟨hV.fr (fun p q hd => ?_), fun p q n0 n1 n2 n3 => ?_⟩, fun p q p0 p1 n1 n2 n3 n4 n5 n6 => ?_, ?_, fun p q hh => ?_, fun q => ⟨by rw [up2_ne (by omega), up2_ne (by omega), up2_ne (by omega), up2_ne (by omega)], by rw [up2_ne (by omega), up2_ne (by omega), up2_ne (by omega), up2_ne (by omega)]⟩, ?_, fun j T j0 j1 ji T0 T6 hj => ?_, fun j ji => ?_, hHom, hc, fun W U g hW eW hU => ?_⟩
  · unfold VD at hd
    rw [upB_ne (by omega)]
  · by_cases c1 : p = 1002 + 10 * i
    · rw [upB_n4 (by omega)]
      exact hC p q n0 n1 n2 n3
    · rw [upB_ne c1]
      exact hC p q n0 n1 n2 n3
  · rw [up2_ne (by omega), up2_ne (by omega), up2_ne (by omega), up2_ne (by omega)]
    exact hM p q p0 p1 n1 n2 n3 n4 n5 n6
  · rw [up2_ne (by omega), up2_ne (by omega), up2_ne (by omega), up2_ne (by omega)]
    exact h137
  · rw [up2_ne (by omega), up2_ne (by omega), up2_ne (by omega), up2_ne (by omega)]
  · unfold LMP
    rw [y1, y2, y3, y4]
    simp (disch := omega) only [up2_ne, up2_eq]
    refine ⟨⟨trivial, trivial, trivial⟩, ⟨by omega, cr.2.1, cr.2.2⟩, ⟨by omega, by omega⟩, ?_⟩
    by_cases c5 : κ = 5
    · rw [if_pos c5]
      refine ⟨by omega, by omega, fun n n0 n1 => ?_, fun q => ?_⟩
      · by_cases nz : n = 0
        · rw [nz, up2_eq rfl (by omega)]; exact c5
        · have := D2 (n - 1) (by omega) (by omega)
          rw [show 600 * i + t - (n - 1) - 1 = 600 * i + (t + 1) - n - 1 from by omega] at this
          simp (disch := omega) only [up2_ne]
          exact this
      · have := D3 (by omega)
        rw [show 600 * i + t - V (1002 + 10 * i) 3 - 1 = 600 * i + (t + 1) - (V (1002 + 10 * i) 3 + 1) - 1 from by omega] at this
        simp (disch := omega) only [up2_ne]
        exact this
    · rw [if_neg c5]
      refine ⟨by omega, by omega, fun n n0 n1 => by omega, fun q => ?_⟩
      rw [up2_eq rfl (by omega)]
      exact ⟨c5, κr.1, κr.2⟩
  · unfold LMP at hj ⊢
    obtain ⟨z1, z2, z3, z4, z5, z6, z7⟩ := hj
    simp (disch := omega) only [up2_ne, upB_ne]
    refine ⟨z1, z2, z3, z4, z5, fun n n0 n1 => ?_, fun q => ?_⟩
    · have a1 := x1
      have c0 := (hA j j0 j1).2.2.2.1
      rw [up2_ne (by omega), up2_ne (by omega), up2_ne (by omega), up2_ne (by omega)]
      exact z6 n n0 n1
    · have c0 := (hA j j0 j1).2.2.2.1
      simp (disch := omega) only [up2_ne]
      exact z7 q
  · rw [up2_ne (by omega), up2_ne (by omega), up2_ne (by omega), up2_ne (by omega)]
  · have w2 : W 137 2 = V0 137 2 := (eW _ _ (by omega) (by omega) (by unfold RCf; omega)).trans (hM _ _ (by omega) (by omega) (by unfold RCf; omega) (by omega) (by omega) (by omega) (by omega) (by omega))
    have w0 : W 137 0 = t := (eW _ _ (by omega) (by omega) (by unfold RCf; omega)).trans h137
    have si : s32 i = i := s32_id (by omega) (by omega)
    have s2' : s32 (V0 137 2) = V0 137 2 := s32_id (by omega) (by omega)
    have se : s32 (600 * i + t) = 600 * i + t := s32_id (by omega) (by omega)
    have hV := hW
    rw [L_m_goDay_2]
    simp (disch := omega) only [hS.k137, hS.k158, hS.n158, hV.r137_23, w2, w0, si, s2', se, i1, show 0 ≤ 600 * i + t from by omega, show 600 * i + t < 12000 from by omega, b_s32, b_eq0, b_01, l0, l1, true_and, and_true, and_self, true_implies, false_implies, implies_true, forall_const, not_true_eq_false, not_false_eq_true, reduceIte, ite_true, ite_false, reduceCtorEq, forall_eq, Classical.not_not, true_or, or_true, false_or, or_false, and_false, false_and, Int.reduceEq, Int.reduceLT, Int.reduceLE, Int.reduceAdd, Int.reduceSub, Int.reduceMul, Int.reduceNeg]
    refine hm W _ hW eW (fun W1 hW1 gom => ?_)
    obtain ⟨o1, o2, o3, o4⟩ := gom
    have hV := hW1
    have q142 : W1 142 i = V0 142 i := (o1 _ _ (by unfold RCf; omega) (by omega)).trans ((eW _ _ (by omega) (by omega) (by unfold RCf; omega)).trans v142)
    have q144 : W1 144 i = V0 144 i := (o1 _ _ (by unfold RCf; omega) (by omega)).trans ((eW _ _ (by omega) (by omega) (by unfold RCf; omega)).trans v144)
    have hV2 : FV (up2 W1 158 (600 * i + t) κ) := hV.fr (fun a k q => up2_ne (by unfold VD at q; omega))
    simp (disch := omega) only [hS.k158, hS.n158, show 0 ≤ 600 * i + t from by omega, show 600 * i + t < 12000 from by omega, b_s32, b_eq0, b_01, l0, l1, true_and, and_true, and_self, true_implies, false_implies, implies_true, forall_const, not_true_eq_false, not_false_eq_true, reduceIte, ite_true, ite_false, reduceCtorEq, forall_eq, Classical.not_not, true_or, or_true, false_or, or_false, and_false, false_and, Int.reduceEq, Int.reduceLT, Int.reduceLE, Int.reduceAdd, Int.reduceSub, Int.reduceMul, Int.reduceNeg]
    rw [r_look hS hV2 i0 (by omega)]
    have idle : ¬ (s32 ((up2 W1 158 (600 * i + t) κ) 144 i) = 1 ∧ s32 ((up2 W1 158 (600 * i + t) κ) 142 i - (up2 W1 158 (600 * i + t) κ) 148 i - (up2 W1 158 (600 * i + t) κ) 146 i) ≤ 0 ∧ s32 ((up2 W1 158 (600 * i + t) κ) 147 i) = 0) := by
      rw [up2_ne (by omega), up2_ne (by omega), up2_ne (by omega), up2_ne (by omega), up2_ne (by omega), q142, q144, o2, o3, o4, s32_id (x := V0 144 i) (by omega) (by omega), s32_id (x := V0 142 i - r - c) (by omega) (by omega), s32_id (x := l) (by omega) (by omega)]
      intro q
      exact hO1 q.1 ⟨by omega, by omega⟩
    rw [if_neg idle, up2_self]
    refine hU _ hV2 (fun a k a0 a1 a2 => ?_) (fun p q m1 => ?_)
    · by_cases e1 : a = 158 ∧ k = 600 * i + t
      · rw [up2_eq e1.1 e1.2, up2_eq e1.1 e1.2]
      · rw [up2_ne (by omega), up2_ne (by omega)]
        by_cases e2 : 146 ≤ a ∧ a ≤ 148 ∧ k = i
        · obtain ⟨e3, e4, e5⟩ := e2
          subst e5
          rcases (by omega : a = 146 ∨ a = 147 ∨ a = 148) with e | e | e <;> subst e
          · rw [o2]; simp (disch := omega) only [up2_ne, up2_eq]
          · rw [o3]; simp (disch := omega) only [up2_ne, up2_eq]
          · rw [o4]; simp (disch := omega) only [up2_ne, up2_eq]
        · rw [o1 a k a2 e2, up2_ne (by omega), up2_ne (by omega), up2_ne (by omega)]
          exact eW a k a0 a1 a2
    · rw [up2_ne (by omega)]
      exact o1 p q (by unfold RCf; omega) (by omega)
end TS
