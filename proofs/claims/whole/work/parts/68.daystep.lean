def CFd (t i : Int) (V0 V : Mem) : Prop := FV V ∧ ∀ p q, ¬ (137 ≤ p ∧ p ≤ 199) → ¬ (1000 ≤ p ∧ p < 1000 + 10 * i ∧ ((p % 10 = 1 ∧ q ≤ 3) ∨ (p % 10 = 5 ∧ q = t))) → ¬ (p = 106 ∧ 4 ≤ q ∧ q ≤ 8) → V p q = V0 p q
def MFd (t i : Int) (V0 Vm : Mem) : Prop := ∀ p q, 137 ≤ p → p ≤ 199 → ¬ RCf p q → ¬ (146 ≤ p ∧ p ≤ 148 ∧ q < i) → ¬ (p = 158 ∧ q % 600 = t ∧ q < 600 * i) → Vm p q = V0 p q
def DON (V0 V Vm : Mem) (t j : Int) : Prop := ∃ κ : Int, (0 ≤ κ ∧ κ ≤ 6) ∧ V (1005 + 10 * j) t = κ ∧ Vm 158 (600 * j + t) = κ ∧ V (1001 + 10 * j) 3 = (if κ = 5 then V0 (1001 + 10 * j) 3 + 1 else 0) ∧ (V (1001 + 10 * j) 0 = Vm 146 j ∧ V (1001 + 10 * j) 1 = Vm 147 j ∧ V (1001 + 10 * j) 2 = Vm 148 j) ∧ (Vm 146 j + Vm 148 j = V0 146 j + V0 148 j ∧ 0 ≤ Vm 146 j ∧ 0 ≤ Vm 148 j) ∧ (V0 147 j ≤ Vm 147 j ∧ Vm 147 j ≤ V0 147 j + 1)
def SETL (V0 V : Mem) (t : Int) : Prop := V 106 4 = t / 30 ∧ V 106 5 = nbT V0 1 t false ∧ V 106 6 = nbT V0 2 t false ∧ OFS V (csM V0) (rulr V0 4 0 t false)
section DS
variable {d : Nat} {n m i t b c l r D p q : Int} {V V0 Vm W W' : Mem} {S : Shp}
theorem upB_ne (h : p ≠ b) : upB V b c l r D p q = V p q := by
  unfold upB
  rw [up2_ne (Or.inl h), up2_ne (Or.inl h), up2_ne (Or.inl h), up2_ne (Or.inl h)]
theorem upB_n4 (h : 4 ≤ q) : upB V b c l r D p q = V p q := by
  unfold upB
  rw [up2_ne (by omega), up2_ne (by omega), up2_ne (by omega), up2_ne (by omega)]
theorem upB_v : upB V b c l r D b 0 = c ∧ upB V b c l r D b 1 = l ∧ upB V b c l r D b 2 = r ∧ upB V b c l r D b 3 = D := by
  unfold upB
  simp (disch := omega) only [up2_ne, up2_eq, and_self]
theorem q_lampAt {a L : Int} {Q : Int → Mem → Shp → Prop} (hS : FS S) (hV : FV V) (h11 : V 100 11 = L ∧ 0 ≤ L ∧ L ≤ 20) (hl : ∀ i, 0 ≤ i → i < L → V 102 i = 1000 + 10 * i) : C_x_lampAt (d + 1) 100 a V S Q ↔ Q (if 0 ≤ s32 a ∧ s32 a < L then 1000 + 10 * s32 a else -1) V S := by
  obtain ⟨a1, a2, a3⟩ := h11
  rw [I_x_lampAt]
  simp only [hS.k100, hS.k102, hS.n102, hV.r100_1, a1, true_and]
  rw [s32_id (x := L) (by omega) (by omega), s32_id (x := 20) (by omega) (by omega)]
  by_cases c1 : s32 a < 0
  · rw [if_neg (by omega)]; simp [c1]
  · by_cases c2 : s32 a < L
    · rw [if_pos (by omega), hl (s32 a) (by omega) c2]
      have c3 : s32 a < 20 := by omega
      have c4 : 0 ≤ s32 a := by omega
      simp [c1, c2, c3, c4]
    · rw [if_neg (by omega)]; simp [c1, c2]
theorem dayStep (d : Nat) (h : INV n V0 S) (hn : n ≤ 40000) (h0 : V0 137 0 = t) (i0 : 0 ≤ i) (i1 : i < V0 137 2) (hC : CFd t i V0 V) (hM : MFd t i V0 Vm) (hs : SETL V0 V t) :
    ∃ V' Vm' : Mem, CFd t (i + 1) V0 V' ∧ MFd t (i + 1) V0 Vm' ∧ SETL V0 V' t ∧ DON V0 V' Vm' t i ∧ (∀ j, 0 ≤ j → j < i → DON V0 V Vm t j → DON V0 V' Vm' t j) ∧ (∀ p q, 137 ≤ p → p ≤ 199 → V' p q = V p q) ∧
      (∀ (U : Mem → Shp → Prop) (g : Cnt) (u2 u3 : XV), (∀ u2 u3, K_x_passOneDay (d + 14) U (13, [(2, 100), (0, i + 1), u2, u3], [], V', S, g)) → K_x_passOneDay (d + 14) U (13, [(2, 100), (0, i), u2, u3], [], V, S, g)) ∧
      (∀ (W : Mem) (U : Mem → Shp → Prop) (g : Cnt), FV W → MSC Vm W → (∀ W', FV W' → MSC Vm' W' → (∀ p q, ¬ (137 ≤ p ∧ p ≤ 199) → W' p q = W p q) → K_m_goDay (d + 14) U (2, [(2, 137), (0, i + 1)], [], W', S, g)) → K_m_goDay (d + 14) U (2, [(2, 137), (0, i)], [], W, S, g)) := by
  have hk := h.1
  have hS := hk.1
  have n20 := hk.n20
  have n599 := hk.n599
  rw [h0] at n599
  have st : s32 t = t := s32_id (by omega) (by omega)
  obtain ⟨hA, hB, hMM, hO, -, hK, -⟩ := h.2.2.2.1
  have hO1 := hO i i0 i1
  obtain ⟨-, -, ⟨-, x1, x2⟩⟩ := hA i i0 i1
  obtain ⟨⟨b1, b2, b3⟩, ⟨b4, b5, b6⟩, ⟨b7, b8, b9⟩, -⟩ := hB i i0 i1
  obtain ⟨f1, f2, f3, f4, f5, f6, f7, f8⟩ := hMM i i0 i1
  obtain ⟨kk1, D0, D1, D2, D3⟩ := hK i i0 i1
  rw [h0] at kk1 D1 D2 D3 x2
  obtain ⟨⟨k0, k1, k2, k3, k4, k5, k6, k7⟩, r1, r2, r4, r5, r6, r7, r8⟩ := hk.lamp i0 i1
  obtain ⟨hV, hC⟩ := hC
  have eT : TEQ V0 Vm := fun a k hh => hM a k (by omega) (by omega) (by unfold RCf; omega) (by omega) (by omega)
  have v146 : Vm 146 i = V0 146 i := hM _ _ (by omega) (by omega) (by unfold RCf; omega) (by omega) (by omega)
  have v147 : Vm 147 i = V0 147 i := hM _ _ (by omega) (by omega) (by unfold RCf; omega) (by omega) (by omega)
  have v148 : Vm 148 i = V0 148 i := hM _ _ (by omega) (by omega) (by unfold RCf; omega) (by omega) (by omega)
  have v144 : Vm 144 i = V0 144 i := hM _ _ (by omega) (by omega) (by unfold RCf; omega) (by omega) (by omega)
  have v156 : Vm 156 i = V0 156 i := hM _ _ (by omega) (by omega) (by unfold RCf; omega) (by omega) (by omega)
  have v142 : Vm 142 i = V0 142 i := hM _ _ (by omega) (by omega) (by unfold RCf; omega) (by omega) (by omega)
  have v145 : Vm 145 i = V0 145 i := hM _ _ (by omega) (by omega) (by unfold RCf; omega) (by omega) (by omega)
  have v151 : Vm 151 i = V0 151 i := hM _ _ (by omega) (by omega) (by unfold RCf; omega) (by omega) (by omega)
  have v137 : Vm 137 0 = t := (hM _ _ (by omega) (by omega) (by unfold RCf; omega) (by omega) (by omega)).trans h0
  have vl : ∀ k, V (1000 + 10 * i) k = V0 (1000 + 10 * i) k := fun k => hC _ _ (by omega) (by omega) (by omega)
  have vb : ∀ k, V (1001 + 10 * i) k = V0 (1001 + 10 * i) k := fun k => hC _ _ (by omega) (by omega) (by omega)
  obtain ⟨s1, s2, s3, s4⟩ := hs
  have g1 := h.nb1 (day := t)
  have g2 := h.nb2 (day := t)
  have g1' : 0 ≤ nbT V0 1 t false ∧ nbT V0 1 t false ≤ 999 := g1
  have g2' : nbT V0 2 t false = 0 ∨ nbT V0 2 t false = 1 := g2
  have hHom : HOM V Vm S i (1001 + 10 * i) t := h.hom i0 i1 n599 k1 (fun k _ _ => vl k) (fun p k p0 p1 => hC p k (by omega) (by omega) (by omega)) ⟨v142, v145⟩ (fun k => hM _ _ (by omega) (by omega) (by unfold RCf; omega) (by omega) (by omega)) ⟨by rw [vb, v146]; exact f1, by rw [vb, v147]; exact f2, by rw [vb, v148]; exact f3⟩
  obtain ⟨κ, c, l, r, κr, cr, lr, hc, hm⟩ := lampDay (b := 1001 + 10 * i) (V := V) (Vm := Vm) (S := S) (trb := false) (i := i) (t := t) (gr := nbT V0 1 t false) (ru := nbT V0 2 t false) d (h.tct.fr hV (fun p q n0 n1 n2 => hC p q n0 (by omega) (by omega))) (eT.tm h.tm) i0 (by omega) n599 k0 k1
    ⟨s1, s2, s3, by rw [rul_c]; exact s4⟩ (s32_id (by omega) (by omega)) g2' v137
    ⟨by rw [vl, v144]; exact b4, by omega, by omega⟩ ⟨by rw [vl, v156]; exact b7, by omega, by omega⟩
    ⟨by rw [vb, v146]; exact f1, by rw [vb, v147]; exact f2, by rw [vb, v148]; exact f3⟩ (by omega) (by omega) (by omega)
    (by rw [eT.rul, rul_c]) (fun _ => by rw [eT.cl, eT.rul, rul_c]; rfl)
    hHom
    (fun W hW eW V' Q hv => by
      have w137 : V' 137 0 = t := (hv _ _ (by omega)).trans ((eW _ _ (by omega) (by omega) (by unfold RCf; omega)).trans v137)
      have w151 : V' 151 i = V0 151 i := (hv _ _ (by omega)).trans ((eW _ _ (by omega) (by omega) (by unfold RCf; omega)).trans v151)
      have w158 : ∀ k, 600 * i ≤ k → V' 158 k = V0 158 k := fun k hk' => (hv _ _ (by omega)).trans ((eW _ _ (by omega) (by omega) (by unfold RCf; omega)).trans (hM _ _ (by omega) (by omega) (by unfold RCf; omega) (by omega) (by omega)))
      rw [vb]
      refine r_dark (D := V0 (1001 + 10 * i) 3) hS (hW.fr (fun a k q => hv a k (by unfold VD at q; omega))) i0 (by omega) (by rw [w137]; omega) (by rw [w137, w151]; exact ⟨x1, x2⟩) D0 (by rw [w137, w151]; exact D1) ?_ ?_
      · rw [w137]
        intro n n0 n1
        rw [w158 _ (by omega)]
        exact D2 n n0 n1
      · rw [w137, w151]
        intro q
        rw [w158 _ (by omega)]
        have := D3 q
        have g := (kk1 (t - V0 (1001 + 10 * i) 3 - 1) (by omega) (by omega)).2
        rw [show 600 * i + (t - V0 (1001 + 10 * i) 3 - 1) = 600 * i + t - V0 (1001 + 10 * i) 3 - 1 from by omega] at g
        rw [s32_id (by omega) (by omega)]
        exact this)
    (fun W Q hW eW hq => graceT (d := d + 1) hS h.tm hW (eT.tr eW.te) st hq)
    (fun W Q hW eW hq => runT (d := d + 1) hS h.tm hW (eT.tr eW.te) st g2' hq)
  rw [v146, v148] at cr
  rw [v147] at lr
  have bκ : Int.bmod κ 256 = κ := bm_id (by omega) (by omega)
  refine ⟨up2 (upB V (1001 + 10 * i) c l r (if κ = 5 then V (1001 + 10 * i) 3 + 1 else 0)) (1005 + 10 * i) t κ, up2 (up2 (up2 (up2 Vm 146 i c) 147 i l) 148 i r) 158 (600 * i + t) κ, ⟨hV.fr (fun p q hd => ?_), fun p q n0 n1 n2 => ?_⟩, fun p q p0 p1 n1 n2 n3 => ?_, ?_, ?_, fun j j0 j1 hj => ?_, fun p q p0 p1 => by rw [up2_ne (by omega), upB_ne (by omega)], fun U g u2 u3 hU => ?_, fun W U g hW eW hU => ?_⟩
  · unfold VD at hd
    rw [up2_ne (by omega), upB_ne (by omega)]
  · have e1 : p ≠ 1005 + 10 * i ∨ q ≠ t := by omega
    rw [up2_ne e1]
    by_cases c1 : p = 1001 + 10 * i
    · rw [upB_n4 (by omega)]
      exact hC p q n0 (by omega) n2
    · rw [upB_ne c1]
      exact hC p q n0 (by omega) n2
  · rw [up2_ne (by omega), up2_ne (by omega), up2_ne (by omega), up2_ne (by omega)]
    exact hM p q p0 p1 n1 (by omega) (by omega)
  · unfold SETL OFS
    unfold OFS at s4
    rw [up2_ne (by omega), up2_ne (by omega), up2_ne (by omega), up2_ne (by omega), up2_ne (by omega), upB_ne (by omega), upB_ne (by omega), upB_ne (by omega), upB_ne (by omega), upB_ne (by omega)]
    exact ⟨s1, s2, s3, s4⟩
  · obtain ⟨y1, y2, y3, y4⟩ := upB_v (V := V) (b := 1001 + 10 * i) (c := c) (l := l) (r := r) (D := if κ = 5 then V (1001 + 10 * i) 3 + 1 else 0)
    refine ⟨κ, κr, up2_eq rfl rfl, up2_eq rfl rfl, ?_, ⟨?_, ?_, ?_⟩, ⟨?_, ?_, ?_⟩, ?_⟩
    · rw [up2_ne (by omega), y4, vb]
    · rw [up2_ne (by omega), y1]; simp (disch := omega) only [up2_ne, up2_eq]
    · rw [up2_ne (by omega), y2]; simp (disch := omega) only [up2_ne, up2_eq]
    · rw [up2_ne (by omega), y3]; simp (disch := omega) only [up2_ne, up2_eq]
    · simp (disch := omega) only [up2_ne, up2_eq]; exact cr.1
    · simp (disch := omega) only [up2_ne, up2_eq]; exact cr.2.1
    · simp (disch := omega) only [up2_ne, up2_eq]; exact cr.2.2
    · simp (disch := omega) only [up2_ne, up2_eq]; exact lr
  · unfold DON at hj ⊢
    simp (disch := omega) only [up2_ne, upB_ne]
    exact hj
  · have hcc := hc
    obtain ⟨y1, y2, y3, y4⟩ := upB_v (V := V) (b := 1001 + 10 * i) (c := c) (l := l) (r := r) (D := if κ = 5 then V (1001 + 10 * i) 3 + 1 else 0)
    have c11 : V 100 11 = V0 137 2 := (hC _ _ (by omega) (by omega) (by omega)).trans hk.2.2.1.2.1.1
    have c12 : V 100 12 = t := (hC _ _ (by omega) (by omega) (by omega)).trans (hk.2.2.1.2.2.1.1.trans h0)
    have ql := fun (Q : Int → Mem → Shp → Prop) => q_lampAt (d := d + 13) (a := i) (L := V0 137 2) (V := V) (S := S) (Q := Q) hS hV ⟨c11, by omega, by omega⟩ (fun i' q0 q1 => (hC _ _ (by omega) (by omega) (by omega)).trans (hk.lamp q0 q1).2.1)
    have si : s32 i = i := s32_id (by omega) (by omega)
    have s2' : s32 (V0 137 2) = V0 137 2 := s32_id (by omega) (by omega)
    have v4 : V (1000 + 10 * i) 4 = 1001 + 10 * i := (vl 4).trans r4
    have v7 : V (1000 + 10 * i) 7 = 1005 + 10 * i := (vl 7).trans r7
    rw [L_x_passOneDay_13]
    simp (disch := omega) only [hS.k100, hV.r100_4, c11, si, s2', i0, i1, ql, k0, v4, show ¬ 1000 + 10 * i = -1 from by omega, b_s32, b_eq0, b_01, l0, l1, true_and, and_true, and_self, true_implies, false_implies, implies_true, forall_const, not_true_eq_false, not_false_eq_true, reduceIte, ite_true, ite_false, reduceCtorEq, forall_eq, Classical.not_not, true_or, or_true, false_or, or_false, and_false, false_and, Int.reduceEq, Int.reduceLT, Int.reduceLE, Int.reduceAdd, Int.reduceSub, Int.reduceMul, Int.reduceNeg]
    refine hcc V (1001 + 10 * i) k1 (h.tct.fr hV (fun p q n0 n1 n2 => hC p q n0 (by omega) (by omega))) hHom (fun _ => ⟨rfl, rfl, rfl⟩) _ ?_
    simp (disch := omega) only [hS.k100, upB_ne, c12, I_Lamp_keepKind, k0, k6, k7, v7, st, bκ, s32_id (x := 600), show ¬ t < 0 from by omega, show t < 600 from by omega, show 0 ≤ t from by omega, show (100 : Int) ≤ 101 from by omega, show (101 : Int) < 123 from by omega, b_s32, b_eq0, b_01, l0, l1, true_and, and_true, and_self, true_implies, false_implies, implies_true, forall_const, not_true_eq_false, not_false_eq_true, reduceIte, ite_true, ite_false, reduceCtorEq, forall_eq, Classical.not_not, true_or, or_true, false_or, or_false, and_false, false_and, Int.reduceEq, Int.reduceLT, Int.reduceLE, Int.reduceAdd, Int.reduceSub, Int.reduceMul, Int.reduceNeg]
    generalize hV1 : up2 (upB V (1001 + 10 * i) c l r (if κ = 5 then V (1001 + 10 * i) 3 + 1 else 0)) (1005 + 10 * i) t κ = V1 at hU
    have F : ∀ p q, ¬ (p = 1001 + 10 * i ∧ q ≤ 3) → ¬ (p = 1005 + 10 * i) → V1 p q = V p q := by
      intro p q m1 m2
      subst hV1
      rw [up2_ne (by omega)]
      by_cases c1 : p = 1001 + 10 * i
      · exact upB_n4 (by omega)
      · exact upB_ne c1
    have z1 : V1 (1001 + 10 * i) 0 = c := by subst hV1; rw [up2_ne (by omega)]; exact y1
    have z2 : V1 (1001 + 10 * i) 1 = l := by subst hV1; rw [up2_ne (by omega)]; exact y2
    have z3 : V1 (1001 + 10 * i) 2 = r := by subst hV1; rw [up2_ne (by omega)]; exact y3
    have z8 : V1 (1000 + 10 * i) 8 = V0 142 i := (F _ _ (by omega) (by omega)).trans ((vl 8).trans b1)
    have z9 : V1 (1000 + 10 * i) 9 = V0 144 i := (F _ _ (by omega) (by omega)).trans ((vl 9).trans b4)
    have hl1 : LSK V1 S i := ⟨⟨k0, k1, k2, k3, k4, k5, k6, k7⟩, (F _ _ (by omega) (by omega)).trans ((hC _ _ (by omega) (by omega) (by omega)).trans r1), (F _ _ (by omega) (by omega)).trans ((vl 0).trans r2), (F _ _ (by omega) (by omega)).trans ((vl 4).trans r4), (F _ _ (by omega) (by omega)).trans ((vl 5).trans r5), (F _ _ (by omega) (by omega)).trans ((vl 6).trans r6), (F _ _ (by omega) (by omega)).trans ((vl 7).trans r7), (F _ _ (by omega) (by omega)).trans ((hC _ _ (by omega) (by omega) (by omega)).trans r8)⟩
    rw [q_becomeOwned hl1]
    have idle : ¬ (s32 (V1 (1000 + 10 * i) 9) = 1 ∧ s32 (V1 (1000 + 10 * i) 8 - V1 (1001 + 10 * i) 2 - V1 (1001 + 10 * i) 0) ≤ 0 ∧ s32 (V1 (1001 + 10 * i) 1) = 0) := by
      rw [z1, z2, z3, z8, z9, s32_id (x := V0 144 i) (by omega) (by omega), s32_id (x := V0 142 i - r - c) (by omega) (by omega), s32_id (x := l) (by omega) (by omega)]
      intro q
      exact hO1 q.1 ⟨by omega, by omega⟩
    rw [if_neg idle, up2_self]
    exact hU _ _
  · have w1 : ∀ a k, 137 ≤ a → a ≤ 199 → ¬ RCf a k → W a k = Vm a k := eW
    have w2 : W 137 2 = V0 137 2 := (eW _ _ (by omega) (by omega) (by unfold RCf; omega)).trans (hM _ _ (by omega) (by omega) (by unfold RCf; omega) (by omega) (by omega))
    have w0 : W 137 0 = t := (eW _ _ (by omega) (by omega) (by unfold RCf; omega)).trans v137
    have si : s32 i = i := s32_id (by omega) (by omega)
    have s2' : s32 (V0 137 2) = V0 137 2 := s32_id (by omega) (by omega)
    have se : s32 (600 * i + t) = 600 * i + t := s32_id (by omega) (by omega)
    have hV := hW
    rw [L_m_goDay_2]
    simp (disch := omega) only [hS.k137, hS.k158, hS.n158, hV.r137_23, w2, w0, si, s2', se, i1, show 0 ≤ 600 * i + t from by omega, show 600 * i + t < 12000 from by omega, b_s32, b_eq0, b_01, l0, l1, true_and, and_true, and_self, true_implies, false_implies, implies_true, forall_const, not_true_eq_false, not_false_eq_true, reduceIte, ite_true, ite_false, reduceCtorEq, forall_eq, Classical.not_not, true_or, or_true, false_or, or_false, and_false, false_and, Int.reduceEq, Int.reduceLT, Int.reduceLE, Int.reduceAdd, Int.reduceSub, Int.reduceMul, Int.reduceNeg]
    refine hm W _ hW eW (fun W1 hW1 gom => ?_)
    obtain ⟨o1, o2, o3, o4⟩ := gom
    have hV := hW1
    have q142 : W1 142 i = V0 142 i := (o1 _ _ (by unfold RCf; omega) (by omega)).trans ((eW _ _ (by omega) (by omega) (by unfold RCf; omega)).trans v142)
    have q144 : W1 144 i = V0 144 i := (o1 _ _ (by unfold RCf; omega) (by omega)).trans ((eW _ _ (by omega) (by omega) (by unfold RCf; omega)).trans v144)
    have hV2 : FV (up2 W1 158 (600 * i + t) κ) := hV.fr (fun a k q => up2_ne (by unfold VD at q; omega))
    simp (disch := omega) only [hS.k158, hS.n158, show 0 ≤ 600 * i + t from by omega, show 600 * i + t < 12000 from by omega, b_s32, b_eq0, b_01, l0, l1, true_and, and_true, and_self, true_implies, false_implies, implies_true, forall_const, not_true_eq_false, not_false_eq_true, reduceIte, ite_true, ite_false, reduceCtorEq, forall_eq, Classical.not_not, true_or, or_true, false_or, or_false, and_false, false_and, Int.reduceEq, Int.reduceLT, Int.reduceLE, Int.reduceAdd, Int.reduceSub, Int.reduceMul, Int.reduceNeg]
    rw [r_look hS hV2 i0 (by omega)]
    have idle : ¬ (s32 ((up2 W1 158 (600 * i + t) κ) 144 i) = 1 ∧ s32 ((up2 W1 158 (600 * i + t) κ) 142 i - (up2 W1 158 (600 * i + t) κ) 148 i - (up2 W1 158 (600 * i + t) κ) 146 i) ≤ 0 ∧ s32 ((up2 W1 158 (600 * i + t) κ) 147 i) = 0) := by
      rw [up2_ne (by omega), up2_ne (by omega), up2_ne (by omega), up2_ne (by omega), up2_ne (by omega), q142, q144, o2, o3, o4, s32_id (x := V0 144 i) (by omega) (by omega), s32_id (x := V0 142 i - r - c) (by omega) (by omega), s32_id (x := l) (by omega) (by omega)]
      intro q
      exact hO1 q.1 ⟨by omega, by omega⟩
    rw [if_neg idle, up2_self]
    refine hU _ hV2 (fun a k a0 a1 a2 => ?_) (fun p q m1 => ?_)
    · by_cases e1 : a = 158 ∧ k = 600 * i + t
      · rw [up2_eq e1.1 e1.2, up2_eq e1.1 e1.2]
      · rw [up2_ne (by omega), up2_ne (by omega)]
        by_cases e2 : 146 ≤ a ∧ a ≤ 148 ∧ k = i
        · obtain ⟨e3, e4, e5⟩ := e2
          subst e5
          rcases (by omega : a = 146 ∨ a = 147 ∨ a = 148) with e | e | e <;> subst e
          · rw [o2]; simp (disch := omega) only [up2_ne, up2_eq]
          · rw [o3]; simp (disch := omega) only [up2_ne, up2_eq]
          · rw [o4]; simp (disch := omega) only [up2_ne, up2_eq]
        · rw [o1 a k a2 e2, up2_ne (by omega), up2_ne (by omega), up2_ne (by omega)]
          exact eW a k a0 a1 a2
    · rw [up2_ne (by omega)]
      exact o1 p q (by unfold RCf; omega) (by omega)
end DS
