/-! commands: best, the model's search -/
section BMW
variable {d n s : Nat} {t mn : Int} {V0 : Mem} {S : Shp} {U : Mem → Shp → Prop}
theorem m_way {g : Cnt} (hS : FS S) (hV0 : FV V0) (hn : V0 137 1 = (n : Int)) (n12 : n ≤ 12) (hs : s < 65536) (hX : XYR n (V0 138)) (hY : XYR n (V0 139)) (e0 : V0 137 0 = t) (ht : 0 ≤ t ∧ t ≤ 599) (hC : ∀ h : Nat, h < n → 0 ≤ coA V0 (t / 30) (h : Int) ∧ coA V0 (t / 30) (h : Int) ≤ 999) (hm : 0 ≤ mn ∧ mn ≤ 9999) : ∀ (k : Nat) (P : List Nat) (used : Nat) (r c : Int) (V : Mem) (B : BST) (u5 u6 u7 u8 : XV), P.length + k = 7 → (∀ x ∈ P, x < n) → used < 8192 → (∀ h : Nat, h < n → (used.testBit h = true ↔ h ∈ P)) → 0 ≤ r → r ≤ mn → 0 ≤ c → c ≤ 999 * (P.length : Int) → GFW V0 V → (∀ j : Nat, j < P.length → V 165 (j : Int) = rwA P j) → V 165 (P.length : Int) = (if k = 0 then (n : Int) else -1) → V 167 (P.length : Int) = mn - r → V 168 (P.length : Int) = c → BMM V (bup B c P) →
    (∀ (V' : Mem) (used' : Nat), used' < 8192 → (∀ h : Nat, h < n → (used'.testBit h = true ↔ h ∈ P)) → GFW V0 V' → (∀ j : Nat, j < P.length → V' 165 (j : Int) = V 165 (j : Int) ∧ V' 167 (j : Int) = V 167 (j : Int) ∧ V' 168 (j : Int) = V 168 (j : Int)) → BMM V' (wsr n s (V0 138) (V0 139) (coA V0 (t / 30)) k P r c B) → ∀ u5 u6 u7 u8, K_m_findWay (d + 2) U (36, [(2, 137), (0, (s : Int)), (0, mn), (0, (P.length : Int) + -1), (0, (used' : Int)), u5, u6, u7, u8], [], V', S, g)) →
    K_m_findWay (d + 2) U (36, [(2, 137), (0, (s : Int)), (0, mn), (0, (P.length : Int)), (0, (used : Int)), u5, u6, u7, u8], [], V, S, g) := by
  have sn : s32 (n : Int) = (n : Int) := s32_id (by omega) (by omega)
  have sn1 : s32 ((n : Int) + 1) = (n : Int) + 1 := s32_id (by omega) (by omega)
  have smn : s32 mn = mn := s32_id (by omega) (by omega)
  intro k
  induction k with
  | zero =>
    intro P used r c V B u5 u6 u7 u8 hP hPn hu hb r0 r1 c0 c1 hG hw e5 e7 e8 hB hK
    have hV := hG.fv hV0
    rw [if_pos rfl] at e5
    have sp : s32 (P.length : Int) = (P.length : Int) := s32_id (by omega) (by omega)
    have e1 : V 137 1 = (n : Int) := (hG _ _ (by omega) (by omega)).trans hn
    obtain ⟨w, ew, hwl, hwb⟩ := clr_n (u := used) (i := n) hu (by omega)
    have k36 := hK V w (by omega) (fun h hh => by rw [hwb h]; exact ⟨fun z => (hb h hh).mp z.1, fun z => ⟨(hb h hh).mpr z, by omega⟩⟩) hG (fun _ _ => ⟨rfl, rfl, rfl⟩) hB
    rw [L_m_findWay_36]
    simp only [sp, hS.k137, hS.k165, hS.n165, hV.r137_46, e5, sn, ew, show ¬ (P.length : Int) < 0 from by omega, show ¬ (n : Int) < 0 from by omega, show (0 : Int) ≤ (P.length : Int) from by omega, show (P.length : Int) < 8 from by omega, b_s32, b_eq0, b_01, l0, l1, true_and, and_true, and_self, true_implies, false_implies, implies_true, forall_const, not_true_eq_false, not_false_eq_true, reduceIte, ite_true, ite_false, reduceCtorEq, forall_eq, Classical.not_not, true_or, or_true, false_or, or_false, and_false, false_and, Int.reduceEq, Int.reduceLT, Int.reduceLE, Int.reduceAdd, Int.reduceSub, Int.reduceMul, Int.reduceNeg]
    rw [L_m_findWay_74]
    simp only [hS.k137, e1, sn, sn1, show ¬ (n : Int) + 1 < (n : Int) from by omega, b_s32, b_eq0, b_01, l0, l1, true_and, and_true, and_self, true_implies, false_implies, implies_true, forall_const, not_true_eq_false, not_false_eq_true, reduceIte, ite_true, ite_false, reduceCtorEq, forall_eq, Classical.not_not, true_or, or_true, false_or, or_false, and_false, false_and, Int.reduceEq, Int.reduceLT, Int.reduceLE, Int.reduceAdd, Int.reduceSub, Int.reduceMul, Int.reduceNeg]
    rw [L_m_findWay_127]
    simp only [hS.k137, e1, sn, sn1, show ¬ (n : Int) + 1 < (n : Int) from by omega, k36, b_s32, b_eq0, b_01, l0, l1, true_and, and_true, and_self, true_implies, false_implies, implies_true, forall_const, not_true_eq_false, not_false_eq_true, reduceIte, ite_true, ite_false, reduceCtorEq, forall_eq, Classical.not_not, true_or, or_true, false_or, or_false, and_false, false_and, Int.reduceEq, Int.reduceLT, Int.reduceLE, Int.reduceAdd, Int.reduceSub, Int.reduceMul, Int.reduceNeg]
  | succ k ih =>
    intro P used r c V B u5 u6 u7 u8 hP hPn hu hb r0 r1 c0 c1 hG hw e5 e7 e8 hB hK
    have sp : s32 (P.length : Int) = (P.length : Int) := s32_id (by omega) (by omega)
    have loop : ∀ (N h : Nat) (V : Mem) (B : BST) (used : Nat) (u6 u7 u8 : XV), N + h = n → used < 8192 → (∀ h : Nat, h < n → (used.testBit h = true ↔ h ∈ P)) → GFW V0 V → (∀ j : Nat, j < P.length → V 165 (j : Int) = rwA P j) → V 167 (P.length : Int) = mn - r → V 168 (P.length : Int) = c → BMM V B →
        (∀ (V' : Mem) (used' : Nat), used' < 8192 → (∀ h : Nat, h < n → (used'.testBit h = true ↔ h ∈ P)) → GFW V0 V' → (∀ j : Nat, j < P.length → V' 165 (j : Int) = V 165 (j : Int) ∧ V' 167 (j : Int) = V 167 (j : Int) ∧ V' 168 (j : Int) = V 168 (j : Int)) → BMM V' (wlp (wfA n s (V0 138) (V0 139) (coA V0 (t / 30)) k P r c) N h B) → ∀ u5 u6 u7 u8, K_m_findWay (d + 2) U (36, [(2, 137), (0, (s : Int)), (0, mn), (0, (P.length : Int) + -1), (0, (used' : Int)), u5, u6, u7, u8], [], V', S, g)) →
        K_m_findWay (d + 2) U (74, [(2, 137), (0, (s : Int)), (0, mn), (0, (P.length : Int)), (0, (used : Int)), (0, (h : Int)), u6, u7, u8], [], V, S, g) := by
      intro N
      induction N with
      | zero =>
        intro h V B used u6 u7 u8 hN hu hb hG hw e7 e8 hB hK
        have e : h = n := by omega
        subst e
        have e1 : V 137 1 = (h : Int) := (hG _ _ (by omega) (by omega)).trans hn
        have k36 := hK V used hu hb hG (fun _ _ => ⟨rfl, rfl, rfl⟩) hB
        rw [L_m_findWay_74]
        simp only [hS.k137, e1, sn, Int.lt_irrefl, b_s32, b_eq0, b_01, l0, l1, true_and, and_true, and_self, true_implies, false_implies, implies_true, forall_const, not_true_eq_false, not_false_eq_true, reduceIte, ite_true, ite_false, reduceCtorEq, forall_eq, Classical.not_not, true_or, or_true, false_or, or_false, and_false, false_and, Int.reduceEq, Int.reduceLT, Int.reduceLE, Int.reduceAdd, Int.reduceSub, Int.reduceMul, Int.reduceNeg]
        rw [L_m_findWay_127]
        simp only [hS.k137, e1, sn, Int.lt_irrefl, k36, b_s32, b_eq0, b_01, l0, l1, true_and, and_true, and_self, true_implies, false_implies, implies_true, forall_const, not_true_eq_false, not_false_eq_true, reduceIte, ite_true, ite_false, reduceCtorEq, forall_eq, Classical.not_not, true_or, or_true, false_or, or_false, and_false, false_and, Int.reduceEq, Int.reduceLT, Int.reduceLE, Int.reduceAdd, Int.reduceSub, Int.reduceMul, Int.reduceNeg]
      | succ N ihN =>
        intro h V B used u6 u7 u8 hN hu hb hG hw e7 e8 hB hK
        have hV := hG.fv hV0
        have e1 : V 137 1 = (n : Int) := (hG _ _ (by omega) (by omega)).trans hn
        have sh : s32 (h : Int) = (h : Int) := s32_id (by omega) (by omega)
        have eS := sh_bit (n := s) (i := h) (by omega) (by omega)
        have eU := sh_bit (n := used) (i := h) (by omega) (by omega)
        have eX : V 138 = V0 138 := funext (fun q => hG _ _ (by omega) (by omega))
        have eY : V 139 = V0 139 := funext (fun q => hG _ _ (by omega) (by omega))
        have hmin : ∀ Q' : Int → Mem → Shp → Prop, C_m_minutesTo (d + 2) 137 (P.length : Int) (h : Int) V S Q' ↔ Q' (wyA (V0 138) (V0 139) P h) V S := fun Q' => by
          rw [p_minTo hS hV (by rw [eX]; exact hX) (by rw [eY]; exact hY) n12 hPn (by omega) (show h < n by omega) hw, eX, eY]
        have w := wyA_r hX hY hPn (h := h) (by omega)
        generalize hWW : wyA (V0 138) (V0 139) P h = wy at hmin w
        have sw : s32 (mn - r + wy) = mn - r + wy := s32_id (by omega) (by omega)
        have stay : wfA n s (V0 138) (V0 139) (coA V0 (t / 30)) k P r c h B = B → ∀ u6 u7 u8, K_m_findWay (d + 2) U (74, [(2, 137), (0, (s : Int)), (0, mn), (0, (P.length : Int)), (0, (used : Int)), (0, (h : Int) + 1), u6, u7, u8], [], V, S, g) := fun q u6 u7 u8 => by
          have := ihN (h + 1) V B used u6 u7 u8 (by omega) hu hb hG hw e7 e8 hB (fun V' u' a1 a2 a3 a4 a5 => hK V' u' a1 a2 a3 a4 (by rw [wlp_s, q]; exact a5))
          rw [show ((h + 1 : Nat) : Int) = (h : Int) + 1 from by omega] at this
          exact this
        rw [L_m_findWay_74]
        cases hbit : s.testBit h
        · have st := stay (wfA_f (fun z => by rw [hbit] at z; cases z.1))
          rw [hbit] at eS
          simp only [hS.k137, e1, sn, sh, show (h : Int) < (n : Int) from by omega, eS, show s32 (b2 false) = 0 from by decide, st, b_s32, b_eq0, b_01, l0, l1, true_and, and_true, and_self, true_implies, false_implies, implies_true, forall_const, not_true_eq_false, not_false_eq_true, reduceIte, ite_true, ite_false, reduceCtorEq, forall_eq, Classical.not_not, true_or, or_true, false_or, or_false, and_false, false_and, Int.reduceEq, Int.reduceLT, Int.reduceLE, Int.reduceAdd, Int.reduceSub, Int.reduceMul, Int.reduceNeg]
        · rw [hbit] at eS
          by_cases cp : h ∈ P
          · have st := stay (wfA_f (fun z => z.2.1 cp))
            rw [(hb h (by omega)).mpr cp] at eU
            simp only [hS.k137, e1, sn, sh, show (h : Int) < (n : Int) from by omega, eS, eU, show s32 (b2 true) = 1 from by decide, show ¬ (1 : Int) = 0 from by omega, st, b_s32, b_eq0, b_01, l0, l1, true_and, and_true, and_self, true_implies, false_implies, implies_true, forall_const, not_true_eq_false, not_false_eq_true, reduceIte, ite_true, ite_false, reduceCtorEq, forall_eq, Classical.not_not, true_or, or_true, false_or, or_false, and_false, false_and, Int.reduceEq, Int.reduceLT, Int.reduceLE, Int.reduceAdd, Int.reduceSub, Int.reduceMul, Int.reduceNeg]
          · have uf : used.testBit h = false := nf (fun z => cp ((hb h (by omega)).mp z))
            rw [uf] at eU
            by_cases cw : r < wy
            · have st := stay (wfA_f (fun z => by rw [hWW] at z; omega))
              simp only [hS.k137, hS.k167, hS.n167, hV.r137_48, e1, sn, sh, sp, show (h : Int) < (n : Int) from by omega, eS, eU, show s32 (b2 true) = 1 from by decide, show s32 (b2 false) = 0 from by decide, show ¬ (1 : Int) = 0 from by omega, show ¬ (0 : Int) = 1 from by omega, show (0 : Int) ≤ (P.length : Int) from by omega, show (P.length : Int) < 8 from by omega, hmin, e7, smn, sw, show mn < mn - r + wy from by omega, st, b_s32, b_eq0, b_01, l0, l1, true_and, and_true, and_self, true_implies, false_implies, implies_true, forall_const, not_true_eq_false, not_false_eq_true, reduceIte, ite_true, ite_false, reduceCtorEq, forall_eq, Classical.not_not, true_or, or_true, false_or, or_false, and_false, false_and, Int.reduceEq, Int.reduceLT, Int.reduceLE, Int.reduceAdd, Int.reduceSub, Int.reduceMul, Int.reduceNeg]
            · have hcc := hC h (by omega)
              generalize hCV : coA V0 (t / 30) (h : Int) = cv at hcc
              have e0V : V 137 0 = t := (hG _ _ (by omega) (by omega)).trans e0
              have ecV : V 140 (20 * (h : Int) + t / 30) = cv := (hG _ _ (by omega) (by omega)).trans hCV
              have hp2 : 2 ^ h < 2 ^ 13 := Nat.pow_lt_pow_right (by omega) (by omega)
              have hor : used ||| 2 ^ h < 2 ^ 13 := Nat.or_lt_two_pow (n := 13) hu hp2
              have hor : used ||| 2 ^ h < 8192 := hor
              have e3 : ((h :: P).length : Int) = (P.length : Int) + 1 := by show ((P.length + 1 : Nat) : Int) = _; omega
              have hle : (h :: P).length = P.length + 1 := rfl
              have ke := fun u6 u7 u8 => m_ext (d := d + 2) (U := U) (g := g) (s := (s : Int)) (mn := mn) (n := n) hS hV e1 n12 (p := P.length) (h := h) (by omega) (by omega) e0V ht ecV e7 e8 (by omega) hcc hmin hu hB (P := P) rfl hw (fun V2 f1 f2 f3 f4 f5 f6 v5 v6 v7 v8 => by
                have hG2 : GFW V0 V2 := fun a q n1 n2 => (f1 a q n1 (by omega) (by omega) (by omega)).trans (hG a q n1 n2)
                have hlow : ∀ j : Nat, j < P.length → V2 165 (j : Int) = V 165 (j : Int) ∧ V2 167 (j : Int) = V 167 (j : Int) ∧ V2 168 (j : Int) = V 168 (j : Int) := fun j hj => ⟨f1 _ _ (by omega) (by omega) (by omega) (by omega), f1 _ _ (by omega) (by omega) (by omega) (by omega), f1 _ _ (by omega) (by omega) (by omega) (by omega)⟩
                have kk := ih (h :: P) (used ||| 2 ^ h) (r - wy) (c + cv) V2 B v5 v6 v7 v8 (by rw [hle]; omega)
                  (fun x hx => by
                    rcases List.mem_cons.mp hx with e | e
                    · rw [e]; omega
                    · exact hPn x e)
                  hor
                  (fun g hg => by
                    rw [bit_or, hb g hg, List.mem_cons]
                    exact ⟨fun z => z.elim Or.inr (fun e => Or.inl e.symm), fun z => z.elim (fun e => Or.inr e.symm) Or.inl⟩)
                  (by omega) (by omega) (by omega) (by rw [e3]; omega) hG2
                  (fun j hj => by
                    rw [hle] at hj
                    show _ = if j = P.length then (h : Int) else rwA P j
                    by_cases e : j = P.length
                    · rw [if_pos e, e]; exact f2
                    · rw [if_neg e, (hlow j (by omega)).1]
                      exact hw j (by omega))
                  (by
                    rw [e3, f3]
                    by_cases k0 : k = 0
                    · rw [if_pos k0, if_neg (by omega)]
                    · rw [if_neg k0, if_pos (by omega)])
                  (by rw [e3, f4]; omega) (by rw [e3, f5]) f6
                  (fun V' u' a1 a2 a3 a4 a5 x5 x6 x7 x8 => by
                    have hV' := a3.fv hV0
                    obtain ⟨q1, q2, q3⟩ := a4 P.length (by rw [hle]; omega)
                    rw [f2] at q1
                    rw [f1 _ _ (by omega) (by omega) (by omega) (by omega)] at q2 q3
                    obtain ⟨w, ew, hwl, hwb⟩ := clr_n (u := u') (i := h) a1 (by omega)
                    have k74 := fun y6 y7 y8 => ihN (h + 1) V' (wsr n s (V0 138) (V0 139) (coA V0 (t / 30)) k (h :: P) (r - wy) (c + cv) B) w y6 y7 y8 (by omega) (by omega)
                      (fun g hg => by
                        rw [hwb g, a2 g hg, List.mem_cons]
                        exact ⟨fun z => z.1.elim (fun e => absurd e z.2) id, fun z => ⟨Or.inr z, fun e => cp (by rw [← e]; exact z)⟩⟩)
                      a3 (fun j hj => by rw [(a4 j (by rw [hle]; omega)).1, (hlow j hj).1]; exact hw j hj) (q2.trans e7) (q3.trans e8) a5
                      (fun V3 u3 b1 b2' b3 b4 b5 => hK V3 u3 b1 b2' b3 (fun j hj => by
                        obtain ⟨z1, z2, z3⟩ := b4 j hj
                        obtain ⟨z4, z5, z6⟩ := a4 j (by rw [hle]; omega)
                        obtain ⟨z7, z8, z9⟩ := hlow j hj
                        exact ⟨z1.trans (z4.trans z7), z2.trans (z5.trans z8), z3.trans (z6.trans z9)⟩) (by
                          rw [wlp_s, wfA_t ⟨hbit, cp, by rw [hWW]; omega⟩, hWW, hCV]
                          exact b5))
                    rw [show ((h + 1 : Nat) : Int) = (h : Int) + 1 from by omega] at k74
                    have hV := hV'
                    rw [e3, show (P.length : Int) + 1 + -1 = (P.length : Int) from by omega, L_m_findWay_36]
                    simp only [sp, hS.k137, hS.k165, hS.n165, hV.r137_46, q1, sh, ew, show ¬ (P.length : Int) < 0 from by omega, show ¬ (h : Int) < 0 from by omega, show (0 : Int) ≤ (P.length : Int) from by omega, show (P.length : Int) < 8 from by omega, k74, b_s32, b_eq0, b_01, l0, l1, true_and, and_true, and_self, true_implies, false_implies, implies_true, forall_const, not_true_eq_false, not_false_eq_true, reduceIte, ite_true, ite_false, reduceCtorEq, forall_eq, Classical.not_not, true_or, or_true, false_or, or_false, and_false, false_and, Int.reduceEq, Int.reduceLT, Int.reduceLE, Int.reduceAdd, Int.reduceSub, Int.reduceMul, Int.reduceNeg])
                rw [e3] at kk
                exact kk) u6 u7 u8
              simp only [hS.k137, hS.k167, hS.n167, hV.r137_48, e1, sn, sh, sp, show (h : Int) < (n : Int) from by omega, eS, eU, show s32 (b2 true) = 1 from by decide, show s32 (b2 false) = 0 from by decide, show ¬ (1 : Int) = 0 from by omega, show ¬ (0 : Int) = 1 from by omega, show (0 : Int) ≤ (P.length : Int) from by omega, show (P.length : Int) < 8 from by omega, hmin, e7, smn, sw, show ¬ mn < mn - r + wy from by omega, ke, b_s32, b_eq0, b_01, l0, l1, true_and, and_true, and_self, true_implies, false_implies, implies_true, forall_const, not_true_eq_false, not_false_eq_true, reduceIte, ite_true, ite_false, reduceCtorEq, forall_eq, Classical.not_not, true_or, or_true, false_or, or_false, and_false, false_and, Int.reduceEq, Int.reduceLT, Int.reduceLE, Int.reduceAdd, Int.reduceSub, Int.reduceMul, Int.reduceNeg]
    have hV := hG.fv hV0
    rw [if_neg (by omega)] at e5
    have lp := fun u6 u7 u8 => loop n 0 V (bup B c P) used u6 u7 u8 (by omega) hu hb hG hw e7 e8 hB (fun V' u' a1 a2 a3 a4 a5 => hK V' u' a1 a2 a3 a4 (by rw [wsr_s]; exact a5))
    have lp : ∀ u6 u7 u8, K_m_findWay (d + 2) U (74, [(2, 137), (0, (s : Int)), (0, mn), (0, (P.length : Int)), (0, (used : Int)), (0, 0), u6, u7, u8], [], V, S, g) := lp
    rw [L_m_findWay_36]
    simp only [sp, hS.k137, hS.k165, hS.n165, hV.r137_46, e5, s32_id (x := -1) (by omega) (by omega), show ¬ (P.length : Int) < 0 from by omega, show (-1 : Int) < 0 from by omega, show (-1 : Int) + 1 = 0 from by omega, show (0 : Int) ≤ (P.length : Int) from by omega, show (P.length : Int) < 8 from by omega, lp, b_s32, b_eq0, b_01, l0, l1, true_and, and_true, and_self, true_implies, false_implies, implies_true, forall_const, not_true_eq_false, not_false_eq_true, reduceIte, ite_true, ite_false, reduceCtorEq, forall_eq, Classical.not_not, true_or, or_true, false_or, or_false, and_false, false_and, Int.reduceEq, Int.reduceLT, Int.reduceLE, Int.reduceAdd, Int.reduceSub, Int.reduceMul, Int.reduceNeg]
end BMW
