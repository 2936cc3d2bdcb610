/-! commands: best -/
def resB (R : BST) (c : Int) : Int := if c = -1 then R.1 else if c = -2 then (R.2.length : Int) else if c < (R.2.length : Int) then rwA R.2 c.toNat else -1
section BX
variable {d L s : Nat} {n b c mo : Int} {V V0 : Mem} {S : Shp} {Q : Int → Mem → Shp → Prop}
theorem bup_0 : bup ((0 : Int), ([] : List Nat)) 0 [] = (0, []) := if_neg (by decide)
theorem told_l {g : Cnt} (hk : SK V S) (hH : HDT V) (hL : V 137 1 = (L : Int)) (hs : s < 65536) (h7 : pcn L s ≤ 7) (hc : s32 c = c) (c0 : -2 ≤ c) (b0 : 0 ≤ b) (b1 : b ≤ 9999) (m : V 121 2 = mo ∧ 0 ≤ mo ∧ mo < 20) (z5 : V 121 5 = 0) (z6 : V 121 6 = 0) (hQ : ∀ V', (∀ a q, ¬ (a = 121 ∧ (q = 1 ∨ q = 5 ∨ q = 6)) → ¬ (122 ≤ a ∧ a ≤ 124) → V' a q = V a q) → Q (resB (wsr L s (V 138) (V 139) (coA V mo) 7 [] b 0 (0, [])) c) V' S) : ∀ (N h : Nat) (V1 : Mem), N + h = L → (∀ a q, ¬ (a = 121 ∧ q = 1) → ¬ a = 122 → V1 a q = V a q) → V1 121 1 = (pcn h s : Int) → (∀ g : Nat, g < h → s.testBit g = true → V1 122 (pcn g s : Int) = 2000 + 10 * (g : Int)) → K_x_best (d + 13) Q (60, [(2, 100), (0, (s : Int)), (0, b), (0, c), (0, (h : Int))], [], V1, S, g) := by
  have hk0 := hk
  have hS := hk.1
  have n12 := hk.n12
  have e10 : V 100 10 = (L : Int) := hk.2.2.1.1.1.trans hL
  have sL : s32 (L : Int) = (L : Int) := s32_id (by omega) (by omega)
  have s7 : s32 7 = 7 := s32_id (by omega) (by omega)
  intro N
  induction N with
  | zero =>
    intro h V1 hN f t1 t2
    have e : h = L := by omega
    subst e
    have hV : FV V1 := hk.2.1.fr (fun a q hd => f a q (by unfold VD at hd; omega) (by unfold VD at hd; omega))
    have e1 : V1 100 10 = (h : Int) := (f _ _ (by omega) (by omega)).trans e10
    have hE : ENV V1 S h s mo := ⟨hk.fr (fun a q hd => f a q (by unfold SKD VD at hd; omega) (by unfold SKD VD at hd; omega)), hH.fr n12 (fun a q hd => f a q (by unfold HDD at hd; omega) (by unfold HDD at hd; omega)), (f _ _ (by omega) (by omega)).trans hL, by omega, hs, ⟨(f _ _ (by omega) (by omega)).trans m.1, m.2⟩, ⟨t1, h7⟩, t2⟩
    have eX : V1 138 = V 138 := funext (fun q => f _ _ (by omega) (by omega))
    have eY : V1 139 = V 139 := funext (fun q => f _ _ (by omega) (by omega))
    have eC : coA V1 mo = coA V mo := funext (fun q => f _ _ (by omega) (by omega))
    have go := fun (U : Mem → Shp → Prop) hU => c_goOn (d := d + 1) hE 7 [] 0 b 0 V1 (0, []) U rfl (fun x hx => absurd hx List.not_mem_nil) (by omega) (fun g _ _ => by rw [Nat.zero_testBit]; exact ⟨fun z => (by cases z), fun z => absurd z List.not_mem_nil⟩) b0 b1 (Int.le_refl _) (Int.le_refl _) (fun _ _ _ _ _ => rfl) (fun j hj => absurd hj (Nat.not_lt_zero j)) ⟨(f _ _ (by omega) (by omega)).trans z6, (f _ _ (by omega) (by omega)).trans z5, fun j hj => absurd hj (Nat.not_lt_zero j), Nat.zero_le _, Int.le_refl _, by show (0 : Int) ≤ 9999; omega⟩ hU
    rw [eX, eY, eC] at go
    have go : ∀ U : Mem → Shp → Prop, (∀ V', GFX V1 V' → (∀ j : Nat, j < ([] : List Nat).length → V' 123 (j : Int) = V1 123 (j : Int)) → BSX V' (wsr h s (V 138) (V 139) (coA V mo) 7 [] b 0 (0, [])) → U V' S) → C_Agent_goOn (d + 12) 121 0 0 0 0 b 0 V1 S U := go
    rw [L_x_best_60]
    simp only [hS.k100, e1, sL, Int.lt_irrefl, hV.r100_9, b_s32, b_eq0, b_01, l0, l1, true_and, and_true, and_self, true_implies, false_implies, implies_true, forall_const, not_true_eq_false, not_false_eq_true, reduceIte, ite_true, ite_false, reduceCtorEq, forall_eq, Classical.not_not, true_or, or_true, false_or, or_false, and_false, false_and, Int.reduceEq, Int.reduceLT, Int.reduceLE, Int.reduceAdd, Int.reduceSub, Int.reduceMul, Int.reduceNeg]
    rw [I_Agent_lookFor]
    refine ⟨hS.k121, go _ (fun V' g1 _ g3 => ?_)⟩
    have hV' := g1.fv hV
    obtain ⟨y1, y2, y3, y4, y5, y6⟩ := g3
    have hq := hQ V' (fun a q n1 n2 => (g1 a q (by omega) (by omega) (by omega)).trans (f a q (by omega) (by omega)))
    unfold resB at hq
    generalize wsr h s (V 138) (V 139) (coA V mo) 7 [] b 0 (0, []) = R at hq y1 y2 y3 y4 y5 y6
    have hV := hV'
    have s5 : s32 (V' 121 5) = (R.2.length : Int) := by rw [y2]; exact s32_id (by omega) (by omega)
    by_cases c1 : c = -1
    · rw [if_pos c1] at hq
      simp only [hc, s32_id (x := -1) (by omega) (by omega), c1, hS.k100, hS.k121, hV.r100_9, y1, hq, b_s32, b_eq0, b_01, l0, l1, true_and, and_true, and_self, true_implies, false_implies, implies_true, forall_const, not_true_eq_false, not_false_eq_true, reduceIte, ite_true, ite_false, reduceCtorEq, forall_eq, Classical.not_not, true_or, or_true, false_or, or_false, and_false, false_and, Int.reduceEq, Int.reduceLT, Int.reduceLE, Int.reduceAdd, Int.reduceSub, Int.reduceMul, Int.reduceNeg]
    · rw [if_neg c1] at hq
      by_cases c2 : c = -2
      · rw [if_pos c2] at hq
        simp only [hc, s32_id (x := -1) (by omega) (by omega), s32_id (x := -2) (by omega) (by omega), c2, show ¬ (-2 : Int) = -1 from by omega, hS.k100, hS.k121, hV.r100_9, y2, hq, b_s32, b_eq0, b_01, l0, l1, true_and, and_true, and_self, true_implies, false_implies, implies_true, forall_const, not_true_eq_false, not_false_eq_true, reduceIte, ite_true, ite_false, reduceCtorEq, forall_eq, Classical.not_not, true_or, or_true, false_or, or_false, and_false, false_and, Int.reduceEq, Int.reduceLT, Int.reduceLE, Int.reduceAdd, Int.reduceSub, Int.reduceMul, Int.reduceNeg]
      · rw [if_neg c2] at hq
        by_cases c3 : c < (R.2.length : Int)
        · rw [if_pos c3] at hq
          have ev : V' 124 c = rwA R.2 c.toNat := by
            have := y3 c.toNat (by omega)
            rw [show ((c.toNat : Nat) : Int) = c from by omega] at this
            exact this
          have pv := fun Q' => p_valueAt (d + 12) 124 c V' S Q' (Or.inl hS.k124) (by rw [hS.n124]; omega)
          simp only [hc, s32_id (x := -1) (by omega) (by omega), s32_id (x := -2) (by omega) (by omega), c1, c2, c3, s5, hS.k100, hS.k121, hV.r100_9, hV.r121_4, pv, hS.n124, show (0 : Int) ≤ c from by omega, show c < 7 from by omega, ev, hq, b_s32, b_eq0, b_01, l0, l1, true_and, and_true, and_self, true_implies, false_implies, implies_true, forall_const, not_true_eq_false, not_false_eq_true, reduceIte, ite_true, ite_false, reduceCtorEq, forall_eq, Classical.not_not, true_or, or_true, false_or, or_false, and_false, false_and, Int.reduceEq, Int.reduceLT, Int.reduceLE, Int.reduceAdd, Int.reduceSub, Int.reduceMul, Int.reduceNeg]
        · rw [if_neg c3] at hq
          simp only [hc, s32_id (x := -1) (by omega) (by omega), s32_id (x := -2) (by omega) (by omega), c1, c2, c3, s5, hS.k100, hS.k121, hV.r100_9, hq, b_s32, b_eq0, b_01, l0, l1, true_and, and_true, and_self, true_implies, false_implies, implies_true, forall_const, not_true_eq_false, not_false_eq_true, reduceIte, ite_true, ite_false, reduceCtorEq, forall_eq, Classical.not_not, true_or, or_true, false_or, or_false, and_false, false_and, Int.reduceEq, Int.reduceLT, Int.reduceLE, Int.reduceAdd, Int.reduceSub, Int.reduceMul, Int.reduceNeg]
  | succ N ih =>
    intro h V1 hN f t1 t2
    have hk1 : SK V1 S := hk.fr (fun a q hd => f a q (by unfold SKD VD at hd; omega) (by unfold SKD VD at hd; omega))
    have hV := hk1.2.1
    have e1 : V1 100 10 = (L : Int) := (f _ _ (by omega) (by omega)).trans e10
    have eL : V1 137 1 = (L : Int) := (f _ _ (by omega) (by omega)).trans hL
    have sh : s32 (h : Int) = (h : Int) := s32_id (by omega) (by omega)
    have eS := sh_bit (n := s) (i := h) (by omega) (by omega)
    have q := pcn_s h s
    rw [L_x_best_60]
    cases hbit : s.testBit h
    · rw [hbit] at eS
      rw [hbit, if_neg (by decide), Nat.add_zero] at q
      have nx := ih (h + 1) V1 (by omega) f (by rw [q]; exact t1) (fun g hg hgb => by
        by_cases e : g = h
        · rw [e, hbit] at hgb; cases hgb
        · exact t2 g (by omega) hgb)
      rw [show ((h + 1 : Nat) : Int) = (h : Int) + 1 from by omega] at nx
      simp only [hS.k100, e1, sL, sh, show (h : Int) < (L : Int) from by omega, eS, show s32 (b2 false) = 0 from by decide, nx, b_s32, b_eq0, b_01, l0, l1, true_and, and_true, and_self, true_implies, false_implies, implies_true, forall_const, not_true_eq_false, not_false_eq_true, reduceIte, ite_true, ite_false, reduceCtorEq, forall_eq, Classical.not_not, true_or, or_true, false_or, or_false, and_false, false_and, Int.reduceEq, Int.reduceLT, Int.reduceLE, Int.reduceAdd, Int.reduceSub, Int.reduceMul, Int.reduceNeg]
    · rw [hbit] at eS
      rw [hbit, if_pos rfl] at q
      have mm := pcn_m s N (h + 1)
      rw [show h + 1 + N = L from by omega] at mm
      have st : s32 (pcn h s : Int) = (pcn h s : Int) := s32_id (by omega) (by omega)
      have k4 := (hk1.home (a := (h : Int)) (by omega) (by omega)).1.1
      have nx := ih (h + 1) (up2 (up2 V1 122 (pcn h s : Int) (2000 + 10 * (h : Int))) 121 1 ((pcn h s : Int) + 1)) (by omega) (fun a q n1 n2 => by rw [up2_ne (by omega), up2_ne (by omega)]; exact f a q n1 n2) (by rw [up2_eq rfl rfl, q]; omega) (fun g hg hgb => by
        rw [up2_ne (by omega)]
        by_cases e : g = h
        · rw [e, up2_eq rfl rfl]
        · rw [up2_ne (Or.inr (fun z => e (pcn_u hgb hbit (by omega))))]
          exact t2 g (by omega) hgb)
      rw [show ((h + 1 : Nat) : Int) = (h : Int) + 1 from by omega] at nx
      have pm : ∀ U : Mem → Shp → Prop, U (up2 (up2 V1 122 (pcn h s : Int) (2000 + 10 * (h : Int))) 121 1 ((pcn h s : Int) + 1)) S → C_Agent_mayVisit (d + 13) 121 (2000 + 10 * (h : Int)) V1 S U := fun U hU => by
        simp (disch := omega) only [I_Agent_mayVisit, hS.k121, hV.r121_0, hS.k122, hS.n122, t1, st, s7, show ¬ (pcn h s : Int) < 0 from by omega, show (pcn h s : Int) < 7 from by omega, show (0 : Int) ≤ (pcn h s : Int) from by omega, show (100 : Int) ≤ 114 from by omega, show (114 : Int) < 123 from by omega, k4, up2_ne, forall_eq, hU, b_s32, b_eq0, b_01, l0, l1, true_and, and_true, and_self, true_implies, false_implies, implies_true, forall_const, not_true_eq_false, not_false_eq_true, reduceIte, ite_true, ite_false, reduceCtorEq, forall_eq, Classical.not_not, true_or, or_true, false_or, or_false, and_false, false_and, Int.reduceEq, Int.reduceLT, Int.reduceLE, Int.reduceAdd, Int.reduceSub, Int.reduceMul, Int.reduceNeg]
      have ph := fun Q' => p_homeAt (d := d + 12) (a := (h : Int)) (Q := Q') hk1
      have nx2 := pm (fun V2 S2 => K_x_best (d + 13) Q (60, [(2, 100), (0, (s : Int)), (0, b), (0, c), (0, (h : Int) + 1)], [], V2, S2, g)) nx
      simp only [hS.k100, e1, eL, sL, sh, show (h : Int) < (L : Int) from by omega, show (0 : Int) ≤ (h : Int) from by omega, eS, show ¬ s32 (b2 true) = 0 from by decide, ph, hV.r100_9, nx2, b_s32, b_eq0, b_01, l0, l1, true_and, and_true, and_self, true_implies, false_implies, implies_true, forall_const, not_true_eq_false, not_false_eq_true, reduceIte, ite_true, ite_false, reduceCtorEq, forall_eq, Classical.not_not, true_or, or_true, false_or, or_false, and_false, false_and, Int.reduceEq, Int.reduceLT, Int.reduceLE, Int.reduceAdd, Int.reduceSub, Int.reduceMul, Int.reduceNeg]
theorem M_best {V1 : Mem} (hS : FS S) (hV : FV V1) (hL : V1 137 1 = (L : Int)) (L12 : L ≤ 12) (hH : HDT V1) (h0 : 0 ≤ V1 137 0 ∧ V1 137 0 ≤ 599) (hs : s < 65536) (hr : (s : Int) ≤ ishlI 1 (L : Int) - 1) (hsl : ishlI 1 (L : Int) ≤ 4096) (h7 : pcn 16 s ≤ 7) (hc : s32 c = c) (c0 : -2 ≤ c) (hb : s32 b = b) (b0 : 0 ≤ b) (b1 : b ≤ 9999) (hQ : ∀ V', (∀ a q, ¬ (a = 137 ∧ (q = 50 ∨ q = 51)) → ¬ (165 ≤ a ∧ a ≤ 168) → V' a q = V1 a q) → Q (resB (wsr L s (V1 138) (V1 139) (coA V1 (V1 137 0 / 30)) 7 [] b 0 (0, [])) c) V' S) : C_m_best (d + 13) 137 (s : Int) b c V1 S Q := by
  have hVa := hV
  generalize hV5 : up2 (up2 (up2 (up2 (up2 V1 137 50 0) 137 51 0) 165 0 (-1)) 167 0 0) 168 0 0 = V5
  have F : ∀ a q, ¬ (a = 137 ∧ (q = 50 ∨ q = 51)) → ¬ (165 ≤ a ∧ a ≤ 168) → V5 a q = V1 a q := fun a q n1 n2 => by
    subst hV5
    rw [up2_ne (by omega), up2_ne (by omega), up2_ne (by omega), up2_ne (by omega), up2_ne (by omega)]
  have hVf : FV V5 := hV.fr (fun a q hd => F a q (by unfold VD at hd; omega) (by unfold VD at hd; omega))
  have hG : GFW V1 V5 := F
  have hX : XYR L (V1 138) := fun x hx => by
    obtain ⟨⟨-, -, q1, q2, -⟩, -⟩ := hH.1 (x : Int) (by omega) (by omega)
    exact ⟨q1, q2⟩
  have hY : XYR L (V1 139) := fun x hx => by
    obtain ⟨⟨-, -, -, -, q1, q2⟩, -⟩ := hH.1 (x : Int) (by omega) (by omega)
    exact ⟨q1, q2⟩
  have hC : ∀ h : Nat, h < L → 0 ≤ coA V1 (V1 137 0 / 30) (h : Int) ∧ coA V1 (V1 137 0 / 30) (h : Int) ≤ 999 := fun x hx => by
    obtain ⟨-, x7⟩ := hH.1 (x : Int) (by omega) (by omega)
    obtain ⟨-, q1, q2⟩ := x7 (V1 137 0 / 30) (by omega) (by omega)
    exact ⟨q1, q2⟩
  have way := fun (U : Mem → Shp → Prop) hK => m_way (d := d + 9) (g := (0, 0)) (U := U) (t := V1 137 0) (mn := b) hS hV hL L12 hs hX hY rfl h0 hC ⟨b0, b1⟩ 7 [] 0 b 0 V5 (0, []) (9, 0) (9, 0) (9, 0) (9, 0) rfl (fun x hx => absurd hx List.not_mem_nil) (by omega) (fun g _ => by rw [Nat.zero_testBit]; exact ⟨fun z => (by cases z), fun z => absurd z List.not_mem_nil⟩) b0 (Int.le_refl _) (Int.le_refl _) (Int.le_refl _) hG (fun j hj => absurd hj (Nat.not_lt_zero j))
    (by subst hV5; rw [if_neg (by omega)]; show (up2 (up2 (up2 (up2 (up2 V1 137 50 0) 137 51 0) 165 0 (-1)) 167 0 0) 168 0 0) 165 0 = -1; rw [up2_ne (by omega), up2_ne (by omega), up2_eq rfl rfl])
    (by subst hV5; show (up2 (up2 (up2 (up2 (up2 V1 137 50 0) 137 51 0) 165 0 (-1)) 167 0 0) 168 0 0) 167 0 = b - b; rw [up2_ne (by omega), up2_eq rfl rfl]; omega)
    (by subst hV5; show (up2 (up2 (up2 (up2 (up2 V1 137 50 0) 137 51 0) 165 0 (-1)) 167 0 0) 168 0 0) 168 0 = 0; rw [up2_eq rfl rfl])
    (by
      rw [bup_0]
      subst hV5
      refine ⟨?_, ?_, fun j hj => absurd hj (Nat.not_lt_zero j), Nat.zero_le _, Int.le_refl _, by show (0 : Int) ≤ 9999; omega⟩
      · rw [up2_ne (by omega), up2_ne (by omega), up2_ne (by omega), up2_eq rfl rfl]
      · rw [up2_ne (by omega), up2_ne (by omega), up2_ne (by omega), up2_ne (by omega), up2_eq rfl rfl]; rfl) hK
  have way : ∀ U : Mem → Shp → Prop, (∀ V', GFW V1 V' → BMM V' (wsr L s (V1 138) (V1 139) (coA V1 (V1 137 0 / 30)) 7 [] b 0 (0, [])) → U V' S) → K_m_findWay (d + 11) U (36, [(2, 137), (0, (s : Int)), (0, b), (0, 0), (0, 0), (9, 0), (9, 0), (9, 0), (9, 0)], [], V5, S, (0, 0)) := fun U hU => way U (fun V' u' _ _ g3 _ g5 v5 v6 v7 v8 => by
    have hu := hU V' g3 g5
    rw [show (([] : List Nat).length : Int) + -1 = -1 from rfl, L_m_findWay_36]
    simp only [s32_id (x := -1) (by omega) (by omega), show (-1 : Int) < 0 from by omega, hu, b_s32, b_eq0, b_01, l0, l1, true_and, and_true, and_self, true_implies, false_implies, implies_true, forall_const, not_true_eq_false, not_false_eq_true, reduceIte, ite_true, ite_false, reduceCtorEq, forall_eq, Classical.not_not, true_or, or_true, false_or, or_false, and_false, false_and, Int.reduceEq, Int.reduceLT, Int.reduceLE, Int.reduceAdd, Int.reduceSub, Int.reduceMul, Int.reduceNeg])
  have ss : s32 (s : Int) = (s : Int) := s32_id (by omega) (by omega)
  have sl : s32 (ishlI 1 (L : Int) - 1) = ishlI 1 (L : Int) - 1 := s32_id (by omega) (by omega)
  have sp : s32 (pcn 16 s : Int) = (pcn 16 s : Int) := s32_id (by omega) (by omega)
  have po := fun Q' => p_ones (d := d + 11) (n := s) (V := V1) (S := S) (Q := Q') hS hs
  have fw : ∀ U : Mem → Shp → Prop, (∀ V', GFW V1 V' → BMM V' (wsr L s (V1 138) (V1 139) (coA V1 (V1 137 0 / 30)) 7 [] b 0 (0, [])) → U V' S) → C_m_findWay (d + 12) 137 (s : Int) b V1 S U := fun U hU => by
    have k := way U hU
    subst hV5
    simp (disch := omega) only [I_m_findWay, hS.k137, hS.k165, hS.n165, hV.r137_46, hS.k167, hS.n167, hV.r137_48, hS.k168, hS.n168, hV.r137_49, l0, show (0 : Int) < 8 from by omega, Int.le_refl, up2_ne, forall_eq, k, b_s32, b_eq0, b_01, l0, l1, true_and, and_true, and_self, true_implies, false_implies, implies_true, forall_const, not_true_eq_false, not_false_eq_true, reduceIte, ite_true, ite_false, reduceCtorEq, forall_eq, Classical.not_not, true_or, or_true, false_or, or_false, and_false, false_and, Int.reduceEq, Int.reduceLT, Int.reduceLE, Int.reduceAdd, Int.reduceSub, Int.reduceMul, Int.reduceNeg]
  simp only [I_m_best, hS.k137, hL, r_in hS, hc, hb, ss, sl, l0, s32_id (x := -2) (by omega) (by omega), s32_id (x := 9999) (by omega) (by omega), s32_id (x := 7) (by omega) (by omega), show ¬ c < -2 from by omega, show (0 : Int) ≤ (s : Int) from by omega, hr, po, sp, show ¬ (7 : Int) < (pcn 16 s : Int) from by omega, b0, b1, b_s32, b_eq0, b_01, l0, l1, true_and, and_true, and_self, true_implies, false_implies, implies_true, forall_const, not_true_eq_false, not_false_eq_true, reduceIte, ite_true, ite_false, reduceCtorEq, forall_eq, Classical.not_not, true_or, or_true, false_or, or_false, and_false, false_and, Int.reduceEq, Int.reduceLT, Int.reduceLE, Int.reduceAdd, Int.reduceSub, Int.reduceMul, Int.reduceNeg]
  refine fw _ (fun V' g1 g3 => ?_)
  have hV := g1.fv hVa
  obtain ⟨y1, y2, y3, y4, y5, y6⟩ := g3
  have hq := hQ V' g1
  unfold resB at hq
  generalize wsr L s (V1 138) (V1 139) (coA V1 (V1 137 0 / 30)) 7 [] b 0 (0, []) = R at hq y1 y2 y3 y4 y5 y6
  have s5 : s32 (V' 137 50) = (R.2.length : Int) := by rw [y2]; exact s32_id (by omega) (by omega)
  by_cases c1 : c = -1
  · rw [if_pos c1] at hq
    simp only [s32_id (x := -1) (by omega) (by omega), c1, hS.k137, y1, hq, b_s32, b_eq0, b_01, l0, l1, true_and, and_true, and_self, true_implies, false_implies, implies_true, forall_const, not_true_eq_false, not_false_eq_true, reduceIte, ite_true, ite_false, reduceCtorEq, forall_eq, Classical.not_not, true_or, or_true, false_or, or_false, and_false, false_and, Int.reduceEq, Int.reduceLT, Int.reduceLE, Int.reduceAdd, Int.reduceSub, Int.reduceMul, Int.reduceNeg]
  · rw [if_neg c1] at hq
    by_cases c2 : c = -2
    · rw [if_pos c2] at hq
      simp only [s32_id (x := -1) (by omega) (by omega), c2, show ¬ (-2 : Int) = -1 from by omega, hS.k137, y2, hq, b_s32, b_eq0, b_01, l0, l1, true_and, and_true, and_self, true_implies, false_implies, implies_true, forall_const, not_true_eq_false, not_false_eq_true, reduceIte, ite_true, ite_false, reduceCtorEq, forall_eq, Classical.not_not, true_or, or_true, false_or, or_false, and_false, false_and, Int.reduceEq, Int.reduceLT, Int.reduceLE, Int.reduceAdd, Int.reduceSub, Int.reduceMul, Int.reduceNeg]
    · rw [if_neg c2] at hq
      by_cases c3 : c < (R.2.length : Int)
      · rw [if_pos c3] at hq
        have ev : V' 166 c = rwA R.2 c.toNat := by
          have := y3 c.toNat (by omega)
          rw [show ((c.toNat : Nat) : Int) = c from by omega] at this
          exact this
        simp only [s32_id (x := -1) (by omega) (by omega), c1, c2, c3, s5, hS.k137, hS.k166, hS.n166, hV.r137_47, show (0 : Int) ≤ c from by omega, show c < 7 from by omega, ev, hq, b_s32, b_eq0, b_01, l0, l1, true_and, and_true, and_self, true_implies, false_implies, implies_true, forall_const, not_true_eq_false, not_false_eq_true, reduceIte, ite_true, ite_false, reduceCtorEq, forall_eq, Classical.not_not, true_or, or_true, false_or, or_false, and_false, false_and, Int.reduceEq, Int.reduceLT, Int.reduceLE, Int.reduceAdd, Int.reduceSub, Int.reduceMul, Int.reduceNeg]
      · rw [if_neg c3] at hq
        simp only [s32_id (x := -1) (by omega) (by omega), c1, c2, c3, s5, hS.k137, hq, b_s32, b_eq0, b_01, l0, l1, true_and, and_true, and_self, true_implies, false_implies, implies_true, forall_const, not_true_eq_false, not_false_eq_true, reduceIte, ite_true, ite_false, reduceCtorEq, forall_eq, Classical.not_not, true_or, or_true, false_or, or_false, and_false, false_and, Int.reduceEq, Int.reduceLT, Int.reduceLE, Int.reduceAdd, Int.reduceSub, Int.reduceMul, Int.reduceNeg]
end BX
section BXC
variable {d : Nat} {n m a b c : Int} {V : Mem} {S : Shp}
theorem cmd_best (h : INV n V S) (hn : n ≤ m) (ha : s32 a = a) (hb : s32 b = b) (hc : s32 c = c) : C_x_best (d + 14) 100 a b c V S (fun r V1 S1 => C_m_best (d + 14) 137 a b c V1 S1 (fun r' V2 S2 => r = r' ∧ INV m V2 S2)) := by
  have hup := h.up hn
  have hk := h.1
  have hS := hk.1
  have hV := hk.2.1
  have hH := h.2.2.1
  have n12 := hk.n12
  have n599 := hk.n599
  have l12 := hk.2.2.1.1.2.1
  have c10 := hk.2.2.1.1.1
  have c12 := hk.2.2.1.2.2.1.1
  obtain ⟨L, hL⟩ := Int.eq_ofNat_of_zero_le l12
  have hush := ush0 (a := a) (L := V 137 1) ha l12 (by omega)
  have e1 := shl_c ⟨L, by omega⟩
  have e1 : ishlI 1 (L : Int) = ((2 ^ L : Nat) : Int) := e1
  have hp : 2 ^ L ≤ 2 ^ 12 := Nat.pow_le_pow_right (n := 2) (by decide) (by omega)
  have hp : 2 ^ L ≤ 4096 := hp
  have hp0 : 0 < 2 ^ L := Nat.two_pow_pos L
  have sl : s32 (ishlI 1 (L : Int) - 1) = ishlI 1 (L : Int) - 1 := s32_id (by omega) (by omega)
  have m2 := s32_id (x := -2) (by omega) (by omega)
  by_cases c0 : c < -2
  · simp only [I_x_best, I_m_best, hS.k100, hS.k137, hc, m2, c0, hup, b_s32, b_eq0, b_01, l0, l1, true_and, and_true, and_self, true_implies, false_implies, implies_true, forall_const, not_true_eq_false, not_false_eq_true, reduceIte, ite_true, ite_false, reduceCtorEq, forall_eq, Classical.not_not, true_or, or_true, false_or, or_false, and_false, false_and, Int.reduceEq, Int.reduceLT, Int.reduceLE, Int.reduceAdd, Int.reduceSub, Int.reduceMul, Int.reduceNeg]
  · by_cases h0 : 0 ≤ a ∧ a ≤ ishlI 1 (V 137 1) - 1
    · have q0 := hush.mpr h0
      rw [hL] at h0
      obtain ⟨s, hs⟩ := Int.eq_ofNat_of_zero_le h0.1
      subst hs
      have hs16 : s < 65536 := by omega
      have bc := fun Q' => p_bitCount (d := d + 12) (n := s) (V := V) (S := S) (Q := Q') hs16
      have po := fun Q' => p_ones (d := d + 12) (n := s) (V := V) (S := S) (Q := Q') hS hs16
      have p16 := pcn_le 16 s
      have sp : s32 (pcn 16 s : Int) = (pcn 16 s : Int) := s32_id (by omega) (by omega)
      have s7 : s32 7 = 7 := s32_id (by omega) (by omega)
      by_cases h7 : 7 < pcn 16 s
      · simp only [I_x_best, I_m_best, hS.k100, hS.k137, hc, m2, c0, c10, q0, hL, r_in hS, ha, sl, l0, h0, bc, po, sp, s7, show (7 : Int) < (pcn 16 s : Int) from by omega, hup, b_s32, b_eq0, b_01, l0, l1, true_and, and_true, and_self, true_implies, false_implies, implies_true, forall_const, not_true_eq_false, not_false_eq_true, reduceIte, ite_true, ite_false, reduceCtorEq, forall_eq, Classical.not_not, true_or, or_true, false_or, or_false, and_false, false_and, Int.reduceEq, Int.reduceLT, Int.reduceLE, Int.reduceAdd, Int.reduceSub, Int.reduceMul, Int.reduceNeg]
      · by_cases hB : 0 ≤ b ∧ b ≤ 9999
        · have mo := n599
          have hpc := pcn_m s (16 - L) L
          rw [show L + (16 - L) = 16 from by omega] at hpc
          have et : (V 137 0).tdiv 30 = V 137 0 / 30 := Int.tdiv_eq_ediv_of_nonneg n599.1
          have st : s32 (V 137 0) = V 137 0 := s32_id (by omega) (by omega)
          have s30 : s32 30 = 30 := s32_id (by omega) (by omega)
          generalize hVf : up2 (up2 (up2 (up2 V 121 1 0) 121 2 (V 137 0 / 30)) 121 5 0) 121 6 0 = Vf
          have F : ∀ a q, ¬ (a = 121 ∧ (q = 1 ∨ q = 2 ∨ q = 5 ∨ q = 6)) → Vf a q = V a q := fun a q n1 => by
            subst hVf
            rw [up2_ne (by omega), up2_ne (by omega), up2_ne (by omega), up2_ne (by omega)]
          have x1 : Vf 121 1 = 0 := by subst hVf; rw [up2_ne (by omega), up2_ne (by omega), up2_ne (by omega), up2_eq rfl rfl]
          have x2 : Vf 121 2 = V 137 0 / 30 := by subst hVf; rw [up2_ne (by omega), up2_ne (by omega), up2_eq rfl rfl]
          have x5 : Vf 121 5 = 0 := by subst hVf; rw [up2_ne (by omega), up2_eq rfl rfl]
          have x6 : Vf 121 6 = 0 := by subst hVf; rw [up2_eq rfl rfl]
          have eX : Vf 138 = V 138 := funext (fun q => F _ _ (by omega))
          have eY : Vf 139 = V 139 := funext (fun q => F _ _ (by omega))
          have eC : coA Vf (V 137 0 / 30) = coA V (V 137 0 / 30) := funext (fun q => F _ _ (by omega))
          have hkf : SK Vf S := hk.fr (fun a q hd => F a q (by unfold SKD VD at hd; omega))
          have hHf : HDT Vf := hH.fr n12 (fun a q hd => F a q (by unfold HDD at hd; omega))
          have lp := told_l (d := d) (g := (0, 0)) (L := L) (s := s) (c := c) (b := b) (mo := V 137 0 / 30) (Q := fun r V1 S1 => C_m_best (d + 14) 137 (s : Int) b c V1 S1 (fun r' V2 S2 => r = r' ∧ INV m V2 S2)) hkf hHf ((F _ _ (by omega)).trans hL) hs16 (by omega) hc (by omega) hB.1 hB.2 ⟨x2, by omega, by omega⟩ x5 x6 (fun V' f => ?_) L 0 Vf (by omega) (fun _ _ _ _ => rfl) x1 (fun g hg => absurd hg (Nat.not_lt_zero g))
          · have lp : K_x_best (d + 13) (fun r V1 S1 => C_m_best (d + 14) 137 (s : Int) b c V1 S1 (fun r' V2 S2 => r = r' ∧ INV m V2 S2)) (60, [(2, 100), (0, (s : Int)), (0, b), (0, c), (0, 0)], [], Vf, S, (0, 0)) := lp
            subst hVf
            simp (disch := omega) only [I_x_best, hS.k100, hc, m2, c0, c10, q0, bc, sp, s7, show ¬ (7 : Int) < (pcn 16 s : Int) from by omega, p_isWithin, hb, hB, l0, s32_id (x := 9999), c12, st, s30, et, show ¬ (30 : Int) = 0 from by omega, ne_eq, hV.r100_9, I_Agent_forget, hS.k121, forall_eq, lp, b_s32, b_eq0, b_01, l0, l1, true_and, and_true, and_self, true_implies, false_implies, implies_true, forall_const, not_true_eq_false, not_false_eq_true, reduceIte, ite_true, ite_false, reduceCtorEq, forall_eq, Classical.not_not, true_or, or_true, false_or, or_false, and_false, false_and, Int.reduceEq, Int.reduceLT, Int.reduceLE, Int.reduceAdd, Int.reduceSub, Int.reduceMul, Int.reduceNeg]
          · have F2 : ∀ a q, ¬ (a = 121 ∧ (q = 1 ∨ q = 2 ∨ q = 5 ∨ q = 6)) → ¬ (122 ≤ a ∧ a ≤ 124) → V' a q = V a q := fun a q n1 n2 => (f a q (by omega) n2).trans (F a q n1)
            have eX' : V' 138 = V 138 := funext (fun q => F2 _ _ (by omega) (by omega))
            have eY' : V' 139 = V 139 := funext (fun q => F2 _ _ (by omega) (by omega))
            have eC' : coA V' (V 137 0 / 30) = coA V (V 137 0 / 30) := funext (fun q => F2 _ _ (by omega) (by omega))
            have e0' : V' 137 0 = V 137 0 := F2 _ _ (by omega) (by omega)
            rw [eX, eY, eC]
            refine M_best (d := d + 1) (L := L) hS (hV.fr (fun a q hd => F2 a q (by unfold VD at hd; omega) (by unfold VD at hd; omega))) ((F2 _ _ (by omega) (by omega)).trans hL) (by omega) (hH.fr n12 (fun a q hd => F2 a q (by unfold HDD at hd; omega) (by unfold HDD at hd; omega))) (by rw [e0']; exact n599) hs16 h0.2 (by omega) (by omega) hc (by omega) hb hB.1 hB.2 (fun V2 f2 => ?_)
            rw [eX', eY', e0', eC']
            refine ⟨rfl, ?_⟩
            exact h.fr (W := fun a q => (a = 121 ∧ (q = 1 ∨ q = 2 ∨ q = 5 ∨ q = 6)) ∨ (122 ≤ a ∧ a ≤ 124) ∨ (a = 137 ∧ (q = 50 ∨ q = 51)) ∨ (165 ≤ a ∧ a ≤ 168)) (fun a q hw => (f2 a q (by omega) (by omega)).trans (F2 a q (by omega) (by omega))) hn
        · simp (disch := omega) only [I_x_best, I_m_best, hS.k100, hS.k137, hc, m2, c0, c10, q0, hL, r_in hS, ha, sl, l0, h0, bc, po, sp, s7, show ¬ (7 : Int) < (pcn 16 s : Int) from by omega, p_isWithin, hb, hB, s32_id (x := 9999), hup, b_s32, b_eq0, b_01, l0, l1, true_and, and_true, and_self, true_implies, false_implies, implies_true, forall_const, not_true_eq_false, not_false_eq_true, reduceIte, ite_true, ite_false, reduceCtorEq, forall_eq, Classical.not_not, true_or, or_true, false_or, or_false, and_false, false_and, Int.reduceEq, Int.reduceLT, Int.reduceLE, Int.reduceAdd, Int.reduceSub, Int.reduceMul, Int.reduceNeg]
    · have q0 : ¬ s32 (iushrI a (V 137 1)) = 0 := fun q => h0 (hush.mp q)
      rw [hL] at h0 q0
      simp only [I_x_best, I_m_best, hS.k100, hS.k137, hc, m2, c0, c10, q0, hL, r_in hS, ha, sl, l0, h0, hup, b_s32, b_eq0, b_01, l0, l1, true_and, and_true, and_self, true_implies, false_implies, implies_true, forall_const, not_true_eq_false, not_false_eq_true, reduceIte, ite_true, ite_false, reduceCtorEq, forall_eq, Classical.not_not, true_or, or_true, false_or, or_false, and_false, false_and, Int.reduceEq, Int.reduceLT, Int.reduceLE, Int.reduceAdd, Int.reduceSub, Int.reduceMul, Int.reduceNeg]
end BXC
