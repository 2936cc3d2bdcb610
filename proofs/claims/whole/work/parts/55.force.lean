/-! commands: what fetch and off say, force, sold, move -/
section FM
variable {d : Nat} {w day i n m a b c e j D : Int} {V V' : Mem} {S : Shp} {Q : Int → Mem → Shp → Prop}
theorem fx_eq (hd : 0 ≤ day) (e1 : V (1000 + 10 * i) 8 = V 142 i) (e2 : V (1001 + 10 * i) 0 = V 146 i) (e3 : V (1001 + 10 * i) 1 = V 147 i) (e4 : V (1001 + 10 * i) 2 = V 148 i) (e5 : V (1001 + 10 * i) 3 = D) (e6 : V j 0 = V 145 i) (e7 : V (j + 1) (day / 30) = V 140 (20 * V 145 i + day / 30)) : fcv V (1000 + 10 * i) (1001 + 10 * i) j (day / 30) = fxM V i D day := by
  funext f
  have hm : day.tdiv 30 = day / 30 := Int.tdiv_eq_ediv_of_nonneg hd
  unfold fcv gcv fxM
  rw [hm, e1, e2, e3, e4, e5, e6, e7]
  by_cases c0 : f = 0
  · rw [if_pos c0, if_pos c0]
  rw [if_neg c0, if_neg c0]
  by_cases c1 : f = 1
  · rw [if_pos c1, if_pos c1]
  rw [if_neg c1, if_neg c1]
  by_cases c2 : f = 2
  · rw [if_pos c2, if_pos c2]
  rw [if_neg c2, if_neg c2]
  by_cases c3 : f = 3
  · rw [if_pos c3, if_pos c3]
  rw [if_neg c3, if_neg c3]
  by_cases c4 : f = 4
  · rw [if_pos c4, if_pos c4]
  rw [if_neg c4, if_neg c4]
theorem INV.hkd (h : INV n V S) (i0 : 0 ≤ i) (i1 : i < V 137 2) (hd : 0 ≤ day ∧ day ≤ 599) : (V 145 i = -1 ∧ V (1000 + 10 * i) 10 = -1) ∨ (0 ≤ V 145 i ∧ V 145 i < 12 ∧ HKD V S (1000 + 10 * i) (1001 + 10 * i) (2000 + 10 * V 145 i) (day / 30) ∧ fcv V (1000 + 10 * i) (1001 + 10 * i) (2000 + 10 * V 145 i) (day / 30) = fxM V i (V (1001 + 10 * i) 3) day) := by
  have hk := h.1
  obtain ⟨-, hB, hM, -⟩ := h.2.2.2.1
  obtain ⟨⟨b1, b2, b3⟩, -, -, -, b10⟩ := hB i i0 i1
  obtain ⟨f1, f2, f3, -⟩ := hM i i0 i1
  obtain ⟨⟨k0, k1, -⟩, -⟩ := hk.lamp i0 i1
  have n12 := hk.n12
  rcases b10 with q | ⟨q1, q2, q3⟩
  · exact Or.inl q
  · obtain ⟨⟨m1, m2, m3⟩, m4, m5, m6⟩ := hk.home q1 q2
    have e1 : 2000 + 10 * V 145 i + 1 = 2001 + 10 * V 145 i := by omega
    have hc := (h.2.2.1.1 (V 145 i) q1 q2).2 (day / 30) (by omega) (by omega)
    refine Or.inr ⟨q1, by omega, ⟨k0, k1, m1, by rw [e1]; exact m2, by rw [e1]; exact m3, by rw [e1]; exact m6, by omega, by omega, q3, by omega⟩, ?_⟩
    exact fx_eq hd.1 b1 f1 f2 f3 rfl m5 (by rw [e1]; exact hc.1)
theorem INV.dkA (h : INV n V S) (i0 : 0 ≤ i) (i1 : i < V 137 2) (V' : Mem) (Q : Int → Mem → Shp → Prop) (hV' : FV V') (hv : ∀ a k, 137 ≤ a → a ≤ 199 → a ≠ 162 → V' a k = V a k) : C_m_darkAhead (d + 1) 137 i V' S Q ↔ Q (V (1001 + 10 * i) 3) V' S := by
  have hk := h.1
  have n20 := hk.n20
  have n599 := hk.n599
  obtain ⟨hA, -, -, -, -, hK, -⟩ := h.2.2.2.1
  obtain ⟨-, -, ⟨-, a2, a3⟩⟩ := hA i i0 i1
  obtain ⟨kk1, D0, D1, D2, D3⟩ := hK i i0 i1
  refine r_dark (D := V (1001 + 10 * i) 3) hk.1 hV' i0 (by omega) ?_ ?_ D0 ?_ ?_ ?_
  · rw [hv _ _ (by omega) (by omega) (by omega)]; omega
  · rw [hv _ _ (by omega) (by omega) (by omega), hv _ _ (by omega) (by omega) (by omega)]; exact ⟨a2, a3⟩
  · rw [hv _ _ (by omega) (by omega) (by omega), hv _ _ (by omega) (by omega) (by omega)]; exact D1
  · rw [hv 137 0 (by omega) (by omega) (by omega)]
    intro n n0 n1
    rw [hv _ _ (by omega) (by omega) (by omega)]
    exact D2 n n0 n1
  · rw [hv 137 0 (by omega) (by omega) (by omega), hv 151 _ (by omega) (by omega) (by omega), hv 158 _ (by omega) (by omega) (by omega)]
    intro q
    have := D3 q
    have g := (kk1 (V 137 0 - V (1001 + 10 * i) 3 - 1) (by omega) (by omega)).2
    rw [show 600 * i + (V 137 0 - V (1001 + 10 * i) 3 - 1) = 600 * i + V 137 0 - V (1001 + 10 * i) 3 - 1 from by omega] at g
    rw [s32_id (by omega) (by omega)]
    exact this
theorem pr_let (d : Nat) (h : INV n V S) (i0 : 0 ≤ i) (i1 : i < V 137 2) (hw : w = 3 ∨ w = 4) (hd : 0 ≤ day ∧ day ≤ 599) : ∃ v : Bool, (∀ Q : Int → Mem → Shp → Prop, Q (b2 v) V S → C_Terms_holds (d + 13) 106 w (1000 + 10 * i) day V S Q) ∧ (∀ (V1 : Mem) (Q : Int → Mem → Shp → Prop), FV V1 → MEQ V V1 → (∀ V', RFR V1 V' → Q (b2 v) V' S) → C_m_isLet (d + 13) 137 w i day V1 S Q) := by
  have hk := h.1
  have hS := hk.1
  have hV := hk.2.1
  have n20 := hk.n20
  have sd : s32 day = day := s32_id (by omega) (by omega)
  obtain ⟨⟨k0, k1, -⟩, r1, r2, r4, -⟩ := hk.lamp i0 i1
  have hH := h.hkd i0 i1 hd
  have hDk : ∀ V1 : Mem, FV V1 → MEQ V V1 → ∀ (V' : Mem) (Q : Int → Mem → Shp → Prop), (∀ a k, a ≠ 162 → V' a k = V1 a k) → (C_m_darkAhead (d + 12) 137 i V' S Q ↔ Q (V (1001 + 10 * i) 3) V' S) := fun V1 hV1 e V' Q hv => h.dkA (d := d + 11) i0 i1 V' Q (hV1.fr (fun a k q => hv a k (by unfold VD at q; omega))) (fun a k a0 a1 a2 => (hv a k a2).trans (e a k a0 a1))
  have hr : rulr V w 0 day false = rulC (fun u => V 159 u) (csM V) w 0 day (cnt (V 137 24).toNat false) := rul_c.symm
  have cH : ∀ (v : Bool), ((rulr V w 0 day false < 0 ∨ V (1000 + 10 * i) 10 = -1) → v = false) → (0 ≤ rulr V w 0 day false → HKD V S (1000 + 10 * i) (1001 + 10 * i) (2000 + 10 * V 145 i) (day / 30) → RP (fcv V (1000 + 10 * i) (1001 + 10 * i) (2000 + 10 * V 145 i) (day / 30)) (clM V w 0 (rulr V w 0 day false)).2.2.2 v 11) → ∀ Q : Int → Mem → Shp → Prop, Q (b2 v) V S → C_Terms_holds (d + 13) 106 w (1000 + 10 * i) day V S Q := by
    intro v v0 v1 Q hQ
    rw [I_Terms_holds, hS.k106]
    refine ⟨rfl, c_rulingOf h.tct (by omega) l0 sd ?_⟩
    rw [rul_c]
    refine c_textOf (d := d + 10) h.tct hr ?_
    by_cases q : rulr V w 0 day false < 0
    · rw [if_pos q]
      rw [v0 (Or.inl q)] at hQ
      exact ⟨fun _ => ⟨Or.inl l0, hQ⟩, fun z => absurd rfl z⟩
    · rw [if_neg q]
      obtain ⟨x1, x2, x3⟩ := c_rulTA h.tct sd hr (by omega)
      have e30 : day.tdiv 30 = day / 30 := Int.tdiv_eq_ediv_of_nonneg hd.1
      have s100 : s32 100 = 100 := s32_id (by omega) (by omega)
      have s30 : s32 30 = 30 := s32_id (by omega) (by omega)
      refine ⟨fun z => absurd z x3, fun _ => ⟨by rw [s100]; omega, k0, by rw [s30]; omega, ?_⟩⟩
      rw [r4, x1, s100, x2, sd, s30, e30]
      refine c_textHolds (d := d + 7) (hm := 2000 + 10 * V 145 i) h.tct hw hd hr (by omega) (hH.elim (fun q => Or.inl q.2) (fun q => Or.inr q.2.2.1)) k0 (fun z => ?_) (fun H => ⟨v, v1 (by omega) H, ?_⟩)
      · rw [v0 (Or.inr z)] at hQ
        exact ⟨fun _ => ⟨Or.inl l0, hQ⟩, fun z => absurd l0 z⟩
      · cases v
        · exact ⟨fun _ => ⟨Or.inl l0, hQ⟩, fun z => absurd (show s32 (b2 false) = 0 by decide) z⟩
        · exact ⟨fun z => absurd z (by decide), fun _ => ⟨Or.inr l1, hQ⟩⟩
  rcases hH with ⟨q1, q2⟩ | ⟨q1, q2, q3, q4⟩
  · refine ⟨false, cH false (fun _ => rfl) (fun _ H => absurd q2 (by rw [H.2.2.2.2.2.2.2.2.1]; exact H.2.2.2.2.2.2.2.2.2)), fun V1 Q hV1 e hQ => ?_⟩
    exact letM (D := V (1001 + 10 * i) 3) hS hV1 e i0 (by omega) hw hd (by omega) (by omega) h.tm (hDk V1 hV1 e) (fun _ => hQ V1 RFR.rf) (fun q => by omega) (fun q => by omega)
  · by_cases c : rulr V w 0 day false < 0
    · refine ⟨false, cH false (fun _ => rfl) (fun q => by omega), fun V1 Q hV1 e hQ => ?_⟩
      exact letM (D := V (1001 + 10 * i) 3) hS hV1 e i0 (by omega) hw hd (by omega) (by omega) h.tm (hDk V1 hV1 e) (fun q => by omega) (fun _ _ V' f => hQ V' f) (fun _ q => by omega)
    · obtain ⟨p1, p2⟩ := h.clp (aw := w) (ac := 0) (day := day) (by omega)
      obtain ⟨v, hv⟩ := p2.2.2 (by rw [p1]; omega) (fxM V i (V (1001 + 10 * i) 3) day)
      refine ⟨v, cH v (fun q => ?_) (fun _ _ => by rw [q4]; exact hv), fun V1 Q hV1 e hQ => ?_⟩
      · rcases q with q | q
        · exact absurd q c
        · exact absurd q (by rw [q3.2.2.2.2.2.2.2.2.1]; exact q3.2.2.2.2.2.2.2.2.2)
      · exact letM (D := V (1001 + 10 * i) 3) hS hV1 e i0 (by omega) hw hd (by omega) (by omega) h.tm (hDk V1 hV1 e) (fun q => by omega) (fun _ q => absurd q c) (fun _ _ V' v' f hv' => by rw [hv'.uniq hv (by omega) (by omega)]; exact hQ V' f)
theorem cmd_force (h : INV n V S) (hn : n ≤ m) (ha : s32 a = a) (hb : s32 b = b) (hc : s32 c = c) (he : s32 e = e) : C_x_force (d + 20) 100 a b c e V S (fun r V1 S1 => C_m_force (d + 20) 137 a b c e V1 S1 (fun r' V2 S2 => r = r' ∧ INV m V2 S2)) := by
  have hup := h.up hn
  have hk := h.1
  have hS := hk.1
  have hV := hk.2.1
  by_cases h1 : 0 ≤ a ∧ a ≤ 4
  · by_cases h2 : 0 ≤ b ∧ b ≤ 599
    · by_cases h3 : a = 0
      · subst h3
        by_cases h4 : 1 ≤ e ∧ e ≤ 999
        · have ex : C_x_force (d + 20) 100 0 b c e V S (fun r V1 S1 => C_m_force (d + 20) 137 0 b c e V1 S1 (fun r' V2 S2 => r = r' ∧ INV m V2 S2)) ↔ C_Terms_daysFor (d + 19) 106 b e V S (fun r V1 S1 => C_m_force (d + 20) 137 0 b c e V1 S1 (fun r' V2 S2 => r = r' ∧ INV m V2 S2)) := by
            simp (disch := omega) only [I_x_force, p_lampAt hk, p_isWithin, p_isDay, p_isSum, hb, hc, he, h2, h4, hS.k100, hV.r100_4, s32_id (x := 0), s32_id (x := 3), s32_id (x := 4), show (0 : Int) < 3 from by omega, b_s32, b_eq0, b_01, l0, l1, true_and, and_true, and_self, true_implies, false_implies, implies_true, forall_const, not_true_eq_false, not_false_eq_true, reduceIte, ite_true, ite_false, reduceCtorEq, forall_eq, Classical.not_not, true_or, or_true, false_or, or_false, and_false, false_and, Int.reduceEq, Int.reduceLT, Int.reduceLE, Int.reduceAdd, Int.reduceSub, Int.reduceMul, Int.reduceNeg]
          have em : ∀ r : Int, C_m_force (d + 20) 137 0 b c e V S (fun r' V2 S2 => r = r' ∧ INV m V2 S2) ↔ C_m_daysFor (d + 19) 137 e b V S (fun r' V2 S2 => r = r' ∧ INV m V2 S2) := by
            intro r
            simp (disch := omega) only [I_m_force, p_misDay hk, r_in hS, hb, hc, he, h2, h4, hS.k137, s32_id (x := 0), s32_id (x := 1), s32_id (x := 2), s32_id (x := 4), s32_id (x := 999), b_s32, b_eq0, b_01, l0, l1, true_and, and_true, and_self, true_implies, false_implies, implies_true, forall_const, not_true_eq_false, not_false_eq_true, reduceIte, ite_true, ite_false, reduceCtorEq, forall_eq, Classical.not_not, true_or, or_true, false_or, or_false, and_false, false_and, Int.reduceEq, Int.reduceLT, Int.reduceLE, Int.reduceAdd, Int.reduceSub, Int.reduceMul, Int.reduceNeg]
          rw [ex]
          refine pc_days (d := d + 12) h hb he ?_
          rw [em]
          exact pm_days (d := d + 7) h hb he (fun V' f => ⟨rfl, h.rr f hn⟩)
        · simp (disch := omega) only [I_x_force, I_m_force, p_lampAt hk, p_isWithin, p_isDay, p_misDay hk, p_isSum, r_in hS, hb, hc, he, h2, h4, hS.k100, hS.k137, hV.r100_4, s32_id (x := 0), s32_id (x := 1), s32_id (x := 2), s32_id (x := 3), s32_id (x := 4), s32_id (x := 999), hup, b_s32, b_eq0, b_01, l0, l1, true_and, and_true, and_self, true_implies, false_implies, implies_true, forall_const, not_true_eq_false, not_false_eq_true, reduceIte, ite_true, ite_false, reduceCtorEq, forall_eq, Classical.not_not, true_or, or_true, false_or, or_false, and_false, false_and, Int.reduceEq, Int.reduceLT, Int.reduceLE, Int.reduceAdd, Int.reduceSub, Int.reduceMul, Int.reduceNeg]
      · by_cases h5 : a = 1
        · subst h5
          have ex : C_x_force (d + 20) 100 1 b c e V S (fun r V1 S1 => C_m_force (d + 20) 137 1 b c e V1 S1 (fun r' V2 S2 => r = r' ∧ INV m V2 S2)) ↔ C_Terms_graceOf (d + 19) 106 b V S (fun r V1 S1 => C_m_force (d + 20) 137 1 b c e V1 S1 (fun r' V2 S2 => r = r' ∧ INV m V2 S2)) := by
            simp (disch := omega) only [I_x_force, p_lampAt hk, p_isWithin, p_isDay, p_isSum, hb, hc, he, h2, hS.k100, hV.r100_4, s32_id (x := 0), s32_id (x := 1), s32_id (x := 3), s32_id (x := 4), show (1 : Int) < 3 from by omega, show ¬ (1 : Int) = 0 from by omega, b_s32, b_eq0, b_01, l0, l1, true_and, and_true, and_self, true_implies, false_implies, implies_true, forall_const, not_true_eq_false, not_false_eq_true, reduceIte, ite_true, ite_false, reduceCtorEq, forall_eq, Classical.not_not, true_or, or_true, false_or, or_false, and_false, false_and, Int.reduceEq, Int.reduceLT, Int.reduceLE, Int.reduceAdd, Int.reduceSub, Int.reduceMul, Int.reduceNeg]
          have em : ∀ r : Int, C_m_force (d + 20) 137 1 b c e V S (fun r' V2 S2 => r = r' ∧ INV m V2 S2) ↔ C_m_grace (d + 19) 137 b V S (fun r' V2 S2 => r = r' ∧ INV m V2 S2) := by
            intro r
            simp (disch := omega) only [I_m_force, p_misDay hk, r_in hS, hb, hc, he, h2, hS.k137, s32_id (x := 0), s32_id (x := 1), s32_id (x := 2), s32_id (x := 4), s32_id (x := 999), show ¬ (1 : Int) = 0 from by omega, show ¬ (2 : Int) < 1 from by omega, b_s32, b_eq0, b_01, l0, l1, true_and, and_true, and_self, true_implies, false_implies, implies_true, forall_const, not_true_eq_false, not_false_eq_true, reduceIte, ite_true, ite_false, reduceCtorEq, forall_eq, Classical.not_not, true_or, or_true, false_or, or_false, and_false, false_and, Int.reduceEq, Int.reduceLT, Int.reduceLE, Int.reduceAdd, Int.reduceSub, Int.reduceMul, Int.reduceNeg]
          rw [ex]
          refine pc_grace (d := d + 11) h hb ?_
          rw [em]
          exact pm_grace (d := d + 7) h hb (fun V' f => ⟨rfl, h.rr f hn⟩)
        · by_cases h6 : a = 2
          · subst h6
            have ex : C_x_force (d + 20) 100 2 b c e V S (fun r V1 S1 => C_m_force (d + 20) 137 2 b c e V1 S1 (fun r' V2 S2 => r = r' ∧ INV m V2 S2)) ↔ C_Terms_runOf (d + 19) 106 b V S (fun r V1 S1 => C_m_force (d + 20) 137 2 b c e V1 S1 (fun r' V2 S2 => r = r' ∧ INV m V2 S2)) := by
              simp (disch := omega) only [I_x_force, p_lampAt hk, p_isWithin, p_isDay, p_isSum, hb, hc, he, h2, hS.k100, hV.r100_4, s32_id (x := 0), s32_id (x := 2), s32_id (x := 3), s32_id (x := 4), show (2 : Int) < 3 from by omega, show ¬ (2 : Int) = 0 from by omega, show ¬ (2 : Int) = 1 from by omega, b_s32, b_eq0, b_01, l0, l1, true_and, and_true, and_self, true_implies, false_implies, implies_true, forall_const, not_true_eq_false, not_false_eq_true, reduceIte, ite_true, ite_false, reduceCtorEq, forall_eq, Classical.not_not, true_or, or_true, false_or, or_false, and_false, false_and, Int.reduceEq, Int.reduceLT, Int.reduceLE, Int.reduceAdd, Int.reduceSub, Int.reduceMul, Int.reduceNeg]
            have em : ∀ r : Int, C_m_force (d + 20) 137 2 b c e V S (fun r' V2 S2 => r = r' ∧ INV m V2 S2) ↔ C_m_runs (d + 19) 137 b V S (fun r5 V5 S5 => ((s32 r5 = 0 → r = 0 ∧ INV m V5 S5) ∧ (¬ s32 r5 = 0 → r = 1 ∧ INV m V5 S5))) := by
              intro r
              simp (disch := omega) only [I_m_force, p_misDay hk, r_in hS, hb, hc, he, h2, hS.k137, s32_id (x := 0), s32_id (x := 1), s32_id (x := 2), s32_id (x := 4), s32_id (x := 999), show ¬ (2 : Int) = 0 from by omega, show ¬ (2 : Int) = 1 from by omega, show ¬ (2 : Int) < 2 from by omega, b_s32, b_eq0, b_01, l0, l1, true_and, and_true, and_self, true_implies, false_implies, implies_true, forall_const, not_true_eq_false, not_false_eq_true, reduceIte, ite_true, ite_false, reduceCtorEq, forall_eq, Classical.not_not, true_or, or_true, false_or, or_false, and_false, false_and, Int.reduceEq, Int.reduceLT, Int.reduceLE, Int.reduceAdd, Int.reduceSub, Int.reduceMul, Int.reduceNeg]
            rw [ex]
            refine pc_run (d := d + 11) h hb ?_
            rw [em]
            refine pm_run (d := d + 7) h hb (fun V' f => ?_)
            have hi := h.rr f hn
            rcases h.nb2 (day := b) with q | q
            · rw [q]
              exact ⟨fun _ => ⟨rfl, hi⟩, fun z => absurd l0 z⟩
            · rw [q]
              exact ⟨fun z => by rw [l1] at z; omega, fun _ => ⟨rfl, hi⟩⟩
          · have h7 : a = 3 ∨ a = 4 := by omega
            by_cases h8 : 0 ≤ c ∧ c < V 137 2
            · obtain ⟨v, v1, v2⟩ := pr_let (d + 6) h h8.1 h8.2 h7 h2
              have g0 : ¬ 1000 + 10 * c = -1 := by omega
              have ex : C_x_force (d + 20) 100 a b c e V S (fun r V1 S1 => C_m_force (d + 20) 137 a b c e V1 S1 (fun r' V2 S2 => r = r' ∧ INV m V2 S2)) ↔ C_Terms_holds (d + 19) 106 a (1000 + 10 * c) b V S (fun r5 V5 S5 => ((s32 r5 = 0 → C_m_force (d + 20) 137 a b c e V5 S5 (fun r' V2 S2 => 0 = r' ∧ INV m V2 S2)) ∧ (¬ s32 r5 = 0 → C_m_force (d + 20) 137 a b c e V5 S5 (fun r' V2 S2 => 1 = r' ∧ INV m V2 S2)))) := by
                simp (disch := omega) only [I_x_force, p_lampAt hk, p_isWithin, p_isDay, p_isSum, ha, hb, hc, he, h1, h2, h3, h5, h6, h8, g0, hS.k100, hV.r100_4, s32_id (x := 0), s32_id (x := 2), s32_id (x := 3), s32_id (x := 4), show ¬ a < 3 from by omega, b_s32, b_eq0, b_01, l0, l1, true_and, and_true, and_self, true_implies, false_implies, implies_true, forall_const, not_true_eq_false, not_false_eq_true, reduceIte, ite_true, ite_false, reduceCtorEq, forall_eq, Classical.not_not, true_or, or_true, false_or, or_false, and_false, false_and, Int.reduceEq, Int.reduceLT, Int.reduceLE, Int.reduceAdd, Int.reduceSub, Int.reduceMul, Int.reduceNeg]
              have em : ∀ r : Int, C_m_force (d + 20) 137 a b c e V S (fun r' V2 S2 => r = r' ∧ INV m V2 S2) ↔ C_m_isLet (d + 19) 137 a c b V S (fun r5 V5 S5 => ((s32 r5 = 0 → r = 0 ∧ INV m V5 S5) ∧ (¬ s32 r5 = 0 → r = 1 ∧ INV m V5 S5))) := by
                intro r
                simp (disch := omega) only [I_m_force, p_misDay hk, p_isLamp hk, r_in hS, ha, hb, hc, he, h1, h2, h3, h5, h6, h8, hS.k137, s32_id (x := 0), s32_id (x := 1), s32_id (x := 2), s32_id (x := 4), s32_id (x := 999), show (2 : Int) < a from by omega, b_s32, b_eq0, b_01, l0, l1, true_and, and_true, and_self, true_implies, false_implies, implies_true, forall_const, not_true_eq_false, not_false_eq_true, reduceIte, ite_true, ite_false, reduceCtorEq, forall_eq, Classical.not_not, true_or, or_true, false_or, or_false, and_false, false_and, Int.reduceEq, Int.reduceLT, Int.reduceLE, Int.reduceAdd, Int.reduceSub, Int.reduceMul, Int.reduceNeg]
              rw [ex]
              refine v1 _ ?_
              cases v
              · refine ⟨fun _ => ?_, fun z => absurd l0 z⟩
                rw [em]
                exact v2 V _ hV MEQ.rf (fun V' f => ⟨fun _ => ⟨rfl, h.rr f hn⟩, fun z => absurd l0 z⟩)
              · refine ⟨fun z => (by have z : s32 1 = 0 := z; rw [l1] at z; omega), fun _ => ?_⟩
                rw [em]
                exact v2 V _ hV MEQ.rf (fun V' f => ⟨fun z => (by have z : s32 1 = 0 := z; rw [l1] at z; omega), fun _ => ⟨rfl, h.rr f hn⟩⟩)
            · simp (disch := omega) only [I_x_force, I_m_force, p_lampAt hk, p_isLamp hk, p_isWithin, r_in hS, ha, hb, hc, he, h1, h8, hS.k100, hS.k137, s32_id (x := 0), s32_id (x := 2), s32_id (x := 3), s32_id (x := 4), show ¬ a < 3 from by omega, show (2 : Int) < a from by omega, hup, b_s32, b_eq0, b_01, l0, l1, true_and, and_true, and_self, true_implies, false_implies, implies_true, forall_const, not_true_eq_false, not_false_eq_true, reduceIte, ite_true, ite_false, reduceCtorEq, forall_eq, Classical.not_not, true_or, or_true, false_or, or_false, and_false, false_and, Int.reduceEq, Int.reduceLT, Int.reduceLE, Int.reduceAdd, Int.reduceSub, Int.reduceMul, Int.reduceNeg]
    · by_cases h3 : 2 < a
      · by_cases h8 : 0 ≤ c ∧ c < V 137 2
        · have g0 : ¬ 1000 + 10 * c = -1 := by omega
          simp (disch := omega) only [I_x_force, I_m_force, p_lampAt hk, p_isLamp hk, p_isWithin, p_isDay, p_misDay hk, r_in hS, ha, hb, hc, he, h1, h2, h3, h8, g0, hS.k100, hS.k137, s32_id (x := 0), s32_id (x := 2), s32_id (x := 3), s32_id (x := 4), show ¬ a < 3 from by omega, hup, b_s32, b_eq0, b_01, l0, l1, true_and, and_true, and_self, true_implies, false_implies, implies_true, forall_const, not_true_eq_false, not_false_eq_true, reduceIte, ite_true, ite_false, reduceCtorEq, forall_eq, Classical.not_not, true_or, or_true, false_or, or_false, and_false, false_and, Int.reduceEq, Int.reduceLT, Int.reduceLE, Int.reduceAdd, Int.reduceSub, Int.reduceMul, Int.reduceNeg]
        · simp (disch := omega) only [I_x_force, I_m_force, p_lampAt hk, p_isLamp hk, p_isWithin, p_isDay, p_misDay hk, r_in hS, ha, hb, hc, he, h1, h3, h8, hS.k100, hS.k137, s32_id (x := 0), s32_id (x := 2), s32_id (x := 3), s32_id (x := 4), show ¬ a < 3 from by omega, hup, b_s32, b_eq0, b_01, l0, l1, true_and, and_true, and_self, true_implies, false_implies, implies_true, forall_const, not_true_eq_false, not_false_eq_true, reduceIte, ite_true, ite_false, reduceCtorEq, forall_eq, Classical.not_not, true_or, or_true, false_or, or_false, and_false, false_and, Int.reduceEq, Int.reduceLT, Int.reduceLE, Int.reduceAdd, Int.reduceSub, Int.reduceMul, Int.reduceNeg]
      · simp (disch := omega) only [I_x_force, I_m_force, p_lampAt hk, p_isWithin, p_isDay, p_misDay hk, r_in hS, ha, hb, hc, he, h1, h2, h3, hS.k100, hS.k137, s32_id (x := 0), s32_id (x := 2), s32_id (x := 3), s32_id (x := 4), show a < 3 from by omega, hup, b_s32, b_eq0, b_01, l0, l1, true_and, and_true, and_self, true_implies, false_implies, implies_true, forall_const, not_true_eq_false, not_false_eq_true, reduceIte, ite_true, ite_false, reduceCtorEq, forall_eq, Classical.not_not, true_or, or_true, false_or, or_false, and_false, false_and, Int.reduceEq, Int.reduceLT, Int.reduceLE, Int.reduceAdd, Int.reduceSub, Int.reduceMul, Int.reduceNeg]
  · simp (disch := omega) only [I_x_force, I_m_force, p_lampAt hk, p_isWithin, r_in hS, ha, h1, hS.k100, hS.k137, s32_id (x := 0), s32_id (x := 4), hup, b_s32, b_eq0, b_01, l0, l1, true_and, and_true, and_self, true_implies, false_implies, implies_true, forall_const, not_true_eq_false, not_false_eq_true, reduceIte, ite_true, ite_false, reduceCtorEq, forall_eq, Classical.not_not, true_or, or_true, false_or, or_false, and_false, false_and, Int.reduceEq, Int.reduceLT, Int.reduceLE, Int.reduceAdd, Int.reduceSub, Int.reduceMul, Int.reduceNeg]
end FM
