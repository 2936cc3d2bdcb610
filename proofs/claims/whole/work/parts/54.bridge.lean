/-! texts: the component beside the model -/
section BR
variable {d M : Nat} {w aw ac day r n m a b c coins : Int} {V V' : Mem} {S : Shp} {Q : Int → Mem → Shp → Prop} {D : Int → Int} {C : Int → List CL} {trb : Bool}
theorem INV.tm (h : INV n V S) : TM V false := by
  obtain ⟨h1, h2, h3⟩ := h.2.2.2.2.1
  refine ⟨h.1.n10, fun u u0 u1 => ?_, h2, fun q => by cases q⟩
  obtain ⟨g1, g2, g3, g4, cs, g5, g6⟩ := h3 u u0 u1
  exact ⟨g1, g3, g4, by rw [g5], by rw [g5]⟩
theorem TXT1.tx {t : Int} (h : TXT1 V t t) : TXC V t (csM V t) := by
  obtain ⟨g1, g2, g3, g4, cs, g5, g6⟩ := h
  have : csM V t = cs := by unfold csM; rw [g5]
  rw [this]
  exact g6
theorem INV.tct (h : INV n V S) : TCT V S (V 137 24).toNat (fun u => V 159 u) (csM V) false := by
  have hk := h.1
  have n10 := hk.n10
  obtain ⟨h1, h2, h3⟩ := h.2.2.2.2.1
  obtain ⟨-, -, ⟨-, -, -, e1, -⟩, -, -, t1, t2, t3⟩ := id hk
  have eM : ((V 137 24).toNat : Int) = V 137 24 := by omega
  unfold TCT
  rw [eM]
  refine ⟨hk.1, hk.2.1, ⟨e1, by omega⟩, t2, h1, t1, fun t t0 q => ?_⟩
  have q : t < V 137 24 := by
    rcases q with q | ⟨-, q⟩
    · exact q
    · cases q
  have g := h3 t t0 q
  exact ⟨t3 t t0 (by omega), g.2.1, g.2.2.1, g.tx, csM_r V t⟩
theorem rul_e (V : Mem) (aw ac day : Int) : ∀ N : Nat, rulC (fun u => V 159 u) (csM V) aw ac day N = rulN V aw ac day N
  | 0 => rfl
  | N + 1 => by
    unfold rulC rulN
    rw [rul_e V aw ac day N]
theorem rulr_f : rulr V aw ac day false = rulN V aw ac day (V 137 24).toNat := by
  unfold rulr
  rw [if_neg (fun q => by cases q.1)]
theorem cl_e : clC (csM V) aw ac r = clM V aw ac r := rfl
theorem INV.rr (h : INV n V S) (f : RFR V V') (hn : n ≤ m) : INV m V' S :=
  h.fr (W := fun a k => (a = 137 ∧ ((30 ≤ k ∧ k ≤ 39) ∨ (42 ≤ k ∧ k ≤ 44))) ∨ (162 ≤ a ∧ a ≤ 164)) f hn
theorem nbc_0 {c : CL} (h : c.1 = 0) : nbc c = c.2.2.1 := if_pos h
theorem nbc_1 {c : CL} (h : c.1 = 1 ∨ c.1 = 2) : nbc c = c.2.1 := by
  unfold nbc
  rw [if_neg (by omega), if_pos (by omega)]
/-- days of a sum, told by both -/
noncomputable def dyS (V : Mem) (coins day : Int) : Int := if rulr V 0 coins day false < 0 then coins else nbc (clM V 0 coins (rulr V 0 coins day false))
noncomputable def nbS (V : Mem) (w day : Int) : Int := if rulr V w 0 day false < 0 then 0 else nbc (clM V w 0 (rulr V w 0 day false))
theorem rul_c : rulC (fun u => V 159 u) (csM V) aw ac day (cnt (V 137 24).toNat false) = rulr V aw ac day false := by
  rw [rulr_f, rul_e]
  rfl
theorem INV.clp (h : INV n V S) (h0 : 0 ≤ rulr V aw ac day false) : (clM V aw ac (rulr V aw ac day false)).1 = aw ∧ CLr (clM V aw ac (rulr V aw ac day false)) := by
  obtain ⟨-, p2, p3⟩ := clC_p h.tct rul_c.symm h0
  exact ⟨p3, p2⟩
theorem INV.dy (h : INV n V S) (h0 : 0 ≤ coins ∧ coins ≤ 999) : 0 ≤ dyS V coins day ∧ dyS V coins day ≤ 999 := by
  unfold dyS
  by_cases c : rulr V 0 coins day false < 0
  · rw [if_pos c]; omega
  · rw [if_neg c]
    obtain ⟨e, -, q, -⟩ := h.clp (aw := 0) (ac := coins) (day := day) (by omega)
    rw [nbc_0 e]
    omega
theorem INV.nb2 (h : INV n V S) : nbS V 2 day = 0 ∨ nbS V 2 day = 1 := by
  unfold nbS
  by_cases c : rulr V 2 0 day false < 0
  · rw [if_pos c]; exact Or.inl rfl
  · rw [if_neg c]
    obtain ⟨q1, -, q, -⟩ := h.clp (aw := 2) (ac := 0) (day := day) (by omega)
    rw [nbc_1 (Or.inr q1)]
    omega
theorem INV.nb1 (h : INV n V S) : 0 ≤ nbS V 1 day ∧ nbS V 1 day ≤ 999 := by
  unfold nbS
  by_cases c : rulr V 1 0 day false < 0
  · rw [if_pos c]; omega
  · rw [if_neg c]
    obtain ⟨q1, -, q, -⟩ := h.clp (aw := 1) (ac := 0) (day := day) (by omega)
    rw [nbc_1 (Or.inl q1)]
    omega
theorem pc_days (h : INV n V S) (hd : s32 day = day) (hc : s32 coins = coins) (hQ : Q (dyS V coins day) V S) : C_Terms_daysFor (d + 7) 106 day coins V S Q :=
  c_daysFor h.tct hd hc (by rw [rul_c]; exact hQ)
theorem pm_days (h : INV n V S) (hd : s32 day = day) (hc : s32 coins = coins) (hQ : ∀ V', RFR V V' → Q (dyS V coins day) V' S) : C_m_daysFor (d + 12) 137 coins day V S Q :=
  r_daysFor h.1.1 h.1.2.1 hd hc h.tm hQ
theorem pc_grace (h : INV n V S) (hd : s32 day = day) (hQ : Q (nbS V 1 day) V S) : C_Terms_graceOf (d + 8) 106 day V S Q := by
  rw [I_Terms_graceOf, h.1.1.k106]
  exact ⟨rfl, c_numberOf h.tct (Or.inl rfl) hd (by rw [rul_c]; exact hQ)⟩
theorem pm_grace (h : INV n V S) (hd : s32 day = day) (hQ : ∀ V', RFR V V' → Q (nbS V 1 day) V' S) : C_m_grace (d + 12) 137 day V S Q :=
  r_grace h.1.1 h.1.2.1 hd h.tm hQ
theorem pc_run (h : INV n V S) (hd : s32 day = day) (hQ : Q (nbS V 2 day) V S) : C_Terms_runOf (d + 8) 106 day V S Q := by
  rw [I_Terms_runOf, h.1.1.k106]
  exact ⟨rfl, c_numberOf h.tct (Or.inr rfl) hd (by rw [rul_c]; exact hQ)⟩
theorem pm_run (h : INV n V S) (hd : s32 day = day) (hQ : ∀ V', RFR V V' → Q (nbS V 2 day) V' S) : C_m_runs (d + 12) 137 day V S Q := by
  have h2 := h.nb2 (day := day)
  refine r_runs h.1.1 h.1.2.1 hd h.tm (fun V' f => ?_)
  have := hQ V' f
  unfold nbS at this h2
  by_cases c : rulr V 2 0 day false < 0
  · rw [if_pos c] at this
    rw [if_neg (by omega)]
    exact this
  · rw [if_neg c] at this h2
    rcases h2 with q | q
    · rw [q] at this ⊢
      rw [if_neg (fun z => by have := z.2; rw [l0] at this; omega)]
      exact this
    · rw [q] at this ⊢
      rw [if_pos ⟨by omega, l1⟩]
      exact this
/-- whether what fetch or off says is told, by both -/
theorem pc_why (h : INV n V S) (hw : 0 ≤ w ∧ w ≤ 4) (hd : s32 day = day) (hc : s32 coins = coins) (hQ : Q (rvl (csM V) w coins (rulr V w coins day false)) V S) : C_Terms_rulingOf (d + 6) 106 w day coins V S Q :=
  c_rulingOf h.tct hw hc hd (by rw [rul_c]; exact hQ)
theorem cmd_why (h : INV n V S) (hn : n ≤ m) (ha : s32 a = a) (hb : s32 b = b) (hc : s32 c = c) : C_x_why (d + 12) 100 a b c V S (fun r V1 S1 => C_m_why (d + 12) 137 a b c V1 S1 (fun r' V2 S2 => r = r' ∧ INV m V2 S2)) := by
  have hup := h.up hn
  have hk := h.1
  have hS := hk.1
  have hV := hk.2.1
  by_cases h1 : 0 ≤ a ∧ a ≤ 4
  · by_cases h2 : 0 ≤ b ∧ b ≤ 599
    · by_cases h3 : a = 0 ∧ ¬ (1 ≤ c ∧ c ≤ 999)
      · simp (disch := omega) only [I_x_why, I_m_why, p_isWithin, p_isDay, p_misDay hk, p_isSum, r_in hS, ha, hb, hc, h1, h2, h3, hS.k100, hS.k137, s32_id, hup, b_s32, b_eq0, b_01, l0, l1, true_and, and_true, and_self, true_implies, false_implies, implies_true, forall_const, not_true_eq_false, not_false_eq_true, reduceIte, ite_true, ite_false, reduceCtorEq, forall_eq, Classical.not_not, true_or, or_true, false_or, or_false, and_false, false_and, Int.reduceEq, Int.reduceLT, Int.reduceLE, Int.reduceAdd, Int.reduceSub, Int.reduceMul, Int.reduceNeg]
      · have ex : C_x_why (d + 12) 100 a b c V S (fun r V1 S1 => C_m_why (d + 12) 137 a b c V1 S1 (fun r' V2 S2 => r = r' ∧ INV m V2 S2)) ↔ C_Terms_rulingOf (d + 11) 106 a b c V S (fun r V1 S1 => C_m_why (d + 12) 137 a b c V1 S1 (fun r' V2 S2 => r = r' ∧ INV m V2 S2)) := by
          by_cases h4 : a = 0
          · have h5 : 1 ≤ c ∧ c ≤ 999 := by omega
            simp (disch := omega) only [I_x_why, p_isWithin, p_isDay, p_isSum, ha, hb, hc, h1, h2, h4, h5, hS.k100, hV.r100_4, s32_id, b_s32, b_eq0, b_01, l0, l1, true_and, and_true, and_self, true_implies, false_implies, implies_true, forall_const, not_true_eq_false, not_false_eq_true, reduceIte, ite_true, ite_false, reduceCtorEq, forall_eq, Classical.not_not, true_or, or_true, false_or, or_false, and_false, false_and, Int.reduceEq, Int.reduceLT, Int.reduceLE, Int.reduceAdd, Int.reduceSub, Int.reduceMul, Int.reduceNeg]
          · simp (disch := omega) only [I_x_why, p_isWithin, p_isDay, p_isSum, ha, hb, hc, h1, h2, h4, hS.k100, hV.r100_4, s32_id, b_s32, b_eq0, b_01, l0, l1, true_and, and_true, and_self, true_implies, false_implies, implies_true, forall_const, not_true_eq_false, not_false_eq_true, reduceIte, ite_true, ite_false, reduceCtorEq, forall_eq, Classical.not_not, true_or, or_true, false_or, or_false, and_false, false_and, Int.reduceEq, Int.reduceLT, Int.reduceLE, Int.reduceAdd, Int.reduceSub, Int.reduceMul, Int.reduceNeg]
        have em : ∀ r : Int, C_m_why (d + 12) 137 a b c V S (fun r' V2 S2 => r = r' ∧ INV m V2 S2) ↔ C_m_ruler (d + 11) 137 a c b V S (fun r4 V4 S4 => ((s32 r4 < 0 → r = -5 ∧ INV m V4 S4) ∧ (¬ s32 r4 < 0 → (S4.1 137 = 12 ∧ r = 100 * r4 + V4 137 36 ∧ INV m V4 S4)))) := by
          intro r
          by_cases h4 : a = 0
          · have h5 : 1 ≤ c ∧ c ≤ 999 := by omega
            simp (disch := omega) only [I_m_why, p_misDay hk, r_in hS, ha, hb, hc, h1, h2, h4, h5, hS.k137, s32_id, b_s32, b_eq0, b_01, l0, l1, true_and, and_true, and_self, true_implies, false_implies, implies_true, forall_const, not_true_eq_false, not_false_eq_true, reduceIte, ite_true, ite_false, reduceCtorEq, forall_eq, Classical.not_not, true_or, or_true, false_or, or_false, and_false, false_and, Int.reduceEq, Int.reduceLT, Int.reduceLE, Int.reduceAdd, Int.reduceSub, Int.reduceMul, Int.reduceNeg]
          · simp (disch := omega) only [I_m_why, p_misDay hk, r_in hS, ha, hb, hc, h1, h2, h4, hS.k137, s32_id, b_s32, b_eq0, b_01, l0, l1, true_and, and_true, and_self, true_implies, false_implies, implies_true, forall_const, not_true_eq_false, not_false_eq_true, reduceIte, ite_true, ite_false, reduceCtorEq, forall_eq, Classical.not_not, true_or, or_true, false_or, or_false, and_false, false_and, Int.reduceEq, Int.reduceLT, Int.reduceLE, Int.reduceAdd, Int.reduceSub, Int.reduceMul, Int.reduceNeg]
        rw [ex]
        refine pc_why (d := d + 5) h h1 hb hc ?_
        rw [em]
        refine m_ruler (d := d) (fx := fx0 V) hS hV hb ha hc h.tm (fun f _ _ => rfl) (fun V' f hs => ?_)
        obtain ⟨q1, q2, q3, -⟩ := rulr_r (aw := a) (ac := c) (day := b) h.tm
        have sr : s32 (rulr V a c b false) = rulr V a c b false := s32_id (by omega) (by omega)
        rw [sr]
        refine ⟨fun q => ⟨?_, h.rr f hn⟩, fun q => ⟨hS.k137, ?_, h.rr f hn⟩⟩
        · unfold rvl
          rw [if_pos q]
        · obtain ⟨-, -, e, -⟩ := (hs (by omega)).cl (q3 (by omega)).2
          rw [e]
          unfold rvl
          rw [if_neg q]
    · simp (disch := omega) only [I_x_why, I_m_why, p_isWithin, p_isDay, p_misDay hk, r_in hS, ha, hb, hc, h1, h2, hS.k100, hS.k137, s32_id, hup, b_s32, b_eq0, b_01, l0, l1, true_and, and_true, and_self, true_implies, false_implies, implies_true, forall_const, not_true_eq_false, not_false_eq_true, reduceIte, ite_true, ite_false, reduceCtorEq, forall_eq, Classical.not_not, true_or, or_true, false_or, or_false, and_false, false_and, Int.reduceEq, Int.reduceLT, Int.reduceLE, Int.reduceAdd, Int.reduceSub, Int.reduceMul, Int.reduceNeg]
  · simp (disch := omega) only [I_x_why, I_m_why, p_isWithin, r_in hS, ha, hb, hc, h1, hS.k100, hS.k137, s32_id, hup, b_s32, b_eq0, b_01, l0, l1, true_and, and_true, and_self, true_implies, false_implies, implies_true, forall_const, not_true_eq_false, not_false_eq_true, reduceIte, ite_true, ite_false, reduceCtorEq, forall_eq, Classical.not_not, true_or, or_true, false_or, or_false, and_false, false_and, Int.reduceEq, Int.reduceLT, Int.reduceLE, Int.reduceAdd, Int.reduceSub, Int.reduceMul, Int.reduceNeg]
end BR
/-- the model's cells are the same -/
def MEQ (V V1 : Mem) : Prop := ∀ a k, 137 ≤ a → a ≤ 199 → V1 a k = V a k
section ME
variable {d : Nat} {n m aw ac w day i D coins : Int} {V V1 V2 : Mem} {S : Shp} {Q : Int → Mem → Shp → Prop} {trb : Bool}
theorem MEQ.rf : MEQ V V := fun _ _ _ _ => rfl
theorem MEQ.mx : MEQ V (mix V1 V) := fun _ _ h0 h1 => mix_m ⟨h0, h1⟩
theorem MEQ.pk (e : MEQ V V1) (u : Int) : pkM V1 (100 * u) (V1 161 u) = pkM V (100 * u) (V 161 u) := by
  funext p
  unfold pkM
  rw [e 161 u (by omega) (by omega), e 160 _ (by omega) (by omega)]
theorem MEQ.cs (e : MEQ V V1) : csM V1 = csM V := by
  funext u
  unfold csM
  rw [e.pk, e 161 u (by omega) (by omega)]
theorem MEQ.rN (e : MEQ V V1) : ∀ N : Nat, rulN V1 aw ac day N = rulN V aw ac day N
  | 0 => rfl
  | N + 1 => by
    unfold rulN
    rw [MEQ.rN e N, e.cs, e 159 _ (by omega) (by omega), e 159 _ (by omega) (by omega)]
theorem MEQ.rul (e : MEQ V V1) : rulr V1 aw ac day trb = rulr V aw ac day trb := by
  unfold rulr
  rw [e.rN, e.cs, e 159 _ (by omega) (by omega), e 159 _ (by omega) (by omega), e 137 24 (by omega) (by omega)]
theorem MEQ.cl (e : MEQ V V1) (r : Int) : clM V1 aw ac r = clM V aw ac r := by
  unfold clM
  rw [e.cs]
theorem MEQ.gd (e : MEQ V V1) {u : Int} (h : GOODM V u) : GOODM V1 u := by
  unfold GOODM
  rw [e.pk, e 161 u (by omega) (by omega), e 159 u (by omega) (by omega)]
  exact ⟨fun p p0 p1 => by rw [e 160 _ (by omega) (by omega)]; exact h.1 p p0 p1, h.2⟩
theorem MEQ.tm (e : MEQ V V1) (h : TM V trb) : TM V1 trb := by
  obtain ⟨h1, h2, h3, h4⟩ := h
  unfold TM
  rw [e 137 24 (by omega) (by omega), e 137 45 (by omega) (by omega)]
  exact ⟨h1, fun u u0 u1 => e.gd (h2 u u0 u1), h3, fun q => e.gd (h4 q)⟩
theorem MEQ.fx (e : MEQ V V1) : fxM V1 i D day = fxM V i D day := by
  funext f
  unfold fxM
  rw [e 142 _ (by omega) (by omega), e 148 _ (by omega) (by omega), e 146 _ (by omega) (by omega), e 147 _ (by omega) (by omega), e 145 _ (by omega) (by omega), e 140 _ (by omega) (by omega)]
theorem daysM (hS : FS S) (hT : TM V false) (hV : FV V1) (e : MEQ V V1) (hd : s32 day = day) (hc : s32 coins = coins) (hQ : ∀ V', RFR V1 V' → Q (dyS V coins day) V' S) : C_m_daysFor (d + 12) 137 coins day V1 S Q := by
  refine r_daysFor hS hV hd hc (e.tm hT) ?_
  rw [e.rul, e.cl]
  exact hQ
theorem graceM (hS : FS S) (hT : TM V false) (hV : FV V1) (e : MEQ V V1) (hd : s32 day = day) (hQ : ∀ V', RFR V1 V' → Q (nbS V 1 day) V' S) : C_m_grace (d + 12) 137 day V1 S Q := by
  refine r_grace hS hV hd (e.tm hT) ?_
  rw [e.rul, e.cl]
  exact hQ
theorem letM (hS : FS S) (hV : FV V1) (e : MEQ V V1) (i0 : 0 ≤ i) (i1 : i < 20) (hw : aw = 3 ∨ aw = 4) (hd : 0 ≤ day ∧ day ≤ 599) (hh : V 145 i < 12) (hh2 : -1 ≤ V 145 i) (hT : TM V trb) (hD : ∀ (V' : Mem) (Q : Int → Mem → Shp → Prop), (∀ a k, a ≠ 162 → V' a k = V1 a k) → (C_m_darkAhead (d + 12) 137 i V' S Q ↔ Q D V' S)) (hQ0 : V 145 i < 0 → Q 0 V1 S) (hQ1 : 0 ≤ V 145 i → rulr V aw 0 day trb < 0 → ∀ V', RFR V1 V' → Q 0 V' S) (hQ2 : 0 ≤ V 145 i → 0 ≤ rulr V aw 0 day trb → ∀ V' v, RFR V1 V' → RP (fxM V i D day) (clM V aw 0 (rulr V aw 0 day trb)).2.2.2 v 11 → Q (b2 v) V' S) : C_m_isLet (d + 13) 137 aw i day V1 S Q := by
  have e145 : V1 145 i = V 145 i := e _ _ (by omega) (by omega)
  refine r_isLet (D := D) hS hV i0 i1 hw hd (by rw [e145]; exact hh) (by rw [e145]; exact hh2) (e.tm hT) hD ?_ ?_ ?_
  · rw [e145]; exact hQ0
  · rw [e145, e.rul]; exact hQ1
  · rw [e145, e.rul, e.cl, e.fx]; exact hQ2
theorem RFR.u2 {a k v : Int} (h : RFR V V1) : RFR (up2 V a k v) (up2 V1 a k v) := fun q j hn => by
  unfold up2
  by_cases c : q = a ∧ j = k
  · rw [if_pos c, if_pos c]
  · rw [if_neg c, if_neg c]; exact h q j hn
end ME
