/-! a day of all lamps -/
/-- what texts rest on is the same -/
def TEQ (V V1 : Mem) : Prop := ∀ a k, (a = 137 ∧ (k = 24 ∨ k = 45)) ∨ (159 ≤ a ∧ a ≤ 161) → V1 a k = V a k
section TE
variable {d M : Nat} {n m aw ac w day i D coins t r j : Int} {V V0 Vm V1 V2 W W' : Mem} {S : Shp} {Q : Int → Mem → Shp → Prop} {trb : Bool} {Dy : Int → Int} {C : Int → List CL}
theorem MSC.te (e : MSC V V1) : TEQ V V1 := fun a k h => e a k (by omega) (by omega) (by unfold RCf; omega)
theorem TEQ.tr (e : TEQ V V1) (g : TEQ V1 V2) : TEQ V V2 := fun a k h => (g a k h).trans (e a k h)
theorem TEQ.pk (e : TEQ V V1) (u : Int) : pkM V1 (100 * u) (V1 161 u) = pkM V (100 * u) (V 161 u) := by
  funext p
  unfold pkM
  rw [e 161 u (by omega), e 160 _ (by omega)]
theorem TEQ.cs (e : TEQ V V1) : csM V1 = csM V := by
  funext u
  unfold csM
  rw [e.pk, e 161 u (by omega)]
theorem TEQ.rN (e : TEQ V V1) : ∀ N : Nat, rulN V1 aw ac day N = rulN V aw ac day N
  | 0 => rfl
  | N + 1 => by
    unfold rulN
    rw [TEQ.rN e N, e.cs, e 159 _ (by omega), e 159 _ (by omega)]
theorem TEQ.rul (e : TEQ V V1) : rulr V1 aw ac day trb = rulr V aw ac day trb := by
  unfold rulr
  rw [e.rN, e.cs, e 159 _ (by omega), e 159 _ (by omega), e 137 24 (by omega)]
theorem TEQ.cl (e : TEQ V V1) (r : Int) : clM V1 aw ac r = clM V aw ac r := by
  unfold clM
  rw [e.cs]
theorem TEQ.gd (e : TEQ V V1) {u : Int} (h : GOODM V u) : GOODM V1 u := by
  unfold GOODM
  rw [e.pk, e 161 u (by omega), e 159 u (by omega)]
  exact ⟨fun p p0 p1 => by rw [e 160 _ (by omega)]; exact h.1 p p0 p1, h.2⟩
theorem TEQ.tm (e : TEQ V V1) (h : TM V trb) : TM V1 trb := by
  obtain ⟨h1, h2, h3, h4⟩ := h
  unfold TM
  rw [e 137 24 (by omega), e 137 45 (by omega)]
  exact ⟨h1, fun u u0 u1 => e.gd (h2 u u0 u1), h3, fun q => e.gd (h4 q)⟩
noncomputable def nbT (V : Mem) (w day : Int) (trb : Bool) : Int := if rulr V w 0 day trb < 0 then 0 else nbc (clM V w 0 (rulr V w 0 day trb))
theorem graceT (hS : FS S) (hT : TM V trb) (hV : FV V1) (e : TEQ V V1) (hd : s32 day = day) (hQ : ∀ V', RFR V1 V' → Q (nbT V 1 day trb) V' S) : C_m_grace (d + 12) 137 day V1 S Q := by
  refine r_grace hS hV hd (e.tm hT) ?_
  rw [e.rul, e.cl]
  exact hQ
theorem runT (hS : FS S) (hT : TM V trb) (hV : FV V1) (e : TEQ V V1) (hd : s32 day = day) (h2 : nbT V 2 day trb = 0 ∨ nbT V 2 day trb = 1) (hQ : ∀ V', RFR V1 V' → Q (nbT V 2 day trb) V' S) : C_m_runs (d + 12) 137 day V1 S Q := by
  refine r_runs hS hV hd (e.tm hT) (fun V' f => ?_)
  rw [e.rul, e.cl]
  have := hQ V' f
  unfold nbT at this h2
  by_cases c : rulr V 2 0 day trb < 0
  · rw [if_pos c] at this
    rw [if_neg (by omega)]
    exact this
  · rw [if_neg c] at this h2
    rcases h2 with q | q
    · rw [q] at this ⊢
      rw [if_neg (fun z => by have := z.2; rw [l0] at this; omega)]
      exact this
    · rw [q] at this ⊢
      rw [if_pos ⟨by omega, l1⟩]
      exact this
theorem TCT.fr (h : TCT V S M Dy C trb) (hV1 : FV V1) (f : ∀ p q, ¬ (137 ≤ p ∧ p ≤ 199) → ¬ (1000 ≤ p ∧ p < 1200) → ¬ (p = 106 ∧ 4 ≤ q ∧ q ≤ 8) → V1 p q = V p q) : TCT V1 S M Dy C trb := by
  obtain ⟨hS, hV, ⟨h1, h2⟩, h3, h4, h5, h6⟩ := h
  refine ⟨hS, hV1, ⟨(f _ _ (by omega) (by omega) (by omega)).trans h1, h2⟩, (f _ _ (by omega) (by omega) (by omega)).trans h3, (f _ _ (by omega) (by omega) (by omega)).trans h4, fun t t0 t1 => (f _ _ (by omega) (by omega) (by omega)).trans (h5 t t0 t1), fun t t0 q => ?_⟩
  obtain ⟨⟨g1, g2, g3, g4, g5⟩, g6, g7, ⟨g8, g9, g10⟩, g11⟩ := h6 t t0 q
  have K : ∀ j k, 0 ≤ j → j ≤ 4 → V1 (TA t + j) k = V (TA t + j) k := fun j k j0 j4 => f _ _ (by unfold TA; omega) (by unfold TA; omega) (by unfold TA; omega)
  have K0 : ∀ k, V1 (TA t) k = V (TA t) k := fun k => f _ _ (by unfold TA; omega) (by unfold TA; omega) (by unfold TA; omega)
  refine ⟨⟨g1, (K0 _).trans g2, (K0 _).trans g3, (K0 _).trans g4, (K0 _).trans g5⟩, (K0 _).trans g6, g7, ⟨(K0 _).trans g8, g9, fun i hi => ?_⟩, g11⟩
  exact CLTx.eq (g10 i hi) (fun k => K 1 k (by omega) (by omega)) (fun k => K 2 k (by omega) (by omega)) (fun k => K 3 k (by omega) (by omega)) (fun k => K 4 k (by omega) (by omega))
theorem fx_eq2 {b : Int} (hd : 0 ≤ day) (e1 : V (1000 + 10 * i) 8 = Vm 142 i) (e2 : V b 0 = Vm 146 i) (e3 : V b 1 = Vm 147 i) (e4 : V b 2 = Vm 148 i) (e6 : V j 0 = Vm 145 i) (e7 : V (j + 1) (day / 30) = Vm 140 (20 * Vm 145 i + day / 30)) : fcv V (1000 + 10 * i) b j (day / 30) = fxM Vm i (V b 3) day := by
  funext f
  have hm : day.tdiv 30 = day / 30 := Int.tdiv_eq_ediv_of_nonneg hd
  unfold fcv gcv fxM
  rw [hm, e1, e2, e3, e4, e6, e7]
  by_cases c0 : f = 0
  · rw [if_pos c0, if_pos c0]
  rw [if_neg c0, if_neg c0]
  by_cases c1 : f = 1
  · rw [if_pos c1, if_pos c1]
  rw [if_neg c1, if_neg c1]
  by_cases c2 : f = 2
  · rw [if_pos c2, if_pos c2]
  rw [if_neg c2, if_neg c2]
  by_cases c3 : f = 3
  · rw [if_pos c3, if_pos c3]
  rw [if_neg c3, if_neg c3]
  by_cases c4 : f = 4
  · rw [if_pos c4, if_pos c4]
  rw [if_neg c4, if_neg c4]
/-- a lamp's home and what tests ask, from what both started with -/
theorem INV.hom {b : Int} (h : INV n V0 S) (i0 : 0 ≤ i) (i1 : i < V0 137 2) (hd : 0 ≤ day ∧ day ≤ 599) (hb : S.1 b = 6)
    (c1 : ∀ k, 8 ≤ k → k ≤ 12 → V (1000 + 10 * i) k = V0 (1000 + 10 * i) k) (c2 : ∀ p k, 2000 ≤ p → p < 2120 → V p k = V0 p k)
    (c3 : Vm 142 i = V0 142 i ∧ Vm 145 i = V0 145 i) (c4 : ∀ k, Vm 140 k = V0 140 k) (c5 : V b 0 = Vm 146 i ∧ V b 1 = Vm 147 i ∧ V b 2 = Vm 148 i) : HOM V Vm S i b day := by
  have hk := h.1
  obtain ⟨-, hB, -⟩ := h.2.2.2.1
  obtain ⟨⟨b1, b2, b3⟩, -, -, -, b10⟩ := hB i i0 i1
  obtain ⟨⟨k0, -⟩, -⟩ := hk.lamp i0 i1
  have n12 := hk.n12
  have e10 := c1 10 (by omega) (by omega)
  have e8 := c1 8 (by omega) (by omega)
  unfold HOM
  rw [c3.2, e10]
  rcases b10 with q | ⟨q1, q2, q3⟩
  · exact Or.inl q
  · obtain ⟨⟨m1, m2, m3⟩, m4, m5, m6⟩ := hk.home q1 q2
    have e1 : 2000 + 10 * V0 145 i + 1 = 2001 + 10 * V0 145 i := by omega
    have hc := (h.2.2.1.1 (V0 145 i) q1 q2).2 (day / 30) (by omega) (by omega)
    refine Or.inr ⟨q1, by omega, ⟨k0, hb, m1, by rw [e1]; exact m2, by rw [e1]; exact m3, by rw [e1, c2 _ _ (by omega) (by omega)]; exact m6, by omega, by omega, e10.trans q3, by omega⟩, ?_⟩
    refine fx_eq2 hd.1 (by rw [e8, c3.1]; exact b1) c5.1 c5.2.1 c5.2.2 ?_ ?_
    · rw [c2 _ _ (by omega) (by omega), c3.2]; exact m5
    · rw [e1, c2 _ _ (by omega) (by omega), c3.2, c4]; exact hc.1
end TE
