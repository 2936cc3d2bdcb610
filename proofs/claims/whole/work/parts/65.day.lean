/-! a day of one lamp, by both -/
/-- the model's cells but its scratch are the same -/
def MSC (V V1 : Mem) : Prop := ∀ a k, 137 ≤ a → a ≤ 199 → ¬ RCf a k → V1 a k = V a k
section MSS
variable {d M : Nat} {n m aw ac w day i D coins t r : Int} {V Vm V1 V2 W W' : Mem} {S : Shp} {Q : Int → Mem → Shp → Prop} {trb : Bool} {Dy : Int → Int} {C : Int → List CL}
theorem MSC.rf : MSC V V := fun _ _ _ _ _ => rfl
theorem MEQ.mq (e : MEQ V V1) : MSC V V1 := fun a k h0 h1 _ => e a k h0 h1
theorem MSC.tr (e : MSC V V1) (g : MSC V1 V2) : MSC V V2 := fun a k h0 h1 h2 => (g a k h0 h1 h2).trans (e a k h0 h1 h2)
theorem RFR.mq (f : RFR V V1) : MSC V V1 := fun a k _ _ h2 => f a k h2
theorem MSC.pk (e : MSC V V1) (u : Int) : pkM V1 (100 * u) (V1 161 u) = pkM V (100 * u) (V 161 u) := by
  funext p
  unfold pkM
  rw [e 161 u (by omega) (by omega) (by unfold RCf; omega), e 160 _ (by omega) (by omega) (by unfold RCf; omega)]
theorem MSC.cs (e : MSC V V1) : csM V1 = csM V := by
  funext u
  unfold csM
  rw [e.pk, e 161 u (by omega) (by omega) (by unfold RCf; omega)]
theorem MSC.rN (e : MSC V V1) : ∀ N : Nat, rulN V1 aw ac day N = rulN V aw ac day N
  | 0 => rfl
  | N + 1 => by
    unfold rulN
    rw [MSC.rN e N, e.cs, e 159 _ (by omega) (by omega) (by unfold RCf; omega), e 159 _ (by omega) (by omega) (by unfold RCf; omega)]
theorem MSC.rul (e : MSC V V1) : rulr V1 aw ac day trb = rulr V aw ac day trb := by
  unfold rulr
  rw [e.rN, e.cs, e 159 _ (by omega) (by omega) (by unfold RCf; omega), e 159 _ (by omega) (by omega) (by unfold RCf; omega), e 137 24 (by omega) (by omega) (by unfold RCf; omega)]
theorem MSC.cl (e : MSC V V1) (r : Int) : clM V1 aw ac r = clM V aw ac r := by
  unfold clM
  rw [e.cs]
theorem MSC.gd (e : MSC V V1) {u : Int} (h : GOODM V u) : GOODM V1 u := by
  unfold GOODM
  rw [e.pk, e 161 u (by omega) (by omega) (by unfold RCf; omega), e 159 u (by omega) (by omega) (by unfold RCf; omega)]
  exact ⟨fun p p0 p1 => by rw [e 160 _ (by omega) (by omega) (by unfold RCf; omega)]; exact h.1 p p0 p1, h.2⟩
theorem MSC.tm (e : MSC V V1) (h : TM V trb) : TM V1 trb := by
  obtain ⟨h1, h2, h3, h4⟩ := h
  unfold TM
  rw [e 137 24 (by omega) (by omega) (by unfold RCf; omega), e 137 45 (by omega) (by omega) (by unfold RCf; omega)]
  exact ⟨h1, fun u u0 u1 => e.gd (h2 u u0 u1), h3, fun q => e.gd (h4 q)⟩
theorem MSC.fx (e : MSC V V1) : fxM V1 i D day = fxM V i D day := by
  funext f
  unfold fxM
  rw [e 142 _ (by omega) (by omega) (by unfold RCf; omega), e 148 _ (by omega) (by omega) (by unfold RCf; omega), e 146 _ (by omega) (by omega) (by unfold RCf; omega), e 147 _ (by omega) (by omega) (by unfold RCf; omega), e 145 _ (by omega) (by omega) (by unfold RCf; omega), e 140 _ (by omega) (by omega) (by unfold RCf; omega)]
theorem letQ (hS : FS S) (hV : FV V1) (e : MSC V V1) (i0 : 0 ≤ i) (i1 : i < 20) (hw : aw = 3 ∨ aw = 4) (hd : 0 ≤ day ∧ day ≤ 599) (hh : V 145 i < 12) (hh2 : -1 ≤ V 145 i) (hT : TM V trb) (hD : ∀ (V' : Mem) (Q : Int → Mem → Shp → Prop), (∀ a k, a ≠ 162 → V' a k = V1 a k) → (C_m_darkAhead (d + 12) 137 i V' S Q ↔ Q D V' S)) (hQ0 : V 145 i < 0 → Q 0 V1 S) (hQ1 : 0 ≤ V 145 i → rulr V aw 0 day trb < 0 → ∀ V', RFR V1 V' → Q 0 V' S) (hQ2 : 0 ≤ V 145 i → 0 ≤ rulr V aw 0 day trb → ∀ V' v, RFR V1 V' → RP (fxM V i D day) (clM V aw 0 (rulr V aw 0 day trb)).2.2.2 v 11 → Q (b2 v) V' S) : C_m_isLet (d + 13) 137 aw i day V1 S Q := by
  have e145 : V1 145 i = V 145 i := e _ _ (by omega) (by omega) (by unfold RCf; omega)
  refine r_isLet (D := D) hS hV i0 i1 hw hd (by rw [e145]; exact hh) (by rw [e145]; exact hh2) (e.tm hT) hD ?_ ?_ ?_
  · rw [e145]; exact hQ0
  · rw [e145, e.rul]; exact hQ1
  · rw [e145, e.rul, e.cl, e.fx]; exact hQ2
/-- how comp and model see a lamp's home and what tests ask -/
def HOM (V Vm : Mem) (S : Shp) (i b t : Int) : Prop := (Vm 145 i = -1 ∧ V (1000 + 10 * i) 10 = -1) ∨ (0 ≤ Vm 145 i ∧ Vm 145 i < 12 ∧ HKD V S (1000 + 10 * i) b (2000 + 10 * Vm 145 i) (t / 30) ∧ fcv V (1000 + 10 * i) b (2000 + 10 * Vm 145 i) (t / 30) = fxM Vm i (V b 3) t)
theorem letPair (d : Nat) {b : Int} (h : TCT V S M Dy C trb) (hT : TM Vm trb) (i0 : 0 ≤ i) (i1 : i < 20) (ht : 0 ≤ t ∧ t ≤ 599) (hk : S.1 (1000 + 10 * i) = 5) (er : rulC Dy C 4 0 t (cnt M trb) < 0 ↔ rulr Vm 4 0 t trb < 0) (ec : 0 ≤ rulr Vm 4 0 t trb → clC C 4 0 (rulC Dy C 4 0 t (cnt M trb)) = clM Vm 4 0 (rulr Vm 4 0 t trb)) (hH : HOM V Vm S i b t) (hDk : ∀ W, FV W → MSC Vm W → ∀ (V' : Mem) (Q : Int → Mem → Shp → Prop), (∀ a k, a ≠ 162 → V' a k = W a k) → (C_m_darkAhead (d + 12) 137 i V' S Q ↔ Q (V b 3) V' S)) : ∃ v : Bool, (∀ (V2 : Mem) (bb : Int), TCT V2 S M Dy C trb → HOM V2 Vm S i bb t → V2 bb 3 = V b 3 → ∀ Q : Int → Mem → Shp → Prop, Q (b2 v) V2 S → OFFH (d + 12) C 4 (rulC Dy C 4 0 t (cnt M trb)) (1000 + 10 * i) bb (t / 30) V2 S Q) ∧ (∀ (W : Mem) (Q : Int → Mem → Shp → Prop), FV W → MSC Vm W → (∀ W', RFR W W' → Q (b2 v) W' S) → C_m_isLet (d + 13) 137 4 i t W S Q) := by
  have hS := h.1
  have cH : ∀ (v : Bool), (∀ V2 bb, HOM V2 Vm S i bb t → (rulr Vm 4 0 t trb < 0 ∨ V2 (1000 + 10 * i) 10 = -1) → v = false) → (0 ≤ rulr Vm 4 0 t trb → 0 ≤ Vm 145 i → RP (fxM Vm i (V b 3) t) (clM Vm 4 0 (rulr Vm 4 0 t trb)).2.2.2 v 11) → ∀ (V2 : Mem) (bb : Int), TCT V2 S M Dy C trb → HOM V2 Vm S i bb t → V2 bb 3 = V b 3 → ∀ Q : Int → Mem → Shp → Prop, Q (b2 v) V2 S → OFFH (d + 12) C 4 (rulC Dy C 4 0 t (cnt M trb)) (1000 + 10 * i) bb (t / 30) V2 S Q := by
    intro v v0 v1 V2 bb h2 H2 e3 Q hQ
    refine c_offH (d := d + 7) (hm := 2000 + 10 * Vm 145 i) h2 (Or.inr rfl) ht rfl (H2.elim (fun q => Or.inl q.2) (fun q => Or.inr q.2.2.1)) hk (fun q => ?_) (fun q H => ⟨v, ?_, hQ⟩)
    · rw [v0 V2 bb H2 (q.elim (fun z => Or.inl (er.mp z)) Or.inr)] at hQ
      exact hQ
    · rw [ec (by omega)]
      rcases H2 with ⟨q1, q2⟩ | ⟨q1, q2, q3, q4⟩
      · exact absurd q2 (by rw [H.2.2.2.2.2.2.2.2.1]; exact H.2.2.2.2.2.2.2.2.2)
      · rw [q4, e3]
        exact v1 (by omega) q1
  rcases hH with ⟨q1, q2⟩ | ⟨q1, q2, q3, q4⟩
  · refine ⟨false, cH false (fun _ _ _ _ => rfl) (fun _ z => by omega), fun W Q hW e hQ => ?_⟩
    exact letQ (D := V b 3) hS hW e i0 i1 (Or.inr rfl) ht (by omega) (by omega) hT (hDk W hW e) (fun _ => hQ W RFR.rf) (fun q => by omega) (fun q => by omega)
  · by_cases c : rulr Vm 4 0 t trb < 0
    · refine ⟨false, cH false (fun _ _ _ _ => rfl) (fun q => by omega), fun W Q hW e hQ => ?_⟩
      exact letQ (D := V b 3) hS hW e i0 i1 (Or.inr rfl) ht (by omega) (by omega) hT (hDk W hW e) (fun q => by omega) (fun _ _ V' f => hQ V' f) (fun _ q => by omega)
    · obtain ⟨-, p2, p3⟩ := clC_p (w := 4) (ac := 0) (day := t) h rfl (by omega)
      rw [ec (by omega)] at p2 p3
      obtain ⟨v, hv⟩ := p2.2.2 (by rw [p3]; omega) (fxM Vm i (V b 3) t)
      refine ⟨v, cH v (fun V2 bb H2 q => ?_) (fun _ _ => hv), fun W Q hW e hQ => ?_⟩
      · rcases q with q | q
        · exact absurd q c
        · rcases H2 with ⟨z1, z2⟩ | ⟨z1, z2, z3, z4⟩
          · omega
          · exact absurd q (by rw [z3.2.2.2.2.2.2.2.2.1]; exact z3.2.2.2.2.2.2.2.2.2)
      · exact letQ (D := V b 3) hS hW e i0 i1 (Or.inr rfl) ht (by omega) (by omega) hT (hDk W hW e) (fun q => by omega) (fun _ q => absurd q c) (fun _ _ V' v' f hv' => by rw [hv'.uniq hv (by omega) (by omega)]; exact hQ V' f)
end MSS
