section TBH
variable {M : Nat} {n : Int} {V V0 Wd : Mem} {S : Shp}
/-- the component's texts with the draft behind them -/
theorem tctT (h : INV n V0 S) (hM : (M : Int) = V0 137 24) (hV : FV V) (fr : ∀ p q, ¬ (137 ≤ p ∧ p ≤ 199) → ¬ (1000 ≤ p ∧ p < 1200) → ¬ (p = 106 ∧ 3 ≤ q ∧ q ≤ 8) → ¬ (p = TA (M : Int) ∧ q = 0) → V p q = V0 p q) (e3 : V 106 3 = 1) (ed : V (TA (M : Int)) 0 = Wd 159 10) (hd : 0 ≤ Wd 159 10 ∧ Wd 159 10 ≤ 599) (hX : TXC V (M : Int) (csM Wd 10)) (hW : ∀ u, 0 ≤ u → u < (M : Int) → Wd 159 u = V0 159 u ∧ csM Wd u = csM V0 u) : TCT V S M (DyT Wd M) (CTT Wd M) true := by
  have hk := h.1
  have n10 := hk.n10
  obtain ⟨hS, hV0, ⟨h1, h2⟩, h3, h4, h5, h6⟩ := h.tct
  have eM : (V0 137 24).toNat = M := by omega
  rw [eM] at h1 h2 h3 h5 h6
  refine ⟨hS, hV, ⟨(fr _ _ (by omega) (by omega) (by omega) (by unfold TA; omega)).trans h1, h2⟩, (fr _ _ (by omega) (by omega) (by omega) (by unfold TA; omega)).trans h3, e3, fun t t0 t1 => (fr _ _ (by omega) (by omega) (by omega) (by unfold TA; omega)).trans (h5 t t0 t1), fun t t0 q => ?_⟩
  by_cases e : t = (M : Int)
  · subst e
    obtain ⟨g1, g2, g3, g4, g5⟩ := hk.2.2.2.2.2.2.2 (M : Int) t0 (by omega)
    have K0 : ∀ k, 1 ≤ k → V (TA (M : Int)) k = V0 (TA (M : Int)) k := fun k k1 => fr _ _ (by unfold TA; omega) (by unfold TA; omega) (by unfold TA; omega) (by omega)
    have d0 : DyT Wd M (M : Int) = Wd 159 10 := if_pos rfl
    have c0 : CTT Wd M (M : Int) = csM Wd 10 := if_pos rfl
    rw [d0, c0]
    exact ⟨⟨g1, (K0 _ (by omega)).trans g2, (K0 _ (by omega)).trans g3, (K0 _ (by omega)).trans g4, (K0 _ (by omega)).trans g5⟩, ed, hd, hX, csM_r Wd 10⟩
  · have tl : t < (M : Int) := by
      rcases q with q | q
      · exact q
      · exact absurd q.1 e
    obtain ⟨⟨g1, g2, g3, g4, g5⟩, g6, g7, ⟨g8, g9, g10⟩, g11⟩ := h6 t t0 (Or.inl tl)
    obtain ⟨w1, w2⟩ := hW t t0 tl
    have K : ∀ j k, 0 ≤ j → j ≤ 4 → V (TA t + j) k = V0 (TA t + j) k := fun j k j0 j4 => fr _ _ (by unfold TA; omega) (by unfold TA; omega) (by unfold TA; omega) (by unfold TA; omega)
    have K0 : ∀ k, V (TA t) k = V0 (TA t) k := fun k => fr _ _ (by unfold TA; omega) (by unfold TA; omega) (by unfold TA; omega) (by unfold TA; omega)
    have d0 : DyT Wd M t = V0 159 t := (if_neg e).trans w1
    have c0 : CTT Wd M t = csM V0 t := (if_neg e).trans w2
    rw [d0, c0]
    refine ⟨⟨g1, (K0 _).trans g2, (K0 _).trans g3, (K0 _).trans g4, (K0 _).trans g5⟩, (K0 _).trans g6, g7, ⟨(K0 _).trans g8, g9, fun i hi => ?_⟩, g11⟩
    exact CLTx.eq (g10 i hi) (fun k => K 1 k (by omega) (by omega)) (fun k => K 2 k (by omega) (by omega)) (fun k => K 3 k (by omega) (by omega)) (fun k => K 4 k (by omega) (by omega))
end TBH
