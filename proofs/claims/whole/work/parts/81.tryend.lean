/-! the invariant behind a trial -/
section TEN
variable {n m t0 : Int} {V0 VF : Mem} {S : Shp}
theorem tryEnd (h : INV n V0 S) (hn : n ≤ m) (h0 : V0 137 0 = t0)
    (G : ∀ p q, ¬ ((p = 106 ∧ 4 ≤ q ∧ q ≤ 8) ∨ (1000 ≤ p ∧ p < 1200 ∧ p % 10 = 2) ∨ (p = 108 + 5000 * V0 137 24 ∧ q = 0) ∨ (p = 158 ∧ t0 ≤ q % 600) ∨ (159 ≤ p ∧ p ≤ 161 ∧ p ≠ 160 ∧ q = 10) ∨ (p = 160 ∧ 1000 ≤ q ∧ q < 1100) ∨ p = 177 ∨ (p = 137 ∧ ((30 ≤ q ∧ q ≤ 39) ∨ (42 ≤ q ∧ q ≤ 44))) ∨ (162 ≤ p ∧ p ≤ 164)) → VF p q = V0 p q) : INV m VF S := by
  have hk := h.1
  have n20 := hk.n20
  have n10 := hk.n10
  have n599 := hk.n599
  rw [h0] at n599
  obtain ⟨hA, -, -, -, -, hK, -⟩ := h.2.2.2.1
  refine h.fr (W := fun p q => ((p = 106 ∧ 4 ≤ q ∧ q ≤ 8) ∨ (1000 ≤ p ∧ p < 1200 ∧ p % 10 = 2) ∨ (p = 108 + 5000 * V0 137 24 ∧ q = 0) ∨ (p = 158 ∧ t0 ≤ q % 600) ∨ (159 ≤ p ∧ p ≤ 161 ∧ p ≠ 160 ∧ q = 10) ∨ (p = 160 ∧ 1000 ≤ q ∧ q < 1100) ∨ p = 177 ∨ (p = 137 ∧ ((30 ≤ q ∧ q ≤ 39) ∨ (42 ≤ q ∧ q ≤ 44))) ∨ (162 ≤ p ∧ p ≤ 164))) G hn (cLK := Or.inr ?_)
  intro i i0 i1
  rw [G 137 2 (by omega)] at i1
  obtain ⟨-, -, ⟨-, x1, x2⟩⟩ := hA i i0 i1
  obtain ⟨kk, D0, D1, D2, D3⟩ := hK i i0 i1
  rw [h0] at kk D1 D2 D3 x2
  have e0 : VF 137 0 = t0 := (G _ _ (by omega)).trans h0
  have e1 : VF 151 i = V0 151 i := G _ _ (by omega)
  have e2 : VF (1001 + 10 * i) 3 = V0 (1001 + 10 * i) 3 := G _ _ (by omega)
  unfold LK1 DK
  rw [e0, e1, e2]
  refine ⟨fun u u0 u1 => ?_, D0, D1, fun n n0 n1 => ?_, fun q => ?_⟩
  · rw [G _ _ (by omega), G 158 _ (by omega)]
    exact kk u u0 u1
  · rw [G 158 _ (by omega)]
    exact D2 n n0 n1
  · rw [G 158 _ (by omega)]
    exact D3 q
end TEN
