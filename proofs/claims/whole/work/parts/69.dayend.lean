/-! the invariant behind a day -/
section DE
variable {d : Nat} {n m i t b c l r D p q : Int} {V V0 Vm VF W W' : Mem} {S : Shp}
theorem dayEnd (h : INV n V0 S) (h0 : V0 137 0 = t) (t1 : t ≤ 598)
    (G : ∀ p q, ¬ ((p = 100 ∧ q = 12) ∨ (p = 137 ∧ (q = 0 ∨ (30 ≤ q ∧ q ≤ 39) ∨ (42 ≤ q ∧ q ≤ 44))) ∨ (162 ≤ p ∧ p ≤ 164) ∨ (p = 106 ∧ 4 ≤ q ∧ q ≤ 8) ∨ (1000 ≤ p ∧ p < 1200 ∧ p % 10 = 1 ∧ q ≤ 3) ∨ (1000 ≤ p ∧ p < 1200 ∧ p % 10 = 5 ∧ q = t) ∨ (146 ≤ p ∧ p ≤ 148 ∧ q < V0 137 2) ∨ (p = 158 ∧ q % 600 = t)) → VF p q = V0 p q)
    (e1 : VF 100 12 = t + 1) (e2 : VF 137 0 = t + 1) (hD : ∀ j, 0 ≤ j → j < V0 137 2 → DON V0 VF VF t j) : INV (n + 1) VF S := by
  have hk := h.1
  have n20 := hk.n20
  have n599 := hk.n599
  have n10 := hk.n10
  rw [h0] at n599
  obtain ⟨hA, hB, hM, hO, -, hK, hZ⟩ := h.2.2.2.1
  have e137 : VF 137 2 = V0 137 2 := G _ _ (by omega)
  refine h.fr (W := fun p q => ((p = 100 ∧ q = 12) ∨ (p = 137 ∧ (q = 0 ∨ (30 ≤ q ∧ q ≤ 39) ∨ (42 ≤ q ∧ q ≤ 44))) ∨ (162 ≤ p ∧ p ≤ 164) ∨ (p = 106 ∧ 4 ≤ q ∧ q ≤ 8) ∨ (1000 ≤ p ∧ p < 1200 ∧ p % 10 = 1 ∧ q ≤ 3) ∨ (1000 ≤ p ∧ p < 1200 ∧ p % 10 = 5 ∧ q = t) ∨ (146 ≤ p ∧ p ≤ 148 ∧ q < V0 137 2) ∨ (p = 158 ∧ q % 600 = t))) G (by omega) (cSK := Or.inr ?_) (cLA := Or.inr ?_) (cLB := Or.inr ?_) (cLM := Or.inr ?_) (cLO := Or.inr ?_) (cLK := Or.inr ?_) (cLZ := Or.inr ?_)
  · obtain ⟨x1, x2, ⟨⟨y1, y2, y3⟩, ⟨y4, y5, y6⟩, ⟨y7, y8, y9⟩, ⟨y10, y11, y12⟩⟩, x4, x5, x6, x7, x8⟩ := id hk
    have g : ∀ {a k : Int}, ¬ (a = 100 ∧ k = 12) → ¬ (a = 137 ∧ k = 0) → SKD a k → VF a k = V0 a k := fun {a k} n1 n2 hd => G a k (by unfold SKD VD at hd; omega)
    refine ⟨x1, x2.fr (fun p q hd => G p q (by unfold VD at hd; omega)), ⟨?_, ?_, ?_, ?_⟩, ?_, ?_, ?_, ?_, ?_⟩
    · rw [G _ _ (by omega), G _ _ (by omega)]; exact ⟨y1, y2, y3⟩
    · rw [G _ _ (by omega), e137]; exact ⟨y4, y5, y6⟩
    · rw [e1, e2]; omega
    · rw [G _ _ (by omega), G 137 24 (by omega)]; exact ⟨y10, y11, y12⟩
    · intro j j0 j1
      rw [G _ _ (by omega)] at j1
      obtain ⟨r1, r2, r3, r4⟩ := x4 j j0 j1
      exact ⟨r1, (G _ _ (by omega)).trans r2, (G _ _ (by omega)).trans r3, (G _ _ (by omega)).trans r4⟩
    · intro i i0 i1
      rw [e137] at i1
      obtain ⟨r1, r2, r3, r4, r5, r6, r7, r8⟩ := x5 i i0 i1
      exact ⟨r1, (G _ _ (by omega)).trans r2, (G _ _ (by omega)).trans r3, (G _ _ (by omega)).trans r4, (G _ _ (by omega)).trans r5, (G _ _ (by omega)).trans r6, (G _ _ (by omega)).trans r7, (G _ _ (by omega)).trans r8⟩
    · intro t t0 q
      rw [G 137 24 (by omega)] at q
      exact (G _ _ (by omega)).trans (x6 t t0 q)
    · rw [G 137 24 (by omega)]
      exact (G _ _ (by omega)).trans x7
    · intro t t0 q
      rw [G 137 24 (by omega)] at q
      obtain ⟨r1, r2, r3, r4, r5⟩ := x8 t t0 q
      exact ⟨r1, (G _ _ (by unfold TA; omega)).trans r2, (G _ _ (by unfold TA; omega)).trans r3, (G _ _ (by unfold TA; omega)).trans r4, (G _ _ (by unfold TA; omega)).trans r5⟩
  · intro i i0 i1
    rw [e137] at i1
    have := hA i i0 i1
    unfold LA1 at this ⊢
    rw [e2, G _ _ (by omega), G _ _ (by omega), G _ _ (by omega), G _ _ (by omega), G _ _ (by omega), G _ _ (by omega)]
    rw [h0] at this
    exact ⟨this.1, this.2.1, this.2.2.1, this.2.2.2.1, by omega⟩
  · intro i i0 i1
    rw [e137] at i1
    have := hB i i0 i1
    unfold LB1 at this ⊢
    rw [e2, G 137 1 (by omega), G (1000 + 10 * i) 8 (by omega), G (1000 + 10 * i) 9 (by omega), G (1000 + 10 * i) 10 (by omega), G (1000 + 10 * i) 11 (by omega), G (1000 + 10 * i) 12 (by omega), G 142 _ (by omega), G 144 _ (by omega), G 145 _ (by omega), G 152 _ (by omega), G 156 _ (by omega)]
    rw [h0] at this
    obtain ⟨z1, z2, z3, ⟨z4, z5, z6⟩, z7⟩ := this
    exact ⟨z1, z2, z3, ⟨z4, z5, by omega⟩, z7⟩
  · intro i i0 i1
    rw [e137] at i1
    obtain ⟨κ, -, -, -, -, ⟨m1, m2, m3⟩, ⟨m4, m5, m6⟩, m7, m8⟩ := hD i i0 i1
    obtain ⟨-, -, -, q1, q2, q3, q4, q5⟩ := hM i i0 i1
    exact ⟨m1, m2, m3, m5, m6, by omega, by omega, by omega⟩
  · intro i i0 i1
    rw [e137] at i1
    obtain ⟨κ, -, -, -, -, -, ⟨m4, m5, m6⟩, m7, m8⟩ := hD i i0 i1
    have q := hO i i0 i1
    obtain ⟨-, -, -, -, -, -, q4, q5⟩ := hM i i0 i1
    unfold LO1 at q ⊢
    rw [G 142 _ (by omega), G 144 _ (by omega)]
    intro z z2
    exact q z ⟨by omega, by omega⟩
  · intro i i0 i1
    rw [e137] at i1
    obtain ⟨κ, k0, k1, k2, k3, -⟩ := hD i i0 i1
    obtain ⟨-, -, ⟨-, x1, x2⟩⟩ := hA i i0 i1
    obtain ⟨kk, D0, D1, D2, D3⟩ := hK i i0 i1
    rw [h0] at kk D1 D2 D3 x2
    have e151 : VF 151 i = V0 151 i := G _ _ (by omega)
    refine ⟨fun u u0 u1 => ?_, ?_⟩
    · rw [e151] at u0
      rw [e2] at u1
      by_cases ut : u = t
      · rw [ut, k1, k2]; exact ⟨rfl, k0.1, k0.2⟩
      · rw [G _ _ (by omega), G 158 _ (by omega)]
        exact kk u u0 (by omega)
    · unfold DK
      rw [e2, e151, k3]
      by_cases c5 : κ = 5
      · rw [if_pos c5]
        refine ⟨by omega, by omega, fun n n0 n1 => ?_, fun q => ?_⟩
        · by_cases nz : n = 0
          · rw [nz, show 600 * i + (t + 1) - 0 - 1 = 600 * i + t from by omega, k2]; exact c5
          · rw [G 158 _ (by omega)]
            have := D2 (n - 1) (by omega) (by omega)
            rw [show 600 * i + t - (n - 1) - 1 = 600 * i + (t + 1) - n - 1 from by omega] at this
            exact this
        · rw [G 158 _ (by omega)]
          have := D3 (by omega)
          rw [show 600 * i + t - V0 (1001 + 10 * i) 3 - 1 = 600 * i + (t + 1) - (V0 (1001 + 10 * i) 3 + 1) - 1 from by omega] at this
          exact this
      · rw [if_neg c5]
        refine ⟨by omega, by omega, fun n n0 n1 => by omega, fun q => ?_⟩
        rw [show 600 * i + (t + 1) - 0 - 1 = 600 * i + t from by omega, k2]
        exact c5
  · intro i i0 i1
    rw [e137] at i0
    have := hZ i i0 i1
    unfold LZ1 at this ⊢
    simp (disch := omega) only [G]
    exact this
end DE
