/-! texts: the invariant behind reading and keeping -/
section TI
variable {d : Nat} {n m a b s N lo : Int} {V V1 VF : Mem} {S S' : Shp} {Q : Int → Mem → Shp → Prop}
theorem INV.read (h : INV n V S) (f1 : RFd (TA (V 137 24)) V V1) (f2 : V1 104 1 = 0) : INV n (up2 (up2 V1 161 11 N) 137 25 0) S := by
  have n10 := h.1.n10
  have F25 : (up2 (up2 V1 161 11 N) 137 25 0) 137 25 = 0 := up2_eq rfl rfl
  have F104 : (up2 (up2 V1 161 11 N) 137 25 0) 104 1 = 0 := by rw [up2_ne (by omega), up2_ne (by omega)]; exact f2
  have hTA : TA (V 137 24) = 108 + 5000 * V 137 24 := rfl
  have F : ∀ p q, ¬ ((p = 104 ∧ (q = 1 ∨ q = 2)) ∨ (p = 108 + 5000 * V 137 24 ∧ (q = 1 ∨ q = 6)) ∨ (109 + 5000 * V 137 24 ≤ p ∧ p ≤ 112 + 5000 * V 137 24) ∨ (p = 161 ∧ q = 11) ∨ (p = 137 ∧ q = 25)) → (up2 (up2 V1 161 11 N) 137 25 0) p q = V p q := by
    intro p q hw
    rw [up2_ne (by omega), up2_ne (by omega)]
    rw [hTA] at f1
    exact f1 p q (by omega) (by omega) (by omega)
  refine h.fr (W := fun p q => ((p = 104 ∧ (q = 1 ∨ q = 2)) ∨ (p = 108 + 5000 * V 137 24 ∧ (q = 1 ∨ q = 6)) ∨ (109 + 5000 * V 137 24 ≤ p ∧ p ≤ 112 + 5000 * V 137 24) ∨ (p = 161 ∧ q = 11) ∨ (p = 137 ∧ q = 25))) F (Int.le_refl _) (cRD := Or.inr ?_)
  refine ⟨⟨by rw [F104, F25], by rw [F25]; omega, by rw [F25]; omega⟩, fun k k0 k1 => by rw [F25] at k1; omega⟩
theorem INV.keep (h : INV n V S) (hn : n ≤ m) (hs : V 137 24 = s) (s9 : s < 10)
    (G : ∀ p q, ¬ ((p = 108 + 5000 * s ∧ q = 0) ∨ (p = 107 ∧ q = s) ∨ (p = 106 ∧ (q = 1 ∨ q = 2)) ∨ (5108 + 5000 * s ≤ p ∧ p ≤ 5112 + 5000 * s) ∨ (p = 161 ∧ q = s) ∨ (p = 137 ∧ q = 24) ∨ (p = 160 ∧ 100 * s ≤ q ∧ q < 100 * s + 100) ∨ (p = 159 ∧ q = s)) → VF p q = V p q)
    (M1 : VF 137 24 = s + 1) (g3 : VF 107 s = TA s) (g4 : VF 106 1 = s + 1) (g5 : VF 106 2 = TA (s + 1))
    (g6 : VF (TA (s + 1)) 2 = TA (s + 1) + 1 ∧ VF (TA (s + 1)) 3 = TA (s + 1) + 2 ∧ VF (TA (s + 1)) 4 = TA (s + 1) + 3 ∧ VF (TA (s + 1)) 5 = TA (s + 1) + 4)
    (g7 : ∀ p, ¬ (TA (s + 1) ≤ p ∧ p ≤ TA (s + 1) + 4) → S'.1 p = S.1 p ∧ S'.2.1 p = S.2.1 p)
    (g8 : S'.1 (TA (s + 1)) = 9 ∧ S'.1 (TA (s + 1) + 1) = 100 ∧ S'.1 (TA (s + 1) + 2) = 100 ∧ S'.1 (TA (s + 1) + 3) = 100 ∧ S'.1 (TA (s + 1) + 4) = 100 ∧ S'.2.1 (TA (s + 1) + 1) = 8 ∧ S'.2.1 (TA (s + 1) + 2) = 8 ∧ S'.2.1 (TA (s + 1) + 3) = 8 ∧ S'.2.1 (TA (s + 1) + 4) = 100)
    (hX : TXT1 VF s s) : INV m VF S' := by
  have hk := h.1
  have n10 := hk.n10
  have n12 := hk.n12
  have n20 := hk.n20
  rw [hs] at n10
  have hTA1 : TA (s + 1) = 5108 + 5000 * s := by unfold TA; omega
  have hTA0 : TA s = 108 + 5000 * s := rfl
  have eS : EXT S S' := by
    intro p hp
    refine g7 p (fun q => hp ?_)
    exact h.2.1.2.2 (s + 1) p (by omega) (by omega) q.1 (by omega)
  refine h.frS (W := fun p q => ((p = 108 + 5000 * s ∧ q = 0) ∨ (p = 107 ∧ q = s) ∨ (p = 106 ∧ (q = 1 ∨ q = 2)) ∨ (5108 + 5000 * s ≤ p ∧ p ≤ 5112 + 5000 * s) ∨ (p = 161 ∧ q = s) ∨ (p = 137 ∧ q = 24) ∨ (p = 160 ∧ 100 * s ≤ q ∧ q < 100 * s + 100) ∨ (p = 159 ∧ q = s))) G hn ?_ ?_ (cTX := Or.inr ?_)
  · obtain ⟨x1, x2, ⟨⟨y1, y2, y3⟩, ⟨y4, y5, y6⟩, ⟨y7, y8, y9⟩, -⟩, x4, x5, x6, x7, x8⟩ := hk.ext eS
    refine ⟨x1, x2.fr (fun p q hd => G p q (by unfold VD at hd; omega)), ⟨?_, ?_, ?_, ?_⟩, ?_, ?_, ?_, ?_, ?_⟩
    · simp (disch := omega) only [G]; exact ⟨y1, y2, y3⟩
    · simp (disch := omega) only [G]; exact ⟨y4, y5, y6⟩
    · simp (disch := omega) only [G]; exact ⟨y7, y8, y9⟩
    · rw [M1, g4]; omega
    · intro j j0 j1
      rw [G _ _ (by omega)] at j1
      obtain ⟨r1, r2⟩ := x4 j j0 j1
      refine ⟨r1, ?_⟩
      simp (disch := omega) only [G]
      exact r2
    · intro i i0 i1
      rw [G _ _ (by omega)] at i1
      obtain ⟨r1, r2⟩ := x5 i i0 i1
      refine ⟨r1, ?_⟩
      simp (disch := omega) only [G]
      exact r2
    · intro t t0 q
      rw [M1] at q
      by_cases ts : t = s
      · rw [ts]; exact g3
      · rw [G _ _ (by omega)]; exact x6 t t0 (by omega)
    · rw [M1]; exact g5
    · intro t t0 q
      rw [M1] at q
      by_cases ts : t = s + 1
      · rw [ts]
        refine ⟨g8, ?_⟩
        exact g6
      · obtain ⟨r1, r2⟩ := x8 t t0 (by omega)
        refine ⟨r1, ?_⟩
        unfold TA at r2 ⊢
        simp (disch := omega) only [G]
        exact r2
  · obtain ⟨u1, u2, u3⟩ := h.2.1
    refine ⟨fun p p0 p1 => ?_, fun p p0 p1 => ?_, fun t p t0 t1 p0 p1 => ?_⟩
    · rw [G _ _ (by omega)] at p0
      rw [(g7 p (by omega)).1]
      exact u1 p p0 p1
    · rw [G _ _ (by omega)] at p0
      rw [(g7 p (by omega)).1]
      exact u2 p p0 p1
    · rw [M1] at t0
      unfold TA at p0 p1
      rw [(g7 p (by omega)).1]
      exact u3 t p (by omega) t1 p0 p1
  · obtain ⟨v1, v2, v3⟩ := h.2.2.2.2.1
    refine ⟨(G _ _ (by omega)).trans v1, (G _ _ (by omega)).trans v2, fun t t0 q => ?_⟩
    rw [M1] at q
    by_cases ts : t = s
    · rw [ts]; exact hX
    · exact (v3 t t0 (by omega)).f2 (G _ _ (by omega)) (G _ _ (by omega)) (fun p hp => G _ _ (by omega)) (fun j k j0 j4 => G _ _ (by unfold TA; omega))
end TI
