section TXD2
variable {d : Nat} {n m a b k s z T lo t : Int} {V V0 V1 V' : Mem} {S : Shp} {Q : Int → Mem → Shp → Prop} {U : Mem → Shp → Prop}
theorem TXT1.f2 (h : TXT1 V t t) (f1 : V' 161 t = V 161 t) (f2 : V' 159 t = V 159 t) (f3 : ∀ p, p < 100 → V' 160 (100 * t + p) = V 160 (100 * t + p)) (f4 : ∀ j k, 0 ≤ j → j ≤ 4 → V' (TA t + j) k = V (TA t + j) k) : TXT1 V' t t := by
  obtain ⟨r0, r1, r2, r3, cs, r4, r5, r6, r7⟩ := h
  have ep : pkM V' (100 * t) (V 161 t) = pkM V (100 * t) (V 161 t) := by
    funext p
    unfold pkM
    by_cases hp : p < V 161 t
    · rw [if_pos hp, if_pos hp]; exact f3 p (by omega)
    · rw [if_neg hp, if_neg hp]
  have e0 : ∀ k, V' (TA t) k = V (TA t) k := fun k => by have := f4 0 k (by omega) (by omega); rw [Int.add_zero] at this; exact this
  refine ⟨fun p p0 p1 => by rw [f1] at p1; rw [f3 p (by omega)]; exact r0 p p0 p1, by rw [e0, f2]; exact r1, by rw [f2]; exact r2, by rw [f1]; exact r3, cs, by rw [f1, ep]; exact r4, by rw [e0]; exact r5, r6, fun i hi => ?_⟩
  unfold CLok
  simp only [f4 1 _ (by omega) (by omega), f4 2 _ (by omega) (by omega), f4 3 _ (by omega) (by omega), f4 4 _ (by omega) (by omega)]
  exact r7 i hi
end TXD2
