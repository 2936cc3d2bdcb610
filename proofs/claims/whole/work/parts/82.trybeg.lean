/-! how a trial begins -/
section TBG
variable {M : Nat} {n t t0 j : Int} {V V0 V1 Vm Wd : Mem} {S : Shp}
theorem nbT_b (hT : TCT V S M (DyT Wd M) (CTT Wd M) true) (hM : (M : Int) = Wd 137 24) (t : Int) : (0 ≤ nbT Wd 1 t true ∧ nbT Wd 1 t true ≤ 999) ∧ (nbT Wd 2 t true = 0 ∨ nbT Wd 2 t true = 1) := by
  rw [← nb_t (w := 1) (t := t) hM, ← nb_t (w := 2) (t := t) hM]
  unfold cnb
  refine ⟨?_, ?_⟩
  · by_cases c : rulC (DyT Wd M) (CTT Wd M) 1 0 t (cnt M true) < 0
    · rw [if_pos c]; omega
    · rw [if_neg c]
      obtain ⟨-, ⟨-, q, -⟩, e⟩ := clC_p (w := 1) (ac := 0) (day := t) hT rfl (by omega)
      rw [nbc_1 (Or.inl e)]
      omega
  · by_cases c : rulC (DyT Wd M) (CTT Wd M) 2 0 t (cnt M true) < 0
    · rw [if_pos c]; exact Or.inl rfl
    · rw [if_neg c]
      obtain ⟨-, ⟨-, q, -⟩, e⟩ := clC_p (w := 2) (ac := 0) (day := t) hT rfl (by omega)
      rw [nbc_1 (Or.inr e)]
      omega
/-- the meters beside, as a trial finds them -/
theorem LMP.ini (h : INV n V0 S) (h0 : V0 137 0 = t0) (j0 : 0 ≤ j) (j1 : j < V0 137 2) (hv : ∀ k, 0 ≤ k → k ≤ 3 → V (1002 + 10 * j) k = V0 (1001 + 10 * j) k) (hm : ∀ p k, 146 ≤ p → p ≤ 158 → Vm p k = V0 p k) : LMP V0 V Vm t0 t0 j := by
  obtain ⟨hA, -, hM, -, -, hK, -⟩ := h.2.2.2.1
  obtain ⟨-, -, ⟨-, x1, x2⟩⟩ := hA j j0 j1
  obtain ⟨f1, f2, f3, f4, f5, f6, f7, f8⟩ := hM j j0 j1
  obtain ⟨kk, D0, D1, D2, D3⟩ := hK j j0 j1
  rw [h0] at kk D1 D2 D3 x2
  unfold LMP
  rw [hv 0 (by omega) (by omega), hv 1 (by omega) (by omega), hv 2 (by omega) (by omega), hv 3 (by omega) (by omega)]
  simp (disch := omega) only [hm]
  refine ⟨⟨f1, f2, f3⟩, ⟨trivial, f4, f5⟩, ⟨Int.le_refl _, by omega⟩, D0, D1, D2, fun q => ⟨D3 q, ?_⟩⟩
  have g := (kk (t0 - V0 (1001 + 10 * j) 3 - 1) (by omega) (by omega)).2
  rw [show 600 * j + (t0 - V0 (1001 + 10 * j) 3 - 1) = 600 * j + t0 - V0 (1001 + 10 * j) 3 - 1 from by omega] at g
  exact g
end TBG
