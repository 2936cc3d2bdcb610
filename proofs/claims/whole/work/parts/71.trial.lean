/-! a draft that is tried: the component's last text, the model's text 10 -/
noncomputable def DyT (W : Mem) (M : Nat) : Int → Int := fun u => if u = (M : Int) then W 159 10 else W 159 u
noncomputable def CTT (W : Mem) (M : Nat) : Int → List CL := fun u => if u = (M : Int) then csM W 10 else csM W u
noncomputable def cnb (Dy : Int → Int) (C : Int → List CL) (M : Nat) (trb : Bool) (w t : Int) : Int := if rulC Dy C w 0 t (cnt M trb) < 0 then 0 else nbc (clC C w 0 (rulC Dy C w 0 t (cnt M trb)))
section TR
variable {d M : Nat} {n m aw ac w day i D t r : Int} {V W : Mem} {S : Shp} {Q : Int → Mem → Shp → Prop} {U : Mem → Shp → Prop} {trb : Bool} {Dy : Int → Int} {C : Int → List CL}
theorem rul_tN : ∀ N : Nat, N ≤ M → rulC (DyT W M) (CTT W M) aw ac day N = rulN W aw ac day N
  | 0, _ => rfl
  | N + 1, h => by
    have ih := rul_tN N (by omega)
    obtain ⟨r1, r2, -⟩ := rulN_r W aw ac day N
    have e1 : DyT W M (N : Int) = W 159 (N : Int) := if_neg (by omega)
    have e2 : CTT W M (N : Int) = csM W (N : Int) := if_neg (by omega)
    have e3 : DyT W M (rulN W aw ac day N) = W 159 (rulN W aw ac day N) := if_neg (by omega)
    unfold rulC rulN
    rw [ih, e1, e2, e3]
theorem rul_t (hM : (M : Int) = W 137 24) : (rulC (DyT W M) (CTT W M) aw ac day (cnt M true) < 0 ↔ rulr W aw ac day true < 0) ∧ (0 ≤ rulr W aw ac day true → clC (CTT W M) aw ac (rulC (DyT W M) (CTT W M) aw ac day (cnt M true)) = clM W aw ac (rulr W aw ac day true)) := by
  have hc : cnt M true = M + 1 := rfl
  have hm : (W 137 24).toNat = M := by omega
  have e0 : DyT W M (M : Int) = W 159 10 := if_pos rfl
  have e1 : CTT W M (M : Int) = csM W 10 := if_pos rfl
  obtain ⟨r1, r2, -⟩ := rulN_r W aw ac day M
  have e3 : DyT W M (rulN W aw ac day M) = W 159 (rulN W aw ac day M) := if_neg (by omega)
  have e4 : CTT W M (rulN W aw ac day M) = csM W (rulN W aw ac day M) := if_neg (by omega)
  have hs : rulC (DyT W M) (CTT W M) aw ac day (M + 1) = if W 159 10 ≤ day ∧ 0 ≤ la aw ac (csM W 10) ∧ (rulN W aw ac day M < 0 ∨ W 159 (rulN W aw ac day M) ≤ W 159 10) then (M : Int) else rulN W aw ac day M := by
    rw [rulC, rul_tN M (Nat.le_refl _), e0, e1, e3]
  have hr : rulr W aw ac day true = if W 159 10 ≤ day ∧ 0 ≤ la aw ac (csM W 10) ∧ (rulN W aw ac day M < 0 ∨ W 159 (rulN W aw ac day M) ≤ W 159 10) then 10 else rulN W aw ac day M := by
    unfold rulr
    rw [hm]
    by_cases c : W 159 10 ≤ day ∧ 0 ≤ la aw ac (csM W 10) ∧ (rulN W aw ac day M < 0 ∨ W 159 (rulN W aw ac day M) ≤ W 159 10)
    · rw [if_pos ⟨rfl, c⟩, if_pos c]
    · rw [if_neg (fun q => c q.2), if_neg c]
  rw [hc, hs, hr]
  by_cases c : W 159 10 ≤ day ∧ 0 ≤ la aw ac (csM W 10) ∧ (rulN W aw ac day M < 0 ∨ W 159 (rulN W aw ac day M) ≤ W 159 10)
  · rw [if_pos c, if_pos c]
    refine ⟨by omega, fun _ => ?_⟩
    unfold clC clM
    rw [e1]
  · rw [if_neg c, if_neg c]
    refine ⟨Iff.rfl, fun _ => ?_⟩
    unfold clC clM
    rw [e4]
theorem nb_t (hM : (M : Int) = W 137 24) : cnb (DyT W M) (CTT W M) M true w t = nbT W w t true := by
  obtain ⟨h1, h2⟩ := rul_t (aw := w) (ac := 0) (day := t) hM
  unfold cnb nbT
  by_cases c : rulr W w 0 t true < 0
  · rw [if_pos c, if_pos (h1.mpr c)]
  · rw [if_neg c, if_neg (fun q => c (h1.mp q)), h2 (by omega)]
theorem c_settleG (hT : TCT V S M Dy C trb) (st : s32 t = t) (t0 : 0 ≤ t) (hU : U (up2 (up2 (up2 (up2 (up2 V 106 4 (t / 30)) 106 5 (cnb Dy C M trb 1 t)) 106 6 (cnb Dy C M trb 2 t)) 106 7 (oft (rulC Dy C 4 0 t (cnt M trb)))) 106 8 (ofc C (rulC Dy C 4 0 t (cnt M trb)))) S) : C_Terms_settle (d + 9) 106 t V S U := by
  have hS := hT.1
  have up : ∀ (V : Mem) (k v : Int), TCT V S M Dy C trb → 4 ≤ k → k ≤ 8 → TCT (up2 V 106 k v) S M Dy C trb := fun V k v hT k4 k7 => hT.fr (hT.2.1.fr (fun p q hd => up2_ne (by unfold VD at hd; omega))) (fun p q _ _ n2 => up2_ne (by omega))
  have e30 : (s32 t).tdiv (s32 30) = t / 30 := by rw [st, s32_id (x := 30) (by omega) (by omega)]; exact Int.tdiv_eq_ediv_of_nonneg t0
  have s30 : s32 30 ≠ 0 := by rw [s32_id (x := 30) (by omega) (by omega)]; omega
  have s100 : s32 100 ≠ 0 := by rw [s32_id (x := 100) (by omega) (by omega)]; omega
  have h1 := up V 4 (t / 30) hT (by omega) (by omega)
  rw [I_Terms_settle, e30]
  refine ⟨hS.k106, s30, ?_⟩
  simp only [hS.k106, forall_eq, I_Terms_graceOf, I_Terms_runOf, b_s32, b_eq0, b_01, l0, l1, true_and, and_true, and_self, true_implies, false_implies, implies_true, forall_const, not_true_eq_false, not_false_eq_true, reduceIte, ite_true, ite_false, reduceCtorEq, forall_eq, Classical.not_not, true_or, or_true, false_or, or_false, and_false, false_and, Int.reduceEq, Int.reduceLT, Int.reduceLE, Int.reduceAdd, Int.reduceSub, Int.reduceMul, Int.reduceNeg]
  refine c_numberOf (d := d) h1 (Or.inl rfl) st ?_
  have h2 := up _ 5 (cnb Dy C M trb 1 t) h1 (by omega) (by omega)
  simp only [hS.k106, forall_eq, b_s32, b_eq0, b_01, l0, l1, true_and, and_true, and_self, true_implies, false_implies, implies_true, forall_const, not_true_eq_false, not_false_eq_true, reduceIte, ite_true, ite_false, reduceCtorEq, forall_eq, Classical.not_not, true_or, or_true, false_or, or_false, and_false, false_and, Int.reduceEq, Int.reduceLT, Int.reduceLE, Int.reduceAdd, Int.reduceSub, Int.reduceMul, Int.reduceNeg]
  refine c_numberOf (d := d) h2 (Or.inr rfl) st ?_
  have h3 := up _ 6 (cnb Dy C M trb 2 t) h2 (by omega) (by omega)
  simp only [hS.k106, forall_eq, b_s32, b_eq0, b_01, l0, l1, true_and, and_true, and_self, true_implies, false_implies, implies_true, forall_const, not_true_eq_false, not_false_eq_true, reduceIte, ite_true, ite_false, reduceCtorEq, forall_eq, Classical.not_not, true_or, or_true, false_or, or_false, and_false, false_and, Int.reduceEq, Int.reduceLT, Int.reduceLE, Int.reduceAdd, Int.reduceSub, Int.reduceMul, Int.reduceNeg]
  refine c_rulingOf (d := d + 2) h3 (by omega) l0 st ?_
  refine c_textOf (d := d + 6) h3 rfl ?_
  rw [rvl_m h3 rfl]
  simp only [hS.k106, forall_eq, b_s32, b_eq0, b_01, l0, l1, true_and, and_true, and_self, true_implies, false_implies, implies_true, forall_const, not_true_eq_false, not_false_eq_true, reduceIte, ite_true, ite_false, reduceCtorEq, forall_eq, Classical.not_not, true_or, or_true, false_or, or_false, and_false, false_and, Int.reduceEq, Int.reduceLT, Int.reduceLE, Int.reduceAdd, Int.reduceSub, Int.reduceMul, Int.reduceNeg]
  exact ⟨s100, hU⟩
end TR
