/-! the model's reading of a text: bytes, numbers, words -/
def PM (pk : Int → Int) (b n : Int) (V : Mem) : Prop := FV V ∧ (V 137 30 = b ∧ 0 ≤ b ∧ b ≤ 1100) ∧ (V 137 31 = n ∧ 0 ≤ n ∧ n ≤ 100) ∧ (∀ p, 0 ≤ p → p < n → V 160 (b + p) = pk p) ∧ (∀ p, n ≤ p → pk p = -1) ∧ (∀ p, 0 ≤ p → -128 ≤ pk p ∧ pk p < 128)
def ECf (a k : Int) : Prop := (a = 137 ∧ (k = 32 ∨ k = 39 ∨ (42 ≤ k ∧ k ≤ 44))) ∨ a = 163 ∨ a = 164
def EFR (V V' : Mem) : Prop := ∀ a k, ¬ ECf a k → V' a k = V a k
def NFR (V V' : Mem) : Prop := ∀ a k, ¬ (a = 137 ∧ (k = 32 ∨ k = 39)) → V' a k = V a k
section MP
variable {d : Nat} {b n p c x : Int} {pk : Int → Int} {V V' V2 : Mem} {S : Shp} {Q : Int → Mem → Shp → Prop} {U : Mem → Shp → Prop}
theorem EFR.rf : EFR V V := fun _ _ _ => rfl
theorem EFR.tr (h : EFR V V') (g : EFR V' V2) : EFR V V2 := fun a k hn => (g a k hn).trans (h a k hn)
theorem EFR.up (h : EFR V V') {a k v : Int} (he : ECf a k) : EFR V (up2 V' a k v) := fun q j hn => by
  rw [up2_ne]
  · exact h q j hn
  · by_cases e : q = a
    · exact Or.inr (fun e2 => hn (e ▸ e2 ▸ he))
    · exact Or.inl e
theorem NFR.ef (h : NFR V V') : EFR V V' := fun a k hn => h a k (fun q => hn (by unfold ECf; omega))
theorem NFR.rf : NFR V V := fun _ _ _ => rfl
theorem NFR.tr (h : NFR V V') (g : NFR V' V2) : NFR V V2 := fun a k hn => (g a k hn).trans (h a k hn)
theorem NFR.up (h : NFR V V') {k v : Int} (he : k = 32 ∨ k = 39) : NFR V (up2 V' 137 k v) := fun q j hn => by
  rw [up2_ne (by omega)]
  exact h q j hn
theorem PM.fr (h : PM pk b n V) (f : EFR V V') : PM pk b n V' := by
  obtain ⟨h1, ⟨h2, h2'⟩, ⟨h3, h3'⟩, h4, h5⟩ := h
  refine ⟨h1.fr (fun a k q => f a k (by unfold VD at q; unfold ECf; omega)), ⟨(f _ _ (by unfold ECf; omega)).trans h2, h2'⟩, ⟨(f _ _ (by unfold ECf; omega)).trans h3, h3'⟩, fun p p0 p1 => (f _ _ (by unfold ECf; omega)).trans (h4 p p0 p1), h5⟩
theorem PM.lt (h : PM pk b n V) (hc : 0 ≤ pk p) : p < n := by
  by_cases e : p < n
  · exact e
  · have := h.2.2.2.2.1 p (by omega); omega
theorem PM.s (h : PM pk b n V) (p0 : 0 ≤ p) : s32 (pk p) = pk p := by
  have := h.2.2.2.2.2 p p0
  exact s32_id (by omega) (by omega)
theorem m_next (hS : FS S) (h : PM pk b n V) (hp : V 137 32 = p) (p0 : 0 ≤ p) (p1 : p ≤ n) : C_m_next (d + 1) 137 V S Q ↔ Q (pk p) V S := by
  obtain ⟨hV, ⟨h2, h2', h2''⟩, ⟨h3, h3', h3''⟩, h4, h5, h6⟩ := h
  rw [I_m_next]
  by_cases c1 : p < n
  · simp (disch := omega) only [hS.k137, hp, h2, h3, s32_id, c1, hS.k160, hS.n160, hV.r137_27, h4 p p0 c1, show 0 ≤ b + p from by omega, show b + p < 1200 from by omega, b_s32, b_eq0, b_01, l0, l1, true_and, and_true, and_self, true_implies, false_implies, implies_true, forall_const, not_true_eq_false, not_false_eq_true, reduceIte, ite_true, ite_false, reduceCtorEq, forall_eq, Classical.not_not, true_or, or_true, false_or, or_false, and_false, false_and, Int.reduceEq, Int.reduceLT, Int.reduceLE, Int.reduceAdd, Int.reduceSub, Int.reduceMul, Int.reduceNeg]
  · simp (disch := omega) only [hS.k137, hp, h3, s32_id, c1, h5 p (by omega), b_s32, b_eq0, b_01, l0, l1, true_and, and_true, and_self, true_implies, false_implies, implies_true, forall_const, not_true_eq_false, not_false_eq_true, reduceIte, ite_true, ite_false, reduceCtorEq, forall_eq, Classical.not_not, true_or, or_true, false_or, or_false, and_false, false_and, Int.reduceEq, Int.reduceLT, Int.reduceLE, Int.reduceAdd, Int.reduceSub, Int.reduceMul, Int.reduceNeg]
theorem isd_i {x : Int} : isd x = true ↔ 48 ≤ x ∧ x ≤ 57 := by
  unfold isd
  exact decide_eq_true_iff
theorem m_isDigit (hS : FS S) (h : PM pk b n V) (hp : V 137 32 = p) (p0 : 0 ≤ p) (p1 : p ≤ n) : C_m_isDigit (d + 2) 137 V S Q ↔ Q (if isd (pk p) = true then 1 else 0) V S := by
  rw [I_m_isDigit, m_next hS h hp p0 p1, r_in hS, h.s p0]
  by_cases c1 : 48 ≤ pk p ∧ pk p ≤ 57
  · simp (disch := omega) only [s32_id, hS.k137, isd_i, c1, b_s32, b_eq0, b_01, l0, l1, true_and, and_true, and_self, true_implies, false_implies, implies_true, forall_const, not_true_eq_false, not_false_eq_true, reduceIte, ite_true, ite_false, reduceCtorEq, forall_eq, Classical.not_not, true_or, or_true, false_or, or_false, and_false, false_and, Int.reduceEq, Int.reduceLT, Int.reduceLE, Int.reduceAdd, Int.reduceSub, Int.reduceMul, Int.reduceNeg]
  · simp (disch := omega) only [s32_id, hS.k137, isd_i, c1, b_s32, b_eq0, b_01, l0, l1, true_and, and_true, and_self, true_implies, false_implies, implies_true, forall_const, not_true_eq_false, not_false_eq_true, reduceIte, ite_true, ite_false, reduceCtorEq, forall_eq, Classical.not_not, true_or, or_true, false_or, or_false, and_false, false_and, Int.reduceEq, Int.reduceLT, Int.reduceLE, Int.reduceAdd, Int.reduceSub, Int.reduceMul, Int.reduceNeg]
theorem m_takes (hS : FS S) (h : PM pk b n V) (hp : V 137 32 = p) (p0 : 0 ≤ p) (p1 : p ≤ n) (hc : s32 c = c) : C_m_takes (d + 2) 137 c V S Q ↔ if pk p = c then Q 1 (up2 V 137 32 (p + 1)) S else Q 0 V S := by
  rw [I_m_takes, m_next hS h hp p0 p1, h.s p0, hc]
  by_cases c1 : pk p = c
  · simp only [c1, hS.k137, hp, b_s32, b_eq0, b_01, l0, l1, true_and, and_true, and_self, true_implies, false_implies, implies_true, forall_const, not_true_eq_false, not_false_eq_true, reduceIte, ite_true, ite_false, reduceCtorEq, forall_eq, Classical.not_not, true_or, or_true, false_or, or_false, and_false, false_and, Int.reduceEq, Int.reduceLT, Int.reduceLE, Int.reduceAdd, Int.reduceSub, Int.reduceMul, Int.reduceNeg]
  · simp only [c1, hS.k137, hp, b_s32, b_eq0, b_01, l0, l1, true_and, and_true, and_self, true_implies, false_implies, implies_true, forall_const, not_true_eq_false, not_false_eq_true, reduceIte, ite_true, ite_false, reduceCtorEq, forall_eq, Classical.not_not, true_or, or_true, false_or, or_false, and_false, false_and, Int.reduceEq, Int.reduceLT, Int.reduceLE, Int.reduceAdd, Int.reduceSub, Int.reduceMul, Int.reduceNeg]
theorem m_n16 {g : Cnt} {j : Int} (hS : FS S) (h : PM pk b n V) (hp : V 137 32 = p) (p0 : 0 ≤ p) (p1 : p ≤ n) (j0 : 0 ≤ j) (j1 : j < 3) : K_m_takesNumber (d + 2) Q (16, [(2, 137), (0, j)], [], V, S, g) ↔ if isd (pk p) = true then K_m_takesNumber (d + 2) Q (16, [(2, 137), (0, j + 1)], [], up2 (up2 V 137 39 (10 * V 137 39 + pk p - 48)) 137 32 (p + 1), S, g) else Q 1 V S := by
  rw [L_m_takesNumber_16]
  by_cases c1 : isd (pk p) = true
  · simp (disch := omega) only [s32_id, j1, m_isDigit hS h hp p0 p1, m_next hS h hp p0 p1, c1, hS.k137, hp, up2_ne, b_s32, b_eq0, b_01, l0, l1, true_and, and_true, and_self, true_implies, false_implies, implies_true, forall_const, not_true_eq_false, not_false_eq_true, reduceIte, ite_true, ite_false, reduceCtorEq, forall_eq, Classical.not_not, true_or, or_true, false_or, or_false, and_false, false_and, Int.reduceEq, Int.reduceLT, Int.reduceLE, Int.reduceAdd, Int.reduceSub, Int.reduceMul, Int.reduceNeg]
  · simp (disch := omega) only [s32_id, j1, m_isDigit hS h hp p0 p1, c1, b_s32, b_eq0, b_01, l0, l1, true_and, and_true, and_self, true_implies, false_implies, implies_true, forall_const, not_true_eq_false, not_false_eq_true, reduceIte, ite_true, ite_false, reduceCtorEq, forall_eq, Classical.not_not, true_or, or_true, false_or, or_false, and_false, false_and, Int.reduceEq, Int.reduceLT, Int.reduceLE, Int.reduceAdd, Int.reduceSub, Int.reduceMul, Int.reduceNeg]
theorem m_n16e {g : Cnt} : K_m_takesNumber d Q (16, [(2, 137), (0, 3)], [], V, S, g) ↔ Q 1 V S := by
  rw [L_m_takesNumber_16]
  simp (disch := omega) only [s32_id, b_s32, b_eq0, b_01, l0, l1, true_and, and_true, and_self, true_implies, false_implies, implies_true, forall_const, not_true_eq_false, not_false_eq_true, reduceIte, ite_true, ite_false, reduceCtorEq, forall_eq, Classical.not_not, true_or, or_true, false_or, or_false, and_false, false_and, Int.reduceEq, Int.reduceLT, Int.reduceLE, Int.reduceAdd, Int.reduceSub, Int.reduceMul, Int.reduceNeg]
theorem m_number (hS : FS S) (h : PM pk b n V) (hp : V 137 32 = p) (p0 : 0 ≤ p) (p1 : p ≤ n) (hQ : ∀ V', NFR V V' → V' 137 32 = (nmP pk p).2.1 → p ≤ (nmP pk p).2.1 → (nmP pk p).2.1 ≤ n → ((nmP pk p).1 = true → V' 137 39 = (nmP pk p).2.2 ∧ p < (nmP pk p).2.1 ∧ 0 ≤ (nmP pk p).2.2 ∧ (nmP pk p).2.2 ≤ 999) → Q (if (nmP pk p).1 = true then 1 else 0) V' S) : C_m_takesNumber (d + 3) 137 V S Q := by
  rw [I_m_takesNumber, m_isDigit hS h hp p0 p1]
  by_cases c0 : isd (pk p) = true
  · have hn0 := h.lt (p := p) (by have := isd_i.mp c0; omega)
    have r0 := isd_i.mp c0
    have f0 : NFR V (up2 V 137 39 0) := NFR.rf.up (Or.inr rfl)
    have g0 : up2 V 137 39 0 137 32 = p := by rw [up2_ne (by omega)]; exact hp
    have e0 : up2 V 137 39 0 137 39 = 0 := up2_eq rfl rfl
    simp (disch := omega) only [c0, hS.k137, s32_id, b_s32, b_eq0, b_01, l0, l1, true_and, and_true, and_self, true_implies, false_implies, implies_true, forall_const, not_true_eq_false, not_false_eq_true, reduceIte, ite_true, ite_false, reduceCtorEq, forall_eq, Classical.not_not, true_or, or_true, false_or, or_false, and_false, false_and, Int.reduceEq, Int.reduceLT, Int.reduceLE, Int.reduceAdd, Int.reduceSub, Int.reduceMul, Int.reduceNeg]
    rw [m_n16 hS (h.fr f0.ef) g0 p0 p1 (by omega) (by omega), if_pos c0, e0]
    have f1 : NFR V (up2 (up2 (up2 V 137 39 0) 137 39 (10 * 0 + pk p - 48)) 137 32 (p + 1)) := (f0.up (Or.inr rfl)).up (Or.inl rfl)
    have g1 : (up2 (up2 (up2 V 137 39 0) 137 39 (10 * 0 + pk p - 48)) 137 32 (p + 1)) 137 32 = p + 1 := up2_eq rfl rfl
    have e1 : (up2 (up2 (up2 V 137 39 0) 137 39 (10 * 0 + pk p - 48)) 137 32 (p + 1)) 137 39 = pk p - 48 := by rw [up2_ne (by omega), up2_eq rfl rfl]; omega
    generalize (up2 (up2 (up2 V 137 39 0) 137 39 (10 * 0 + pk p - 48)) 137 32 (p + 1)) = V1 at f1 g1 e1 ⊢
    rw [m_n16 hS (h.fr f1.ef) g1 (by omega) (by omega) (by omega) (by omega), e1]
    by_cases c1 : isd (pk (p + 1)) = true
    · have hn1 := h.lt (p := p + 1) (by have := isd_i.mp c1; omega)
      have r1 := isd_i.mp c1
      rw [if_pos c1]
      have f2 : NFR V (up2 (up2 V1 137 39 (10 * (pk p - 48) + pk (p + 1) - 48)) 137 32 (p + 1 + 1)) := (f1.up (Or.inr rfl)).up (Or.inl rfl)
      have g2 : (up2 (up2 V1 137 39 (10 * (pk p - 48) + pk (p + 1) - 48)) 137 32 (p + 1 + 1)) 137 32 = p + 1 + 1 := up2_eq rfl rfl
      have e2 : (up2 (up2 V1 137 39 (10 * (pk p - 48) + pk (p + 1) - 48)) 137 32 (p + 1 + 1)) 137 39 = 10 * (pk p - 48) + pk (p + 1) - 48 := by rw [up2_ne (by omega), up2_eq rfl rfl]
      generalize (up2 (up2 V1 137 39 (10 * (pk p - 48) + pk (p + 1) - 48)) 137 32 (p + 1 + 1)) = V2 at f2 g2 e2 ⊢
      rw [m_n16 hS (h.fr f2.ef) g2 (by omega) (by omega) (by omega) (by omega), e2, show p + 1 + 1 = p + 2 from by omega]
      rw [show p + 1 + 1 = p + 2 from by omega] at g2
      by_cases c2 : isd (pk (p + 2)) = true
      · have hn2 := h.lt (p := p + 2) (by have := isd_i.mp c2; omega)
        have r2 := isd_i.mp c2
        have hv : nmP pk p = (true, p + 3, 100 * (pk p - 48) + 10 * (pk (p + 1) - 48) + (pk (p + 2) - 48)) := by unfold nmP; rw [c0, c1, c2]; rfl
        rw [hv] at hQ
        rw [if_pos c2, show (0 : Int) + 1 + 1 + 1 = 3 from rfl, m_n16e]
        refine hQ _ ((f2.up (Or.inr rfl)).up (Or.inl rfl)) ?_ (by show p ≤ p + 3; omega) (by show p + 3 ≤ n; omega) (fun _ => ⟨?_, by show p < p + 3; omega, by show 0 ≤ 100 * (pk p - 48) + 10 * (pk (p + 1) - 48) + (pk (p + 2) - 48); omega, by show 100 * (pk p - 48) + 10 * (pk (p + 1) - 48) + (pk (p + 2) - 48) ≤ 999; omega⟩)
        · rw [up2_eq rfl rfl]; show p + 2 + 1 = p + 3; omega
        · rw [up2_ne (by omega), up2_eq rfl rfl]; show 10 * (10 * (pk p - 48) + pk (p + 1) - 48) + pk (p + 2) - 48 = 100 * (pk p - 48) + 10 * (pk (p + 1) - 48) + (pk (p + 2) - 48); omega
      · have c2' : isd (pk (p + 2)) = false := by cases hh : isd (pk (p + 2)) with | true => exact (c2 hh).elim | false => rfl
        have hv : nmP pk p = (true, p + 2, 10 * (pk p - 48) + (pk (p + 1) - 48)) := by unfold nmP; rw [c0, c1, c2']; rfl
        rw [hv] at hQ
        rw [if_neg c2]
        exact hQ _ f2 g2 (by show p ≤ p + 2; omega) (by show p + 2 ≤ n; omega) (fun _ => ⟨by rw [e2]; show 10 * (pk p - 48) + pk (p + 1) - 48 = 10 * (pk p - 48) + (pk (p + 1) - 48); omega, by show p < p + 2; omega, by show 0 ≤ 10 * (pk p - 48) + (pk (p + 1) - 48); omega, by show 10 * (pk p - 48) + (pk (p + 1) - 48) ≤ 999; omega⟩)
    · have c1' : isd (pk (p + 1)) = false := by cases hh : isd (pk (p + 1)) with | true => exact (c1 hh).elim | false => rfl
      have hv : nmP pk p = (true, p + 1, pk p - 48) := by unfold nmP; rw [c0, c1']; rfl
      rw [hv] at hQ
      rw [if_neg c1]
      exact hQ _ f1 g1 (by show p ≤ p + 1; omega) (by show p + 1 ≤ n; omega) (fun _ => ⟨e1, by show p < p + 1; omega, by show 0 ≤ pk p - 48; omega, by show pk p - 48 ≤ 999; omega⟩)
  · have c0' : isd (pk p) = false := by cases hh : isd (pk p) with | true => exact (c0 hh).elim | false => rfl
    have hv : nmP pk p = (false, p, 0) := by unfold nmP; rw [c0']; rfl
    rw [hv] at hQ
    simp (disch := omega) only [c0, hS.k137, s32_id, b_s32, b_eq0, b_01, l0, l1, true_and, and_true, and_self, true_implies, false_implies, implies_true, forall_const, not_true_eq_false, not_false_eq_true, reduceIte, ite_true, ite_false, reduceCtorEq, forall_eq, Classical.not_not, true_or, or_true, false_or, or_false, and_false, false_and, Int.reduceEq, Int.reduceLT, Int.reduceLE, Int.reduceAdd, Int.reduceSub, Int.reduceMul, Int.reduceNeg]
    exact hQ V NFR.rf hp (Int.le_refl _) p1 (fun q => by cases q)
theorem m_word {w : Int} (hS : FS S) : ∀ (l : List Int) (V : Mem) (p : Int) (u : XV) (g : Cnt), PM pk b n V → V 137 32 = p → 0 ≤ p → p ≤ n → (∀ (j : Nat) (hj : j < l.length), 96 + iandI (ishrI w (5 * ((l.length : Int) - 1 - (j : Int)))) 31 = l[j]) → l.length ≤ 10 → (∀ c ∈ l, 0 ≤ c ∧ c ≤ 127) → (∀ V', NFR V V' → V' 137 32 = (pW pk l p).2 → p ≤ (pW pk l p).2 → (pW pk l p).2 ≤ n → Q (if (pW pk l p).1 = true then 1 else 0) V' S) → K_m_takesWord (d + 2) Q (4, [(2, 137), (0, w), u, (0, (l.length : Int) - 1)], [], V, S, g) := by
  intro l
  induction l with
  | nil =>
    intro V p u g h hp p0 p1 hl hl2 hl3 hQ
    rw [L_m_takesWord_4]
    simp (disch := omega) only [s32_id, List.length_nil, show ((0 : Nat) : Int) - 1 < 0 from by omega, b_s32, b_eq0, b_01, l0, l1, true_and, and_true, and_self, true_implies, false_implies, implies_true, forall_const, not_true_eq_false, not_false_eq_true, reduceIte, ite_true, ite_false, reduceCtorEq, forall_eq, Classical.not_not, true_or, or_true, false_or, or_false, and_false, false_and, Int.reduceEq, Int.reduceLT, Int.reduceLE, Int.reduceAdd, Int.reduceSub, Int.reduceMul, Int.reduceNeg]
    exact hQ V NFR.rf hp (Int.le_refl _) p1
  | cons c r ih =>
    intro V p u g h hp p0 p1 hl hl2 hl3 hQ
    have h0 := hl 0 (Nat.succ_pos _)
    have hc := hl3 c List.mem_cons_self
    have hc2 : s32 c = c := s32_id (by omega) (by omega)
    have e1 : (((c :: r).length : Nat) : Int) = (r.length : Int) + 1 := by rw [List.length_cons]; omega
    rw [e1] at h0 ⊢
    have h0 : 96 + iandI (ishrI w (5 * ((r.length : Int)))) 31 = c := by rw [show (r.length : Int) = (r.length : Int) + 1 - 1 - ((0 : Nat) : Int) from by omega]; exact h0
    rw [List.length_cons] at hl2
    rw [show (r.length : Int) + 1 - 1 = (r.length : Int) from by omega, L_m_takesWord_4]
    simp (disch := omega) only [s32_id (x := (r.length : Int)), show ¬ (r.length : Int) < 0 from by omega, h0, m_takes hS h hp p0 p1 hc2, b_s32, b_eq0, b_01, l0, l1, true_and, and_true, and_self, true_implies, false_implies, implies_true, forall_const, not_true_eq_false, not_false_eq_true, reduceIte, ite_true, ite_false, reduceCtorEq, forall_eq, Classical.not_not, true_or, or_true, false_or, or_false, and_false, false_and, Int.reduceEq, Int.reduceLT, Int.reduceLE, Int.reduceAdd, Int.reduceSub, Int.reduceMul, Int.reduceNeg]
    by_cases c1 : pk p = c
    · rw [if_pos c1]
      have hn := h.lt (p := p) (by omega)
      have f1 : NFR V (up2 V 137 32 (p + 1)) := NFR.rf.up (Or.inl rfl)
      have hw : pW pk (c :: r) p = pW pk r (p + 1) := by show (if pk p = c then _ else _) = _; rw [if_pos c1]
      rw [hw] at hQ
      try simp (disch := omega) only [s32_id, b_s32, b_eq0, b_01, l0, l1, true_and, and_true, and_self, true_implies, false_implies, implies_true, forall_const, not_true_eq_false, not_false_eq_true, reduceIte, ite_true, ite_false, reduceCtorEq, forall_eq, Classical.not_not, true_or, or_true, false_or, or_false, and_false, false_and, Int.reduceEq, Int.reduceLT, Int.reduceLE, Int.reduceAdd, Int.reduceSub, Int.reduceMul, Int.reduceNeg]
      rw [show (r.length : Int) + -1 = (r.length : Int) - 1 from by omega]
      refine ih _ (p + 1) _ _ (h.fr f1.ef) (up2_eq rfl rfl) (by omega) (by omega) (fun j hj => ?_) (by omega) (fun c hc => hl3 c (List.mem_cons_of_mem _ hc)) (fun V' g1 g2 g3 g4 => hQ V' (f1.tr g1) g2 (by omega) g4)
      have := hl (j + 1) (Nat.succ_lt_succ hj)
      rw [e1] at this
      rw [show (r.length : Int) - 1 - (j : Int) = (r.length : Int) + 1 - 1 - ((j + 1 : Nat) : Int) from by omega]
      exact this
    · rw [if_neg c1]
      have hw : pW pk (c :: r) p = (false, p) := by show (if pk p = c then _ else _) = _; rw [if_neg c1]
      rw [hw] at hQ
      try simp (disch := omega) only [s32_id, b_s32, b_eq0, b_01, l0, l1, true_and, and_true, and_self, true_implies, false_implies, implies_true, forall_const, not_true_eq_false, not_false_eq_true, reduceIte, ite_true, ite_false, reduceCtorEq, forall_eq, Classical.not_not, true_or, or_true, false_or, or_false, and_false, false_and, Int.reduceEq, Int.reduceLT, Int.reduceLE, Int.reduceAdd, Int.reduceSub, Int.reduceMul, Int.reduceNeg]
      exact hQ V NFR.rf hp (Int.le_refl _) p1
theorem pW_app : ∀ (l : List Int) (c p : Int), pW pk (l ++ [c]) p = if (pW pk l p).1 = true then (if pk (pW pk l p).2 = c then (true, (pW pk l p).2 + 1) else (false, (pW pk l p).2)) else (false, (pW pk l p).2)
  | [], c, p => by
    show (if pk p = c then _ else _) = if true = true then _ else _
    rw [if_pos rfl]
    rfl
  | x :: l, c, p => by
    show (if pk p = x then pW pk (l ++ [c]) (p + 1) else (false, p)) = _
    by_cases e : pk p = x
    · have hw : pW pk (x :: l) p = pW pk l (p + 1) := by show (if pk p = x then _ else _) = _; rw [if_pos e]
      rw [if_pos e, pW_app l c (p + 1), hw]
    · have hw : pW pk (x :: l) p = (false, p) := by show (if pk p = x then _ else _) = _; rw [if_neg e]
      rw [if_neg e, hw, if_neg (by simp)]
/-- a word and its blank, as the model takes them -/
theorem m_wordb {w : Int} {l : List Int} {k : Int} (hS : FS S) (h : PM pk b n V) (hp : V 137 32 = p) (p0 : 0 ≤ p) (p1 : p ≤ n) (hk : k = (l.length : Int)) (hl : ∀ (j : Nat) (hj : j < l.length), 96 + iandI (ishrI w (5 * ((l.length : Int) - 1 - (j : Int)))) 31 = l[j]) (hl2 : l.length ≤ 10) (hl3 : ∀ c ∈ l, 0 ≤ c ∧ c ≤ 127) (h0 : ∀ V', NFR V V' → V' 137 32 = (pW pk (l ++ [32]) p).2 → (pW pk (l ++ [32]) p).1 = false → Q 0 V' S) (h1 : ∀ V', NFR V V' → V' 137 32 = (pW pk (l ++ [32]) p).2 → (pW pk (l ++ [32]) p).1 = true → p < (pW pk (l ++ [32]) p).2 → (pW pk (l ++ [32]) p).2 ≤ n → Q 1 V' S) : C_m_takesWord (d + 3) 137 w k V S (fun r2 V2 S2 => ((s32 r2 = 0 → Q 0 V2 S2) ∧ (¬ s32 r2 = 0 → (C_m_takes (d + 3) 137 32 V2 S2 (fun r3 V3 S3 => ((s32 r3 = 0 → Q 0 V3 S3) ∧ (¬ s32 r3 = 0 → Q 1 V3 S3))))))) := by
  subst hk
  rw [I_m_takesWord, hS.k137]
  refine ⟨rfl, m_word hS l V p _ _ h hp p0 p1 hl hl2 hl3 (fun V' g1 g2 g3 g4 => ?_)⟩
  rw [pW_app] at h0 h1
  by_cases c1 : (pW pk l p).1 = true
  · rw [if_pos c1] at h0 h1 ⊢
    simp (disch := omega) only [s32_id, m_takes hS (h.fr g1.ef) g2 (show 0 ≤ (pW pk l p).2 by omega) g4 (show s32 32 = 32 by decide), b_s32, b_eq0, b_01, l0, l1, true_and, and_true, and_self, true_implies, false_implies, implies_true, forall_const, not_true_eq_false, not_false_eq_true, reduceIte, ite_true, ite_false, reduceCtorEq, forall_eq, Classical.not_not, true_or, or_true, false_or, or_false, and_false, false_and, Int.reduceEq, Int.reduceLT, Int.reduceLE, Int.reduceAdd, Int.reduceSub, Int.reduceMul, Int.reduceNeg]
    by_cases c2 : pk (pW pk l p).2 = 32
    · rw [if_pos c2] at h0 h1 ⊢
      have hn := h.lt (p := (pW pk l p).2) (by omega)
      try simp (disch := omega) only [s32_id, b_s32, b_eq0, b_01, l0, l1, true_and, and_true, and_self, true_implies, false_implies, implies_true, forall_const, not_true_eq_false, not_false_eq_true, reduceIte, ite_true, ite_false, reduceCtorEq, forall_eq, Classical.not_not, true_or, or_true, false_or, or_false, and_false, false_and, Int.reduceEq, Int.reduceLT, Int.reduceLE, Int.reduceAdd, Int.reduceSub, Int.reduceMul, Int.reduceNeg]
      exact h1 _ (g1.up (Or.inl rfl)) (up2_eq rfl rfl) rfl (by show p < (pW pk l p).2 + 1; omega) (by show (pW pk l p).2 + 1 ≤ n; omega)
    · rw [if_neg c2] at h0 h1 ⊢
      try simp (disch := omega) only [s32_id, b_s32, b_eq0, b_01, l0, l1, true_and, and_true, and_self, true_implies, false_implies, implies_true, forall_const, not_true_eq_false, not_false_eq_true, reduceIte, ite_true, ite_false, reduceCtorEq, forall_eq, Classical.not_not, true_or, or_true, false_or, or_false, and_false, false_and, Int.reduceEq, Int.reduceLT, Int.reduceLE, Int.reduceAdd, Int.reduceSub, Int.reduceMul, Int.reduceNeg]
      exact h0 _ g1 g2 rfl
  · rw [if_neg c1] at h0 h1 ⊢
    simp (disch := omega) only [s32_id, b_s32, b_eq0, b_01, l0, l1, true_and, and_true, and_self, true_implies, false_implies, implies_true, forall_const, not_true_eq_false, not_false_eq_true, reduceIte, ite_true, ite_false, reduceCtorEq, forall_eq, Classical.not_not, true_or, or_true, false_or, or_false, and_false, false_and, Int.reduceEq, Int.reduceLT, Int.reduceLE, Int.reduceAdd, Int.reduceSub, Int.reduceMul, Int.reduceNeg]
    exact h0 _ g1 g2 rfl
end MP
