/-! a turn of the law, on the machine's memory -/
section FUL
variable {d : Nat} {n m a b c : Int} {V : Mem} {S : Shp}
theorem cmd_homeF (h : INV n V S) (hn : n ≤ m) (ha : s32 a = a) (hb : s32 b = b) (hf : V 137 1 = 12) : C_x_home (d + 5) 100 a b V S (fun r V1 S1 => C_m_home (d + 5) 137 a b V1 S1 (fun r' V2 S2 => r = r' ∧ INV m V2 S2)) := by
  have hup := h.up hn
  have hk := h.1
  have hS := hk.1
  have hV := hk.2.1
  obtain ⟨c1, c2, c3⟩ := hk.2.2.1.1
  by_cases h1 : 0 ≤ a ∧ a ≤ 99
  · by_cases h2 : 0 ≤ b ∧ b ≤ 99
    · simp (disch := omega) only [I_x_home, p_isWithin, ha, hb, h1, h2, hf, c1, hS.k100, hS.k101, hS.n101, hV.r100_0, s32_id, b_s32, b_eq0, b_01, l0, l1, true_and, and_true, and_self, true_implies, false_implies, implies_true, forall_const, not_true_eq_false, not_false_eq_true, reduceIte, ite_true, ite_false, reduceCtorEq, forall_eq, Classical.not_not, true_or, or_true, false_or, or_false, and_false, false_and, Int.reduceEq, Int.reduceLT, Int.reduceLE, Int.reduceAdd, Int.reduceSub, Int.reduceMul, Int.reduceNeg]
      rw [M_home hS hV ha hb c2 c3, if_neg (fun q => q ⟨h1, h2⟩), if_pos hf]
      exact ⟨rfl, hup⟩
    · simp (disch := omega) only [I_x_home, p_isWithin, ha, hb, h1, h2, hS.k100, s32_id, b_s32, b_eq0, b_01, l0, l1, true_and, and_true, and_self, true_implies, false_implies, implies_true, forall_const, not_true_eq_false, not_false_eq_true, reduceIte, ite_true, ite_false, reduceCtorEq, forall_eq, Classical.not_not, true_or, or_true, false_or, or_false, and_false, false_and, Int.reduceEq, Int.reduceLT, Int.reduceLE, Int.reduceAdd, Int.reduceSub, Int.reduceMul, Int.reduceNeg]
      rw [M_home hS hV ha hb c2 c3, if_pos (fun q => h2 q.2)]
      exact ⟨rfl, hup⟩
  · simp (disch := omega) only [I_x_home, p_isWithin, ha, h1, hS.k100, s32_id, b_s32, b_eq0, b_01, l0, l1, true_and, and_true, and_self, true_implies, false_implies, implies_true, forall_const, not_true_eq_false, not_false_eq_true, reduceIte, ite_true, ite_false, reduceCtorEq, forall_eq, Classical.not_not, true_or, or_true, false_or, or_false, and_false, false_and, Int.reduceEq, Int.reduceLT, Int.reduceLE, Int.reduceAdd, Int.reduceSub, Int.reduceMul, Int.reduceNeg]
    rw [M_home hS hV ha hb c2 c3, if_pos (fun q => h1 q.1)]
    exact ⟨rfl, hup⟩
theorem cmd_lampF (h : INV n V S) (hn : n ≤ m) (ha : s32 a = a) (hb : s32 b = b) (hc : s32 c = c) (hf : V 137 2 = 20) : C_x_lamp (d + 5) 100 a b c V S (fun r V1 S1 => C_m_lamp (d + 5) 137 a b c V1 S1 (fun r' V2 S2 => r = r' ∧ INV m V2 S2)) := by
  have hup := h.up hn
  have hk := h.1
  have hS := hk.1
  have hV := hk.2.1
  obtain ⟨c1, c2, c3⟩ := hk.2.2.1.2.1
  by_cases h1 : 0 ≤ a ∧ a ≤ 7
  · by_cases h2 : 1 ≤ b ∧ b ≤ 999
    · by_cases h5 : -9 ≤ c ∧ c ≤ 9
      · simp (disch := omega) only [I_x_lamp, p_isWithin, ha, hb, hc, h1, h2, hf, h5, c1, hS.k100, hS.k102, hS.n102, hV.r100_1, s32_id, b_s32, b_eq0, b_01, l0, l1, true_and, and_true, and_self, true_implies, false_implies, implies_true, forall_const, not_true_eq_false, not_false_eq_true, reduceIte, ite_true, ite_false, reduceCtorEq, forall_eq, Classical.not_not, true_or, or_true, false_or, or_false, and_false, false_and, Int.reduceEq, Int.reduceLT, Int.reduceLE, Int.reduceAdd, Int.reduceSub, Int.reduceMul, Int.reduceNeg]
        rw [M_lamp hS hV ha hb hc c2 c3, if_neg (fun q => q ⟨h1, h2, h5⟩), if_pos hf]
        exact ⟨rfl, hup⟩
      · simp (disch := omega) only [I_x_lamp, p_isWithin, ha, hb, hc, h1, h2, h5, hS.k100, s32_id, b_s32, b_eq0, b_01, l0, l1, true_and, and_true, and_self, true_implies, false_implies, implies_true, forall_const, not_true_eq_false, not_false_eq_true, reduceIte, ite_true, ite_false, reduceCtorEq, forall_eq, Classical.not_not, true_or, or_true, false_or, or_false, and_false, false_and, Int.reduceEq, Int.reduceLT, Int.reduceLE, Int.reduceAdd, Int.reduceSub, Int.reduceMul, Int.reduceNeg]
        rw [M_lamp hS hV ha hb hc c2 c3, if_pos (fun q => h5 q.2.2)]
        exact ⟨rfl, hup⟩
    · simp (disch := omega) only [I_x_lamp, p_isWithin, ha, hb, h1, h2, hS.k100, s32_id, b_s32, b_eq0, b_01, l0, l1, true_and, and_true, and_self, true_implies, false_implies, implies_true, forall_const, not_true_eq_false, not_false_eq_true, reduceIte, ite_true, ite_false, reduceCtorEq, forall_eq, Classical.not_not, true_or, or_true, false_or, or_false, and_false, false_and, Int.reduceEq, Int.reduceLT, Int.reduceLE, Int.reduceAdd, Int.reduceSub, Int.reduceMul, Int.reduceNeg]
      rw [M_lamp hS hV ha hb hc c2 c3, if_pos (fun q => h2 q.2.1)]
      exact ⟨rfl, hup⟩
  · simp (disch := omega) only [I_x_lamp, p_isWithin, ha, h1, hS.k100, s32_id, b_s32, b_eq0, b_01, l0, l1, true_and, and_true, and_self, true_implies, false_implies, implies_true, forall_const, not_true_eq_false, not_false_eq_true, reduceIte, ite_true, ite_false, reduceCtorEq, forall_eq, Classical.not_not, true_or, or_true, false_or, or_false, and_false, false_and, Int.reduceEq, Int.reduceLT, Int.reduceLE, Int.reduceAdd, Int.reduceSub, Int.reduceMul, Int.reduceNeg]
    rw [M_lamp hS hV ha hb hc c2 c3, if_pos (fun q => h1 q.1)]
    exact ⟨rfl, hup⟩
theorem cmd_textF (h : INV n V S) (hn : n ≤ m) (ha : s32 a = a) (h2 : V 137 24 = 10) : C_x_text (d + 40) 100 a V S (fun r V1 S1 => C_m_text (d + 40) 137 a V1 S1 (fun r' V2 S2 => r = r' ∧ INV m V2 S2)) := by
  have hup := h.up hn
  have hk := h.1
  have hS := hk.1
  have hV := hk.2.1
  have e1 := hk.2.2.1.2.2.2.1
  have s24 : s32 (V 137 24) = V 137 24 := s32_id (by omega) (by omega)
  by_cases h1 : 0 ≤ a ∧ a ≤ 599
  · simp (disch := omega) only [I_x_text, I_m_text, p_isDay, p_misDay hk, ha, h1, h2, e1, s24, I_Terms_isFull, hS.k100, hS.k137, hS.k106, hS.k107, hS.n107, hV.r100_4, hV.r106_0, s32_id (x := 10), hup, b_s32, b_eq0, b_01, l0, l1, true_and, and_true, and_self, true_implies, false_implies, implies_true, forall_const, not_true_eq_false, not_false_eq_true, reduceIte, ite_true, ite_false, reduceCtorEq, forall_eq, Classical.not_not, true_or, or_true, false_or, or_false, and_false, false_and, Int.reduceEq, Int.reduceLT, Int.reduceLE, Int.reduceAdd, Int.reduceSub, Int.reduceMul, Int.reduceNeg]
  · simp (disch := omega) only [I_x_text, I_m_text, p_isDay, p_misDay hk, ha, h1, hS.k100, hS.k137, hup, b_s32, b_eq0, b_01, l0, l1, true_and, and_true, and_self, true_implies, false_implies, implies_true, forall_const, not_true_eq_false, not_false_eq_true, reduceIte, ite_true, ite_false, reduceCtorEq, forall_eq, Classical.not_not, true_or, or_true, false_or, or_false, and_false, false_and, Int.reduceEq, Int.reduceLT, Int.reduceLE, Int.reduceAdd, Int.reduceSub, Int.reduceMul, Int.reduceNeg]
theorem INV.rz {z : Int} (h : INV n V S) : INV n V (S.1, S.2.1, z) := h
end FUL
/-- what the law's memory holds ahead of a turn: the script, the two objects and what they hold -/
def LST (xs : Nat → Int32) (L : Nat) (i n b x m : Int) (V : Mem) (S : Shp) : Prop := ∃ (ρ : Int → Int) (B : Int) (Vl : Mem) (Sl : Shp), (ρ 50 = b ∧ ρ 100 = x ∧ ρ 137 = m) ∧ RM ρ B Vl Sl V S ∧ INV n Vl Sl ∧ (Sl.1 50 = 104 ∧ Sl.2.1 50 = (L : Int) ∧ ∀ k : Nat, Vl 50 (k : Int) = (xs k).toInt) ∧ ∀ a, 60000 + i ≤ a → Sl.1 a = -1
def SCR (xs : Nat → Int32) (L : Nat) (b : Int) (V : Mem) (S : Shp) : Prop := S.1 b = 104 ∧ S.2.1 b = (L : Int) ∧ ∀ k : Nat, V b (k : Int) = (xs k).toInt
section TRN
variable {d t y1 n1 k1 y2 n2 k2 c1 L : Nat} {xs : Nat → Int32} {As : List XV} {i n m' b x m z : Int} {ρ : Int → Int} {B : Int} {V Vl : Mem} {S Sl : Shp} {Q Q' : Int → Mem → Shp → Prop}
theorem RM.scr (hM : RM ρ B Vl Sl V S) (h : SCR xs L 50 Vl Sl) : SCR xs L (ρ 50) V S := by
  obtain ⟨h1, h2, h3⟩ := h
  obtain ⟨k1, k2, k3⟩ := hM.2.1 50 (by rw [h1]; omega)
  have k2 := k2 (by rw [h1]; omega)
  refine ⟨k1.trans h1, k2.trans h2, fun k => ?_⟩
  have k4 := (k3 (k : Int)).1
  rw [h1] at k4
  have k4 : V (ρ 50) (k : Int) = Vl 50 (k : Int) := k4
  exact k4.trans (h3 k)
theorem LST.scr (h : LST xs L i n b x m V S) : SCR xs L b V S := by
  obtain ⟨ρ, B, Vl, Sl, ⟨e1, -, -⟩, hM, -, hs, -⟩ := h
  rw [← e1]
  exact hM.scr hs
theorem LR.ints : ∀ {As : List XV}, (∀ v ∈ As, Nat.beq v.1 2 = false) → LR ρ S As As
  | [], _ => LR.nil
  | (t, x) :: r, h => LR.num (h (t, x) List.mem_cons_self) (LR.ints (fun v hv => h v (List.mem_cons_of_mem _ hv)))
theorem cv_mono (h : Cv MM d t y1 As V S Q) (hq : ∀ r V1 S1, Q r V1 S1 → Q' r V1 S1) : Cv MM d t y1 As V S Q' := by
  obtain ⟨r, V1, S1, hR, hQ⟩ := h
  exact ⟨r, V1, S1, hR, hq r V1 S1 hQ⟩
theorem turn (ht : Nat.beq t 2 = false) (hY1 : YT.any (fun q => Nat.beq q.1 y1 && Nat.beq q.2.1 n1 && Nat.beq q.2.2.1 k1) = true) (hY2 : YT.any (fun q => Nat.beq q.1 y2 && Nat.beq q.2.1 n2 && Nat.beq q.2.2.1 k2) = true) (hc1 : (mcc y1).1 = c1) (hc2 : (mcc y2).1 = 0) (hA : ∀ v ∈ As, Nat.beq v.1 2 = false) (hL : LST xs L i n b x m V S) (i0 : 0 ≤ i)
    (hcmd : ∀ (Vl : Mem) (Sl : Shp), INV n Vl Sl → (∀ a, 60000 + i ≤ a → Sl.1 a = -1) → ∃ z1 : Int, 51 ≤ z1 ∧ z1 + (c1 : Int) ≤ 60000 + (i + 6) ∧ (∀ a, z1 ≤ a → a < z1 + (c1 : Int) → Sl.1 a = -1) ∧ Cv MM d t y1 ((2, 100) :: As) Vl (Sl.1, Sl.2.1, z1) (fun r V1 S1 => Cv MM d t y2 ((2, 137) :: As) V1 S1 (fun r' V2 S2 => r = r' ∧ INV m' V2 S2)))
    (hQ : ∀ (r : Int) (V1' : Mem) (S1' : Shp), SCR xs L b V1' S1' → (∀ Q2' : Int → Mem → Shp → Prop, (∀ (V2' : Mem) (S2' : Shp), LST xs L (i + 6) m' b x m V2' S2' → Q2' r V2' S2') → Cv MM d t y2 ((2, m) :: As) V1' S1' Q2') → Q' r V1' S1') : Cv MM d t y1 ((2, x) :: As) V S Q' := by
  obtain ⟨ρ, B, Vl, Sl, ⟨e1, e2, e3⟩, hM, hI, hs, hF⟩ := hL
  obtain ⟨z1, z51, zb, zf, h⟩ := hcmd Vl Sl hI hF
  have ex : ∀ (ρ1 : Int → Int) (x : Int), (rX ρ1 (t, x)).2 = x := fun ρ1 x => by rw [rX_n ht]
  have x50 : OKr Sl 50 := Or.inr (by rw [hs.1]; omega)
  have x100 : OKr Sl 100 := Or.inr (by rw [hI.1.1.k100]; omega)
  have x137 : OKr Sl 137 := Or.inr (by rw [hI.1.1.k137]; omega)
  have h' : Cv MM d t y1 ((2, 100) :: As) Vl (Sl.1, Sl.2.1, z1) (fun r V1 S1 => FZ 50 Vl (Sl.1, Sl.2.1, z1) V1 S1 ∧ Cv MM d t y2 ((2, 137) :: As) V1 S1 (fun r' V2 S2 => (r = r' ∧ INV m' V2 S2) ∧ FZ 50 V1 S1 V2 S2)) := by
    refine cv_mono (cv_fz (q := 50) hY1 hs.1 (by show 50 < z1; omega) h) (fun r V1 S1 q => ⟨q.2, ?_⟩)
    exact cv_fz hY2 (q.2.1.trans hs.1) (by have := q.2.2.2.2.1; have : z1 ≤ S1.2.2 := this; omega) q.1
  have hL1 : LR ρ Sl ((2, 100) :: As) ((2, ρ 100) :: As) := LR.ref x100 (LR.ints hA)
  have hL2 : LR ρ Sl ((2, 137) :: As) ((2, ρ 137) :: As) := LR.ref x137 (LR.ints hA)
  have zf' : ∀ a, z1 ≤ a → a < z1 + ((mcc y1).1 : Int) → Sl.1 a = -1 := by rw [hc1]; exact zf
  have goal : Cv MM d t y1 ((2, ρ 100) :: As) V S Q' := by
    refine cv_rel hY1 (hM.rez (z1 := z1) (B1 := z1 + ((mcc y1).1 : Int)) (by omega) zf') hL1.rez (Int.le_refl _) h' ?_
    intro r V1 S1 ρ1 V1' S1' hQ1 hM1 hX1 hz1
    rw [ex]
    obtain ⟨hF1, hQ1⟩ := hQ1
    obtain ⟨f1, f2, f3, f4, f5⟩ := id hF1
    have s1 : SCR xs L 50 V1 S1 := ⟨f1.trans hs.1, f2.trans hs.2.1, fun k => by rw [f3]; exact hs.2.2 k⟩
    have b1 : ρ1 50 = b := ((hX1 50 x50).1).trans e1
    refine hQ r V1' S1' (by rw [← b1]; exact hM1.scr s1) (fun Q2' hq2 => ?_)
    have hz1 : S1.2.2 ≤ z1 + ((mcc y1).1 : Int) := hz1
    have k2 : Cv MM d t y2 ((2, ρ 137) :: As) V1' S1' Q2' := by
      refine cv_rel hY2 hM1 (hL2.rez.ext hX1) (by rw [hc2]; show S1.2.2 + 0 ≤ _; omega) hQ1 ?_
      intro r2 V2 S2 ρ2 V2' S2' hQ2 hM2 hX2 hz2
      rw [ex]
      obtain ⟨⟨e, hI2⟩, hF2⟩ := hQ2
      subst e
      have hX : XE ρ ρ2 Sl S2 := hX1.rez.tr hX2
      rw [hc2] at hz2
      have hz2 : S2.2.2 ≤ S1.2.2 + 0 := hz2
      obtain ⟨g1, g2, g3, g4, g5⟩ := hF1.tr hF2
      refine hq2 V2' S2' ⟨ρ2, _, V2, S2, ⟨((hX 50 x50).1).trans e1, ((hX 100 x100).1).trans e2, ((hX 137 x137).1).trans e3⟩, hM2, hI2, ⟨g1.trans hs.1, g2.trans hs.2.1, fun k => by rw [g3]; exact hs.2.2 k⟩, fun a ha => ?_⟩
      rw [g5 a (Or.inr (by rw [hc1] at hz1; omega))]
      exact hF a (by omega)
    rw [e3] at k2
    exact k2
  rw [e2] at goal
  exact goal
end TRN
theorem lcmp_rr (r : Int) : s32 (lcmpI r r) = 0 := by
  unfold lcmpI
  rw [if_neg (Int.lt_irrefl _), if_pos rfl]
  exact l0
theorem s32_x (x : Int32) : s32 x.toInt = x.toInt := by
  show (i32 x.toInt).toInt = x.toInt
  rw [i32_toInt]
