/-! commands that make objects: home, lamp -/
theorem fa2 {P : Mem → Shp → Prop} {x : Mem} {y : Shp} : (∀ (V1 : Mem) (S1 : Shp), V1 = x → S1 = y → P V1 S1) ↔ P x y := ⟨fun h => h _ _ rfl rfl, fun h _ _ e1 e2 => by subst e1; subst e2; exact h⟩
theorem NT_KT : ∀ p ∈ NT, KT.any (fun q => q.1 == p.1) = true := by decide +kernel
theorem KT_pos : ∀ p ∈ KT, p.2 ≠ -1 := by decide +kernel
def EXT (S S1 : Shp) : Prop := ∀ a, S.1 a ≠ -1 → S1.1 a = S.1 a ∧ S1.2.1 a = S.2.1 a
theorem FS.ext {S S1 : Shp} (h : FS S) (e : EXT S S1) : FS S1 := by
  have hk : ∀ p ∈ KT, S.1 p.1 ≠ -1 := fun p hp => by rw [h.1 p hp]; exact KT_pos p hp
  refine ⟨fun p hp => ((e p.1 (hk p hp)).1).trans (h.1 p hp), fun p hp => ?_⟩
  obtain ⟨q, hq, hqp⟩ := List.any_eq_true.mp (NT_KT p hp)
  have hqp : q.1 = p.1 := eq_of_beq hqp
  have := hk q hq
  rw [hqp] at this
  exact ((e p.1 this).2).trans (h.2 p hp)
theorem HSK.ext {V : Mem} {S S1 : Shp} {j : Int} (h : HSK V S j) (e : EXT S S1) : HSK V S1 j := by
  obtain ⟨⟨h1, h2, h3⟩, h4⟩ := h
  exact ⟨⟨((e _ (by rw [h1]; decide)).1).trans h1, ((e _ (by rw [h2]; decide)).1).trans h2, ((e _ (by rw [h2]; decide)).2).trans h3⟩, h4⟩
theorem LSK.ext {V : Mem} {S S1 : Shp} {i : Int} (h : LSK V S i) (e : EXT S S1) : LSK V S1 i := by
  obtain ⟨⟨h1, h2, h3, h4, h5, h6, h7, h8⟩, h9⟩ := h
  exact ⟨⟨((e _ (by rw [h1]; decide)).1).trans h1, ((e _ (by rw [h2]; decide)).1).trans h2, ((e _ (by rw [h3]; decide)).1).trans h3, ((e _ (by rw [h4]; decide)).1).trans h4, ((e _ (by rw [h5]; decide)).1).trans h5, ((e _ (by rw [h5]; decide)).2).trans h6, ((e _ (by rw [h7]; decide)).1).trans h7, ((e _ (by rw [h7]; decide)).2).trans h8⟩, h9⟩
theorem TSK.ext {V : Mem} {S S1 : Shp} {t : Int} (h : TSK V S t) (e : EXT S S1) : TSK V S1 t := by
  obtain ⟨⟨h1, h2, h3, h4, h5, h6, h7, h8, h9⟩, h10⟩ := h
  exact ⟨⟨((e _ (by rw [h1]; decide)).1).trans h1, ((e _ (by rw [h2]; decide)).1).trans h2, ((e _ (by rw [h3]; decide)).1).trans h3, ((e _ (by rw [h4]; decide)).1).trans h4, ((e _ (by rw [h5]; decide)).1).trans h5, ((e _ (by rw [h2]; decide)).2).trans h6, ((e _ (by rw [h3]; decide)).2).trans h7, ((e _ (by rw [h4]; decide)).2).trans h8, ((e _ (by rw [h5]; decide)).2).trans h9⟩, h10⟩
theorem SK.ext {V : Mem} {S S1 : Shp} (h : SK V S) (e : EXT S S1) : SK V S1 :=
  ⟨h.1.ext e, h.2.1, h.2.2.1, fun j j0 j1 => (h.2.2.2.1 j j0 j1).ext e, fun i i0 i1 => (h.2.2.2.2.1 i i0 i1).ext e, h.2.2.2.2.2.1, h.2.2.2.2.2.2.1, fun t t0 t1 => (h.2.2.2.2.2.2.2 t t0 t1).ext e⟩
section IV2
variable {n m a : Int} {V V' : Mem} {S S' : Shp} {W : Int → Int → Prop}
theorem INV.frS (h : INV n V S) (hfr : ∀ a k, ¬ W a k → V' a k = V a k) (hn : n ≤ m) (cSK : SK V' S') (cUN : UN V' S')
    (cHD : (∀ a k, W a k → ¬ HDD a k) ∨ HDT V' := by exact Or.inl (fun a k hw hd => by unfold HDD at hd; (try dsimp only at hw); omega))
    (cLA : (∀ a k, W a k → ¬ LAD a k) ∨ ALL V' LA1 := by exact Or.inl (fun a k hw hd => by unfold LAD at hd; (try dsimp only at hw); omega))
    (cLB : (∀ a k, W a k → ¬ LBD a k) ∨ ALL V' LB1 := by exact Or.inl (fun a k hw hd => by unfold LBD at hd; (try dsimp only at hw); omega))
    (cLM : (∀ a k, W a k → ¬ LMD a k) ∨ ALL V' (LM1 m) := by exact Or.inl (fun a k hw hd => by unfold LMD at hd; (try dsimp only at hw); omega))
    (cLO : (∀ a k, W a k → ¬ LOD a k) ∨ ALL V' LO1 := by exact Or.inl (fun a k hw hd => by unfold LOD at hd; (try dsimp only at hw); omega))
    (cLC : (∀ a k, W a k → ¬ LCD a k) ∨ ALL V' LC1 := by exact Or.inl (fun a k hw hd => by unfold LCD at hd; (try dsimp only at hw); omega))
    (cLK : (∀ a k, W a k → ¬ LKD a k) ∨ ALL V' LK1 := by exact Or.inl (fun a k hw hd => by unfold LKD at hd; (try dsimp only at hw); omega))
    (cLZ : (∀ a k, W a k → ¬ LZD a k) ∨ LZZ V' := by exact Or.inl (fun a k hw hd => by unfold LZD at hd; (try dsimp only at hw); omega))
    (cTX : (∀ a k, W a k → ¬ TXD (V 137 24) a k) ∨ TXT V' := by exact Or.inl (fun a k hw hd => by unfold TXD at hd; (try dsimp only at hw); omega))
    (cRD : (∀ a k, W a k → ¬ RDD a k) ∨ RDR V' := by exact Or.inl (fun a k hw hd => by unfold RDD at hd; (try dsimp only at hw); omega))
    (cBK : (∀ a k, W a k → ¬ BKD a k) ∨ BKS V' := by exact Or.inl (fun a k hw hd => by unfold BKD at hd; (try dsimp only at hw); omega))
    (cAC : (∀ a k, W a k → ¬ ACD a k) ∨ ACT V' := by exact Or.inl (fun a k hw hd => by unfold ACD at hd; (try dsimp only at hw); omega))
    (cTP : (∀ a k, W a k → ¬ TPD a k) ∨ TAP V' := by exact Or.inl (fun a k hw hd => by unfold TPD at hd; (try dsimp only at hw); omega)) : INV m V' S' := by
  have q : ∀ D : Int → Int → Prop, (∀ a k, W a k → ¬ D a k) → FRM D V V' := fun D hD a k hd => hfr a k (fun hw => hD a k hw hd)
  obtain ⟨h1, h2, h3, ⟨a1, a2, a3, a4, a5, a6, a7⟩, h5, h6, h7, h8, h9⟩ := h
  have n20 := h1.n20
  have n12 := h1.n12
  exact ⟨cSK, cUN, cHD.elim (fun c => h3.fr n12 (q _ c)) id,
    ⟨cLA.elim (fun c => LA1.fr a1 n20 (q _ c)) id, cLB.elim (fun c => LB1.fr a2 n20 (q _ c)) id, cLM.elim (fun c => LM1.fr (LM1.up a3 hn) n20 (q _ c)) id, cLO.elim (fun c => LO1.fr a4 (q _ c)) id, cLC.elim (fun c => LC1.fr a5 n20 (q _ c)) id, cLK.elim (fun c => LK1.fr a6 n20 (q _ c)) id, cLZ.elim (fun c => a7.fr (q _ c)) id⟩,
    cTX.elim (fun c => h5.fr (q _ c)) id, cRD.elim (fun c => h6.fr (q _ c)) id, cBK.elim (fun c => h7.fr (q _ c)) id, cAC.elim (fun c => h8.fr (q _ c)) id, cTP.elim (fun c => h9.fr (q _ c)) id⟩
end IV2
section C9
variable {d : Nat} {n m a b c e i k z : Int} {V : Mem} {S : Shp} {Q : Int → Mem → Shp → Prop} {U : Mem → Shp → Prop}
theorem p_HomeInit (hz : S.2.2 = z + 1) (hk : S.1 z = 4) (h0 : 0 ≤ z) : C_Home_init (d + 1) z c a b V S U ↔ U (up2 (up2 (up2 (up2 (upo V (z + 1) (fun _ => 0)) z 3 (z + 1)) z 0 c) z 1 a) z 2 b) (upk S.1 (z + 1) 100, upk S.2.1 (z + 1) 20, z + 1 + 1) := by
  have e : upk S.1 (z + 1) 100 z = 4 := by rw [upk_ne (by omega)]; exact hk
  have e2 : s32 20 = 20 := s32_id (by omega) (by omega)
  rw [I_Home_init, hz]
  simp only [hk, e2, fa2, e, forall_eq, b_s32, b_eq0, b_01, l0, l1, true_and, and_true, and_self, true_implies, false_implies, implies_true, forall_const, not_true_eq_false, not_false_eq_true, reduceIte, ite_true, ite_false, reduceCtorEq, forall_eq, Classical.not_not, true_or, or_true, false_or, or_false, and_false, false_and, Int.reduceEq, Int.reduceLT, Int.reduceLE, Int.reduceAdd, Int.reduceSub, Int.reduceMul, Int.reduceNeg, Int.reduceToNat, Nat.reduceAdd, Nat.reduceLeDiff, Nat.zero_add, Nat.le_refl]
theorem X_home (hk : SK V S) (ha : s32 a = a) (hb : s32 b = b) (hz : S.2.2 = 2000 + 10 * V 137 1) : C_x_home (d + 5) 100 a b V S Q ↔ if ¬ ((0 ≤ a ∧ a ≤ 99) ∧ (0 ≤ b ∧ b ≤ 99)) then Q (-2) V S else if V 137 1 = 12 then Q (-4) V S else Q (V 137 1) (up2 (up2 (up2 (up2 (up2 (up2 (upo (upo V (2000 + 10 * V 137 1) (dfl 4)) (2000 + 10 * V 137 1 + 1) (fun _ => 0)) (2000 + 10 * V 137 1) 3 (2000 + 10 * V 137 1 + 1)) (2000 + 10 * V 137 1) 0 (V 137 1)) (2000 + 10 * V 137 1) 1 a) (2000 + 10 * V 137 1) 2 b) 101 (V 137 1) (2000 + 10 * V 137 1)) 100 10 (V 137 1 + 1)) (upk (upk S.1 (2000 + 10 * V 137 1) 4) (2000 + 10 * V 137 1 + 1) 100, upk S.2.1 (2000 + 10 * V 137 1 + 1) 20, 2000 + 10 * V 137 1 + 1 + 1) := by
  have hS := hk.1
  have hV := hk.2.1
  obtain ⟨c1, c2, c3⟩ := hk.2.2.1.1
  by_cases h1 : 0 ≤ a ∧ a ≤ 99
  · by_cases h2 : 0 ≤ b ∧ b ≤ 99
    · by_cases h3 : V 137 1 = 12
      · simp (disch := omega) only [I_x_home, p_isWithin, ha, hb, h1, h2, h3, c1, hS.k100, hS.k101, hS.n101, hV.r100_0, s32_id, b_s32, b_eq0, b_01, l0, l1, true_and, and_true, and_self, true_implies, false_implies, implies_true, forall_const, not_true_eq_false, not_false_eq_true, reduceIte, ite_true, ite_false, reduceCtorEq, forall_eq, Classical.not_not, true_or, or_true, false_or, or_false, and_false, false_and, Int.reduceEq, Int.reduceLT, Int.reduceLE, Int.reduceAdd, Int.reduceSub, Int.reduceMul, Int.reduceNeg]
      · have h4 : V 137 1 < 12 := by omega
        have g1 := fun (V1 : Mem) (U : Mem → Shp → Prop) (c : Int) => p_HomeInit (d := d + 3) (c := c) (a := a) (b := b) (V := V1) (U := U) (S := (upk S.1 (2000 + 10 * V 137 1) 4, S.2.1, 2000 + 10 * V 137 1 + 1)) (z := 2000 + 10 * V 137 1) rfl (upk_eq rfl) (by omega)
        simp (disch := omega) only [I_x_home, p_isWithin, ha, hb, h1, h2, h3, h4, c1, hS.k100, hS.k101, hS.n101, hV.r100_0, hz, fa2, g1, upk_ne, upk_eq, upo_ne, up2_ne, up2_eq, s32_id, b_s32, b_eq0, b_01, l0, l1, true_and, and_true, and_self, true_implies, false_implies, implies_true, forall_const, not_true_eq_false, not_false_eq_true, reduceIte, ite_true, ite_false, reduceCtorEq, forall_eq, Classical.not_not, true_or, or_true, false_or, or_false, and_false, false_and, Int.reduceEq, Int.reduceLT, Int.reduceLE, Int.reduceAdd, Int.reduceSub, Int.reduceMul, Int.reduceNeg, show nfC 4 = 4 from rfl, Nat.reduceAdd, Nat.reduceLeDiff, Int.add_sub_cancel, show V 137 1 + 1 - 1 = V 137 1 from by omega, show ¬ V 137 1 < 0 from by omega, c2]
    · simp (disch := omega) only [I_x_home, p_isWithin, ha, hb, h1, h2, hS.k100, s32_id, b_s32, b_eq0, b_01, l0, l1, true_and, and_true, and_self, true_implies, false_implies, implies_true, forall_const, not_true_eq_false, not_false_eq_true, reduceIte, ite_true, ite_false, reduceCtorEq, forall_eq, Classical.not_not, true_or, or_true, false_or, or_false, and_false, false_and, Int.reduceEq, Int.reduceLT, Int.reduceLE, Int.reduceAdd, Int.reduceSub, Int.reduceMul, Int.reduceNeg]
  · simp (disch := omega) only [I_x_home, p_isWithin, ha, h1, hS.k100, s32_id, b_s32, b_eq0, b_01, l0, l1, true_and, and_true, and_self, true_implies, false_implies, implies_true, forall_const, not_true_eq_false, not_false_eq_true, reduceIte, ite_true, ite_false, reduceCtorEq, forall_eq, Classical.not_not, true_or, or_true, false_or, or_false, and_false, false_and, Int.reduceEq, Int.reduceLT, Int.reduceLE, Int.reduceAdd, Int.reduceSub, Int.reduceMul, Int.reduceNeg]
theorem r_in (hS : FS S) : C_m_in (d + 1) 137 a b c V S Q ↔ Q (if s32 b ≤ s32 a ∧ s32 a ≤ s32 c then 1 else 0) V S := p_in d 137 a b c V S Q hS.k137
theorem M_home (hS : FS S) (hV : FV V) (ha : s32 a = a) (hb : s32 b = b) (c2 : 0 ≤ V 137 1) (c3 : V 137 1 ≤ 12) : C_m_home (d + 5) 137 a b V S Q ↔ if ¬ ((0 ≤ a ∧ a ≤ 99) ∧ (0 ≤ b ∧ b ≤ 99)) then Q (-2) V S else if V 137 1 = 12 then Q (-4) V S else Q (V 137 1) (up2 (up2 (up2 V 138 (V 137 1) a) 139 (V 137 1) b) 137 1 (V 137 1 + 1)) S := by
  by_cases h1 : 0 ≤ a ∧ a ≤ 99
  · by_cases h2 : 0 ≤ b ∧ b ≤ 99
    · by_cases h3 : V 137 1 = 12
      · simp (disch := omega) only [I_m_home, r_in hS, ha, hb, h1, h2, h3, hS.k137, s32_id, b_s32, b_eq0, b_01, l0, l1, true_and, and_true, and_self, true_implies, false_implies, implies_true, forall_const, not_true_eq_false, not_false_eq_true, reduceIte, ite_true, ite_false, reduceCtorEq, forall_eq, Classical.not_not, true_or, or_true, false_or, or_false, and_false, false_and, Int.reduceEq, Int.reduceLT, Int.reduceLE, Int.reduceAdd, Int.reduceSub, Int.reduceMul, Int.reduceNeg]
      · simp (disch := omega) only [I_m_home, r_in hS, ha, hb, h1, h2, h3, hS.k137, hS.k138, hS.n138, hV.r137_3, hS.k139, hS.n139, hV.r137_4, up2_ne, up2_eq, s32_id, b_s32, b_eq0, b_01, l0, l1, true_and, and_true, and_self, true_implies, false_implies, implies_true, forall_const, not_true_eq_false, not_false_eq_true, reduceIte, ite_true, ite_false, reduceCtorEq, forall_eq, Classical.not_not, true_or, or_true, false_or, or_false, and_false, false_and, Int.reduceEq, Int.reduceLT, Int.reduceLE, Int.reduceAdd, Int.reduceSub, Int.reduceMul, Int.reduceNeg, show V 137 1 < 12 from by omega, c2, show V 137 1 + 1 - 1 = V 137 1 from by omega]
    · simp (disch := omega) only [I_m_home, r_in hS, ha, hb, h1, h2, hS.k137, s32_id, b_s32, b_eq0, b_01, l0, l1, true_and, and_true, and_self, true_implies, false_implies, implies_true, forall_const, not_true_eq_false, not_false_eq_true, reduceIte, ite_true, ite_false, reduceCtorEq, forall_eq, Classical.not_not, true_or, or_true, false_or, or_false, and_false, false_and, Int.reduceEq, Int.reduceLT, Int.reduceLE, Int.reduceAdd, Int.reduceSub, Int.reduceMul, Int.reduceNeg]
  · simp (disch := omega) only [I_m_home, r_in hS, ha, hb, h1, hS.k137, s32_id, b_s32, b_eq0, b_01, l0, l1, true_and, and_true, and_self, true_implies, false_implies, implies_true, forall_const, not_true_eq_false, not_false_eq_true, reduceIte, ite_true, ite_false, reduceCtorEq, forall_eq, Classical.not_not, true_or, or_true, false_or, or_false, and_false, false_and, Int.reduceEq, Int.reduceLT, Int.reduceLE, Int.reduceAdd, Int.reduceSub, Int.reduceMul, Int.reduceNeg]
theorem cmd_home (h : INV n V S) (hn : n ≤ m) (ha : s32 a = a) (hb : s32 b = b) (hz : S.2.2 = 2000 + 10 * V 137 1) : C_x_home (d + 5) 100 a b V S (fun r V1 S1 => C_m_home (d + 5) 137 a b V1 S1 (fun r' V2 S2 => r = r' ∧ INV m V2 S2)) := by
  have hup := h.up hn
  have hk := h.1
  have hS := hk.1
  have hV := hk.2.1
  obtain ⟨c1, c2, c3⟩ := hk.2.2.1.1
  rw [X_home hk ha hb hz]
  by_cases h1 : (0 ≤ a ∧ a ≤ 99) ∧ (0 ≤ b ∧ b ≤ 99)
  · rw [if_neg (fun q => q h1)]
    by_cases h3 : V 137 1 = 12
    · rw [if_pos h3, M_home hS hV ha hb c2 c3, if_neg (fun q => q h1), if_pos h3]
      exact ⟨rfl, hup⟩
    · rw [if_neg h3]
      generalize hV1 : (up2 (up2 (up2 (up2 (up2 (up2 (upo (upo V (2000 + 10 * V 137 1) (dfl 4)) (2000 + 10 * V 137 1 + 1) (fun _ => 0)) (2000 + 10 * V 137 1) 3 (2000 + 10 * V 137 1 + 1)) (2000 + 10 * V 137 1) 0 (V 137 1)) (2000 + 10 * V 137 1) 1 a) (2000 + 10 * V 137 1) 2 b) 101 (V 137 1) (2000 + 10 * V 137 1)) 100 10 (V 137 1 + 1)) = V1
      have F : ∀ p q, ¬ (p = 2000 + 10 * V 137 1 ∨ p = 2001 + 10 * V 137 1 ∨ (p = 101 ∧ q = V 137 1) ∨ (p = 100 ∧ q = 10)) → V1 p q = V p q := by
        intro p q hw
        subst hV1
        simp (disch := omega) only [up2_ne, upo_ne]
      have N0 : V1 (2000 + 10 * V 137 1) 0 = V 137 1 := by subst hV1; simp (disch := omega) only [up2_ne, up2_eq]
      have N1 : V1 (2000 + 10 * V 137 1) 1 = a := by subst hV1; simp (disch := omega) only [up2_ne, up2_eq]
      have N2 : V1 (2000 + 10 * V 137 1) 2 = b := by subst hV1; simp (disch := omega) only [up2_ne, up2_eq]
      have N3 : V1 (2000 + 10 * V 137 1) 3 = 2001 + 10 * V 137 1 := by subst hV1; simp (disch := omega) only [up2_ne, up2_eq]; omega
      have N4 : ∀ k, V1 (2001 + 10 * V 137 1) k = 0 := by intro k; subst hV1; simp (disch := omega) only [up2_ne, upo_eq]
      have N5 : V1 101 (V 137 1) = 2000 + 10 * V 137 1 := by subst hV1; simp (disch := omega) only [up2_ne, up2_eq]
      have N6 : V1 100 10 = V 137 1 + 1 := by subst hV1; simp (disch := omega) only [up2_ne, up2_eq]
      clear hV1
      have e1 : V1 137 1 = V 137 1 := F _ _ (by omega)
      have eS : EXT S (upk (upk S.1 (2000 + 10 * V 137 1) 4) (2000 + 10 * V 137 1 + 1) 100, upk S.2.1 (2000 + 10 * V 137 1 + 1) 20, 2000 + 10 * V 137 1 + 1 + 1) := by
        intro p hp
        have u := h.2.1.2.1 p
        exact ⟨by show upk _ _ _ p = _; rw [upk_ne (fun e => hp (u (by omega) (by omega))), upk_ne (fun e => hp (u (by omega) (by omega)))], by show upk _ _ _ p = _; rw [upk_ne (fun e => hp (u (by omega) (by omega)))]⟩
      generalize hS1 : (upk (upk S.1 (2000 + 10 * V 137 1) 4) (2000 + 10 * V 137 1 + 1) 100, upk S.2.1 (2000 + 10 * V 137 1 + 1) 20, 2000 + 10 * V 137 1 + 1 + 1) = S1 at eS ⊢
      have K0 : S1.1 (2000 + 10 * V 137 1) = 4 := by subst hS1; show upk _ _ _ _ = _; rw [upk_ne (by omega), upk_eq rfl]
      have K1 : S1.1 (2001 + 10 * V 137 1) = 100 := by subst hS1; show upk _ _ _ _ = _; rw [upk_eq (by omega)]
      have K2 : S1.2.1 (2001 + 10 * V 137 1) = 20 := by subst hS1; show upk _ _ _ _ = _; rw [upk_eq (by omega)]
      have K3 : ∀ p, p ≠ 2000 + 10 * V 137 1 → p ≠ 2001 + 10 * V 137 1 → S1.1 p = S.1 p := by intro p q1 q2; subst hS1; show upk _ _ _ _ = _; rw [upk_ne (by omega), upk_ne q1]
      clear hS1
      have hV1 : FV V1 := hV.fr (fun p q hd => F p q (by unfold VD at hd; omega))
      rw [M_home (hS.ext eS) hV1 ha hb (by omega) (by omega), e1, if_neg (fun q => q h1), if_neg h3]
      have G : ∀ p q, ¬ (p = 2000 + 10 * V 137 1 ∨ p = 2001 + 10 * V 137 1 ∨ (p = 101 ∧ q = V 137 1) ∨ (p = 100 ∧ q = 10) ∨ (p = 137 ∧ q = 1) ∨ (p = 138 ∧ q = V 137 1) ∨ (p = 139 ∧ q = V 137 1)) → up2 (up2 (up2 V1 138 (V 137 1) a) 139 (V 137 1) b) 137 1 (V 137 1 + 1) p q = V p q := by
        intro p q hw
        simp (disch := omega) only [up2_ne]
        exact F p q (by omega)
      have M0 : up2 (up2 (up2 V1 138 (V 137 1) a) 139 (V 137 1) b) 137 1 (V 137 1 + 1) (2000 + 10 * V 137 1) 0 = V 137 1 := by simp (disch := omega) only [up2_ne]; exact N0
      have M1 : up2 (up2 (up2 V1 138 (V 137 1) a) 139 (V 137 1) b) 137 1 (V 137 1 + 1) (2000 + 10 * V 137 1) 1 = a := by simp (disch := omega) only [up2_ne]; exact N1
      have M2 : up2 (up2 (up2 V1 138 (V 137 1) a) 139 (V 137 1) b) 137 1 (V 137 1 + 1) (2000 + 10 * V 137 1) 2 = b := by simp (disch := omega) only [up2_ne]; exact N2
      have M3 : up2 (up2 (up2 V1 138 (V 137 1) a) 139 (V 137 1) b) 137 1 (V 137 1 + 1) (2000 + 10 * V 137 1) 3 = 2001 + 10 * V 137 1 := by simp (disch := omega) only [up2_ne]; exact N3
      have M4 : ∀ k, up2 (up2 (up2 V1 138 (V 137 1) a) 139 (V 137 1) b) 137 1 (V 137 1 + 1) (2001 + 10 * V 137 1) k = 0 := by intro k; simp (disch := omega) only [up2_ne]; exact N4 k
      have M5 : up2 (up2 (up2 V1 138 (V 137 1) a) 139 (V 137 1) b) 137 1 (V 137 1 + 1) 101 (V 137 1) = 2000 + 10 * V 137 1 := by simp (disch := omega) only [up2_ne]; exact N5
      have M6 : up2 (up2 (up2 V1 138 (V 137 1) a) 139 (V 137 1) b) 137 1 (V 137 1 + 1) 100 10 = V 137 1 + 1 := by simp (disch := omega) only [up2_ne]; exact N6
      have M7 : up2 (up2 (up2 V1 138 (V 137 1) a) 139 (V 137 1) b) 137 1 (V 137 1 + 1) 138 (V 137 1) = a := by simp (disch := omega) only [up2_ne, up2_eq]
      have M8 : up2 (up2 (up2 V1 138 (V 137 1) a) 139 (V 137 1) b) 137 1 (V 137 1 + 1) 139 (V 137 1) = b := by simp (disch := omega) only [up2_ne, up2_eq]
      have M9 : up2 (up2 (up2 V1 138 (V 137 1) a) 139 (V 137 1) b) 137 1 (V 137 1 + 1) 137 1 = V 137 1 + 1 := by simp (disch := omega) only [up2_eq]
      generalize (up2 (up2 (up2 V1 138 (V 137 1) a) 139 (V 137 1) b) 137 1 (V 137 1 + 1)) = V2 at G M0 M1 M2 M3 M4 M5 M6 M7 M8 M9 ⊢
      have hke := hk.ext eS
      have n20 := hk.n20
      obtain ⟨hh, hz0⟩ := h.2.2.1
      refine ⟨rfl, h.frS (W := fun p q => p = 2000 + 10 * V 137 1 ∨ p = 2001 + 10 * V 137 1 ∨ (p = 101 ∧ q = V 137 1) ∨ (p = 100 ∧ q = 10) ∨ (p = 137 ∧ q = 1) ∨ (p = 138 ∧ q = V 137 1) ∨ (p = 139 ∧ q = V 137 1)) G hn ?_ ?_ (cHD := Or.inr ?_) (cLB := Or.inr ?_)⟩
      · obtain ⟨g1, g2, ⟨-, ⟨b1, b2, b3⟩, ⟨f1, f2, f3⟩, ⟨i1, i2, i3⟩⟩, g4, g5, g6, g7, g8⟩ := hke
        refine ⟨g1, g2.fr (fun p q hd => G p q (by unfold VD at hd; omega)), ⟨⟨M6.trans M9.symm, by omega, by omega⟩, ?_, ?_, ?_⟩, ?_, ?_, ?_, ?_, ?_⟩
        · simp (disch := omega) only [G]; exact ⟨b1, b2, b3⟩
        · simp (disch := omega) only [G]; exact ⟨f1, f2, f3⟩
        · simp (disch := omega) only [G]; exact ⟨i1, i2, i3⟩
        · intro j j0 j1
          rw [M9] at j1
          by_cases e : j = V 137 1
          · subst e
            exact ⟨⟨K0, K1, K2⟩, M5, M0, M3⟩
          · obtain ⟨r1, r2, r3, r4⟩ := g4 j j0 (by omega)
            refine ⟨r1, ?_⟩
            simp (disch := omega) only [G]
            exact ⟨r2, r3, r4⟩
        · intro i i0 i1
          rw [G _ _ (by omega)] at i1
          obtain ⟨r1, r2⟩ := g5 i i0 i1
          refine ⟨r1, ?_⟩
          simp (disch := omega) only [G]
          exact r2
        · intro t t0 t1
          rw [G _ _ (by omega)] at t1 ⊢
          exact g6 t t0 t1
        · rw [G _ _ (by omega), G _ _ (by omega)]
          exact g7
        · intro t t0 t1
          rw [G _ _ (by omega)] at t1
          obtain ⟨r1, r2⟩ := g8 t t0 t1
          refine ⟨r1, ?_⟩
          unfold TA at r2 ⊢
          simp (disch := omega) only [G]
          exact r2
      · obtain ⟨u1, u2, u3⟩ := h.2.1
        refine ⟨fun p p0 p1 => ?_, fun p p0 p1 => ?_, fun t p t0 t1 p0 p1 => ?_⟩
        · rw [G _ _ (by omega)] at p0
          rw [K3 p (by omega) (by omega)]
          exact u1 p p0 p1
        · rw [M9] at p0
          rw [K3 p (by omega) (by omega)]
          exact u2 p (by omega) p1
        · rw [G _ _ (by omega)] at t0
          unfold TA at p0 p1
          rw [K3 p (by omega) (by omega)]
          exact u3 t p t0 t1 p0 p1
      · refine ⟨fun j j0 j1 => ?_, fun j k j0 j1 k0 k1 => ?_⟩
        · rw [M9] at j1
          by_cases e : j = V 137 1
          · subst e
            refine ⟨by rw [M1, M2, M7, M8]; omega, fun k k0 k1 => ?_⟩
            rw [M4, G _ _ (by omega), hz0 _ k (by omega) (by omega) k0 k1]
            omega
          · refine ⟨?_, fun k k0 k1 => ?_⟩
            · simp (disch := omega) only [G]
              exact (hh j j0 (by omega)).1
            · simp (disch := omega) only [G]
              exact (hh j j0 (by omega)).2 k k0 k1
        · rw [M9] at j0
          rw [G _ _ (by omega)]
          exact hz0 j k (by omega) j1 k0 k1
      · intro i i0 i1
        rw [G _ _ (by omega)] at i1
        have q := h.2.2.2.1.2.1 i i0 i1
        unfold LB1 at q ⊢
        rw [M9]
        simp (disch := omega) only [G]
        refine ⟨q.1, q.2.1, q.2.2.1, q.2.2.2.1, ?_⟩
        have q5 := q.2.2.2.2
        omega
  · rw [if_pos h1, M_home hS hV ha hb c2 c3, if_pos h1]
    exact ⟨rfl, hup⟩
end C9
