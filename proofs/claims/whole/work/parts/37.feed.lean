/-! commands: feed, broke -/
theorem and255 (x : Int) : iandI x 255 = x % 256 := by
  have e : iandI x 255 = ((i32 x).toBitVec &&& 255#32).toInt := by
    show (i32 x &&& i32 255).toInt = _
    show ((i32 x &&& i32 255).toBitVec).toInt = _
    rw [Int32.toBitVec_and]
    rfl
  have e2 : ((i32 x).toBitVec &&& 255#32).toNat = (x % 4294967296).toNat % 256 := by
    rw [BitVec.toNat_and, n32]
    exact Nat.and_two_pow_sub_one_eq_mod _ 8
  rw [e, BitVec.toInt_eq_toNat_of_lt (by rw [e2]; show 2 * ((x % 4294967296).toNat % 256) < 4294967296; omega), e2]
  omega
theorem bm256 (x : Int) : Int.bmod x 256 % 256 = x % 256 ∧ -128 ≤ Int.bmod x 256 ∧ Int.bmod x 256 < 128 := by
  rw [Int.bmod_def]
  split <;> omega
section FD
variable {d : Nat} {n m a b c e f i j k t L : Int} {V : Mem} {S : Shp} {Q : Int → Mem → Shp → Prop} {U : Mem → Shp → Prop}
theorem p_rappend (hS : FS S) (hV : FV V) (h0 : 0 ≤ V 104 1) (h1 : V 104 1 < 100) : C_Reader_append (d + 1) 104 b V S U ↔ U (up2 (up2 V 105 (V 104 1) b) 104 1 (V 104 1 + 1)) S := by
  rw [I_Reader_append]
  simp (disch := omega) only [hS.k104, hV.r104_0, hS.k105, hS.n105, s32_id, h0, h1, show ¬ V 104 1 < 0 from by omega, up2_ne, b_s32, b_eq0, b_01, l0, l1, true_and, and_true, and_self, true_implies, false_implies, implies_true, forall_const, not_true_eq_false, not_false_eq_true, reduceIte, ite_true, ite_false, reduceCtorEq, forall_eq, Classical.not_not, true_or, or_true, false_or, or_false, and_false, false_and, Int.reduceEq, Int.reduceLT, Int.reduceLE, Int.reduceAdd, Int.reduceSub, Int.reduceMul, Int.reduceNeg]
theorem kx_feed {g : Cnt} (hS : FS S) : ∀ (N : Nat) (V : Mem) (u2 : XV), FV V → 0 ≤ V 104 1 → V 104 1 + (N : Int) ≤ 100 → N ≤ 4 → (∀ V1 : Mem, (∀ p q, ¬ ((p = 105 ∧ V 104 1 ≤ q) ∨ (p = 104 ∧ q = 1)) → V1 p q = V p q) → V1 104 1 = V 104 1 + (N : Int) → (∀ s : Nat, s < N → V1 105 (V 104 1 + (s : Int)) = ishrI b (8 * ((N : Int) - 1 - (s : Int))) % 256) → Q (V 104 1 + (N : Int)) V1 S) → K_x_feed (d + 1) Q (30, [(2, 100), (0, b), u2, (0, (N : Int) - 1)], [], V, S, g) := by
  intro N
  induction N with
  | zero =>
    intro V u2 hV h0 h1 h4 hQ
    rw [L_x_feed_30]
    simp (disch := omega) only [hS.k100, hV.r100_3, hS.k104, s32_id, show ((0 : Nat) : Int) - 1 < 0 from by omega, b_s32, b_eq0, b_01, l0, l1, true_and, and_true, and_self, true_implies, false_implies, implies_true, forall_const, not_true_eq_false, not_false_eq_true, reduceIte, ite_true, ite_false, reduceCtorEq, forall_eq, Classical.not_not, true_or, or_true, false_or, or_false, and_false, false_and, Int.reduceEq, Int.reduceLT, Int.reduceLE, Int.reduceAdd, Int.reduceSub, Int.reduceMul, Int.reduceNeg]
    have := hQ V (fun _ _ _ => rfl) (by omega) (fun s hs => by omega)
    rw [show V 104 1 + ((0 : Nat) : Int) = V 104 1 from by omega] at this
    exact this
  | succ N ih =>
    intro V u2 hV h0 h1 h4 hQ
    have e1 : ((N + 1 : Nat) : Int) - 1 = (N : Int) := by omega
    have e2 : (N : Int) + -1 = (N : Int) - 1 := by omega
    have hV1 : FV (up2 (up2 V 105 (V 104 1) (ishrI b (8 * (N : Int)) % 256)) 104 1 (V 104 1 + 1)) := hV.fr ((FRM.rf.up (by unfold VD; omega)).up (by unfold VD; omega))
    have el : (up2 (up2 V 105 (V 104 1) (ishrI b (8 * (N : Int)) % 256)) 104 1 (V 104 1 + 1)) 104 1 = V 104 1 + 1 := up2_eq rfl rfl
    have ih' := ih (up2 (up2 V 105 (V 104 1) (ishrI b (8 * (N : Int)) % 256)) 104 1 (V 104 1 + 1)) (9, 0) hV1 (by rw [el]; omega) (by rw [el]; omega) (by omega)
    rw [el] at ih'
    rw [e1, L_x_feed_30]
    simp (disch := omega) only [hS.k100, hV.r100_3, s32_id, show ¬ (N : Int) < 0 from by omega, p_rappend hS hV h0 (show V 104 1 < 100 by omega), and255, e2, b_s32, b_eq0, b_01, l0, l1, true_and, and_true, and_self, true_implies, false_implies, implies_true, forall_const, not_true_eq_false, not_false_eq_true, reduceIte, ite_true, ite_false, reduceCtorEq, forall_eq, Classical.not_not, true_or, or_true, false_or, or_false, and_false, false_and, Int.reduceEq, Int.reduceLT, Int.reduceLE, Int.reduceAdd, Int.reduceSub, Int.reduceMul, Int.reduceNeg]
    apply ih'
    intro V1 F1 F2 F3
    have := hQ V1 (fun p q hw => by rw [F1 p q (by omega), up2_ne (by omega), up2_ne (by omega)]) (by omega) (fun s hs => ?_)
    · rw [show V 104 1 + ((N + 1 : Nat) : Int) = V 104 1 + 1 + (N : Int) from by omega] at this
      exact this
    · by_cases es : s = 0
      · subst es
        rw [F1 _ _ (by omega), up2_ne (by omega), up2_eq rfl (by omega), show ((N + 1 : Nat) : Int) - 1 - ((0 : Nat) : Int) = (N : Int) from by omega]
      · have := F3 (s - 1) (by omega)
        rw [show V 104 1 + 1 + ((s - 1 : Nat) : Int) = V 104 1 + (s : Int) from by omega, show (N : Int) - 1 - ((s - 1 : Nat) : Int) = ((N + 1 : Nat) : Int) - 1 - (s : Int) from by omega] at this
        exact this
theorem km_feed {g : Cnt} (hS : FS S) : ∀ (N : Nat) (V : Mem) (u2 : XV), FV V → 0 ≤ V 137 25 → V 137 25 + (N : Int) ≤ 100 → N ≤ 4 → (∀ V1 : Mem, (∀ p q, ¬ ((p = 160 ∧ 1100 + V 137 25 ≤ q) ∨ (p = 137 ∧ q = 25)) → V1 p q = V p q) → V1 137 25 = V 137 25 + (N : Int) → (∀ s : Nat, s < N → V1 160 (1100 + (V 137 25 + (s : Int))) = Int.bmod (ishrI b (8 * ((N : Int) - 1 - (s : Int)))) 256) → Q (V 137 25 + (N : Int)) V1 S) → K_m_feed (d + 1) Q (31, [(2, 137), (0, b), u2, (0, (N : Int) - 1)], [], V, S, g) := by
  intro N
  induction N with
  | zero =>
    intro V u2 hV h0 h1 h4 hQ
    rw [L_m_feed_31]
    simp (disch := omega) only [hS.k137, s32_id, show ((0 : Nat) : Int) - 1 < 0 from by omega, b_s32, b_eq0, b_01, l0, l1, true_and, and_true, and_self, true_implies, false_implies, implies_true, forall_const, not_true_eq_false, not_false_eq_true, reduceIte, ite_true, ite_false, reduceCtorEq, forall_eq, Classical.not_not, true_or, or_true, false_or, or_false, and_false, false_and, Int.reduceEq, Int.reduceLT, Int.reduceLE, Int.reduceAdd, Int.reduceSub, Int.reduceMul, Int.reduceNeg]
    have := hQ V (fun _ _ _ => rfl) (by omega) (fun s hs => by omega)
    rw [show V 137 25 + ((0 : Nat) : Int) = V 137 25 from by omega] at this
    exact this
  | succ N ih =>
    intro V u2 hV h0 h1 h4 hQ
    have e1 : ((N + 1 : Nat) : Int) - 1 = (N : Int) := by omega
    have e2 : (N : Int) + -1 = (N : Int) - 1 := by omega
    have hV1 : FV (up2 (up2 V 160 (1100 + V 137 25) (Int.bmod (ishrI b (8 * (N : Int))) 256)) 137 25 (V 137 25 + 1)) := hV.fr ((FRM.rf.up (by unfold VD; omega)).up (by unfold VD; omega))
    have el : (up2 (up2 V 160 (1100 + V 137 25) (Int.bmod (ishrI b (8 * (N : Int))) 256)) 137 25 (V 137 25 + 1)) 137 25 = V 137 25 + 1 := up2_eq rfl rfl
    have ih' := ih (up2 (up2 V 160 (1100 + V 137 25) (Int.bmod (ishrI b (8 * (N : Int))) 256)) 137 25 (V 137 25 + 1)) (9, 0) hV1 (by rw [el]; omega) (by rw [el]; omega) (by omega)
    rw [el] at ih'
    rw [e1, L_m_feed_31]
    simp (disch := omega) only [hS.k137, hS.k160, hS.n160, hV.r137_27, s32_id, show ¬ (N : Int) < 0 from by omega, e2, up2_ne, show 0 ≤ 1100 + V 137 25 from by omega, show 1100 + V 137 25 < 1200 from by omega, b_s32, b_eq0, b_01, l0, l1, true_and, and_true, and_self, true_implies, false_implies, implies_true, forall_const, not_true_eq_false, not_false_eq_true, reduceIte, ite_true, ite_false, reduceCtorEq, forall_eq, Classical.not_not, true_or, or_true, false_or, or_false, and_false, false_and, Int.reduceEq, Int.reduceLT, Int.reduceLE, Int.reduceAdd, Int.reduceSub, Int.reduceMul, Int.reduceNeg]
    apply ih'
    intro V1 F1 F2 F3
    have := hQ V1 (fun p q hw => by rw [F1 p q (by omega), up2_ne (by omega), up2_ne (by omega)]) (by omega) (fun s hs => ?_)
    · rw [show V 137 25 + ((N + 1 : Nat) : Int) = V 137 25 + 1 + (N : Int) from by omega] at this
      exact this
    · by_cases es : s = 0
      · subst es
        rw [F1 _ _ (by omega), up2_ne (by omega), up2_eq rfl (by omega), show ((N + 1 : Nat) : Int) - 1 - ((0 : Nat) : Int) = (N : Int) from by omega]
      · have := F3 (s - 1) (by omega)
        rw [show V 137 25 + 1 + ((s - 1 : Nat) : Int) = V 137 25 + (s : Int) from by omega, show (N : Int) - 1 - ((s - 1 : Nat) : Int) = ((N + 1 : Nat) : Int) - 1 - (s : Int) from by omega] at this
        exact this
theorem cmd_feed (h : INV n V S) (hn : n ≤ m) (ha : s32 a = a) (hb : s32 b = b) : C_x_feed (d + 5) 100 a b V S (fun r V1 S1 => C_m_feed (d + 5) 137 a b V1 S1 (fun r' V2 S2 => r = r' ∧ INV m V2 S2)) := by
  have hup := h.up hn
  have hk := h.1
  have hS := hk.1
  have hV := hk.2.1
  obtain ⟨⟨r1, r2, r3⟩, r4⟩ := h.2.2.2.2.2.1
  by_cases h1 : 0 ≤ b ∧ b ≤ 4
  · by_cases h2 : 100 - V 137 25 < b
    · simp (disch := omega) only [I_x_feed, I_m_feed, p_isWithin, q_in hk, hb, h1, h2, hS.k100, hS.k137, hV.r100_3, I_Reader_hasRoomFor, hS.k104, r1, s32_id, hup, show 100 < V 137 25 + b from by omega, b_s32, b_eq0, b_01, l0, l1, true_and, and_true, and_self, true_implies, false_implies, implies_true, forall_const, not_true_eq_false, not_false_eq_true, reduceIte, ite_true, ite_false, reduceCtorEq, forall_eq, Classical.not_not, true_or, or_true, false_or, or_false, and_false, false_and, Int.reduceEq, Int.reduceLT, Int.reduceLE, Int.reduceAdd, Int.reduceSub, Int.reduceMul, Int.reduceNeg]
    · simp (disch := omega) only [I_x_feed, p_isWithin, hb, h1, h2, hS.k100, hV.r100_3, I_Reader_hasRoomFor, hS.k104, r1, s32_id, b_s32, b_eq0, b_01, l0, l1, true_and, and_true, and_self, true_implies, false_implies, implies_true, forall_const, not_true_eq_false, not_false_eq_true, reduceIte, ite_true, ite_false, reduceCtorEq, forall_eq, Classical.not_not, true_or, or_true, false_or, or_false, and_false, false_and, Int.reduceEq, Int.reduceLT, Int.reduceLE, Int.reduceAdd, Int.reduceSub, Int.reduceMul, Int.reduceNeg]
      have eb : ((b.toNat : Nat) : Int) = b := by omega
      rw [← eb]
      apply kx_feed hS b.toNat V _ hV (by omega) (by omega) (by omega)
      intro V1 F1 F2 F3
      rw [r1] at F1 F2 F3 ⊢
      have hk1 : SK V1 S := hk.fr (fun p q hd => F1 p q (by unfold SKD VD at hd; omega))
      have e1 : V1 137 25 = V 137 25 := F1 _ _ (by omega)
      simp (disch := omega) only [I_m_feed, q_in hk1, eb, hb, h1, h2, hS.k137, e1, s32_id, show ¬ 100 < V 137 25 + b from by omega, b_s32, b_eq0, b_01, l0, l1, true_and, and_true, and_self, true_implies, false_implies, implies_true, forall_const, not_true_eq_false, not_false_eq_true, reduceIte, ite_true, ite_false, reduceCtorEq, forall_eq, Classical.not_not, true_or, or_true, false_or, or_false, and_false, false_and, Int.reduceEq, Int.reduceLT, Int.reduceLE, Int.reduceAdd, Int.reduceSub, Int.reduceMul, Int.reduceNeg]
      rw [← eb]
      apply km_feed hS b.toNat V1 _ hk1.2.1 (by omega) (by omega) (by omega)
      intro V2 G1 G2 G3
      rw [e1] at G1 G2 G3 ⊢
      refine ⟨rfl, h.fr (W := fun p q => (p = 105 ∧ V 137 25 ≤ q) ∨ (p = 104 ∧ q = 1) ∨ (p = 160 ∧ 1100 + V 137 25 ≤ q) ∨ (p = 137 ∧ q = 25)) (fun p q hw => ?_) hn (cTX := Or.inl (fun p q hw hd => by unfold TXD at hd; have := hk.n10; (try dsimp only at hw); omega)) (cRD := Or.inr ?_)⟩
      · rw [G1 p q (by omega), F1 p q (by omega)]
      · refine ⟨⟨by rw [G1 _ _ (by omega), F2, G2], by omega, by omega⟩, fun k k0 k1 => ?_⟩
        rw [G2] at k1
        by_cases q : k < V 137 25
        · rw [G1 105 k (by omega), F1 105 k (by omega), G1 160 _ (by omega), F1 160 _ (by omega)]
          exact r4 k k0 q
        · have g1 := F3 (k - V 137 25).toNat (by omega)
          have g2 := G3 (k - V 137 25).toNat (by omega)
          rw [show V 137 25 + (((k - V 137 25).toNat : Nat) : Int) = k from by omega] at g1 g2
          rw [G1 105 k (by omega), g1, g2]
          have := bm256 (ishrI a (8 * (((b.toNat : Nat) : Int) - 1 - (((k - V 137 25).toNat : Nat) : Int))))
          exact ⟨this.1.symm, this.2⟩
  · simp (disch := omega) only [I_x_feed, I_m_feed, p_isWithin, q_in hk, hb, h1, hS.k100, hS.k137, s32_id, hup, b_s32, b_eq0, b_01, l0, l1, true_and, and_true, and_self, true_implies, false_implies, implies_true, forall_const, not_true_eq_false, not_false_eq_true, reduceIte, ite_true, ite_false, reduceCtorEq, forall_eq, Classical.not_not, true_or, or_true, false_or, or_false, and_false, false_and, Int.reduceEq, Int.reduceLT, Int.reduceLE, Int.reduceAdd, Int.reduceSub, Int.reduceMul, Int.reduceNeg]
theorem bits_r : ∀ (p : Fin 4) (l : Fin 8) (h : Fin 4), 0 ≤ iorI (iorI (ishlI 1 (p.val : Int)) (ishlI 1 (4 + (l.val : Int)))) (ishlI 1 (12 + (h.val : Int))) ∧ iorI (iorI (ishlI 1 (p.val : Int)) (ishlI 1 (4 + (l.val : Int)))) (ishlI 1 (12 + (h.val : Int))) < 65536 ∧ iorI (iorI (ishlI 1 (p.val : Int)) (ishlI 1 (4 + (l.val : Int)))) (ishlI 1 (12 + (h.val : Int))) % 16 ≠ 0 := by decide +kernel
theorem bits_i {p l h : Int} (p0 : 0 ≤ p ∧ p ≤ 3) (l0 : 0 ≤ l ∧ l ≤ 7) (h0 : 0 ≤ h ∧ h ≤ 3) : 0 ≤ iorI (iorI (ishlI 1 p) (ishlI 1 (4 + l))) (ishlI 1 (12 + h)) ∧ iorI (iorI (ishlI 1 p) (ishlI 1 (4 + l))) (ishlI 1 (12 + h)) < 65536 ∧ iorI (iorI (ishlI 1 p) (ishlI 1 (4 + l))) (ishlI 1 (12 + h)) % 16 ≠ 0 := by
  have := bits_r ⟨p.toNat, by omega⟩ ⟨l.toNat, by omega⟩ ⟨h.toNat, by omega⟩
  dsimp only at this
  rw [show ((p.toNat : Nat) : Int) = p from by omega, show ((l.toNat : Nat) : Int) = l from by omega, show ((h.toNat : Nat) : Int) = h from by omega] at this
  exact this
theorem M_broke (hk : SK V S) (ha : s32 a = a) (hb : s32 b = b) (hc : s32 c = c) (hr : 0 ≤ V 137 52 ∧ V 137 52 ≤ 12) (hs : 0 ≤ a ∧ a < V 137 2 → (0 ≤ V 144 a ∧ V 144 a ≤ 4) ∧ (0 ≤ V 156 a ∧ V 156 a ≤ 1)) : C_m_broke (d + 5) 137 a b c V S Q ↔ if ¬ ((0 ≤ a ∧ a < V 137 2) ∧ (0 ≤ b ∧ b ≤ 3) ∧ (0 ≤ c ∧ c ≤ 3)) then Q (-1) V S else if ¬ (V 144 a = 1 ∧ V 156 a = 0) then Q (-3) V S else if V 137 52 = 12 then Q (-4) V S else Q (V 137 52 + 1) (up2 (up2 (up2 V 156 a 1) 169 (V 137 52) (iorI (iorI (ishlI 1 b) (ishlI 1 (4 + V 141 a))) (ishlI 1 (12 + c)))) 137 52 (V 137 52 + 1)) S := by
  have hS := hk.1
  have hV := hk.2.1
  have n20 := hk.n20
  by_cases h1 : 0 ≤ a ∧ a < V 137 2
  · obtain ⟨s1, s2⟩ := hs h1
    by_cases h2 : 0 ≤ b ∧ b ≤ 3
    · by_cases h3 : 0 ≤ c ∧ c ≤ 3
      · by_cases h4 : V 144 a = 1
        · by_cases h5 : V 156 a = 0
          · by_cases h6 : V 137 52 = 12
            · simp (disch := omega) only [I_m_broke, p_isLamp hk, q_in hk, ha, hb, hc, h1, h2, h3, h4, h5, h6, hS.k137, hS.k144, hS.n144, hV.r137_9, hS.k156, hS.n156, hV.r137_21, s32_id, show a < 20 from by omega, b_s32, b_eq0, b_01, l0, l1, true_and, and_true, and_self, true_implies, false_implies, implies_true, forall_const, not_true_eq_false, not_false_eq_true, reduceIte, ite_true, ite_false, reduceCtorEq, forall_eq, Classical.not_not, true_or, or_true, false_or, or_false, and_false, false_and, Int.reduceEq, Int.reduceLT, Int.reduceLE, Int.reduceAdd, Int.reduceSub, Int.reduceMul, Int.reduceNeg]
            · simp (disch := omega) only [I_m_broke, p_isLamp hk, q_in hk, ha, hb, hc, h1, h2, h3, h4, h5, h6, hS.k137, hS.k144, hS.n144, hV.r137_9, hS.k156, hS.n156, hV.r137_21, hS.k141, hS.n141, hV.r137_6, hS.k169, hS.n169, hV.r137_55, s32_id, show a < 20 from by omega, hr, show V 137 52 < 12 from by omega, up2_ne, up2_eq, b_s32, b_eq0, b_01, l0, l1, true_and, and_true, and_self, true_implies, false_implies, implies_true, forall_const, not_true_eq_false, not_false_eq_true, reduceIte, ite_true, ite_false, reduceCtorEq, forall_eq, Classical.not_not, true_or, or_true, false_or, or_false, and_false, false_and, Int.reduceEq, Int.reduceLT, Int.reduceLE, Int.reduceAdd, Int.reduceSub, Int.reduceMul, Int.reduceNeg]
          · simp (disch := omega) only [I_m_broke, p_isLamp hk, q_in hk, ha, hb, hc, h1, h2, h3, h4, h5, hS.k137, hS.k144, hS.n144, hV.r137_9, hS.k156, hS.n156, hV.r137_21, s32_id, show a < 20 from by omega, b_s32, b_eq0, b_01, l0, l1, true_and, and_true, and_self, true_implies, false_implies, implies_true, forall_const, not_true_eq_false, not_false_eq_true, reduceIte, ite_true, ite_false, reduceCtorEq, forall_eq, Classical.not_not, true_or, or_true, false_or, or_false, and_false, false_and, Int.reduceEq, Int.reduceLT, Int.reduceLE, Int.reduceAdd, Int.reduceSub, Int.reduceMul, Int.reduceNeg]
        · simp (disch := omega) only [I_m_broke, p_isLamp hk, q_in hk, ha, hb, hc, h1, h2, h3, h4, hS.k137, hS.k144, hS.n144, hV.r137_9, hS.k156, hS.n156, hV.r137_21, s32_id, show a < 20 from by omega, b_s32, b_eq0, b_01, l0, l1, true_and, and_true, and_self, true_implies, false_implies, implies_true, forall_const, not_true_eq_false, not_false_eq_true, reduceIte, ite_true, ite_false, reduceCtorEq, forall_eq, Classical.not_not, true_or, or_true, false_or, or_false, and_false, false_and, Int.reduceEq, Int.reduceLT, Int.reduceLE, Int.reduceAdd, Int.reduceSub, Int.reduceMul, Int.reduceNeg]
      · simp (disch := omega) only [I_m_broke, p_isLamp hk, q_in hk, ha, hb, hc, h1, h2, h3, hS.k137, s32_id, b_s32, b_eq0, b_01, l0, l1, true_and, and_true, and_self, true_implies, false_implies, implies_true, forall_const, not_true_eq_false, not_false_eq_true, reduceIte, ite_true, ite_false, reduceCtorEq, forall_eq, Classical.not_not, true_or, or_true, false_or, or_false, and_false, false_and, Int.reduceEq, Int.reduceLT, Int.reduceLE, Int.reduceAdd, Int.reduceSub, Int.reduceMul, Int.reduceNeg]
    · simp (disch := omega) only [I_m_broke, p_isLamp hk, q_in hk, ha, hb, h1, h2, hS.k137, s32_id, b_s32, b_eq0, b_01, l0, l1, true_and, and_true, and_self, true_implies, false_implies, implies_true, forall_const, not_true_eq_false, not_false_eq_true, reduceIte, ite_true, ite_false, reduceCtorEq, forall_eq, Classical.not_not, true_or, or_true, false_or, or_false, and_false, false_and, Int.reduceEq, Int.reduceLT, Int.reduceLE, Int.reduceAdd, Int.reduceSub, Int.reduceMul, Int.reduceNeg]
  · simp (disch := omega) only [I_m_broke, p_isLamp hk, ha, h1, hS.k137, s32_id, b_s32, b_eq0, b_01, l0, l1, true_and, and_true, and_self, true_implies, false_implies, implies_true, forall_const, not_true_eq_false, not_false_eq_true, reduceIte, ite_true, ite_false, reduceCtorEq, forall_eq, Classical.not_not, true_or, or_true, false_or, or_false, and_false, false_and, Int.reduceEq, Int.reduceLT, Int.reduceLE, Int.reduceAdd, Int.reduceSub, Int.reduceMul, Int.reduceNeg]
theorem X_broke (hk : SK V S) (hb5 : BK 113 V S) (ha : s32 a = a) (hb : s32 b = b) (hc : s32 c = c) (hA : 0 ≤ a ∧ a < V 137 2 → LA1 V a ∧ LB1 V a) : C_x_broke (d + 5) 100 a b c V S Q ↔ if ¬ ((0 ≤ a ∧ a < V 137 2) ∧ (0 ≤ b ∧ b ≤ 3) ∧ (0 ≤ c ∧ c ≤ 3)) then Q (-1) V S else if ¬ (V 144 a = 1 ∧ V 156 a = 0) then Q (-3) V S else if ¬ V 113 2 < V 113 0 then Q (-4) V S else Q (V 113 2 + 1) (up2 (up2 (up2 (up2 (up2 (up2 V (1000 + 10 * a) 11 1) 114 (4 * V 113 2) a) 114 (4 * V 113 2 + 1) (iorI (iorI (ishlI 1 b) (ishlI 1 (4 + V 141 a))) (ishlI 1 (12 + c)))) 114 (4 * V 113 2 + 2) 0) 114 (4 * V 113 2 + 3) 0) 113 2 (V 113 2 + 1)) S := by
  have hS := hk.1
  have hV := hk.2.1
  have n20 := hk.n20
  by_cases h1 : 0 ≤ a ∧ a < V 137 2
  · obtain ⟨⟨⟨l1, -⟩, -⟩, -, ⟨q1, q2, q3⟩, ⟨q4, q5, q6⟩, -⟩ := hA h1
    have k0 := (hk.lamp h1.1 h1.2).1.1
    have g0 : ¬ 1000 + 10 * a = -1 := by omega
    by_cases h2 : 0 ≤ b ∧ b ≤ 3
    · by_cases h3 : 0 ≤ c ∧ c ≤ 3
      · by_cases h4 : V 144 a = 1
        · by_cases h5 : V 156 a = 0
          · by_cases h6 : V 113 2 < V 113 0
            · have hb6 : BK 113 (up2 V (1000 + 10 * a) 11 1) S := by
                unfold BK
                simp (disch := omega) only [up2_ne]
                exact hb5
              have h7 : up2 V (1000 + 10 * a) 11 1 113 2 < up2 V (1000 + 10 * a) 11 1 113 0 := by
                simp (disch := omega) only [up2_ne]
                exact h6
              have ap := fun (x : Int) (Q : Int → Mem → Shp → Prop) => p_append (d := d + 1) (Q := Q) (a1 := a) (a2 := x) (a3 := 0) (a4 := 0) hb6 h7
              simp (disch := omega) only [up2_ne (V := V) (a := 1000 + 10 * a) (b := 113)] at ap
              simp (disch := omega) only [I_x_broke, p_lampAt hk, p_isWithin, ha, hb, hc, h1, h2, h3, h4, h5, h6, g0, hS.k100, hV.r100_5, k0, q1, q4, l1, p_isFull hb5, ap, up2_ne (a := 1000 + 10 * a), s32_id, b_s32, b_eq0, b_01, l0, l1, true_and, and_true, and_self, true_implies, false_implies, implies_true, forall_const, not_true_eq_false, not_false_eq_true, reduceIte, ite_true, ite_false, reduceCtorEq, forall_eq, Classical.not_not, true_or, or_true, false_or, or_false, and_false, false_and, Int.reduceEq, Int.reduceLT, Int.reduceLE, Int.reduceAdd, Int.reduceSub, Int.reduceMul, Int.reduceNeg]
            · simp (disch := omega) only [I_x_broke, p_lampAt hk, p_isWithin, ha, hb, hc, h1, h2, h3, h4, h5, h6, g0, hS.k100, hV.r100_5, k0, q1, q4, p_isFull hb5, s32_id, b_s32, b_eq0, b_01, l0, l1, true_and, and_true, and_self, true_implies, false_implies, implies_true, forall_const, not_true_eq_false, not_false_eq_true, reduceIte, ite_true, ite_false, reduceCtorEq, forall_eq, Classical.not_not, true_or, or_true, false_or, or_false, and_false, false_and, Int.reduceEq, Int.reduceLT, Int.reduceLE, Int.reduceAdd, Int.reduceSub, Int.reduceMul, Int.reduceNeg]
          · simp (disch := omega) only [I_x_broke, p_lampAt hk, p_isWithin, ha, hb, hc, h1, h2, h3, h4, h5, g0, hS.k100, k0, q1, q4, s32_id, b_s32, b_eq0, b_01, l0, l1, true_and, and_true, and_self, true_implies, false_implies, implies_true, forall_const, not_true_eq_false, not_false_eq_true, reduceIte, ite_true, ite_false, reduceCtorEq, forall_eq, Classical.not_not, true_or, or_true, false_or, or_false, and_false, false_and, Int.reduceEq, Int.reduceLT, Int.reduceLE, Int.reduceAdd, Int.reduceSub, Int.reduceMul, Int.reduceNeg]
        · simp (disch := omega) only [I_x_broke, p_lampAt hk, p_isWithin, ha, hb, hc, h1, h2, h3, h4, g0, hS.k100, k0, q1, q4, s32_id, b_s32, b_eq0, b_01, l0, l1, true_and, and_true, and_self, true_implies, false_implies, implies_true, forall_const, not_true_eq_false, not_false_eq_true, reduceIte, ite_true, ite_false, reduceCtorEq, forall_eq, Classical.not_not, true_or, or_true, false_or, or_false, and_false, false_and, Int.reduceEq, Int.reduceLT, Int.reduceLE, Int.reduceAdd, Int.reduceSub, Int.reduceMul, Int.reduceNeg]
      · simp (disch := omega) only [I_x_broke, p_lampAt hk, p_isWithin, ha, hb, hc, h1, h2, h3, g0, hS.k100, s32_id, b_s32, b_eq0, b_01, l0, l1, true_and, and_true, and_self, true_implies, false_implies, implies_true, forall_const, not_true_eq_false, not_false_eq_true, reduceIte, ite_true, ite_false, reduceCtorEq, forall_eq, Classical.not_not, true_or, or_true, false_or, or_false, and_false, false_and, Int.reduceEq, Int.reduceLT, Int.reduceLE, Int.reduceAdd, Int.reduceSub, Int.reduceMul, Int.reduceNeg]
    · simp (disch := omega) only [I_x_broke, p_lampAt hk, p_isWithin, ha, hb, h1, h2, g0, hS.k100, s32_id, b_s32, b_eq0, b_01, l0, l1, true_and, and_true, and_self, true_implies, false_implies, implies_true, forall_const, not_true_eq_false, not_false_eq_true, reduceIte, ite_true, ite_false, reduceCtorEq, forall_eq, Classical.not_not, true_or, or_true, false_or, or_false, and_false, false_and, Int.reduceEq, Int.reduceLT, Int.reduceLE, Int.reduceAdd, Int.reduceSub, Int.reduceMul, Int.reduceNeg]
  · simp (disch := omega) only [I_x_broke, p_lampAt hk, ha, h1, hS.k100, s32_id, b_s32, b_eq0, b_01, l0, l1, true_and, and_true, and_self, true_implies, false_implies, implies_true, forall_const, not_true_eq_false, not_false_eq_true, reduceIte, ite_true, ite_false, reduceCtorEq, forall_eq, Classical.not_not, true_or, or_true, false_or, or_false, and_false, false_and, Int.reduceEq, Int.reduceLT, Int.reduceLE, Int.reduceAdd, Int.reduceSub, Int.reduceMul, Int.reduceNeg]
theorem cmd_broke (h : INV n V S) (hn : n ≤ m) (ha : s32 a = a) (hb : s32 b = b) (hc : s32 c = c) : C_x_broke (d + 5) 100 a b c V S (fun r V1 S1 => C_m_broke (d + 5) 137 a b c V1 S1 (fun r' V2 S2 => r = r' ∧ INV m V2 S2)) := by
  have hup := h.up hn
  have hk := h.1
  have hV := hk.2.1
  have n20 := hk.n20
  obtain ⟨hA, hB, hM, hO, hC, hK, hZ⟩ := h.2.2.2.1
  obtain ⟨⟨⟨r1, r2, r3⟩, r4⟩, b2, b3⟩ := h.2.2.2.2.2.2.1
  have hs : 0 ≤ a ∧ a < V 137 2 → (0 ≤ V 144 a ∧ V 144 a ≤ 4) ∧ (0 ≤ V 156 a ∧ V 156 a ≤ 1) := fun q => ⟨(hB a q.1 q.2).2.1.2, (hB a q.1 q.2).2.2.1.2⟩
  rw [X_broke hk h.bk.1 ha hb hc (fun q => ⟨hA a q.1 q.2, hB a q.1 q.2⟩), hV.r113_0, r1]
  by_cases h1 : (0 ≤ a ∧ a < V 137 2) ∧ (0 ≤ b ∧ b ≤ 3) ∧ (0 ≤ c ∧ c ≤ 3)
  · rw [if_neg (fun q => q h1)]
    by_cases h2 : V 144 a = 1 ∧ V 156 a = 0
    · rw [if_neg (fun q => q h2)]
      by_cases h3 : V 137 52 < 12
      · rw [if_neg (fun q => q h3)]
        have hbit := bits_i h1.2.1 (hA a h1.1.1 h1.1.2).1.2 h1.2.2
        generalize hV1 : (up2 (up2 (up2 (up2 (up2 (up2 V (1000 + 10 * a) 11 1) 114 (4 * V 137 52) a) 114 (4 * V 137 52 + 1) (iorI (iorI (ishlI 1 b) (ishlI 1 (4 + V 141 a))) (ishlI 1 (12 + c)))) 114 (4 * V 137 52 + 2) 0) 114 (4 * V 137 52 + 3) 0) 113 2 (V 137 52 + 1)) = V1
        obtain ⟨⟨a0, a1⟩, -⟩ := id h1
        have F : ∀ p q, ¬ ((p = 1000 + 10 * a ∧ q = 11) ∨ (p = 114 ∧ 4 * V 137 52 ≤ q) ∨ (p = 113 ∧ q = 2)) → V1 p q = V p q := by
          intro p q hw
          subst hV1
          simp (disch := omega) only [up2_ne]
        have N1 : V1 (1000 + 10 * a) 11 = 1 ∧ V1 114 (4 * V 137 52 + 1) = iorI (iorI (ishlI 1 b) (ishlI 1 (4 + V 141 a))) (ishlI 1 (12 + c)) ∧ V1 113 2 = V 137 52 + 1 := by
          subst hV1
          simp (disch := omega) only [up2_ne, up2_eq, b_s32, b_eq0, b_01, l0, l1, true_and, and_true, and_self, true_implies, false_implies, implies_true, forall_const, not_true_eq_false, not_false_eq_true, reduceIte, ite_true, ite_false, reduceCtorEq, forall_eq, Classical.not_not, true_or, or_true, false_or, or_false, and_false, false_and, Int.reduceEq, Int.reduceLT, Int.reduceLE, Int.reduceAdd, Int.reduceSub, Int.reduceMul, Int.reduceNeg]
        clear hV1
        have hk1 : SK V1 S := hk.fr (fun p q hd => F p q (by unfold SKD VD at hd; omega))
        have e1 : V1 137 2 = V 137 2 := F _ _ (by omega)
        have e2 : V1 137 52 = V 137 52 := F _ _ (by omega)
        have e3 : V1 144 a = V 144 a := F _ _ (by omega)
        have e4 : V1 156 a = V 156 a := F _ _ (by omega)
        have e5 : V1 141 a = V 141 a := F _ _ (by omega)
        rw [M_broke hk1 ha hb hc (by rw [e2]; omega) (by rw [e1, e3, e4]; exact hs), e1, e2, e3, e4, e5, if_neg (fun q => q h1), if_neg (fun q => q h2), if_neg (by omega)]
        generalize iorI (iorI (ishlI 1 b) (ishlI 1 (4 + V 141 a))) (ishlI 1 (12 + c)) = z at hbit N1 ⊢
        refine ⟨rfl, h.fr (W := fun p q => (p = 1000 + 10 * a ∧ q = 11) ∨ (p = 114 ∧ 4 * V 137 52 ≤ q) ∨ (p = 113 ∧ q = 2) ∨ (p = 156 ∧ q = a) ∨ (p = 169 ∧ q = V 137 52) ∨ (p = 137 ∧ q = 52)) (fun p q hw => ?_) hn (cLB := Or.inr ?_) (cLZ := Or.inr ?_) (cBK := Or.inr ?_)⟩
        · simp (disch := omega) only [up2_ne]
          exact F p q (by omega)
        · intro i i0 i1
          simp (disch := omega) only [up2_ne, F] at i1
          have q := hB i i0 i1
          unfold LB1 at q ⊢
          by_cases ei : i = a
          · subst ei
            simp (disch := omega) only [up2_ne, up2_eq, F, N1]
            exact ⟨q.1, q.2.1, ⟨trivial, by omega, by omega⟩, q.2.2.2.1, q.2.2.2.2⟩
          · simp (disch := omega) only [up2_ne, F]
            exact q
        · intro i i0 i1
          simp (disch := omega) only [up2_ne, F] at i0
          have q := hZ i i0 i1
          unfold LZ1 at q ⊢
          simp (disch := omega) only [up2_ne, F]
          exact q
        · refine ⟨⟨?_, fun f f0 f1 => ?_⟩, ?_, ?_⟩
          · simp (disch := omega) only [up2_ne, up2_eq, N1, b_s32, b_eq0, b_01, l0, l1, true_and, and_true, and_self, true_implies, false_implies, implies_true, forall_const, not_true_eq_false, not_false_eq_true, reduceIte, ite_true, ite_false, reduceCtorEq, forall_eq, Classical.not_not, true_or, or_true, false_or, or_false, and_false, false_and, Int.reduceEq, Int.reduceLT, Int.reduceLE, Int.reduceAdd, Int.reduceSub, Int.reduceMul, Int.reduceNeg]
            omega
          · simp (disch := omega) only [up2_eq] at f1
            by_cases ef : f = V 137 52
            · subst ef
              simp (disch := omega) only [up2_ne, up2_eq, N1]
              exact ⟨trivial, hbit⟩
            · simp (disch := omega) only [up2_ne, F]
              exact r4 f f0 (by omega)
          · refine ⟨by simp (disch := omega) only [up2_ne, F]; exact b2.1, fun f f0 f1 => ?_⟩
            simp (disch := omega) only [up2_ne, F] at f1 ⊢
            exact b2.2 f f0 f1
          · refine ⟨by simp (disch := omega) only [up2_ne, F]; exact b3.1, fun f f0 f1 => ?_⟩
            simp (disch := omega) only [up2_ne, F] at f1 ⊢
            exact b3.2 f f0 f1
      · rw [if_pos h3, M_broke hk ha hb hc ⟨r2, r3⟩ hs, if_neg (fun q => q h1), if_neg (fun q => q h2), if_pos (by omega)]
        exact ⟨rfl, hup⟩
    · rw [if_pos h2, M_broke hk ha hb hc ⟨r2, r3⟩ hs, if_neg (fun q => q h1), if_pos h2]
      exact ⟨rfl, hup⟩
  · rw [if_pos h1, M_broke hk ha hb hc ⟨r2, r3⟩ hs, if_pos h1]
    exact ⟨rfl, hup⟩
end FD
