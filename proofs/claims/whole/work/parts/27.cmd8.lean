/-! commands: can, agree, days -/
section C8
variable {d : Nat} {n m a b c e i k B L : Int} {V : Mem} {S : Shp} {Q : Int → Mem → Shp → Prop} {U : Mem → Shp → Prop}
def absI (x : Int) : Int := if s32 x < 0 then -x else x
def al (V : Mem) (a b : Int) : Nat → Int → Bool
  | 0, _ => true
  | N + 1, k => if 20 < s32 (absI (V 140 (20 * a + k) - V 140 (20 * b + k))) then false else al V a b N (k + 1)
theorem kx_alike {g : Cnt} (hk : SK V S) (hH : HDT V) (a0 : 0 ≤ a) (a1 : a < V 137 1) (b0 : 0 ≤ b) (b1 : b < V 137 1) : ∀ (N : Nat) (k : Int), 0 ≤ k → (N : Int) + k ≤ 20 → (K_Home_isAlike (d + 2) Q (2, [(2, 2000 + 10 * a), (2, 2000 + 10 * b), (0, (N : Int) + k), (0, k)], [], V, S, g) ↔ Q (if al V a b N k then 1 else 0) V S) := by
  intro N
  induction N with
  | zero =>
    intro k k0 k1
    rw [L_Home_isAlike_2]
    simp (disch := omega) only [s32_id, show ¬ k < ((0 : Nat) : Int) + k from by omega, al, b_s32, b_eq0, b_01, l0, l1, true_and, and_true, and_self, true_implies, false_implies, implies_true, forall_const, not_true_eq_false, not_false_eq_true, reduceIte, ite_true, ite_false, reduceCtorEq, forall_eq, Classical.not_not, true_or, or_true, false_or, or_false, and_false, false_and, Int.reduceEq, Int.reduceLT, Int.reduceLE, Int.reduceAdd, Int.reduceSub, Int.reduceMul, Int.reduceNeg]
  | succ N ih =>
    intro k k0 k1
    have ih' := ih (k + 1) (by omega) (by omega)
    rw [show (N : Int) + (k + 1) = ((N + 1 : Nat) : Int) + k from by omega] at ih'
    have ea := ((hH.1 a a0 a1).2 k k0 (by omega)).1
    have eb := ((hH.1 b b0 b1).2 k k0 (by omega)).1
    rw [L_Home_isAlike_2, al]
    have ab : absI (V 140 (20 * a + k) - V 140 (20 * b + k)) = if s32 (V 140 (20 * a + k) - V 140 (20 * b + k)) < 0 then -(V 140 (20 * a + k) - V 140 (20 * b + k)) else V 140 (20 * a + k) - V 140 (20 * b + k) := rfl
    by_cases c1 : 20 < s32 (absI (V 140 (20 * a + k) - V 140 (20 * b + k)))
    · rw [if_pos c1]
      rw [ab] at c1
      simp (disch := omega) only [s32_id, show k < ((N + 1 : Nat) : Int) + k from by omega, p_coinsIn hk a0 a1, p_coinsIn hk b0 b1, ea, eb, p_abs, c1, show 0 ≤ k from k0, show k < 20 from by omega, b_s32, b_eq0, b_01, l0, l1, true_and, and_true, and_self, true_implies, false_implies, implies_true, forall_const, not_true_eq_false, not_false_eq_true, reduceIte, ite_true, ite_false, reduceCtorEq, forall_eq, Classical.not_not, true_or, or_true, false_or, or_false, and_false, false_and, Int.reduceEq, Int.reduceLT, Int.reduceLE, Int.reduceAdd, Int.reduceSub, Int.reduceMul, Int.reduceNeg, Bool.false_eq_true]
    · rw [if_neg c1]
      rw [ab] at c1
      simp (disch := omega) only [s32_id, show k < ((N + 1 : Nat) : Int) + k from by omega, p_coinsIn hk a0 a1, p_coinsIn hk b0 b1, ea, eb, p_abs, c1, show 0 ≤ k from k0, show k < 20 from by omega, ih', b_s32, b_eq0, b_01, l0, l1, true_and, and_true, and_self, true_implies, false_implies, implies_true, forall_const, not_true_eq_false, not_false_eq_true, reduceIte, ite_true, ite_false, reduceCtorEq, forall_eq, Classical.not_not, true_or, or_true, false_or, or_false, and_false, false_and, Int.reduceEq, Int.reduceLT, Int.reduceLE, Int.reduceAdd, Int.reduceSub, Int.reduceMul, Int.reduceNeg]
theorem km_alike {g : Cnt} (hk : SK V S) (a0 : 0 ≤ a) (a1 : a < V 137 1) (b0 : 0 ≤ b) (b1 : b < V 137 1) : ∀ (N : Nat) (k : Int), 0 ≤ k → (N : Int) + k ≤ 20 → (K_m_areAlike (d + 2) Q (3, [(2, 137), (0, a), (0, b), (0, (N : Int) + k), (0, k)], [], V, S, g) ↔ Q (if al V a b N k then 1 else 0) V S) := by
  have hS := hk.1
  have hV := hk.2.1
  have n12 := hk.n12
  intro N
  induction N with
  | zero =>
    intro k k0 k1
    rw [L_m_areAlike_3]
    simp (disch := omega) only [s32_id, show ¬ k < ((0 : Nat) : Int) + k from by omega, al, b_s32, b_eq0, b_01, l0, l1, true_and, and_true, and_self, true_implies, false_implies, implies_true, forall_const, not_true_eq_false, not_false_eq_true, reduceIte, ite_true, ite_false, reduceCtorEq, forall_eq, Classical.not_not, true_or, or_true, false_or, or_false, and_false, false_and, Int.reduceEq, Int.reduceLT, Int.reduceLE, Int.reduceAdd, Int.reduceSub, Int.reduceMul, Int.reduceNeg]
  | succ N ih =>
    intro k k0 k1
    have ih' := ih (k + 1) (by omega) (by omega)
    rw [show (N : Int) + (k + 1) = ((N + 1 : Nat) : Int) + k from by omega] at ih'
    rw [L_m_areAlike_3, al]
    have ab : absI (V 140 (20 * a + k) - V 140 (20 * b + k)) = if s32 (V 140 (20 * a + k) - V 140 (20 * b + k)) < 0 then -(V 140 (20 * a + k) - V 140 (20 * b + k)) else V 140 (20 * a + k) - V 140 (20 * b + k) := rfl
    by_cases c1 : 20 < s32 (absI (V 140 (20 * a + k) - V 140 (20 * b + k)))
    · rw [if_pos c1]
      rw [ab] at c1
      simp (disch := omega) only [s32_id, show k < ((N + 1 : Nat) : Int) + k from by omega, hS.k137, hS.k140, hS.n140, hV.r137_5, p_mabs hk, c1, show 0 ≤ 20 * a + k from by omega, show 20 * a + k < 240 from by omega, show 0 ≤ 20 * b + k from by omega, show 20 * b + k < 240 from by omega, b_s32, b_eq0, b_01, l0, l1, true_and, and_true, and_self, true_implies, false_implies, implies_true, forall_const, not_true_eq_false, not_false_eq_true, reduceIte, ite_true, ite_false, reduceCtorEq, forall_eq, Classical.not_not, true_or, or_true, false_or, or_false, and_false, false_and, Int.reduceEq, Int.reduceLT, Int.reduceLE, Int.reduceAdd, Int.reduceSub, Int.reduceMul, Int.reduceNeg, Bool.false_eq_true]
    · rw [if_neg c1]
      rw [ab] at c1
      simp (disch := omega) only [s32_id, show k < ((N + 1 : Nat) : Int) + k from by omega, hS.k137, hS.k140, hS.n140, hV.r137_5, p_mabs hk, c1, show 0 ≤ 20 * a + k from by omega, show 20 * a + k < 240 from by omega, show 0 ≤ 20 * b + k from by omega, show 20 * b + k < 240 from by omega, ih', b_s32, b_eq0, b_01, l0, l1, true_and, and_true, and_self, true_implies, false_implies, implies_true, forall_const, not_true_eq_false, not_false_eq_true, reduceIte, ite_true, ite_false, reduceCtorEq, forall_eq, Classical.not_not, true_or, or_true, false_or, or_false, and_false, false_and, Int.reduceEq, Int.reduceLT, Int.reduceLE, Int.reduceAdd, Int.reduceSub, Int.reduceMul, Int.reduceNeg]
theorem p_isAlike (hk : SK V S) (hH : HDT V) (a0 : 0 ≤ a) (a1 : a < V 137 1) (b0 : 0 ≤ b) (b1 : b < V 137 1) (c0 : 0 ≤ c) (c1 : c ≤ 20) : C_Home_isAlike (d + 3) (2000 + 10 * a) (2000 + 10 * b) c V S Q ↔ Q (if al V a b c.toNat 0 then 1 else 0) V S := by
  have e : (c.toNat : Int) + 0 = c := by omega
  have g := kx_alike (d := d) (Q := Q) (g := (0, 0)) hk hH a0 a1 b0 b1 c.toNat 0 (by omega) (by omega)
  rw [e] at g
  rw [I_Home_isAlike, g, (hk.home a0 a1).1.1]
  simp only [b_s32, b_eq0, b_01, l0, l1, true_and, and_true, and_self, true_implies, false_implies, implies_true, forall_const, not_true_eq_false, not_false_eq_true, reduceIte, ite_true, ite_false, reduceCtorEq, forall_eq, Classical.not_not, true_or, or_true, false_or, or_false, and_false, false_and, Int.reduceEq, Int.reduceLT, Int.reduceLE, Int.reduceAdd, Int.reduceSub, Int.reduceMul, Int.reduceNeg]
theorem p_areAlike (hk : SK V S) (a0 : 0 ≤ a) (a1 : a < V 137 1) (b0 : 0 ≤ b) (b1 : b < V 137 1) (c0 : 0 ≤ c) (c1 : c ≤ 20) : C_m_areAlike (d + 3) 137 a b c V S Q ↔ Q (if al V a b c.toNat 0 then 1 else 0) V S := by
  have e : (c.toNat : Int) + 0 = c := by omega
  have g := km_alike (d := d) (Q := Q) (g := (0, 0)) hk a0 a1 b0 b1 c.toNat 0 (by omega) (by omega)
  rw [e] at g
  rw [I_m_areAlike, g, hk.1.k137]
  simp only [b_s32, b_eq0, b_01, l0, l1, true_and, and_true, and_self, true_implies, false_implies, implies_true, forall_const, not_true_eq_false, not_false_eq_true, reduceIte, ite_true, ite_false, reduceCtorEq, forall_eq, Classical.not_not, true_or, or_true, false_or, or_false, and_false, false_and, Int.reduceEq, Int.reduceLT, Int.reduceLE, Int.reduceAdd, Int.reduceSub, Int.reduceMul, Int.reduceNeg]
/-- CAN's least and greatest, from a HOME on -/
def cn (V : Mem) (a c : Int) : Nat → Int → Int → Int → Int × Int
  | 0, _, l, g => (l, g)
  | N + 1, k, l, g => if k = a then cn V a c N (k + 1) l g else if al V a k c.toNat 0 then cn V a c N (k + 1) (if s32 (V 140 (20 * k + c)) < s32 l then V 140 (20 * k + c) else l) (if s32 g < s32 (V 140 (20 * k + c)) then V 140 (20 * k + c) else g) else cn V a c N (k + 1) l g
def cnA (w : Int) (p : Int × Int) : Int := if s32 p.2 < 0 then -5 else if w = 0 then p.1 else p.2
theorem kx_can {g : Cnt} (hk : SK V S) (hH : HDT V) (a0 : 0 ≤ a) (a1 : a < V 137 1) (c0 : 0 ≤ c) (c1 : c < 20) (he : s32 e = e) : ∀ (N : Nat) (k l q : Int) (u1 u8 : XV), 0 ≤ k → (N : Int) + k = V 137 1 → (K_x_can (d + 4) Q (62, [(2, 100), u1, (0, c), (0, e), (2, 2000 + 10 * a), (0, l), (0, q), (0, k), u8], [], V, S, g) ↔ Q (cnA e (cn V a c N k l q)) V S) := by
  have hS := hk.1
  have n12 := hk.n12
  have q10 := hk.2.2.1.1.1
  intro N
  induction N with
  | zero =>
    intro k l q u1 u8 k0 k1
    rw [L_x_can_62, cn, cnA]
    by_cases h1 : s32 q < 0
    · simp (disch := omega) only [hS.k100, q10, s32_id, show ¬ k < V 137 1 from by omega, h1, b_s32, b_eq0, b_01, l0, l1, true_and, and_true, and_self, true_implies, false_implies, implies_true, forall_const, not_true_eq_false, not_false_eq_true, reduceIte, ite_true, ite_false, reduceCtorEq, forall_eq, Classical.not_not, true_or, or_true, false_or, or_false, and_false, false_and, Int.reduceEq, Int.reduceLT, Int.reduceLE, Int.reduceAdd, Int.reduceSub, Int.reduceMul, Int.reduceNeg]
    · by_cases h2 : e = 0
      · simp (disch := omega) only [hS.k100, q10, s32_id, show ¬ k < V 137 1 from by omega, h1, h2, b_s32, b_eq0, b_01, l0, l1, true_and, and_true, and_self, true_implies, false_implies, implies_true, forall_const, not_true_eq_false, not_false_eq_true, reduceIte, ite_true, ite_false, reduceCtorEq, forall_eq, Classical.not_not, true_or, or_true, false_or, or_false, and_false, false_and, Int.reduceEq, Int.reduceLT, Int.reduceLE, Int.reduceAdd, Int.reduceSub, Int.reduceMul, Int.reduceNeg]
      · simp (disch := omega) only [hS.k100, q10, he, s32_id, show ¬ k < V 137 1 from by omega, h1, h2, b_s32, b_eq0, b_01, l0, l1, true_and, and_true, and_self, true_implies, false_implies, implies_true, forall_const, not_true_eq_false, not_false_eq_true, reduceIte, ite_true, ite_false, reduceCtorEq, forall_eq, Classical.not_not, true_or, or_true, false_or, or_false, and_false, false_and, Int.reduceEq, Int.reduceLT, Int.reduceLE, Int.reduceAdd, Int.reduceSub, Int.reduceMul, Int.reduceNeg]
  | succ N ih =>
    intro k l q u1 u8 k0 k1
    have ih' := fun l q u1 u8 => ih (k + 1) l q u1 u8 (by omega) (by omega)
    have k2 : k < V 137 1 := by omega
    rw [L_x_can_62, cn]
    have eb := ((hH.1 k k0 k2).2 c c0 (by omega)).1
    by_cases h1 : k = a
    · subst h1
      simp (disch := omega) only [hS.k100, q10, s32_id, k2, p_homeAt hk, k0, ih', b_s32, b_eq0, b_01, l0, l1, true_and, and_true, and_self, true_implies, false_implies, implies_true, forall_const, not_true_eq_false, not_false_eq_true, reduceIte, ite_true, ite_false, reduceCtorEq, forall_eq, Classical.not_not, true_or, or_true, false_or, or_false, and_false, false_and, Int.reduceEq, Int.reduceLT, Int.reduceLE, Int.reduceAdd, Int.reduceSub, Int.reduceMul, Int.reduceNeg, show ¬ (2000 + 10 * k = -1) from by omega, show -1 ≤ 2000 + 10 * k from by omega]
    · have h2 : ¬ (2000 + 10 * k = 2000 + 10 * a) := by omega
      by_cases h3 : al V a k c.toNat 0 = true
      · simp (disch := omega) only [hS.k100, q10, s32_id, k2, p_homeAt hk, k0, h1, h2, h3, p_isAlike hk hH a0 a1 k0 k2 c0 (show c ≤ 20 by omega), p_coinsIn hk k0 k2, p_min, p_max, eb, c0, c1, ih', b_s32, b_eq0, b_01, l0, l1, true_and, and_true, and_self, true_implies, false_implies, implies_true, forall_const, not_true_eq_false, not_false_eq_true, reduceIte, ite_true, ite_false, reduceCtorEq, forall_eq, Classical.not_not, true_or, or_true, false_or, or_false, and_false, false_and, Int.reduceEq, Int.reduceLT, Int.reduceLE, Int.reduceAdd, Int.reduceSub, Int.reduceMul, Int.reduceNeg, show ¬ (2000 + 10 * k = -1) from by omega, show -1 ≤ 2000 + 10 * k from by omega, show -1 ≤ 2000 + 10 * a from by omega]
      · simp (disch := omega) only [hS.k100, q10, s32_id, k2, p_homeAt hk, k0, h1, h2, h3, p_isAlike hk hH a0 a1 k0 k2 c0 (show c ≤ 20 by omega), ih', b_s32, b_eq0, b_01, l0, l1, true_and, and_true, and_self, true_implies, false_implies, implies_true, forall_const, not_true_eq_false, not_false_eq_true, reduceIte, ite_true, ite_false, reduceCtorEq, forall_eq, Classical.not_not, true_or, or_true, false_or, or_false, and_false, false_and, Int.reduceEq, Int.reduceLT, Int.reduceLE, Int.reduceAdd, Int.reduceSub, Int.reduceMul, Int.reduceNeg, show ¬ (2000 + 10 * k = -1) from by omega, show -1 ≤ 2000 + 10 * k from by omega, show -1 ≤ 2000 + 10 * a from by omega]
theorem km_can {g : Cnt} (hk : SK V S) (a0 : 0 ≤ a) (a1 : a < V 137 1) (c0 : 0 ≤ c) (c1 : c < 20) (he : s32 e = e) : ∀ (N : Nat) (k l q : Int) (u8 : XV), 0 ≤ k → (N : Int) + k = V 137 1 → (K_m_can (d + 4) Q (82, [(2, 137), (0, a), (0, c), (0, e), (0, l), (0, q), (0, k), u8], [], V, S, g) ↔ Q (cnA e (cn V a c N k l q)) V S) := by
  have hS := hk.1
  have hV := hk.2.1
  have n12 := hk.n12
  intro N
  induction N with
  | zero =>
    intro k l q u8 k0 k1
    rw [L_m_can_82, cn, cnA]
    by_cases h1 : s32 q < 0
    · simp (disch := omega) only [hS.k137, s32_id, show ¬ k < V 137 1 from by omega, h1, b_s32, b_eq0, b_01, l0, l1, true_and, and_true, and_self, true_implies, false_implies, implies_true, forall_const, not_true_eq_false, not_false_eq_true, reduceIte, ite_true, ite_false, reduceCtorEq, forall_eq, Classical.not_not, true_or, or_true, false_or, or_false, and_false, false_and, Int.reduceEq, Int.reduceLT, Int.reduceLE, Int.reduceAdd, Int.reduceSub, Int.reduceMul, Int.reduceNeg]
    · by_cases h2 : e = 0
      · simp (disch := omega) only [hS.k137, s32_id, show ¬ k < V 137 1 from by omega, h1, h2, b_s32, b_eq0, b_01, l0, l1, true_and, and_true, and_self, true_implies, false_implies, implies_true, forall_const, not_true_eq_false, not_false_eq_true, reduceIte, ite_true, ite_false, reduceCtorEq, forall_eq, Classical.not_not, true_or, or_true, false_or, or_false, and_false, false_and, Int.reduceEq, Int.reduceLT, Int.reduceLE, Int.reduceAdd, Int.reduceSub, Int.reduceMul, Int.reduceNeg]
      · simp (disch := omega) only [hS.k137, he, s32_id, show ¬ k < V 137 1 from by omega, h1, h2, b_s32, b_eq0, b_01, l0, l1, true_and, and_true, and_self, true_implies, false_implies, implies_true, forall_const, not_true_eq_false, not_false_eq_true, reduceIte, ite_true, ite_false, reduceCtorEq, forall_eq, Classical.not_not, true_or, or_true, false_or, or_false, and_false, false_and, Int.reduceEq, Int.reduceLT, Int.reduceLE, Int.reduceAdd, Int.reduceSub, Int.reduceMul, Int.reduceNeg]
  | succ N ih =>
    intro k l q u8 k0 k1
    have ih' := fun l q u8 => ih (k + 1) l q u8 (by omega) (by omega)
    have k2 : k < V 137 1 := by omega
    rw [L_m_can_82, cn]
    by_cases h1 : k = a
    · simp (disch := omega) only [hS.k137, s32_id, k2, h1, ih', b_s32, b_eq0, b_01, l0, l1, true_and, and_true, and_self, true_implies, false_implies, implies_true, forall_const, not_true_eq_false, not_false_eq_true, reduceIte, ite_true, ite_false, reduceCtorEq, forall_eq, Classical.not_not, true_or, or_true, false_or, or_false, and_false, false_and, Int.reduceEq, Int.reduceLT, Int.reduceLE, Int.reduceAdd, Int.reduceSub, Int.reduceMul, Int.reduceNeg]
      subst h1
      simp (disch := omega) only [k2, b_s32, b_eq0, b_01, l0, l1, true_and, and_true, and_self, true_implies, false_implies, implies_true, forall_const, not_true_eq_false, not_false_eq_true, reduceIte, ite_true, ite_false, reduceCtorEq, forall_eq, Classical.not_not, true_or, or_true, false_or, or_false, and_false, false_and, Int.reduceEq, Int.reduceLT, Int.reduceLE, Int.reduceAdd, Int.reduceSub, Int.reduceMul, Int.reduceNeg, ih']
    · by_cases h3 : al V a k c.toNat 0 = true
      · by_cases h4 : s32 (V 140 (20 * k + c)) < s32 l
        · by_cases h5 : s32 q < s32 (V 140 (20 * k + c))
          · simp (disch := omega) only [hS.k137, s32_id, k2, h1, h3, h4, h5, p_areAlike hk a0 a1 k0 k2 c0 (show c ≤ 20 by omega), hS.k140, hS.n140, hV.r137_5, show 0 ≤ 20 * k + c from by omega, show 20 * k + c < 240 from by omega, ih', b_s32, b_eq0, b_01, l0, l1, true_and, and_true, and_self, true_implies, false_implies, implies_true, forall_const, not_true_eq_false, not_false_eq_true, reduceIte, ite_true, ite_false, reduceCtorEq, forall_eq, Classical.not_not, true_or, or_true, false_or, or_false, and_false, false_and, Int.reduceEq, Int.reduceLT, Int.reduceLE, Int.reduceAdd, Int.reduceSub, Int.reduceMul, Int.reduceNeg]
          · simp (disch := omega) only [hS.k137, s32_id, k2, h1, h3, h4, h5, p_areAlike hk a0 a1 k0 k2 c0 (show c ≤ 20 by omega), hS.k140, hS.n140, hV.r137_5, show 0 ≤ 20 * k + c from by omega, show 20 * k + c < 240 from by omega, ih', b_s32, b_eq0, b_01, l0, l1, true_and, and_true, and_self, true_implies, false_implies, implies_true, forall_const, not_true_eq_false, not_false_eq_true, reduceIte, ite_true, ite_false, reduceCtorEq, forall_eq, Classical.not_not, true_or, or_true, false_or, or_false, and_false, false_and, Int.reduceEq, Int.reduceLT, Int.reduceLE, Int.reduceAdd, Int.reduceSub, Int.reduceMul, Int.reduceNeg]
        · by_cases h5 : s32 q < s32 (V 140 (20 * k + c))
          · simp (disch := omega) only [hS.k137, s32_id, k2, h1, h3, h4, h5, p_areAlike hk a0 a1 k0 k2 c0 (show c ≤ 20 by omega), hS.k140, hS.n140, hV.r137_5, show 0 ≤ 20 * k + c from by omega, show 20 * k + c < 240 from by omega, ih', b_s32, b_eq0, b_01, l0, l1, true_and, and_true, and_self, true_implies, false_implies, implies_true, forall_const, not_true_eq_false, not_false_eq_true, reduceIte, ite_true, ite_false, reduceCtorEq, forall_eq, Classical.not_not, true_or, or_true, false_or, or_false, and_false, false_and, Int.reduceEq, Int.reduceLT, Int.reduceLE, Int.reduceAdd, Int.reduceSub, Int.reduceMul, Int.reduceNeg]
          · simp (disch := omega) only [hS.k137, s32_id, k2, h1, h3, h4, h5, p_areAlike hk a0 a1 k0 k2 c0 (show c ≤ 20 by omega), hS.k140, hS.n140, hV.r137_5, show 0 ≤ 20 * k + c from by omega, show 20 * k + c < 240 from by omega, ih', b_s32, b_eq0, b_01, l0, l1, true_and, and_true, and_self, true_implies, false_implies, implies_true, forall_const, not_true_eq_false, not_false_eq_true, reduceIte, ite_true, ite_false, reduceCtorEq, forall_eq, Classical.not_not, true_or, or_true, false_or, or_false, and_false, false_and, Int.reduceEq, Int.reduceLT, Int.reduceLE, Int.reduceAdd, Int.reduceSub, Int.reduceMul, Int.reduceNeg]
      · simp (disch := omega) only [hS.k137, s32_id, k2, h1, h3, p_areAlike hk a0 a1 k0 k2 c0 (show c ≤ 20 by omega), ih', b_s32, b_eq0, b_01, l0, l1, true_and, and_true, and_self, true_implies, false_implies, implies_true, forall_const, not_true_eq_false, not_false_eq_true, reduceIte, ite_true, ite_false, reduceCtorEq, forall_eq, Classical.not_not, true_or, or_true, false_or, or_false, and_false, false_and, Int.reduceEq, Int.reduceLT, Int.reduceLE, Int.reduceAdd, Int.reduceSub, Int.reduceMul, Int.reduceNeg]
theorem cmd_can (h : INV n V S) (hn : n ≤ m) (ha : s32 a = a) (hb : s32 b = b) (hc : s32 c = c) : C_x_can (d + 8) 100 a b c V S (fun r V1 S1 => C_m_can (d + 8) 137 a b c V1 S1 (fun r' V2 S2 => r = r' ∧ INV m V2 S2)) := by
  have hup := h.up hn
  have hk := h.1
  have hH := h.2.2.1
  have hS := hk.1
  have hV := hk.2.1
  have n12 := hk.n12
  by_cases h1 : 0 ≤ a ∧ a < V 137 1
  · have g0 : ¬ 2000 + 10 * a = -1 := by omega
    by_cases h2 : 0 ≤ b ∧ b ≤ 19
    · by_cases h3 : 0 ≤ c ∧ c ≤ 1
      · have e : ((V 137 1).toNat : Int) + 0 = V 137 1 := by omega
        by_cases h4 : 0 < b
        · have eb := ((hH.1 a h1.1 h1.2).2 (b - 1) (by omega) (by omega)).1
          have eb2 : 20 * a + b - 1 = 20 * a + (b - 1) := by omega
          simp (disch := omega) only [I_x_can, p_homeAt hk, p_isWithin, ha, hb, hc, h1, h2, h3, h4, g0, hS.k100, s32_id, p_coinsIn hk h1.1 h1.2, eb, b_s32, b_eq0, b_01, l0, l1, true_and, and_true, and_self, true_implies, false_implies, implies_true, forall_const, not_true_eq_false, not_false_eq_true, reduceIte, ite_true, ite_false, reduceCtorEq, forall_eq, Classical.not_not, true_or, or_true, false_or, or_false, and_false, false_and, Int.reduceEq, Int.reduceLT, Int.reduceLE, Int.reduceAdd, Int.reduceSub, Int.reduceMul, Int.reduceNeg, show 0 ≤ b - 1 from by omega, show b - 1 < 20 from by omega]
          refine (kx_can (d := d + 3) (g := (0, 0)) (Q := fun r V1 S1 => C_m_can (d + 8) 137 a b c V1 S1 (fun r' V2 S2 => r = r' ∧ INV m V2 S2)) hk hH h1.1 h1.2 h2.1 (by omega) hc (V 137 1).toNat 0 _ _ _ _ (by omega) e).mpr ?_
          simp (disch := omega) only [I_m_can, p_isHome hk, q_in hk, ha, hb, hc, h1, h2, h3, h4, hS.k137, s32_id, hS.k140, hS.n140, hV.r137_5, eb2, b_s32, b_eq0, b_01, l0, l1, true_and, and_true, and_self, true_implies, false_implies, implies_true, forall_const, not_true_eq_false, not_false_eq_true, reduceIte, ite_true, ite_false, reduceCtorEq, forall_eq, Classical.not_not, true_or, or_true, false_or, or_false, and_false, false_and, Int.reduceEq, Int.reduceLT, Int.reduceLE, Int.reduceAdd, Int.reduceSub, Int.reduceMul, Int.reduceNeg, show 0 ≤ 20 * a + (b - 1) from by omega, show 20 * a + (b - 1) < 240 from by omega]
          exact (km_can (d := d + 3) (g := (0, 0)) (Q := fun r' V2 S2 => _ = r' ∧ INV m V2 S2) hk h1.1 h1.2 h2.1 (by omega) hc (V 137 1).toNat 0 _ _ _ (by omega) e).mpr ⟨rfl, hup⟩
        · simp (disch := omega) only [I_x_can, p_homeAt hk, p_isWithin, ha, hb, hc, h1, h2, h3, h4, g0, hS.k100, s32_id, b_s32, b_eq0, b_01, l0, l1, true_and, and_true, and_self, true_implies, false_implies, implies_true, forall_const, not_true_eq_false, not_false_eq_true, reduceIte, ite_true, ite_false, reduceCtorEq, forall_eq, Classical.not_not, true_or, or_true, false_or, or_false, and_false, false_and, Int.reduceEq, Int.reduceLT, Int.reduceLE, Int.reduceAdd, Int.reduceSub, Int.reduceMul, Int.reduceNeg]
          refine (kx_can (d := d + 3) (g := (0, 0)) (Q := fun r V1 S1 => C_m_can (d + 8) 137 a b c V1 S1 (fun r' V2 S2 => r = r' ∧ INV m V2 S2)) hk hH h1.1 h1.2 h2.1 (by omega) hc (V 137 1).toNat 0 _ _ _ _ (by omega) e).mpr ?_
          simp (disch := omega) only [I_m_can, p_isHome hk, q_in hk, ha, hb, hc, h1, h2, h3, h4, hS.k137, s32_id, hS.k140, hS.n140, hV.r137_5, b_s32, b_eq0, b_01, l0, l1, true_and, and_true, and_self, true_implies, false_implies, implies_true, forall_const, not_true_eq_false, not_false_eq_true, reduceIte, ite_true, ite_false, reduceCtorEq, forall_eq, Classical.not_not, true_or, or_true, false_or, or_false, and_false, false_and, Int.reduceEq, Int.reduceLT, Int.reduceLE, Int.reduceAdd, Int.reduceSub, Int.reduceMul, Int.reduceNeg]
          exact (km_can (d := d + 3) (g := (0, 0)) (Q := fun r' V2 S2 => _ = r' ∧ INV m V2 S2) hk h1.1 h1.2 h2.1 (by omega) hc (V 137 1).toNat 0 _ _ _ (by omega) e).mpr ⟨rfl, hup⟩
      · simp (disch := omega) only [I_x_can, I_m_can, p_homeAt hk, p_isHome hk, p_isWithin, q_in hk, ha, hb, hc, h1, h2, h3, g0, hS.k100, hS.k137, s32_id, hup, b_s32, b_eq0, b_01, l0, l1, true_and, and_true, and_self, true_implies, false_implies, implies_true, forall_const, not_true_eq_false, not_false_eq_true, reduceIte, ite_true, ite_false, reduceCtorEq, forall_eq, Classical.not_not, true_or, or_true, false_or, or_false, and_false, false_and, Int.reduceEq, Int.reduceLT, Int.reduceLE, Int.reduceAdd, Int.reduceSub, Int.reduceMul, Int.reduceNeg]
    · simp (disch := omega) only [I_x_can, I_m_can, p_homeAt hk, p_isHome hk, p_isWithin, q_in hk, ha, hb, hc, h1, h2, g0, hS.k100, hS.k137, s32_id, hup, b_s32, b_eq0, b_01, l0, l1, true_and, and_true, and_self, true_implies, false_implies, implies_true, forall_const, not_true_eq_false, not_false_eq_true, reduceIte, ite_true, ite_false, reduceCtorEq, forall_eq, Classical.not_not, true_or, or_true, false_or, or_false, and_false, false_and, Int.reduceEq, Int.reduceLT, Int.reduceLE, Int.reduceAdd, Int.reduceSub, Int.reduceMul, Int.reduceNeg]
  · simp (disch := omega) only [I_x_can, I_m_can, p_homeAt hk, p_isHome hk, ha, h1, hS.k100, hS.k137, s32_id, hup, b_s32, b_eq0, b_01, l0, l1, true_and, and_true, and_self, true_implies, false_implies, implies_true, forall_const, not_true_eq_false, not_false_eq_true, reduceIte, ite_true, ite_false, reduceCtorEq, forall_eq, Classical.not_not, true_or, or_true, false_or, or_false, and_false, false_and, Int.reduceEq, Int.reduceLT, Int.reduceLE, Int.reduceAdd, Int.reduceSub, Int.reduceMul, Int.reduceNeg]
/-- the DAYS of the first codes that were sold, from one on -/
def sm (V : Mem) (a : Int) : Nat → Int → Int → Int
  | 0, _, s => s
  | N + 1, k, s => sm V a N (k + 1) (s + V 157 (64 * a + k))
theorem kx_agree {g : Cnt} (hk : SK V S) (hC : LC1 V a) (a0 : 0 ≤ a) (a1 : a < V 137 2) (hT : s32 (V 153 a) ≤ 64) : ∀ (N : Nat) (k s : Int), 0 ≤ k → (N : Int) + k = s32 (V 153 a) ∨ (N = 0 ∧ s32 (V 153 a) ≤ k ∧ k ≤ 64) → (K_Codes_isAsSold d Q (17, [(2, 1003 + 10 * a), (0, s), (0, k)], [], V, S, g) ↔ Q (if s32 (sm V a N k s) = s32 (V 154 a) then 1 else 0) V S) := by
  obtain ⟨⟨-, -, -, k3, k4, k5, -⟩, -, -, -, -, -, -, r4⟩ := hk.lamp a0 a1
  obtain ⟨q0, q1, q2, -, -, q5⟩ := hC
  intro N
  induction N with
  | zero =>
    intro k s k0 k1
    rw [L_Codes_isAsSold_17, sm]
    have e : ¬ k < s32 (V 153 a) := by omega
    by_cases c1 : s32 s = s32 (V 154 a)
    · simp (disch := omega) only [k3, q1, q2, s32_id, e, c1, b_s32, b_eq0, b_01, l0, l1, true_and, and_true, and_self, true_implies, false_implies, implies_true, forall_const, not_true_eq_false, not_false_eq_true, reduceIte, ite_true, ite_false, reduceCtorEq, forall_eq, Classical.not_not, true_or, or_true, false_or, or_false, and_false, false_and, Int.reduceEq, Int.reduceLT, Int.reduceLE, Int.reduceAdd, Int.reduceSub, Int.reduceMul, Int.reduceNeg]
    · simp (disch := omega) only [k3, q1, q2, s32_id, e, c1, b_s32, b_eq0, b_01, l0, l1, true_and, and_true, and_self, true_implies, false_implies, implies_true, forall_const, not_true_eq_false, not_false_eq_true, reduceIte, ite_true, ite_false, reduceCtorEq, forall_eq, Classical.not_not, true_or, or_true, false_or, or_false, and_false, false_and, Int.reduceEq, Int.reduceLT, Int.reduceLE, Int.reduceAdd, Int.reduceSub, Int.reduceMul, Int.reduceNeg]
  | succ N ih =>
    intro k s k0 k1
    have k2 : k < s32 (V 153 a) := by omega
    have ih' := ih (k + 1) (s + V 157 (64 * a + k)) (by omega) (by omega)
    rw [L_Codes_isAsSold_17, sm]
    simp (disch := omega) only [k3, k4, k5, r4, q1, s32_id, k2, k0, show k < 64 from by omega, (q5 k k0 (by omega)).1, ih', b_s32, b_eq0, b_01, l0, l1, true_and, and_true, and_self, true_implies, false_implies, implies_true, forall_const, not_true_eq_false, not_false_eq_true, reduceIte, ite_true, ite_false, reduceCtorEq, forall_eq, Classical.not_not, true_or, or_true, false_or, or_false, and_false, false_and, Int.reduceEq, Int.reduceLT, Int.reduceLE, Int.reduceAdd, Int.reduceSub, Int.reduceMul, Int.reduceNeg]
theorem km_agree {g : Cnt} (hk : SK V S) (ha : s32 a = a) (a0 : 0 ≤ a) (a1 : a < V 137 2) (hT : s32 (V 153 a) ≤ 64) : ∀ (N : Nat) (k s : Int), 0 ≤ k → (N : Int) + k = s32 (V 153 a) ∨ (N = 0 ∧ s32 (V 153 a) ≤ k ∧ k ≤ 64) → (K_m_agree d Q (31, [(2, 137), (0, a), (0, s), (0, k)], [], V, S, g) ↔ Q (if s32 (sm V a N k s) = s32 (V 154 a) then 1 else 0) V S) := by
  have hS := hk.1
  have hV := hk.2.1
  have n20 := hk.n20
  intro N
  induction N with
  | zero =>
    intro k s k0 k1
    rw [L_m_agree_31, sm]
    have e : ¬ k < s32 (V 153 a) := by omega
    by_cases c1 : s32 s = s32 (V 154 a)
    · simp (disch := omega) only [hS.k137, hS.k153, hS.n153, hV.r137_18, hS.k154, hS.n154, hV.r137_19, ha, a0, show a < 20 from by omega, s32_id, e, c1, b_s32, b_eq0, b_01, l0, l1, true_and, and_true, and_self, true_implies, false_implies, implies_true, forall_const, not_true_eq_false, not_false_eq_true, reduceIte, ite_true, ite_false, reduceCtorEq, forall_eq, Classical.not_not, true_or, or_true, false_or, or_false, and_false, false_and, Int.reduceEq, Int.reduceLT, Int.reduceLE, Int.reduceAdd, Int.reduceSub, Int.reduceMul, Int.reduceNeg]
    · simp (disch := omega) only [hS.k137, hS.k153, hS.n153, hV.r137_18, hS.k154, hS.n154, hV.r137_19, ha, a0, show a < 20 from by omega, s32_id, e, c1, b_s32, b_eq0, b_01, l0, l1, true_and, and_true, and_self, true_implies, false_implies, implies_true, forall_const, not_true_eq_false, not_false_eq_true, reduceIte, ite_true, ite_false, reduceCtorEq, forall_eq, Classical.not_not, true_or, or_true, false_or, or_false, and_false, false_and, Int.reduceEq, Int.reduceLT, Int.reduceLE, Int.reduceAdd, Int.reduceSub, Int.reduceMul, Int.reduceNeg]
  | succ N ih =>
    intro k s k0 k1
    have k2 : k < s32 (V 153 a) := by omega
    have ih' := ih (k + 1) (s + V 157 (64 * a + k)) (by omega) (by omega)
    rw [L_m_agree_31, sm]
    simp (disch := omega) only [hS.k137, hS.k153, hS.n153, hV.r137_18, hS.k157, hS.n157, hV.r137_22, ha, a0, show a < 20 from by omega, s32_id, k2, show 0 ≤ 64 * a + k from by omega, show 64 * a + k < 1280 from by omega, ih', b_s32, b_eq0, b_01, l0, l1, true_and, and_true, and_self, true_implies, false_implies, implies_true, forall_const, not_true_eq_false, not_false_eq_true, reduceIte, ite_true, ite_false, reduceCtorEq, forall_eq, Classical.not_not, true_or, or_true, false_or, or_false, and_false, false_and, Int.reduceEq, Int.reduceLT, Int.reduceLE, Int.reduceAdd, Int.reduceSub, Int.reduceMul, Int.reduceNeg]
theorem cmd_agree (h : INV n V S) (hn : n ≤ m) (ha : s32 a = a) : C_x_agree (d + 8) 100 a V S (fun r V1 S1 => C_m_agree (d + 8) 137 a V1 S1 (fun r' V2 S2 => r = r' ∧ INV m V2 S2)) := by
  have hup := h.up hn
  have hk := h.1
  have hS := hk.1
  have hV := hk.2.1
  have n20 := hk.n20
  by_cases h1 : 0 ≤ a ∧ a < V 137 2
  · have g0 : ¬ 1000 + 10 * a = -1 := by omega
    have hC := h.2.2.2.1.2.2.2.2.1 a h1.1 h1.2
    obtain ⟨⟨k0, -, -, k3, -⟩, -, -, -, -, r6, -⟩ := hk.lamp h1.1 h1.2
    obtain ⟨q0, q1, q2, ⟨q3, q4, q5⟩, -⟩ := hC
    have hs : s32 (V 150 a) = V 150 a := s32_id (by omega) (by omega)
    by_cases h2 : V 150 a < s32 (V 153 a)
    · simp (disch := omega) only [I_x_agree, I_m_agree, p_lampAt hk, p_isLamp hk, ha, h1, g0, hS.k100, hS.k137, k0, r6, I_Codes_isAsSold, k3, q1, q3, hs, h2, hup, b_s32, b_eq0, b_01, l0, l1, true_and, and_true, and_self, true_implies, false_implies, implies_true, forall_const, not_true_eq_false, not_false_eq_true, reduceIte, ite_true, ite_false, reduceCtorEq, forall_eq, Classical.not_not, true_or, or_true, false_or, or_false, and_false, false_and, Int.reduceEq, Int.reduceLT, Int.reduceLE, Int.reduceAdd, Int.reduceSub, Int.reduceMul, Int.reduceNeg, hS.k153, hS.n153, hV.r137_18, hS.k150, hS.n150, hV.r137_15, show a < 20 from by omega]
    · obtain ⟨N, hN⟩ : ∃ N : Nat, (N : Int) + 0 = s32 (V 153 a) ∨ (N = 0 ∧ s32 (V 153 a) ≤ 0 ∧ (0 : Int) ≤ 64) := by
        by_cases e : s32 (V 153 a) ≤ 0
        · exact ⟨0, Or.inr ⟨rfl, e, by omega⟩⟩
        · exact ⟨(s32 (V 153 a)).toNat, Or.inl (by omega)⟩
      have gx := fun Q => kx_agree (d := d + 6) (Q := Q) (g := (0, 0)) hk (h.2.2.2.1.2.2.2.2.1 a h1.1 h1.2) h1.1 h1.2 (by omega) N 0 0 (by omega) hN
      have gm := fun Q => km_agree (d := d + 7) (Q := Q) (g := (0, 0)) hk ha h1.1 h1.2 (by omega) N 0 0 (by omega) hN
      by_cases h3 : s32 (sm V a N 0 0) = s32 (V 154 a)
      · simp only [h3, b_s32, b_eq0, b_01, l0, l1, true_and, and_true, and_self, true_implies, false_implies, implies_true, forall_const, not_true_eq_false, not_false_eq_true, reduceIte, ite_true, ite_false, reduceCtorEq, forall_eq, Classical.not_not, true_or, or_true, false_or, or_false, and_false, false_and, Int.reduceEq, Int.reduceLT, Int.reduceLE, Int.reduceAdd, Int.reduceSub, Int.reduceMul, Int.reduceNeg] at gx gm
        simp (disch := omega) only [I_x_agree, I_m_agree, p_lampAt hk, p_isLamp hk, ha, h1, g0, hS.k100, hS.k137, k0, r6, I_Codes_isAsSold, k3, q1, q3, hs, h2, hup, gx, gm, b_s32, b_eq0, b_01, l0, l1, true_and, and_true, and_self, true_implies, false_implies, implies_true, forall_const, not_true_eq_false, not_false_eq_true, reduceIte, ite_true, ite_false, reduceCtorEq, forall_eq, Classical.not_not, true_or, or_true, false_or, or_false, and_false, false_and, Int.reduceEq, Int.reduceLT, Int.reduceLE, Int.reduceAdd, Int.reduceSub, Int.reduceMul, Int.reduceNeg, hS.k153, hS.n153, hV.r137_18, hS.k150, hS.n150, hV.r137_15, show a < 20 from by omega]
      · simp only [h3, b_s32, b_eq0, b_01, l0, l1, true_and, and_true, and_self, true_implies, false_implies, implies_true, forall_const, not_true_eq_false, not_false_eq_true, reduceIte, ite_true, ite_false, reduceCtorEq, forall_eq, Classical.not_not, true_or, or_true, false_or, or_false, and_false, false_and, Int.reduceEq, Int.reduceLT, Int.reduceLE, Int.reduceAdd, Int.reduceSub, Int.reduceMul, Int.reduceNeg] at gx gm
        simp (disch := omega) only [I_x_agree, I_m_agree, p_lampAt hk, p_isLamp hk, ha, h1, g0, hS.k100, hS.k137, k0, r6, I_Codes_isAsSold, k3, q1, q3, hs, h2, hup, gx, gm, b_s32, b_eq0, b_01, l0, l1, true_and, and_true, and_self, true_implies, false_implies, implies_true, forall_const, not_true_eq_false, not_false_eq_true, reduceIte, ite_true, ite_false, reduceCtorEq, forall_eq, Classical.not_not, true_or, or_true, false_or, or_false, and_false, false_and, Int.reduceEq, Int.reduceLT, Int.reduceLE, Int.reduceAdd, Int.reduceSub, Int.reduceMul, Int.reduceNeg, hS.k153, hS.n153, hV.r137_18, hS.k150, hS.n150, hV.r137_15, show a < 20 from by omega]
  · simp (disch := omega) only [I_x_agree, I_m_agree, p_lampAt hk, p_isLamp hk, ha, h1, hS.k100, hS.k137, s32_id, hup, b_s32, b_eq0, b_01, l0, l1, true_and, and_true, and_self, true_implies, false_implies, implies_true, forall_const, not_true_eq_false, not_false_eq_true, reduceIte, ite_true, ite_false, reduceCtorEq, forall_eq, Classical.not_not, true_or, or_true, false_or, or_false, and_false, false_and, Int.reduceEq, Int.reduceLT, Int.reduceLE, Int.reduceAdd, Int.reduceSub, Int.reduceMul, Int.reduceNeg]
/-- how many DAYS are of a KIND or one under it -/
def dy (V : Mem) (a e : Int) : Nat → Int → Int → Int
  | 0, _, s => s
  | N + 1, k, s => dy V a e N (k + 1) (if V 151 a ≤ k ∧ uk (V 158 (600 * a + k)) e then s + 1 else s)
theorem kx_days {g : Cnt} (hk : SK V S) (hA : ALL V LA1) (hK : ALL V LK1) (a0 : 0 ≤ a) (a1 : a < V 137 2) (c1 : c < V 137 0) (e0 : 0 ≤ e) (e1 : e ≤ 6) : ∀ (N : Nat) (k s : Int) (u1 u2 : XV), 0 ≤ k → (N : Int) + k = c + 1 → (K_x_days (d + 6) Q (45, [(2, 100), u1, u2, (0, c), (0, e), (2, 1000 + 10 * a), (0, s), (0, k)], [], V, S, g) ↔ Q (dy V a e N k s) V S) := by
  have hS := hk.1
  have hV := hk.2.1
  have n599 := hk.n599
  obtain ⟨-, -, ⟨q1, q2, q3⟩⟩ := hA a a0 a1
  intro N
  induction N with
  | zero =>
    intro k s u1 u2 k0 k1
    rw [L_x_days_45, dy]
    simp (disch := omega) only [s32_id, show c < k from by omega, b_s32, b_eq0, b_01, l0, l1, true_and, and_true, and_self, true_implies, false_implies, implies_true, forall_const, not_true_eq_false, not_false_eq_true, reduceIte, ite_true, ite_false, reduceCtorEq, forall_eq, Classical.not_not, true_or, or_true, false_or, or_false, and_false, false_and, Int.reduceEq, Int.reduceLT, Int.reduceLE, Int.reduceAdd, Int.reduceSub, Int.reduceMul, Int.reduceNeg]
  | succ N ih =>
    intro k s u1 u2 k0 k1
    have ih' := fun s u1 u2 => ih (k + 1) s u1 u2 (by omega) (by omega)
    have hp := fun Q => p_kindOf (d := d) (a := a) (b := k) (Q := Q) hk hA hK (s32_id (by omega) (by omega))
    have hki : kd V a k = if k < V 151 a then -5 else V 158 (600 * a + k) := by
      unfold kd
      rw [if_neg (fun q => q ⟨a0, a1⟩), if_neg (fun q => q ⟨k0, by omega⟩)]
    rw [L_x_days_45, dy]
    simp only [a0, a1, b_s32, b_eq0, b_01, l0, l1, true_and, and_true, and_self, true_implies, false_implies, implies_true, forall_const, not_true_eq_false, not_false_eq_true, reduceIte, ite_true, ite_false, reduceCtorEq, forall_eq, Classical.not_not, true_or, or_true, false_or, or_false, and_false, false_and, Int.reduceEq, Int.reduceLT, Int.reduceLE, Int.reduceAdd, Int.reduceSub, Int.reduceMul, Int.reduceNeg, hki] at hp
    by_cases h1 : k < V 151 a
    · simp only [h1, b_s32, b_eq0, b_01, l0, l1, true_and, and_true, and_self, true_implies, false_implies, implies_true, forall_const, not_true_eq_false, not_false_eq_true, reduceIte, ite_true, ite_false, reduceCtorEq, forall_eq, Classical.not_not, true_or, or_true, false_or, or_false, and_false, false_and, Int.reduceEq, Int.reduceLT, Int.reduceLE, Int.reduceAdd, Int.reduceSub, Int.reduceMul, Int.reduceNeg] at hp
      simp (disch := omega) only [s32_id, show ¬ c < k from by omega, hp, p_isUnder hS hV (show -10 ≤ (-5 : Int) ∧ (-5 : Int) ≤ 6 by omega) e0 e1, show ¬ V 151 a ≤ k from by omega, ih', b_s32, b_eq0, b_01, l0, l1, true_and, and_true, and_self, true_implies, false_implies, implies_true, forall_const, not_true_eq_false, not_false_eq_true, reduceIte, ite_true, ite_false, reduceCtorEq, forall_eq, Classical.not_not, true_or, or_true, false_or, or_false, and_false, false_and, Int.reduceEq, Int.reduceLT, Int.reduceLE, Int.reduceAdd, Int.reduceSub, Int.reduceMul, Int.reduceNeg]
    · have hr := (hK a a0 a1).1 k (by omega) (by omega)
      simp only [h1, b_s32, b_eq0, b_01, l0, l1, true_and, and_true, and_self, true_implies, false_implies, implies_true, forall_const, not_true_eq_false, not_false_eq_true, reduceIte, ite_true, ite_false, reduceCtorEq, forall_eq, Classical.not_not, true_or, or_true, false_or, or_false, and_false, false_and, Int.reduceEq, Int.reduceLT, Int.reduceLE, Int.reduceAdd, Int.reduceSub, Int.reduceMul, Int.reduceNeg] at hp
      by_cases h2 : uk (V 158 (600 * a + k)) e = true
      · simp (disch := omega) only [s32_id, show ¬ c < k from by omega, hp, p_isUnder hS hV (show -10 ≤ V 158 (600 * a + k) ∧ V 158 (600 * a + k) ≤ 6 by omega) e0 e1, show V 151 a ≤ k from by omega, h2, ih', b_s32, b_eq0, b_01, l0, l1, true_and, and_true, and_self, true_implies, false_implies, implies_true, forall_const, not_true_eq_false, not_false_eq_true, reduceIte, ite_true, ite_false, reduceCtorEq, forall_eq, Classical.not_not, true_or, or_true, false_or, or_false, and_false, false_and, Int.reduceEq, Int.reduceLT, Int.reduceLE, Int.reduceAdd, Int.reduceSub, Int.reduceMul, Int.reduceNeg, hr.2.1]
      · simp (disch := omega) only [s32_id, show ¬ c < k from by omega, hp, p_isUnder hS hV (show -10 ≤ V 158 (600 * a + k) ∧ V 158 (600 * a + k) ≤ 6 by omega) e0 e1, show V 151 a ≤ k from by omega, h2, ih', b_s32, b_eq0, b_01, l0, l1, true_and, and_true, and_self, true_implies, false_implies, implies_true, forall_const, not_true_eq_false, not_false_eq_true, reduceIte, ite_true, ite_false, reduceCtorEq, forall_eq, Classical.not_not, true_or, or_true, false_or, or_false, and_false, false_and, Int.reduceEq, Int.reduceLT, Int.reduceLE, Int.reduceAdd, Int.reduceSub, Int.reduceMul, Int.reduceNeg, hr.2.1]
theorem km_days {g : Cnt} (hk : SK V S) (hA : ALL V LA1) (hK : ALL V LK1) (ha : s32 a = a) (a0 : 0 ≤ a) (a1 : a < V 137 2) (c1 : c < V 137 0) (e0 : 0 ≤ e) (e1 : e ≤ 6) : ∀ (N : Nat) (k s : Int) (u2 : XV), 0 ≤ k → (N : Int) + k = c + 1 → (K_m_days (d + 6) Q (58, [(2, 137), (0, a), u2, (0, c), (0, e), (0, s), (0, k)], [], V, S, g) ↔ Q (dy V a e N k s) V S) := by
  have hS := hk.1
  have hV := hk.2.1
  have n599 := hk.n599
  have n20 := hk.n20
  obtain ⟨-, -, ⟨q1, q2, q3⟩⟩ := hA a a0 a1
  intro N
  induction N with
  | zero =>
    intro k s u2 k0 k1
    rw [L_m_days_58, dy]
    simp (disch := omega) only [s32_id, show c < k from by omega, b_s32, b_eq0, b_01, l0, l1, true_and, and_true, and_self, true_implies, false_implies, implies_true, forall_const, not_true_eq_false, not_false_eq_true, reduceIte, ite_true, ite_false, reduceCtorEq, forall_eq, Classical.not_not, true_or, or_true, false_or, or_false, and_false, false_and, Int.reduceEq, Int.reduceLT, Int.reduceLE, Int.reduceAdd, Int.reduceSub, Int.reduceMul, Int.reduceNeg]
  | succ N ih =>
    intro k s u2 k0 k1
    have ih' := fun s u2 => ih (k + 1) s u2 (by omega) (by omega)
    rw [L_m_days_58, dy]
    by_cases h1 : k < V 151 a
    · simp (disch := omega) only [s32_id, show ¬ c < k from by omega, hS.k137, hS.k151, hS.n151, hV.r137_16, hS.k158, hS.n158, hV.r137_23, ha, a0, show a < 20 from by omega, h1, show ¬ V 151 a ≤ k from by omega, ih', Int.add_zero, b_s32, b_eq0, b_01, l0, l1, true_and, and_true, and_self, true_implies, false_implies, implies_true, forall_const, not_true_eq_false, not_false_eq_true, reduceIte, ite_true, ite_false, reduceCtorEq, forall_eq, Classical.not_not, true_or, or_true, false_or, or_false, and_false, false_and, Int.reduceEq, Int.reduceLT, Int.reduceLE, Int.reduceAdd, Int.reduceSub, Int.reduceMul, Int.reduceNeg]
    · have hr := (hK a a0 a1).1 k (by omega) (by omega)
      by_cases h2 : uk (V 158 (600 * a + k)) e = true
      · simp (disch := omega) only [s32_id, show ¬ c < k from by omega, hS.k137, hS.k151, hS.n151, hV.r137_16, hS.k158, hS.n158, hV.r137_23, ha, a0, show a < 20 from by omega, h1, p_misUnder hk (s32_id (x := V 158 (600 * a + k)) (by omega) (by omega)) (s32_id (x := e) (by omega) (by omega)), show V 151 a ≤ k from by omega, h2, ih', Int.add_zero, b_s32, b_eq0, b_01, l0, l1, true_and, and_true, and_self, true_implies, false_implies, implies_true, forall_const, not_true_eq_false, not_false_eq_true, reduceIte, ite_true, ite_false, reduceCtorEq, forall_eq, Classical.not_not, true_or, or_true, false_or, or_false, and_false, false_and, Int.reduceEq, Int.reduceLT, Int.reduceLE, Int.reduceAdd, Int.reduceSub, Int.reduceMul, Int.reduceNeg, show 0 ≤ 600 * a + k from by omega, show 600 * a + k < 12000 from by omega]
      · simp (disch := omega) only [s32_id, show ¬ c < k from by omega, hS.k137, hS.k151, hS.n151, hV.r137_16, hS.k158, hS.n158, hV.r137_23, ha, a0, show a < 20 from by omega, h1, p_misUnder hk (s32_id (x := V 158 (600 * a + k)) (by omega) (by omega)) (s32_id (x := e) (by omega) (by omega)), show V 151 a ≤ k from by omega, h2, ih', Int.add_zero, b_s32, b_eq0, b_01, l0, l1, true_and, and_true, and_self, true_implies, false_implies, implies_true, forall_const, not_true_eq_false, not_false_eq_true, reduceIte, ite_true, ite_false, reduceCtorEq, forall_eq, Classical.not_not, true_or, or_true, false_or, or_false, and_false, false_and, Int.reduceEq, Int.reduceLT, Int.reduceLE, Int.reduceAdd, Int.reduceSub, Int.reduceMul, Int.reduceNeg, show 0 ≤ 600 * a + k from by omega, show 600 * a + k < 12000 from by omega]
theorem cmd_days (h : INV n V S) (hn : n ≤ m) (ha : s32 a = a) (hb : s32 b = b) (hc : s32 c = c) (he : s32 e = e) : C_x_days (d + 8) 100 a b c e V S (fun r V1 S1 => C_m_days (d + 8) 137 a b c e V1 S1 (fun r' V2 S2 => r = r' ∧ INV m V2 S2)) := by
  have hup := h.up hn
  have hk := h.1
  have hS := hk.1
  have hV := hk.2.1
  have n599 := hk.n599
  have c12 := hk.2.2.1.2.2.1.1
  by_cases h1 : 0 ≤ a ∧ a < V 137 2
  · have g0 : ¬ 1000 + 10 * a = -1 := by omega
    by_cases h2 : 0 ≤ b
    · by_cases h3 : c < b
      · simp (disch := omega) only [I_x_days, I_m_days, p_lampAt hk, p_isLamp hk, q_in hk, ha, hb, hc, h1, g0, hS.k100, hS.k137, show ¬ b < 0 from by omega, h2, h3, hup, b_s32, b_eq0, b_01, l0, l1, true_and, and_true, and_self, true_implies, false_implies, implies_true, forall_const, not_true_eq_false, not_false_eq_true, reduceIte, ite_true, ite_false, reduceCtorEq, forall_eq, Classical.not_not, true_or, or_true, false_or, or_false, and_false, false_and, Int.reduceEq, Int.reduceLT, Int.reduceLE, Int.reduceAdd, Int.reduceSub, Int.reduceMul, Int.reduceNeg, s32_id, show ¬ b ≤ c from by omega]
      · by_cases h4 : c < V 137 0
        · by_cases h5 : 0 ≤ e ∧ e ≤ 6
          · have ee : ((c + 1 - b).toNat : Int) + b = c + 1 := by omega
            simp (disch := omega) only [I_x_days, p_lampAt hk, ha, hb, hc, he, h1, g0, hS.k100, show ¬ b < 0 from by omega, h3, h4, h5, c12, p_isKind, b_s32, b_eq0, b_01, l0, l1, true_and, and_true, and_self, true_implies, false_implies, implies_true, forall_const, not_true_eq_false, not_false_eq_true, reduceIte, ite_true, ite_false, reduceCtorEq, forall_eq, Classical.not_not, true_or, or_true, false_or, or_false, and_false, false_and, Int.reduceEq, Int.reduceLT, Int.reduceLE, Int.reduceAdd, Int.reduceSub, Int.reduceMul, Int.reduceNeg, s32_id]
            refine (kx_days (d := d + 1) (g := (0, 0)) (Q := fun r V1 S1 => C_m_days (d + 8) 137 a b c e V1 S1 (fun r' V2 S2 => r = r' ∧ INV m V2 S2)) hk h.2.2.2.1.1 h.2.2.2.1.2.2.2.2.2.1 h1.1 h1.2 h4 h5.1 h5.2 (c + 1 - b).toNat b 0 _ _ h2 ee).mpr ?_
            simp (disch := omega) only [I_m_days, p_isLamp hk, q_in hk, ha, hb, hc, he, h1, hS.k137, h2, h5, b_s32, b_eq0, b_01, l0, l1, true_and, and_true, and_self, true_implies, false_implies, implies_true, forall_const, not_true_eq_false, not_false_eq_true, reduceIte, ite_true, ite_false, reduceCtorEq, forall_eq, Classical.not_not, true_or, or_true, false_or, or_false, and_false, false_and, Int.reduceEq, Int.reduceLT, Int.reduceLE, Int.reduceAdd, Int.reduceSub, Int.reduceMul, Int.reduceNeg, s32_id, show b ≤ V 137 0 - 1 from by omega, show b ≤ c from by omega, show c ≤ V 137 0 - 1 from by omega]
            exact (km_days (d := d + 1) (g := (0, 0)) (Q := fun r' V2 S2 => _ = r' ∧ INV m V2 S2) hk h.2.2.2.1.1 h.2.2.2.1.2.2.2.2.2.1 ha h1.1 h1.2 h4 h5.1 h5.2 (c + 1 - b).toNat b 0 _ h2 ee).mpr ⟨rfl, hup⟩
          · simp (disch := omega) only [I_x_days, I_m_days, p_lampAt hk, p_isLamp hk, q_in hk, ha, hb, hc, he, h1, g0, hS.k100, hS.k137, show ¬ b < 0 from by omega, h2, h3, h4, h5, c12, p_isKind, hup, b_s32, b_eq0, b_01, l0, l1, true_and, and_true, and_self, true_implies, false_implies, implies_true, forall_const, not_true_eq_false, not_false_eq_true, reduceIte, ite_true, ite_false, reduceCtorEq, forall_eq, Classical.not_not, true_or, or_true, false_or, or_false, and_false, false_and, Int.reduceEq, Int.reduceLT, Int.reduceLE, Int.reduceAdd, Int.reduceSub, Int.reduceMul, Int.reduceNeg, s32_id, show b ≤ V 137 0 - 1 from by omega, show b ≤ c from by omega, show c ≤ V 137 0 - 1 from by omega]
        · simp (disch := omega) only [I_x_days, I_m_days, p_lampAt hk, p_isLamp hk, q_in hk, ha, hb, hc, h1, g0, hS.k100, hS.k137, show ¬ b < 0 from by omega, h2, h3, h4, c12, hup, b_s32, b_eq0, b_01, l0, l1, true_and, and_true, and_self, true_implies, false_implies, implies_true, forall_const, not_true_eq_false, not_false_eq_true, reduceIte, ite_true, ite_false, reduceCtorEq, forall_eq, Classical.not_not, true_or, or_true, false_or, or_false, and_false, false_and, Int.reduceEq, Int.reduceLT, Int.reduceLE, Int.reduceAdd, Int.reduceSub, Int.reduceMul, Int.reduceNeg, s32_id, show ¬ c ≤ V 137 0 - 1 from by omega]
    · simp (disch := omega) only [I_x_days, I_m_days, p_lampAt hk, p_isLamp hk, q_in hk, ha, hb, h1, g0, hS.k100, hS.k137, show b < 0 from by omega, h2, hup, b_s32, b_eq0, b_01, l0, l1, true_and, and_true, and_self, true_implies, false_implies, implies_true, forall_const, not_true_eq_false, not_false_eq_true, reduceIte, ite_true, ite_false, reduceCtorEq, forall_eq, Classical.not_not, true_or, or_true, false_or, or_false, and_false, false_and, Int.reduceEq, Int.reduceLT, Int.reduceLE, Int.reduceAdd, Int.reduceSub, Int.reduceMul, Int.reduceNeg]
  · simp (disch := omega) only [I_x_days, I_m_days, p_lampAt hk, p_isLamp hk, ha, h1, hS.k100, hS.k137, hup, b_s32, b_eq0, b_01, l0, l1, true_and, and_true, and_self, true_implies, false_implies, implies_true, forall_const, not_true_eq_false, not_false_eq_true, reduceIte, ite_true, ite_false, reduceCtorEq, forall_eq, Classical.not_not, true_or, or_true, false_or, or_false, and_false, false_and, Int.reduceEq, Int.reduceLT, Int.reduceLE, Int.reduceAdd, Int.reduceSub, Int.reduceMul, Int.reduceNeg]
end C8
