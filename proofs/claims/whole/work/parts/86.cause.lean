/-! commands: cause -/
section CSE
variable {d : Nat} {n m : Int} {F : Nat} {fb : Nat → Nat} {V : Mem} {S : Shp} {Q : Int → Mem → Shp → Prop}
def hit (fb : Nat → Nat) (F s : Nat) : Prop := ∀ f, f < F → fb f &&& s ≠ 0
def FTS (fb : Nat → Nat) (F : Nat) (V : Mem) : Prop := V 137 52 = (F : Int) ∧ F ≤ 12 ∧ V 113 2 = (F : Int) ∧ ∀ f : Nat, f < F → V 169 (f : Int) = (fb f : Int) ∧ V 114 (4 * (f : Int) + 1) = (fb f : Int) ∧ fb f < 65536 ∧ fb f % 16 ≠ 0
def opn (fb : Nat → Nat) (c : Nat) : Nat → Nat → Nat
  | 0, _ => 0
  | N + 1, k => if fb k &&& c = 0 then fb k else opn fb c N (k + 1)
theorem opn_p (hf : ∀ f, f < F → fb f < 65536 ∧ fb f % 16 ≠ 0) (c : Nat) : ∀ N k : Nat, N + k = F → (opn fb c N k = 0 ∧ ∀ f, k ≤ f → f < F → fb f &&& c ≠ 0) ∨ (∃ f, f < F ∧ opn fb c N k = fb f ∧ fb f &&& c = 0 ∧ opn fb c N k ≠ 0)
  | 0, k, h => Or.inl ⟨rfl, fun f h0 h1 => by omega⟩
  | N + 1, k, h => by
    unfold opn
    by_cases e : fb k &&& c = 0
    · rw [if_pos e]
      have q := hf k (by omega)
      exact Or.inr ⟨k, by omega, rfl, e, fun z => by omega⟩
    · rw [if_neg e]
      rcases opn_p hf c N (k + 1) (by omega) with q | q
      · refine Or.inl ⟨q.1, fun f h0 h1 => ?_⟩
        by_cases ek : f = k
        · rw [ek]; exact e
        · exact q.2 f (by omega) h1
      · exact Or.inr q
theorem c_open {g : Cnt} (hS : FS S) (hV : FV V) (h5 : BK 113 V S) (hF : FTS fb F V) {c : Nat} (hc : c < 65536) : ∀ (N k : Nat) (u3 : XV), N + k = F → (K_x_causesOfFirstOpen (d + 2) Q (2, [(2, 100), (0, (c : Int)), (0, (k : Int)), u3], [], V, S, g) ↔ Q ((opn fb c N k : Nat) : Int) V S) := by
  obtain ⟨f1, f2, f3, f4⟩ := hF
  have h52 := h5.2.2.2.2.2.1
  intro N
  induction N with
  | zero =>
    intro k u3 h
    have e : k = F := by omega
    subst e
    have sk : s32 (k : Int) = (k : Int) := s32_id (by omega) (by omega)
    rw [L_x_causesOfFirstOpen_2]
    simp only [hS.k100, hV.r100_5, hS.k113, f3, sk, Int.lt_irrefl, show opn fb c 0 k = 0 from rfl, b_s32, b_eq0, b_01, l0, l1, true_and, and_true, and_self, true_implies, false_implies, implies_true, forall_const, not_true_eq_false, not_false_eq_true, reduceIte, ite_true, ite_false, reduceCtorEq, forall_eq, Classical.not_not, true_or, or_true, false_or, or_false, and_false, false_and, Int.reduceEq, Int.reduceLT, Int.reduceLE, Int.reduceAdd, Int.reduceSub, Int.reduceMul, Int.reduceNeg]
    exact Iff.rfl
  | succ N ih =>
    intro k u3 h
    obtain ⟨g1, g2, g3, g4⟩ := f4 k (by omega)
    have sk : s32 (k : Int) = (k : Int) := s32_id (by omega) (by omega)
    have sF : s32 (F : Int) = (F : Int) := s32_id (by omega) (by omega)
    have q1 : ∀ Q', C_Book_cell (d + 2) 113 (k : Int) 1 V S Q' ↔ Q' ((fb k : Nat) : Int) V S := fun Q' => by rw [p_cell h5 (by omega) (by omega), show (113 : Int) + 1 = 114 from by omega, g2]
    have ea : iandI ((fb k : Nat) : Int) (c : Int) = ((fb k &&& c : Nat) : Int) := iand_n (by omega) (by omega)
    have hl : fb k &&& c ≤ fb k := Nat.and_le_left
    have sa : s32 ((fb k &&& c : Nat) : Int) = ((fb k &&& c : Nat) : Int) := s32_id (by omega) (by omega)
    have ih' := fun u3 => ih (k + 1) u3 (by omega)
    rw [show ((k + 1 : Nat) : Int) = (k : Int) + 1 from by omega] at ih'
    rw [L_x_causesOfFirstOpen_2, opn]
    by_cases e : fb k &&& c = 0
    · rw [if_pos e]
      simp only [hS.k100, hV.r100_5, hS.k113, f3, sk, sF, show (k : Int) < (F : Int) from by omega, q1, ea, sa, show ((fb k &&& c : Nat) : Int) = 0 from by omega, b_s32, b_eq0, b_01, l0, l1, true_and, and_true, and_self, true_implies, false_implies, implies_true, forall_const, not_true_eq_false, not_false_eq_true, reduceIte, ite_true, ite_false, reduceCtorEq, forall_eq, Classical.not_not, true_or, or_true, false_or, or_false, and_false, false_and, Int.reduceEq, Int.reduceLT, Int.reduceLE, Int.reduceAdd, Int.reduceSub, Int.reduceMul, Int.reduceNeg]
    · rw [if_neg e]
      simp only [hS.k100, hV.r100_5, hS.k113, f3, sk, sF, show (k : Int) < (F : Int) from by omega, q1, ea, sa, show ¬ ((fb k &&& c : Nat) : Int) = 0 from by omega, ih', b_s32, b_eq0, b_01, l0, l1, true_and, and_true, and_self, true_implies, false_implies, implies_true, forall_const, not_true_eq_false, not_false_eq_true, reduceIte, ite_true, ite_false, reduceCtorEq, forall_eq, Classical.not_not, true_or, or_true, false_or, or_false, and_false, false_and, Int.reduceEq, Int.reduceLT, Int.reduceLE, Int.reduceAdd, Int.reduceSub, Int.reduceMul, Int.reduceNeg]
theorem c_open0 (hS : FS S) (hV : FV V) (h5 : BK 113 V S) (hF : FTS fb F V) {c : Nat} (hc : c < 65536) : C_x_causesOfFirstOpen (d + 3) 100 (c : Int) V S Q ↔ Q ((opn fb c F 0 : Nat) : Int) V S := by
  have k := c_open (d := d) (g := (0, 0)) (Q := Q) hS hV h5 hF hc F 0 (9, 0) rfl
  rw [I_x_causesOfFirstOpen]
  exact ⟨fun q => k.mp q.2, fun q => ⟨hS.k100, k.mpr q⟩⟩
theorem pcn_le : ∀ k n : Nat, pcn k n ≤ k
  | 0, _ => Nat.le_refl _
  | k + 1, n => by
    have := pcn_le k (n / 2)
    show n % 2 + pcn k (n / 2) ≤ k + 1
    omega
theorem p_isFewer {a b : Nat} (ha : a < 65536) (hb : b < 65536) : C_x_isFewer (d + 2) (a : Int) (b : Int) V S Q ↔ Q (if key a < key b then 1 else 0) V S := by
  have lp1 := pcn_le 16 a
  have lp2 := pcn_le 16 b
  have sa : s32 (a : Int) = (a : Int) := s32_id (by omega) (by omega)
  have sb' : s32 (b : Int) = (b : Int) := s32_id (by omega) (by omega)
  have sd : s32 ((pcn 16 a : Int) - (pcn 16 b : Int)) = (pcn 16 a : Int) - (pcn 16 b : Int) := s32_id (by omega) (by omega)
  simp only [I_x_isFewer, p_bitCount ha, p_bitCount hb, l0, l1, sd, sa, sb']
  unfold key
  by_cases c1 : pcn 16 a < pcn 16 b
  · rw [if_pos (by omega)]
    simp only [show (pcn 16 a : Int) - (pcn 16 b : Int) < 0 from by omega, b_s32, b_eq0, b_01, l0, l1, true_and, and_true, and_self, true_implies, false_implies, implies_true, forall_const, not_true_eq_false, not_false_eq_true, reduceIte, ite_true, ite_false, reduceCtorEq, forall_eq, Classical.not_not, true_or, or_true, false_or, or_false, and_false, false_and, Int.reduceEq, Int.reduceLT, Int.reduceLE, Int.reduceAdd, Int.reduceSub, Int.reduceMul, Int.reduceNeg]
  · by_cases c2 : pcn 16 a = pcn 16 b
    · by_cases c3 : a < b
      · rw [if_pos (by omega)]
        simp only [show ¬ (pcn 16 a : Int) - (pcn 16 b : Int) < 0 from by omega, show (pcn 16 a : Int) - (pcn 16 b : Int) = 0 from by omega, show (a : Int) < (b : Int) from by omega, b_s32, b_eq0, b_01, l0, l1, true_and, and_true, and_self, true_implies, false_implies, implies_true, forall_const, not_true_eq_false, not_false_eq_true, reduceIte, ite_true, ite_false, reduceCtorEq, forall_eq, Classical.not_not, true_or, or_true, false_or, or_false, and_false, false_and, Int.reduceEq, Int.reduceLT, Int.reduceLE, Int.reduceAdd, Int.reduceSub, Int.reduceMul, Int.reduceNeg]
      · rw [if_neg (by omega)]
        simp only [show ¬ (pcn 16 a : Int) - (pcn 16 b : Int) < 0 from by omega, show (pcn 16 a : Int) - (pcn 16 b : Int) = 0 from by omega, show ¬ (a : Int) < (b : Int) from by omega, b_s32, b_eq0, b_01, l0, l1, true_and, and_true, and_self, true_implies, false_implies, implies_true, forall_const, not_true_eq_false, not_false_eq_true, reduceIte, ite_true, ite_false, reduceCtorEq, forall_eq, Classical.not_not, true_or, or_true, false_or, or_false, and_false, false_and, Int.reduceEq, Int.reduceLT, Int.reduceLE, Int.reduceAdd, Int.reduceSub, Int.reduceMul, Int.reduceNeg]
    · rw [if_neg (by omega)]
      simp only [show ¬ (pcn 16 a : Int) - (pcn 16 b : Int) < 0 from by omega, show ¬ (pcn 16 a : Int) - (pcn 16 b : Int) = 0 from by omega, b_s32, b_eq0, b_01, l0, l1, true_and, and_true, and_self, true_implies, false_implies, implies_true, forall_const, not_true_eq_false, not_false_eq_true, reduceIte, ite_true, ite_false, reduceCtorEq, forall_eq, Classical.not_not, true_or, or_true, false_or, or_false, and_false, false_and, Int.reduceEq, Int.reduceLT, Int.reduceLE, Int.reduceAdd, Int.reduceSub, Int.reduceMul, Int.reduceNeg]
/-- the component's search -/
theorem c_few (hS : FS S) (hV : FV V) (h5 : BK 113 V S) (hF : FTS fb F V) : ∀ (D c b dep : Nat) (Q : Int → Mem → Shp → Prop), dep + D = 4 → c < 65536 → b < 65536 → dep ≤ pcn 16 c → pcn 16 b ≤ 4 → hit fb F b → (∀ r : Nat, r < 65536 → hit fb F r → key r ≤ key b → (∀ s, s < 65536 → hit fb F s → sb c s → key r ≤ key s) → Q (r : Int) V S) → C_x_fewestCauses (d + 4 + D) 100 (c : Int) (b : Int) (dep : Int) V S Q := by
  have hf : ∀ f, f < F → fb f < 65536 ∧ fb f % 16 ≠ 0 := fun f q => (hF.2.2.2 f q).2.2
  intro D
  induction D with
  | zero =>
    intro c b dep Q hD hc hb hd hp hh hQ
    have ed : dep = 4 := by omega
    subst ed
    have s4 : s32 ((4 : Nat) : Int) = 4 := s32_id (by omega) (by omega)
    rw [I_x_fewestCauses, c_open0 hS hV h5 hF hc]
    rcases opn_p hf c F 0 rfl with ⟨q1, q2⟩ | ⟨f, q1, q2, q3, q4⟩
    · rw [q1, p_isFewer hc hb]
      simp only [hS.k100, show s32 ((0 : Nat) : Int) = 0 from l0, b_s32, b_eq0, b_s32, b_eq0, b_01, l0, l1, true_and, and_true, and_self, true_implies, false_implies, implies_true, forall_const, not_true_eq_false, not_false_eq_true, reduceIte, ite_true, ite_false, reduceCtorEq, forall_eq, Classical.not_not, true_or, or_true, false_or, or_false, and_false, false_and, Int.reduceEq, Int.reduceLT, Int.reduceLE, Int.reduceAdd, Int.reduceSub, Int.reduceMul, Int.reduceNeg]
      refine ⟨fun k => hQ b hb hh (Nat.le_refl _) (fun s hs hits hsb => ?_), fun k => hQ c hc (fun f z => q2 f (Nat.zero_le _) z) (by omega) (fun s hs hits hsb => key_sb hsb)⟩
      have := key_sb hsb
      omega
    · have hlt := (hf f q1).1
      have so : s32 ((opn fb c F 0 : Nat) : Int) = ((opn fb c F 0 : Nat) : Int) := s32_id (by omega) (by omega)
      have := hQ b hb hh (Nat.le_refl _) (fun s hs hits hsb => by
        obtain ⟨i, hi⟩ := ex_bit (hits f q1)
        rw [Nat.testBit_and, Bool.and_eq_true] at hi
        have ci : c.testBit i = false := by
          cases z : c.testBit i
          · rfl
          · have w : (fb f &&& c).testBit i = true := by rw [Nat.testBit_and, hi.1, z]; rfl
            rw [q3, Nat.zero_testBit] at w
            cases w
        have := pcn_lt 16 c s i hsb (bit_16 hs hi.2) hi.2 ci
        unfold key
        omega)
      simp only [hS.k100, so, s4, show ¬ ((opn fb c F 0 : Nat) : Int) = 0 from by omega, s32_id (x := 4) (by omega) (by omega), Int.lt_irrefl, this, b_s32, b_eq0, b_01, l0, l1, true_and, and_true, and_self, true_implies, false_implies, implies_true, forall_const, not_true_eq_false, not_false_eq_true, reduceIte, ite_true, ite_false, reduceCtorEq, forall_eq, Classical.not_not, true_or, or_true, false_or, or_false, and_false, false_and, Int.reduceEq, Int.reduceLT, Int.reduceLE, Int.reduceAdd, Int.reduceSub, Int.reduceMul, Int.reduceNeg]
  | succ D ih =>
    intro c b dep Q hD hc hb hd hp hh hQ
    have sd : s32 (dep : Int) = (dep : Int) := s32_id (by omega) (by omega)
    rw [show d + 4 + (D + 1) = d + 4 + D + 1 from by omega, I_x_fewestCauses, show d + 4 + D = d + 1 + D + 3 from by omega, c_open0 hS hV h5 hF hc, show d + 1 + D + 3 = d + 4 + D from by omega]
    rcases opn_p hf c F 0 rfl with ⟨q1, q2⟩ | ⟨f, q1, q2, q3, q4⟩
    · rw [q1, show d + 4 + D = d + 2 + D + 2 from by omega, p_isFewer hc hb]
      simp only [hS.k100, show s32 ((0 : Nat) : Int) = 0 from l0, b_s32, b_eq0, b_s32, b_eq0, b_01, l0, l1, true_and, and_true, and_self, true_implies, false_implies, implies_true, forall_const, not_true_eq_false, not_false_eq_true, reduceIte, ite_true, ite_false, reduceCtorEq, forall_eq, Classical.not_not, true_or, or_true, false_or, or_false, and_false, false_and, Int.reduceEq, Int.reduceLT, Int.reduceLE, Int.reduceAdd, Int.reduceSub, Int.reduceMul, Int.reduceNeg]
      refine ⟨fun k => hQ b hb hh (Nat.le_refl _) (fun s hs hits hsb => ?_), fun k => hQ c hc (fun f z => q2 f (Nat.zero_le _) z) (by omega) (fun s hs hits hsb => key_sb hsb)⟩
      have := key_sb hsb
      omega
    · have hlt := (hf f q1).1
      have so : s32 ((opn fb c F 0 : Nat) : Int) = ((opn fb c F 0 : Nat) : Int) := s32_id (by omega) (by omega)
      have loop : ∀ (N i b' : Nat) (u2 : XV), N + i = 16 → b' < 65536 → pcn 16 b' ≤ 4 → hit fb F b' → key b' ≤ key b → (∀ s, s < 65536 → hit fb F s → sb c s → ∀ j, j < i → (fb f).testBit j = true → s.testBit j = true → key b' ≤ key s) → K_x_fewestCauses (d + 4 + D) Q (39, [(2, 100), (0, (c : Int)), u2, (0, (dep : Int)), (0, ((fb f : Nat) : Int)), (0, (b' : Int)), (0, (i : Int))], [], V, S, (0, 0)) := by
        intro N
        induction N with
        | zero =>
          intro i b' u2 hi hb' hp' hh' hk' hs'
          have ei : i = 16 := by omega
          subst ei
          have := hQ b' hb' hh' hk' (fun s hs hits hsb => by
            obtain ⟨j, hj⟩ := ex_bit (hits f q1)
            rw [Nat.testBit_and, Bool.and_eq_true] at hj
            exact hs' s hs hits hsb j (bit_16 hs hj.2) hj.1 hj.2)
          rw [L_x_fewestCauses_39]
          simp only [show s32 ((16 : Nat) : Int) = 16 from s32_id (by omega) (by omega), s32_id (x := 16) (by omega) (by omega), Int.lt_irrefl, this, b_s32, b_eq0, b_01, l0, l1, true_and, and_true, and_self, true_implies, false_implies, implies_true, forall_const, not_true_eq_false, not_false_eq_true, reduceIte, ite_true, ite_false, reduceCtorEq, forall_eq, Classical.not_not, true_or, or_true, false_or, or_false, and_false, false_and, Int.reduceEq, Int.reduceLT, Int.reduceLE, Int.reduceAdd, Int.reduceSub, Int.reduceMul, Int.reduceNeg]
        | succ N ihN =>
          intro i b' u2 hi hb' hp' hh' hk' hs'
          have si : s32 (i : Int) = (i : Int) := s32_id (by omega) (by omega)
          have eb := sh_bit (n := fb f) (i := i) (by omega) (by omega)
          rw [L_x_fewestCauses_39]
          cases hbit : (fb f).testBit i
          · rw [hbit] at eb
            have := ihN (i + 1) b' (9, 0) (by omega) hb' hp' hh' hk' (fun s hs hits hsb j hj z1 z2 => by
              by_cases e : j = i
              · rw [e, hbit] at z1; cases z1
              · exact hs' s hs hits hsb j (by omega) z1 z2)
            rw [show ((i + 1 : Nat) : Int) = (i : Int) + 1 from by omega] at this
            simp only [si, s32_id (x := 16) (by omega) (by omega), show (i : Int) < 16 from by omega, eb, show s32 (b2 false) = 0 from by decide, this, b_s32, b_eq0, b_01, l0, l1, true_and, and_true, and_self, true_implies, false_implies, implies_true, forall_const, not_true_eq_false, not_false_eq_true, reduceIte, ite_true, ite_false, reduceCtorEq, forall_eq, Classical.not_not, true_or, or_true, false_or, or_false, and_false, false_and, Int.reduceEq, Int.reduceLT, Int.reduceLE, Int.reduceAdd, Int.reduceSub, Int.reduceMul, Int.reduceNeg]
          · rw [hbit] at eb
            have ci : c.testBit i = false := by
              cases z : c.testBit i
              · rfl
              · have w : (fb f &&& c).testBit i = true := by rw [Nat.testBit_and, hbit, z]; rfl
                rw [q3, Nat.zero_testBit] at w
                cases w
            have e1 := shl_c ⟨i, by omega⟩
            have e1 : ishlI 1 (i : Int) = ((2 ^ i : Nat) : Int) := e1
            have hp2 : 2 ^ i < 2 ^ 16 := Nat.pow_lt_pow_right (by omega) (by omega)
            have hor : c ||| 2 ^ i < 2 ^ 16 := Nat.or_lt_two_pow (n := 16) hc hp2
            have hp2 : 2 ^ i < 65536 := hp2
            have hor : c ||| 2 ^ i < 65536 := hor
            have e2 : iorI (c : Int) ((2 ^ i : Nat) : Int) = ((c ||| 2 ^ i : Nat) : Int) := ior_n (by omega) (by omega)
            have hbc : (c ||| 2 ^ i).testBit i = true := by rw [Nat.testBit_or, Nat.testBit_two_pow, decide_eq_true rfl, Bool.or_true]
            have hsc : sb c (c ||| 2 ^ i) := fun j hj => by rw [Nat.testBit_or, hj, Bool.true_or]
            have hpc := pcn_lt 16 c (c ||| 2 ^ i) i hsc (by omega) hbc ci
            have := ih (c ||| 2 ^ i) b' (dep + 1) (fun r1 V1 S1 => K_x_fewestCauses (d + 4 + D) Q (39, [(2, 100), (0, (c : Int)), (9, 0), (0, (dep : Int)), (0, ((fb f : Nat) : Int)), (0, r1), (0, (i : Int) + 1)], [], V1, S1, (0, 0))) (by omega) hor hb' (by omega) hp' hh' (fun r hr hhr hkr hsr => by
              have l3 := pcn_le 16 r
              have := ihN (i + 1) r (9, 0) (by omega) hr (by unfold key at hkr; omega) hhr (by omega) (fun s hs hits hsb j hj z1 z2 => by
                by_cases e : j = i
                · rw [e] at z2
                  exact hsr s hs hits (sb_or hsb z2)
                · have := hs' s hs hits hsb j (by omega) z1 z2
                  omega)
              rw [show ((i + 1 : Nat) : Int) = (i : Int) + 1 from by omega] at this
              exact this)
            rw [show ((dep + 1 : Nat) : Int) = (dep : Int) + 1 from by omega] at this
            simp only [si, s32_id (x := 16) (by omega) (by omega), show (i : Int) < 16 from by omega, eb, show ¬ s32 (b2 true) = 0 from by decide, e1, e2, this, b_s32, b_eq0, b_01, l0, l1, true_and, and_true, and_self, true_implies, false_implies, implies_true, forall_const, not_true_eq_false, not_false_eq_true, reduceIte, ite_true, ite_false, reduceCtorEq, forall_eq, Classical.not_not, true_or, or_true, false_or, or_false, and_false, false_and, Int.reduceEq, Int.reduceLT, Int.reduceLE, Int.reduceAdd, Int.reduceSub, Int.reduceMul, Int.reduceNeg]
      have := loop 16 0 b (0, (b : Int)) (by omega) hb hp hh (Nat.le_refl _) (fun s _ _ _ j hj => by omega)
      rw [← q2] at this
      have this : K_x_fewestCauses (d + 4 + D) Q (39, [(2, 100), (0, (c : Int)), (0, (b : Int)), (0, (dep : Int)), (0, ((opn fb c F 0 : Nat) : Int)), (0, (b : Int)), (0, 0)], [], V, S, (0, 0)) := this
      simp only [hS.k100, so, sd, show ¬ ((opn fb c F 0 : Nat) : Int) = 0 from by omega, s32_id (x := 4) (by omega) (by omega), show (dep : Int) < 4 from by omega, this, b_s32, b_eq0, b_01, l0, l1, true_and, and_true, and_self, true_implies, false_implies, implies_true, forall_const, not_true_eq_false, not_false_eq_true, reduceIte, ite_true, ite_false, reduceCtorEq, forall_eq, Classical.not_not, true_or, or_true, false_or, or_false, and_false, false_and, Int.reduceEq, Int.reduceLT, Int.reduceLE, Int.reduceAdd, Int.reduceSub, Int.reduceMul, Int.reduceNeg]
/-- the model's enumeration -/
theorem m_hits {g : Cnt} (hS : FS S) (hV : FV V) (hF : FTS fb F V) {s b : Nat} (hs : s < 65536) (hT : (∀ f, f < F → fb f &&& s ≠ 0) → ∀ u3 u4, K_m_cause d Q (8, [(2, 137), (0, (s : Int)), (0, (s : Int) + -1), u3, u4], [], V, S, g)) (hN : ¬ (∀ f, f < F → fb f &&& s ≠ 0) → ∀ u3 u4, K_m_cause d Q (8, [(2, 137), (0, (b : Int)), (0, (s : Int) + -1), u3, u4], [], V, S, g)) : ∀ (N k : Nat), N + k = F → (∀ f, f < k → fb f &&& s ≠ 0) → K_m_cause d Q (33, [(2, 137), (0, (b : Int)), (0, (s : Int)), (0, 1), (0, (k : Int))], [], V, S, g) := by
  obtain ⟨f1, f2, f3, f4⟩ := hF
  intro N
  induction N with
  | zero =>
    intro k hk hh
    have e : k = F := by omega
    subst e
    have := hT hh
    have sk : s32 (k : Int) = (k : Int) := s32_id (by omega) (by omega)
    rw [L_m_cause_33]
    simp only [hS.k137, f1, sk, l1, Int.lt_irrefl, show ¬ (1 : Int) = 0 from by omega, this, b_s32, b_eq0, b_01, l0, l1, true_and, and_true, and_self, true_implies, false_implies, implies_true, forall_const, not_true_eq_false, not_false_eq_true, reduceIte, ite_true, ite_false, reduceCtorEq, forall_eq, Classical.not_not, true_or, or_true, false_or, or_false, and_false, false_and, Int.reduceEq, Int.reduceLT, Int.reduceLE, Int.reduceAdd, Int.reduceSub, Int.reduceMul, Int.reduceNeg]
  | succ N ih =>
    intro k hk hh
    obtain ⟨g1, g2, g3, g4⟩ := f4 k (by omega)
    have sk : s32 (k : Int) = (k : Int) := s32_id (by omega) (by omega)
    have sF : s32 (F : Int) = (F : Int) := s32_id (by omega) (by omega)
    have sk1 : s32 ((k : Int) + 1) = (k : Int) + 1 := s32_id (by omega) (by omega)
    have ea : iandI ((fb k : Nat) : Int) (s : Int) = ((fb k &&& s : Nat) : Int) := iand_n (by omega) (by omega)
    have hl : fb k &&& s ≤ fb k := Nat.and_le_left
    have sa : s32 ((fb k &&& s : Nat) : Int) = ((fb k &&& s : Nat) : Int) := s32_id (by omega) (by omega)
    rw [L_m_cause_33]
    by_cases e : fb k &&& s = 0
    · have h2 := hN (fun q => q k (by omega) e)
      have h3 : K_m_cause d Q (33, [(2, 137), (0, (b : Int)), (0, (s : Int)), (0, 0), (0, (k : Int) + 1)], [], V, S, g) := by
        rw [L_m_cause_33]
        simp only [hS.k137, f1, sk1, sF, l0, h2, implies_true, b_s32, b_eq0, b_01, l0, l1, true_and, and_true, and_self, true_implies, false_implies, implies_true, forall_const, not_true_eq_false, not_false_eq_true, reduceIte, ite_true, ite_false, reduceCtorEq, forall_eq, Classical.not_not, true_or, or_true, false_or, or_false, and_false, false_and, Int.reduceEq, Int.reduceLT, Int.reduceLE, Int.reduceAdd, Int.reduceSub, Int.reduceMul, Int.reduceNeg]
      simp only [hS.k137, hS.k169, hS.n169, hV.r137_55, f1, sk, sF, l1, show ¬ (1 : Int) = 0 from by omega, show (k : Int) < (F : Int) from by omega, show (0 : Int) ≤ (k : Int) from by omega, show (k : Int) < 12 from by omega, g1, ea, sa, show ((fb k &&& s : Nat) : Int) = 0 from by omega, h3, b_s32, b_eq0, b_01, l0, l1, true_and, and_true, and_self, true_implies, false_implies, implies_true, forall_const, not_true_eq_false, not_false_eq_true, reduceIte, ite_true, ite_false, reduceCtorEq, forall_eq, Classical.not_not, true_or, or_true, false_or, or_false, and_false, false_and, Int.reduceEq, Int.reduceLT, Int.reduceLE, Int.reduceAdd, Int.reduceSub, Int.reduceMul, Int.reduceNeg]
    · have h3 := ih (k + 1) (by omega) (fun f hf => by
        by_cases ef : f = k
        · rw [ef]; exact e
        · exact hh f (by omega))
      rw [show ((k + 1 : Nat) : Int) = (k : Int) + 1 from by omega] at h3
      simp only [hS.k137, hS.k169, hS.n169, hV.r137_55, f1, sk, sF, l1, show ¬ (1 : Int) = 0 from by omega, show (k : Int) < (F : Int) from by omega, show (0 : Int) ≤ (k : Int) from by omega, show (k : Int) < 12 from by omega, g1, ea, sa, show ¬ ((fb k &&& s : Nat) : Int) = 0 from by omega, h3, b_s32, b_eq0, b_01, l0, l1, true_and, and_true, and_self, true_implies, false_implies, implies_true, forall_const, not_true_eq_false, not_false_eq_true, reduceIte, ite_true, ite_false, reduceCtorEq, forall_eq, Classical.not_not, true_or, or_true, false_or, or_false, and_false, false_and, Int.reduceEq, Int.reduceLT, Int.reduceLE, Int.reduceAdd, Int.reduceSub, Int.reduceMul, Int.reduceNeg]
theorem m_sets {g : Cnt} (hS : FS S) (hV : FV V) (hF : FTS fb F V) (hQ : ∀ r : Nat, r < 65536 → hit fb F r → (∀ t, t < 65536 → hit fb F t → key r ≤ key t) → Q (r : Int) V S) : ∀ (N b : Nat) (u3 u4 : XV), N ≤ 65535 → b < 65536 → hit fb F b → (∀ t, N ≤ t → t < 65536 → hit fb F t → key b ≤ key t) → K_m_cause (d + 1) Q (8, [(2, 137), (0, (b : Int)), (0, (N : Int) - 1), u3, u4], [], V, S, g) := by
  intro N
  induction N with
  | zero =>
    intro b u3 u4 hN hb hh hk
    have := hQ b hb hh (fun t ht hht => hk t (Nat.zero_le _) ht hht)
    rw [L_m_cause_8]
    simp only [show ((0 : Nat) : Int) - 1 = -1 from by omega, s32_id (x := -1) (by omega) (by omega), show (-1 : Int) < 0 from by omega, this, b_s32, b_eq0, b_01, l0, l1, true_and, and_true, and_self, true_implies, false_implies, implies_true, forall_const, not_true_eq_false, not_false_eq_true, reduceIte, ite_true, ite_false, reduceCtorEq, forall_eq, Classical.not_not, true_or, or_true, false_or, or_false, and_false, false_and, Int.reduceEq, Int.reduceLT, Int.reduceLE, Int.reduceAdd, Int.reduceSub, Int.reduceMul, Int.reduceNeg]
  | succ N ih =>
    intro b u3 u4 hN hb hh hk
    have eN : ((N + 1 : Nat) : Int) - 1 = (N : Int) := by omega
    have sN : s32 (N : Int) = (N : Int) := s32_id (by omega) (by omega)
    have p1 := pcn_le 16 N
    have p2 := pcn_le 16 b
    have s1 : s32 (pcn 16 N : Int) = (pcn 16 N : Int) := s32_id (by omega) (by omega)
    have s2 : s32 (pcn 16 b : Int) = (pcn 16 b : Int) := s32_id (by omega) (by omega)
    rw [eN, L_m_cause_8, p_ones hS (by omega), p_ones hS hb]
    by_cases c : pcn 16 b < pcn 16 N
    · have := ih b (9, 0) (9, 0) (by omega) hb hh (fun t ht ht2 hht => by
        by_cases e : t = N
        · rw [e]; unfold key; omega
        · exact hk t (by omega) ht2 hht)
      rw [show (N : Int) - 1 = (N : Int) + -1 from by omega] at this
      simp only [sN, s1, s2, show ¬ (N : Int) < 0 from by omega, show (pcn 16 b : Int) < (pcn 16 N : Int) from by omega, this, b_s32, b_eq0, b_01, l0, l1, true_and, and_true, and_self, true_implies, false_implies, implies_true, forall_const, not_true_eq_false, not_false_eq_true, reduceIte, ite_true, ite_false, reduceCtorEq, forall_eq, Classical.not_not, true_or, or_true, false_or, or_false, and_false, false_and, Int.reduceEq, Int.reduceLT, Int.reduceLE, Int.reduceAdd, Int.reduceSub, Int.reduceMul, Int.reduceNeg]
    · have := m_hits (d := d + 1) (Q := Q) (g := g) (s := N) (b := b) hS hV hF (by omega) (fun q u3 u4 => by
          rw [show (N : Int) + -1 = (N : Int) - 1 from by omega]
          refine ih N u3 u4 (by omega) (by omega) q (fun t ht ht2 hht => ?_)
          by_cases e : t = N
          · rw [e]; exact Nat.le_refl _
          · have := hk t (by omega) ht2 hht
            unfold key at this ⊢
            have := hk t (by omega) ht2 hht
            unfold key at this
            by_cases e2 : pcn 16 N = pcn 16 b
            · by_cases e3 : pcn 16 t = pcn 16 b <;> omega
            · omega)
        (fun q u3 u4 => by
          rw [show (N : Int) + -1 = (N : Int) - 1 from by omega]
          exact ih b u3 u4 (by omega) hb hh (fun t ht ht2 hht => by
            by_cases e : t = N
            · rw [e] at hht; exact absurd hht q
            · exact hk t (by omega) ht2 hht)) F 0 rfl (fun f hf => absurd hf (Nat.not_lt_zero f))
      have this : K_m_cause (d + 1) Q (33, [(2, 137), (0, (b : Int)), (0, (N : Int)), (0, 1), (0, 0)], [], V, S, g) := this
      simp only [sN, s1, s2, show ¬ (N : Int) < 0 from by omega, show ¬ (pcn 16 b : Int) < (pcn 16 N : Int) from by omega, this, b_s32, b_eq0, b_01, l0, l1, true_and, and_true, and_self, true_implies, false_implies, implies_true, forall_const, not_true_eq_false, not_false_eq_true, reduceIte, ite_true, ite_false, reduceCtorEq, forall_eq, Classical.not_not, true_or, or_true, false_or, or_false, and_false, false_and, Int.reduceEq, Int.reduceLT, Int.reduceLE, Int.reduceAdd, Int.reduceSub, Int.reduceMul, Int.reduceNeg]
theorem hit_15 (hf : ∀ f, f < F → fb f < 65536 ∧ fb f % 16 ≠ 0) : hit fb F 15 := by
  intro f q z
  obtain ⟨j, hj⟩ := ex_bit (hf f q).2
  have hj : (fb f % 2 ^ 4).testBit j = true := hj
  rw [Nat.testBit_mod_two_pow, Bool.and_eq_true] at hj
  have w : (fb f &&& (2 ^ 4 - 1)).testBit j = true := by rw [Nat.testBit_and, hj.2, Nat.testBit_two_pow_sub_one, hj.1]; rfl
  have z : fb f &&& (2 ^ 4 - 1) = 0 := z
  rw [z, Nat.zero_testBit] at w
  cases w
theorem hit_sb {a b : Nat} (h : hit fb F a) (hs : sb a b) : hit fb F b := by
  intro f q z
  obtain ⟨j, hj⟩ := ex_bit (h f q)
  rw [Nat.testBit_and, Bool.and_eq_true] at hj
  have w : (fb f &&& b).testBit j = true := by rw [Nat.testBit_and, hj.1, hs j hj.2]; rfl
  rw [z, Nat.zero_testBit] at w
  cases w
theorem cmd_cause (h : INV n V S) (hn : n ≤ m) : C_x_cause (d + 20) 100 V S (fun r V1 S1 => C_m_cause (d + 20) 137 V1 S1 (fun r' V2 S2 => r = r' ∧ INV m V2 S2)) := by
  have hup := h.up hn
  have hS := h.1.1
  have hV := h.1.2.1
  have h5 := h.bk.1
  obtain ⟨⟨⟨b1, b2', b3⟩, b4⟩, -⟩ := h.2.2.2.2.2.2.1
  have hF : FTS (fun f => (V 169 (f : Int)).toNat) (V 137 52).toNat V := by
    have e : (((V 137 52).toNat : Nat) : Int) = V 137 52 := by omega
    refine ⟨e.symm, by omega, by rw [e]; exact b1, fun f hf => ?_⟩
    obtain ⟨q1, q2, q3, q4⟩ := b4 (f : Int) (by omega) (by omega)
    refine ⟨by show _ = (((V 169 (f : Int)).toNat : Nat) : Int); omega, by show _ = (((V 169 (f : Int)).toNat : Nat) : Int); rw [q1]; omega, by show (V 169 (f : Int)).toNat < 65536; omega, by show (V 169 (f : Int)).toNat % 16 ≠ 0; omega⟩
  generalize (fun f : Nat => (V 169 (f : Int)).toNat) = fb at hF
  generalize (V 137 52).toNat = F at hF
  have hf : ∀ f, f < F → fb f < 65536 ∧ fb f % 16 ≠ 0 := fun f q => (hF.2.2.2 f q).2.2
  have h15 := hit_15 hf
  have hall : hit fb F 65535 := hit_sb h15 (fun j hj => by
    have j16 := bit_16 (x := 15) (by omega) hj
    show (2 ^ 16 - 1).testBit j = true
    rw [Nat.testBit_two_pow_sub_one, decide_eq_true j16])
  rw [I_x_cause]
  refine ⟨hS.k100, c_few (d := d + 11) hS hV h5 hF 4 0 15 0 _ rfl (by omega) (by omega) (Nat.zero_le _) (by decide +kernel) h15 (fun r hr hhr hkr hsr => ?_)⟩
  rw [I_m_cause]
  refine ⟨hS.k137, ?_⟩
  have := m_sets (d := d + 18) (g := (0, 0)) (Q := fun r' V2 S2 => (r : Int) = r' ∧ INV m V2 S2) hS hV hF (fun r2 hr2 hhr2 hk2 => by
    refine ⟨?_, hup⟩
    have k1 := hk2 r hr hhr
    have k2 := hsr r2 hr2 hhr2 (fun j hj => by rw [Nat.zero_testBit] at hj; cases hj)
    have e : r = r2 := by
      unfold key at k1 k2
      omega
    rw [e]) 65535 65535 (9, 0) (9, 0) (Nat.le_refl _) (by omega) hall (fun t ht ht2 _ => by rw [show t = 65535 from by omega]; exact Nat.le_refl _)
  rw [show ((65535 : Nat) : Int) - 1 = 65534 from by omega] at this
  exact this
end CSE
