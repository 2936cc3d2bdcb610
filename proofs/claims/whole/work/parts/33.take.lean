/-! codes that are told: one memory for the component, one for the model -/
def mix (Vc Vm : Mem) : Mem := fun a k => if 137 ≤ a ∧ a ≤ 199 then Vm a k else Vc a k
section MX
variable {V Vc Vm : Mem} {a k v : Int}
theorem mix_m (h : 137 ≤ a ∧ a ≤ 199) : mix Vc Vm a k = Vm a k := if_pos h
theorem mix_c (h : ¬ (137 ≤ a ∧ a ≤ 199)) : mix Vc Vm a k = Vc a k := if_neg h
theorem mix_self : mix V V = V := by
  funext a k
  unfold mix
  split <;> rfl
theorem mix_upm (h : 137 ≤ a ∧ a ≤ 199) : up2 (mix Vc Vm) a k v = mix Vc (up2 Vm a k v) := by
  funext b j
  unfold up2 mix
  by_cases e : b = a ∧ j = k
  · rw [if_pos e, if_pos (by omega)]; exact (if_pos e).symm
  · rw [if_neg e]; split
    · exact (if_neg e).symm
    · rfl
theorem mix_upc (h : ¬ (137 ≤ a ∧ a ≤ 199)) : up2 (mix Vc Vm) a k v = mix (up2 Vc a k v) Vm := by
  funext b j
  unfold up2 mix
  by_cases e : b = a ∧ j = k
  · rw [if_pos e, if_neg (by omega)]; exact (if_pos e).symm
  · rw [if_neg e]; split
    · rfl
    · exact (if_neg e).symm
theorem up2_up2 {x y : Int} : up2 (up2 V a k x) a k y = up2 V a k y := by
  funext b j
  unfold up2
  split <;> rfl
theorem FV.mixm (h : FV (mix Vc Vm)) {Wc : Mem} (hw : FV Wc) : FV (mix Wc Vm) := fun p hp => by
  by_cases e : 137 ≤ p.1 ∧ p.1 ≤ 199
  · rw [mix_m e]; have := h p hp; rw [mix_m e] at this; exact this
  · rw [mix_c e]; exact hw p hp
theorem FV.mixc (h : FV (mix Vc Vm)) : ∀ p ∈ VT, ¬ (137 ≤ p.1 ∧ p.1 ≤ 199) → Vc p.1 p.2.1 = p.2.2 := fun p hp e => by
  have := h p hp; rw [mix_c e] at this; exact this
end MX
/-- the DAYS of a number with a COUNT, as both tell them -/
def dd (a c x : Int) : Int := if (0 ≤ x ∧ x ≤ 99999) ∧ (x - (7919 * (a + 1) + 17 * c * c + c)) % 100000 % 131 = 0 ∧ (x - (7919 * (a + 1) + 17 * c * c + c)) % 100000 / 131 ≤ 60 then (x - (7919 * (a + 1) + 17 * c * c + c)) % 100000 / 131 else 0
def sr (T a x : Int) : Nat → Int → Int × Int
  | 0, _ => (0, 0)
  | N + 1, c => if bt T c = true then sr T a x N (c + 1) else if dd a c x = 0 then sr T a x N (c + 1) else (c, dd a c x)
theorem cc63 {c : Int} (h0 : 0 ≤ c) (h1 : c ≤ 63) : 0 ≤ 17 * c * c ∧ 17 * c * c ≤ 67473 := by
  constructor
  · exact Int.mul_nonneg (by omega) h0
  · have : 17 * c * c ≤ 1071 * 63 := Int.mul_le_mul (by omega) h1 h0 (by omega)
    omega
theorem dd_r (a c x : Int) : 0 ≤ dd a c x ∧ dd a c x ≤ 60 := by
  unfold dd
  split <;> omega
theorem xor_sg (a b : Int) (hb : 0 ≤ s32 b) : s32 (ixorI a b) < 0 ↔ s32 a < 0 := by
  have e : s32 (ixorI a b) = ((i32 a).toBitVec ^^^ (i32 b).toBitVec).toInt := by
    show (i32 (i32 a ^^^ i32 b).toInt).toInt = _
    rw [i32_toInt]
    show ((i32 a ^^^ i32 b).toBitVec).toInt = _
    rw [Int32.toBitVec_xor]
  have m1 := BitVec.msb_eq_toInt (x := (i32 a).toBitVec ^^^ (i32 b).toBitVec)
  have m2 := BitVec.msb_eq_toInt (x := (i32 a).toBitVec)
  have m3 := BitVec.msb_eq_toInt (x := (i32 b).toBitVec)
  have ea : s32 a = ((i32 a).toBitVec).toInt := rfl
  have eb : s32 b = ((i32 b).toBitVec).toInt := rfl
  rw [← eb, decide_eq_false (by omega)] at m3
  rw [← e, BitVec.msb_xor, m3, Bool.xor_false, m2, ← ea] at m1
  exact (decide_eq_decide.mp m1).symm
section TK
variable {d : Nat} {n m a b c e i x L T : Int} {V W Vm : Mem} {S : Shp} {Q : Int → Mem → Shp → Prop} {U : Mem → Shp → Prop}
theorem p_floorMod : C_Math_floorMod_II (d + 1) a 100000 V S Q ↔ Q (s32 a % 100000) V S := by
  have e1 : s32 100000 = 100000 := s32_id (by omega) (by omega)
  rw [I_Math_floorMod_II, e1, xor_sg a 100000 (by omega)]
  by_cases h : s32 a < 0
  · have e : (s32 a).tmod 100000 = if 100000 ∣ s32 a then s32 a % 100000 else s32 a % 100000 - 100000 := by
      rw [Int.tmod_eq_emod]
      by_cases hd : (100000 : Int) ∣ s32 a
      · rw [if_pos (Or.inr hd), if_pos hd]; omega
      · rw [if_neg (fun q => q.elim (fun q => by omega) hd), if_neg hd]; rfl
    rw [e]
    by_cases hd : (100000 : Int) ∣ s32 a
    · rw [if_pos hd]
      have : s32 a % 100000 = 0 := by omega
      simp (disch := omega) only [this, h, s32_id, b_s32, b_eq0, b_01, l0, l1, true_and, and_true, and_self, true_implies, false_implies, implies_true, forall_const, not_true_eq_false, not_false_eq_true, reduceIte, ite_true, ite_false, reduceCtorEq, forall_eq, Classical.not_not, true_or, or_true, false_or, or_false, and_false, false_and, Int.reduceEq, Int.reduceLT, Int.reduceLE, Int.reduceAdd, Int.reduceSub, Int.reduceMul, Int.reduceNeg, ne_eq]
    · rw [if_neg hd]
      simp (disch := omega) only [h, s32_id, b_s32, b_eq0, b_01, l0, l1, true_and, and_true, and_self, true_implies, false_implies, implies_true, forall_const, not_true_eq_false, not_false_eq_true, reduceIte, ite_true, ite_false, reduceCtorEq, forall_eq, Classical.not_not, true_or, or_true, false_or, or_false, and_false, false_and, Int.reduceEq, Int.reduceLT, Int.reduceLE, Int.reduceAdd, Int.reduceSub, Int.reduceMul, Int.reduceNeg, ne_eq, show ¬ s32 a % 100000 - 100000 = 0 from by omega, show s32 a % 100000 - 100000 + 100000 = s32 a % 100000 from by omega]
  · rw [Int.tmod_eq_emod_of_nonneg (by omega)]
    simp (disch := omega) only [h, s32_id, b_s32, b_eq0, b_01, l0, l1, true_and, and_true, and_self, true_implies, false_implies, implies_true, forall_const, not_true_eq_false, not_false_eq_true, reduceIte, ite_true, ite_false, reduceCtorEq, forall_eq, Classical.not_not, true_or, or_true, false_or, or_false, and_false, false_and, Int.reduceEq, Int.reduceLT, Int.reduceLE, Int.reduceAdd, Int.reduceSub, Int.reduceMul, Int.reduceNeg, ne_eq]
theorem p_daysIn (a0 : 0 ≤ a) (a1 : a ≤ 19) (c0 : 0 ≤ c) (c1 : c ≤ 63) (hx : s32 x = x) : C_Codes_daysIn (d + 2) a x c V S Q ↔ Q (dd a c x) V S := by
  have hc := cc63 c0 c1
  rw [I_Codes_daysIn, p_isWithin, hx, l0, s32_id (x := 99999) (by omega) (by omega), b_s32]
  unfold dd
  simp only [I_Codes_reckon]
  generalize 17 * c * c = B at *
  by_cases h1 : 0 ≤ x ∧ x ≤ 99999
  · have e1 : ((7919 * (a + 1) + B + c).tmod 100000) = (7919 * (a + 1) + B + c) % 100000 := Int.tmod_eq_emod_of_nonneg (by omega)
    simp (disch := omega) only [h1, p_floorMod, s32_id, b_s32, b_eq0, b_01, l0, l1, true_and, and_true, and_self, true_implies, false_implies, implies_true, forall_const, not_true_eq_false, not_false_eq_true, reduceIte, ite_true, ite_false, reduceCtorEq, forall_eq, Classical.not_not, true_or, or_true, false_or, or_false, and_false, false_and, Int.reduceEq, Int.reduceLT, Int.reduceLE, Int.reduceAdd, Int.reduceSub, Int.reduceMul, Int.reduceNeg, ne_eq, Int.add_zero, Int.mul_zero, e1]
    have e2 : (x - (7919 * (a + 1) + B + c) % 100000) % 100000 = (x - (7919 * (a + 1) + B + c)) % 100000 := by omega
    rw [e2]
    generalize hr : (x - (7919 * (a + 1) + B + c)) % 100000 = r
    have hr0 : 0 ≤ r ∧ r < 100000 := by omega
    rw [Int.tmod_eq_emod_of_nonneg hr0.1, Int.tdiv_eq_ediv_of_nonneg hr0.1]
    by_cases h2 : r % 131 = 0
    · by_cases h3 : r / 131 ≤ 60
      · simp (disch := omega) only [h2, h3, s32_id, b_s32, b_eq0, b_01, l0, l1, true_and, and_true, and_self, true_implies, false_implies, implies_true, forall_const, not_true_eq_false, not_false_eq_true, reduceIte, ite_true, ite_false, reduceCtorEq, forall_eq, Classical.not_not, true_or, or_true, false_or, or_false, and_false, false_and, Int.reduceEq, Int.reduceLT, Int.reduceLE, Int.reduceAdd, Int.reduceSub, Int.reduceMul, Int.reduceNeg, show ¬ 60 < r / 131 from by omega]
      · simp (disch := omega) only [h2, h3, s32_id, b_s32, b_eq0, b_01, l0, l1, true_and, and_true, and_self, true_implies, false_implies, implies_true, forall_const, not_true_eq_false, not_false_eq_true, reduceIte, ite_true, ite_false, reduceCtorEq, forall_eq, Classical.not_not, true_or, or_true, false_or, or_false, and_false, false_and, Int.reduceEq, Int.reduceLT, Int.reduceLE, Int.reduceAdd, Int.reduceSub, Int.reduceMul, Int.reduceNeg, show 60 < r / 131 from by omega]
    · simp (disch := omega) only [h2, s32_id, b_s32, b_eq0, b_01, l0, l1, true_and, and_true, and_self, true_implies, false_implies, implies_true, forall_const, not_true_eq_false, not_false_eq_true, reduceIte, ite_true, ite_false, reduceCtorEq, forall_eq, Classical.not_not, true_or, or_true, false_or, or_false, and_false, false_and, Int.reduceEq, Int.reduceLT, Int.reduceLE, Int.reduceAdd, Int.reduceSub, Int.reduceMul, Int.reduceNeg]
  · simp (disch := omega) only [h1, b_s32, b_eq0, b_01, l0, l1, true_and, and_true, and_self, true_implies, false_implies, implies_true, forall_const, not_true_eq_false, not_false_eq_true, reduceIte, ite_true, ite_false, reduceCtorEq, forall_eq, Classical.not_not, true_or, or_true, false_or, or_false, and_false, false_and, Int.reduceEq, Int.reduceLT, Int.reduceLE, Int.reduceAdd, Int.reduceSub, Int.reduceMul, Int.reduceNeg]
def accV (V : Mem) (A : Int) (r : Int × Int) : Mem := if r.2 = 0 then V else up2 (up2 (up2 V A 0 (lorI (V A 0) (lshlI 1 r.1))) A 1 (V A 1 + 1)) A 2 (V A 2 + r.2)
theorem lc0 {c : Int} (c0 : 0 ≤ c) (c1 : c < 64) : s32 (lcmpI (landI (lshrI T c) 1) 0) = 0 ↔ ¬ bt T c = true := by
  rw [shr_bit c0 c1]
  by_cases h : bt T c = true
  · rw [if_pos h]
    exact ⟨fun e => absurd e (by decide), fun n => (n h).elim⟩
  · rw [if_neg h]
    exact ⟨fun _ => h, fun _ => by decide⟩
theorem lc1 {c : Int} (c0 : 0 ≤ c) (c1 : c < 64) : s32 (lcmpI (landI (lshrI T c) 1) 1) = 0 ↔ bt T c = true := by
  rw [shr_bit c0 c1]
  by_cases h : bt T c = true
  · rw [if_pos h]
    exact ⟨fun _ => h, fun _ => by decide⟩
  · rw [if_neg h]
    exact ⟨fun e => absurd e (by decide), fun n => (h n).elim⟩
theorem kx_accept {g : Cnt} {A E : Int} (hk : S.1 A = 3) (a0 : 0 ≤ a) (a1 : a ≤ 19) (hx : s32 x = x) (hE : E ≤ 64) : ∀ (N : Nat) (c : Int) (u3 u6 : XV), 0 ≤ c → (N : Int) + c = E → (K_Codes_accept (d + 2) Q (19, [(2, A), (0, a), (0, x), u3, (0, E), (0, c), u6], [], V, S, g) ↔ Q (sr (V A 0) a x N c).2 (accV V A (sr (V A 0) a x N c)) S) := by
  intro N
  induction N with
  | zero =>
    intro c u3 u6 c0 hN
    rw [L_Codes_accept_19, sr, accV, if_pos rfl]
    simp (disch := omega) only [s32_id, show ¬ c < E from by omega, b_s32, b_eq0, b_01, l0, l1, true_and, and_true, and_self, true_implies, false_implies, implies_true, forall_const, not_true_eq_false, not_false_eq_true, reduceIte, ite_true, ite_false, reduceCtorEq, forall_eq, Classical.not_not, true_or, or_true, false_or, or_false, and_false, false_and, Int.reduceEq, Int.reduceLT, Int.reduceLE, Int.reduceAdd, Int.reduceSub, Int.reduceMul, Int.reduceNeg]
  | succ N ih =>
    intro c u3 u6 c0 hN
    have ih' := fun u3 u6 => ih (c + 1) u3 u6 (by omega) (by omega)
    have hr := dd_r a c x
    rw [L_Codes_accept_19, sr]
    by_cases h1 : bt (V A 0) c = true
    · rw [if_pos h1, ← ih' (9, 0) (9, 0)]
      simp (disch := omega) only [hk, lc0, h1, s32_id, show c < E from by omega, b_s32, b_eq0, b_01, l0, l1, true_and, and_true, and_self, true_implies, false_implies, implies_true, forall_const, not_true_eq_false, not_false_eq_true, reduceIte, ite_true, ite_false, reduceCtorEq, forall_eq, Classical.not_not, true_or, or_true, false_or, or_false, and_false, false_and, Int.reduceEq, Int.reduceLT, Int.reduceLE, Int.reduceAdd, Int.reduceSub, Int.reduceMul, Int.reduceNeg]
    · rw [if_neg h1]
      by_cases h2 : dd a c x = 0
      · rw [if_pos h2, ← ih' (9, 0) (0, dd a c x)]
        simp (disch := omega) only [hk, lc0, h1, h2, p_daysIn a0 a1 c0 (show c ≤ 63 by omega) hx, s32_id, show c < E from by omega, b_s32, b_eq0, b_01, l0, l1, true_and, and_true, and_self, true_implies, false_implies, implies_true, forall_const, not_true_eq_false, not_false_eq_true, reduceIte, ite_true, ite_false, reduceCtorEq, forall_eq, Classical.not_not, true_or, or_true, false_or, or_false, and_false, false_and, Int.reduceEq, Int.reduceLT, Int.reduceLE, Int.reduceAdd, Int.reduceSub, Int.reduceMul, Int.reduceNeg]
      · rw [if_neg h2, accV, if_neg h2]
        simp (disch := omega) only [hk, lc0, h1, h2, p_daysIn a0 a1 c0 (show c ≤ 63 by omega) hx, s32_id, show c < E from by omega, up2_ne, b_s32, b_eq0, b_01, l0, l1, true_and, and_true, and_self, true_implies, false_implies, implies_true, forall_const, not_true_eq_false, not_false_eq_true, reduceIte, ite_true, ite_false, reduceCtorEq, forall_eq, Classical.not_not, true_or, or_true, false_or, or_false, and_false, false_and, Int.reduceEq, Int.reduceLT, Int.reduceLE, Int.reduceAdd, Int.reduceSub, Int.reduceMul, Int.reduceNeg]
theorem q_owedOn (hl : LSK V S i) (hm : S.1 b = 6) : C_Lamp_owedOn (d + 1) (1000 + 10 * i) b V S Q ↔ Q (V (1000 + 10 * i) 8 - V b 2 - V b 0) V S := by
  rw [I_Lamp_owedOn, hl.1.1, hm]
  simp
theorem q_owed (hl : LSK V S i) : C_Lamp_owed (d + 2) (1000 + 10 * i) V S Q ↔ Q (V (1000 + 10 * i) 8 - V (1001 + 10 * i) 2 - V (1001 + 10 * i) 0) V S := by
  have hl' := hl
  obtain ⟨⟨k0, k1, -⟩, -, -, r4, -⟩ := hl
  rw [I_Lamp_owed, k0, r4, q_owedOn hl' k1]
  simp
theorem q_becomeOwned (hl : LSK V S i) : C_Lamp_becomeOwnedIfPaid (d + 3) (1000 + 10 * i) V S U ↔ U (up2 V (1000 + 10 * i) 9 (if s32 (V (1000 + 10 * i) 9) = 1 ∧ s32 (V (1000 + 10 * i) 8 - V (1001 + 10 * i) 2 - V (1001 + 10 * i) 0) ≤ 0 ∧ s32 (V (1001 + 10 * i) 1) = 0 then 4 else V (1000 + 10 * i) 9)) S := by
  have hl' := hl
  obtain ⟨⟨k0, k1, -⟩, -, -, r4, -⟩ := hl
  rw [I_Lamp_becomeOwnedIfPaid, k0, q_owed hl', r4, k1, l1]
  by_cases c1 : s32 (V (1000 + 10 * i) 9) = 1
  · by_cases c2 : 0 < s32 (V (1000 + 10 * i) 8 - V (1001 + 10 * i) 2 - V (1001 + 10 * i) 0)
    · simp only [c1, c2, show ¬ s32 (V (1000 + 10 * i) 8 - V (1001 + 10 * i) 2 - V (1001 + 10 * i) 0) ≤ 0 from by omega, up2_self, b_s32, b_eq0, b_01, l0, l1, true_and, and_true, and_self, true_implies, false_implies, implies_true, forall_const, not_true_eq_false, not_false_eq_true, reduceIte, ite_true, ite_false, reduceCtorEq, forall_eq, Classical.not_not, true_or, or_true, false_or, or_false, and_false, false_and, Int.reduceEq, Int.reduceLT, Int.reduceLE, Int.reduceAdd, Int.reduceSub, Int.reduceMul, Int.reduceNeg]
    · by_cases c3 : s32 (V (1001 + 10 * i) 1) = 0
      · simp only [k0, r4, k1, c1, c2, c3, show s32 (V (1000 + 10 * i) 8 - V (1001 + 10 * i) 2 - V (1001 + 10 * i) 0) ≤ 0 from by omega, up2_self, b_s32, b_eq0, b_01, l0, l1, true_and, and_true, and_self, true_implies, false_implies, implies_true, forall_const, not_true_eq_false, not_false_eq_true, reduceIte, ite_true, ite_false, reduceCtorEq, forall_eq, Classical.not_not, true_or, or_true, false_or, or_false, and_false, false_and, Int.reduceEq, Int.reduceLT, Int.reduceLE, Int.reduceAdd, Int.reduceSub, Int.reduceMul, Int.reduceNeg]
      · simp only [k0, r4, k1, c1, c2, c3, up2_self, b_s32, b_eq0, b_01, l0, l1, true_and, and_true, and_self, true_implies, false_implies, implies_true, forall_const, not_true_eq_false, not_false_eq_true, reduceIte, ite_true, ite_false, reduceCtorEq, forall_eq, Classical.not_not, true_or, or_true, false_or, or_false, and_false, false_and, Int.reduceEq, Int.reduceLT, Int.reduceLE, Int.reduceAdd, Int.reduceSub, Int.reduceMul, Int.reduceNeg]
  · simp only [c1, up2_self, b_s32, b_eq0, b_01, l0, l1, true_and, and_true, and_self, true_implies, false_implies, implies_true, forall_const, not_true_eq_false, not_false_eq_true, reduceIte, ite_true, ite_false, reduceCtorEq, forall_eq, Classical.not_not, true_or, or_true, false_or, or_false, and_false, false_and, Int.reduceEq, Int.reduceLT, Int.reduceLE, Int.reduceAdd, Int.reduceSub, Int.reduceMul, Int.reduceNeg]
theorem r_mowed (hS : FS S) (hV : FV V) (i0 : 0 ≤ i) (i1 : i < 20) : C_m_owed (d + 1) 137 i V S Q ↔ Q (V 142 i - V 148 i - V 146 i) V S := by
  rw [I_m_owed]
  simp (disch := omega) only [hS.k137, hS.k142, hS.n142, hV.r137_7, hS.k148, hS.n148, hV.r137_13, hS.k146, hS.n146, hV.r137_11, s32_id, i0, i1, b_s32, b_eq0, b_01, l0, l1, true_and, and_true, and_self, true_implies, false_implies, implies_true, forall_const, not_true_eq_false, not_false_eq_true, reduceIte, ite_true, ite_false, reduceCtorEq, forall_eq, Classical.not_not, true_or, or_true, false_or, or_false, and_false, false_and, Int.reduceEq, Int.reduceLT, Int.reduceLE, Int.reduceAdd, Int.reduceSub, Int.reduceMul, Int.reduceNeg]
theorem r_look (hS : FS S) (hV : FV V) (i0 : 0 ≤ i) (i1 : i < 20) : C_m_look (d + 2) 137 i V S U ↔ U (up2 V 144 i (if s32 (V 144 i) = 1 ∧ s32 (V 142 i - V 148 i - V 146 i) ≤ 0 ∧ s32 (V 147 i) = 0 then 4 else V 144 i)) S := by
  have hi : s32 i = i := s32_id (by omega) (by omega)
  rw [I_m_look, r_mowed hS hV i0 i1, l1]
  by_cases c1 : s32 (V 144 i) = 1
  · by_cases c2 : 0 < s32 (V 142 i - V 148 i - V 146 i)
    · simp only [c1, c2, show ¬ s32 (V 142 i - V 148 i - V 146 i) ≤ 0 from by omega, up2_self, b_s32, b_eq0, b_01, l0, l1, true_and, and_true, and_self, true_implies, false_implies, implies_true, forall_const, not_true_eq_false, not_false_eq_true, reduceIte, ite_true, ite_false, reduceCtorEq, forall_eq, Classical.not_not, true_or, or_true, false_or, or_false, and_false, false_and, Int.reduceEq, Int.reduceLT, Int.reduceLE, Int.reduceAdd, Int.reduceSub, Int.reduceMul, Int.reduceNeg, hS.k137, hS.k144, hS.n144, hV.r137_9, hS.k147, hS.n147, hV.r137_12, hi, i0, i1]
    · by_cases c3 : s32 (V 147 i) = 0
      · simp only [c1, c2, c3, show s32 (V 142 i - V 148 i - V 146 i) ≤ 0 from by omega, up2_self, b_s32, b_eq0, b_01, l0, l1, true_and, and_true, and_self, true_implies, false_implies, implies_true, forall_const, not_true_eq_false, not_false_eq_true, reduceIte, ite_true, ite_false, reduceCtorEq, forall_eq, Classical.not_not, true_or, or_true, false_or, or_false, and_false, false_and, Int.reduceEq, Int.reduceLT, Int.reduceLE, Int.reduceAdd, Int.reduceSub, Int.reduceMul, Int.reduceNeg, hS.k137, hS.k144, hS.n144, hV.r137_9, hS.k147, hS.n147, hV.r137_12, hi, i0, i1]
      · simp only [c1, c2, c3, up2_self, b_s32, b_eq0, b_01, l0, l1, true_and, and_true, and_self, true_implies, false_implies, implies_true, forall_const, not_true_eq_false, not_false_eq_true, reduceIte, ite_true, ite_false, reduceCtorEq, forall_eq, Classical.not_not, true_or, or_true, false_or, or_false, and_false, false_and, Int.reduceEq, Int.reduceLT, Int.reduceLE, Int.reduceAdd, Int.reduceSub, Int.reduceMul, Int.reduceNeg, hS.k137, hS.k144, hS.n144, hV.r137_9, hS.k147, hS.n147, hV.r137_12, hi, i0, i1]
  · simp only [c1, up2_self, b_s32, b_eq0, b_01, l0, l1, true_and, and_true, and_self, true_implies, false_implies, implies_true, forall_const, not_true_eq_false, not_false_eq_true, reduceIte, ite_true, ite_false, reduceCtorEq, forall_eq, Classical.not_not, true_or, or_true, false_or, or_false, and_false, false_and, Int.reduceEq, Int.reduceLT, Int.reduceLE, Int.reduceAdd, Int.reduceSub, Int.reduceMul, Int.reduceNeg, hS.k137, hS.k144, hS.n144, hV.r137_9, hS.k147, hS.n147, hV.r137_12, hi, i0, i1]
/-- the first COUNT from one on that isn't taken -/
def lw (T : Int) : Nat → Int → Int
  | 0, L => L
  | N + 1, L => if bt T L = true then lw T N (L + 1) else L
theorem lw_p : ∀ (N : Nat) (L : Int), (N : Int) + L = 64 → L ≤ lw T N L ∧ lw T N L ≤ 64 ∧ (∀ c, L ≤ c → c < lw T N L → bt T c = true) ∧ (lw T N L < 64 → bt T (lw T N L) = false) := by
  intro N
  induction N with
  | zero =>
    intro L hL
    unfold lw
    exact ⟨by omega, by omega, fun c h1 h2 => by omega, fun h => by omega⟩
  | succ N ih =>
    intro L hL
    unfold lw
    by_cases h : bt T L = true
    · rw [if_pos h]
      obtain ⟨i1, i2, i3, i4⟩ := ih (L + 1) (by omega)
      refine ⟨by omega, i2, fun c h1 h2 => ?_, i4⟩
      by_cases e : c = L
      · rw [e]; exact h
      · exact i3 c (by omega) h2
    · rw [if_neg h]
      exact ⟨by omega, by omega, fun c h1 h2 => by omega, fun _ => by cases hb : bt T L with | true => exact (h hb).elim | false => rfl⟩
theorem km_low {g : Cnt} (hS : FS S) (i0 : 0 ≤ i) (i1 : i < 20) : ∀ (N : Nat) (V : Mem) (L : Int) (u2 u3 : XV), FV V → V 149 i = L → 0 ≤ L → (N : Int) + L = 64 → (K_m_takesCode (d + 2) Q (125, [(2, 137), (0, i), u2, u3, (0, e)], [], V, S, g) ↔ C_m_look (d + 2) 137 i (up2 V 149 i (lw (V 155 i) N L)) S (fun V1 S1 => Q e V1 S1)) := by
  have hi : s32 i = i := s32_id (by omega) (by omega)
  intro N
  induction N with
  | zero =>
    intro V L u2 u3 hV hL L0 hN
    rw [L_m_takesCode_125, lw]
    have e1 : up2 V 149 i L = V := by rw [← hL]; exact up2_self
    rw [e1]
    simp (disch := omega) only [hS.k137, hS.k149, hS.n149, hV.r137_14, hi, i0, i1, hL, s32_id, show ¬ L < 64 from by omega, b_s32, b_eq0, b_01, l0, l1, true_and, and_true, and_self, true_implies, false_implies, implies_true, forall_const, not_true_eq_false, not_false_eq_true, reduceIte, ite_true, ite_false, reduceCtorEq, forall_eq, Classical.not_not, true_or, or_true, false_or, or_false, and_false, false_and, Int.reduceEq, Int.reduceLT, Int.reduceLE, Int.reduceAdd, Int.reduceSub, Int.reduceMul, Int.reduceNeg]
  | succ N ih =>
    intro V L u2 u3 hV hL L0 hN
    rw [L_m_takesCode_125, lw]
    by_cases h : bt (V 155 i) L = true
    · have hV1 : FV (up2 V 149 i (L + 1)) := hV.fr (FRM.rf.up (by unfold VD; omega))
      have ih' := ih (up2 V 149 i (L + 1)) (L + 1) (9, 0) (9, 0) hV1 (up2_eq rfl rfl) (by omega) (by omega)
      rw [up2_up2, up2_ne (by omega)] at ih'
      rw [if_pos h, ← ih']
      simp (disch := omega) only [hS.k137, hS.k149, hS.n149, hV.r137_14, hS.k155, hS.n155, hV.r137_20, hi, i0, i1, hL, s32_id, show L < 64 from by omega, lc1, h, b_s32, b_eq0, b_01, l0, l1, true_and, and_true, and_self, true_implies, false_implies, implies_true, forall_const, not_true_eq_false, not_false_eq_true, reduceIte, ite_true, ite_false, reduceCtorEq, forall_eq, Classical.not_not, true_or, or_true, false_or, or_false, and_false, false_and, Int.reduceEq, Int.reduceLT, Int.reduceLE, Int.reduceAdd, Int.reduceSub, Int.reduceMul, Int.reduceNeg]
    · rw [if_neg h]
      have e1 : up2 V 149 i L = V := by rw [← hL]; exact up2_self
      rw [e1]
      simp (disch := omega) only [hS.k137, hS.k149, hS.n149, hV.r137_14, hS.k155, hS.n155, hV.r137_20, hi, i0, i1, hL, s32_id, show L < 64 from by omega, lc1, h, b_s32, b_eq0, b_01, l0, l1, true_and, and_true, and_self, true_implies, false_implies, implies_true, forall_const, not_true_eq_false, not_false_eq_true, reduceIte, ite_true, ite_false, reduceCtorEq, forall_eq, Classical.not_not, true_or, or_true, false_or, or_false, and_false, false_and, Int.reduceEq, Int.reduceLT, Int.reduceLE, Int.reduceAdd, Int.reduceSub, Int.reduceMul, Int.reduceNeg]
theorem dd_eq (a0 : 0 ≤ a) (a1 : a ≤ 19) (c0 : 0 ≤ c) (c1 : c ≤ 63) (e0 : 1 ≤ e) (e1 : e ≤ 60) : (7919 * (a + 1) + 131 * e + 17 * c * c + c) % 100000 = x ↔ dd a c x = e := by
  unfold dd
  have hc := cc63 c0 c1
  generalize 17 * c * c = B at *
  by_cases h : (0 ≤ x ∧ x ≤ 99999) ∧ (x - (7919 * (a + 1) + B + c)) % 100000 % 131 = 0 ∧ (x - (7919 * (a + 1) + B + c)) % 100000 / 131 ≤ 60
  · rw [if_pos h]
    omega
  · rw [if_neg h]
    refine ⟨fun hv => ?_, fun hv => by omega⟩
    have h2 : (x - (7919 * (a + 1) + B + c)) % 100000 = 131 * e := by omega
    rw [h2] at h
    omega
theorem km_59 {g : Cnt} (hS : FS S) (hV : FV V) (hx : s32 x = x) (i0 : 0 ≤ i) (i1 : i < 20) (c0 : 0 ≤ c) (c1 : c ≤ 63) : ∀ (N : Nat) (e : Int), 1 ≤ e → (N : Int) + e = 61 → (dd i c x = 0 ∨ e ≤ dd i c x) → (K_m_takesCode (d + 1) Q (59, [(2, 137), (0, i), (0, x), (0, c), (0, e)], [], V, S, g) ↔ if dd i c x = 0 then K_m_takesCode (d + 1) Q (19, [(2, 137), (0, i), (0, x), (0, c + 1), (0, 61)], [], V, S, g) else K_m_takesCode (d + 1) Q (125, [(2, 137), (0, i), (0, x), (0, c), (0, dd i c x)], [], up2 (up2 (up2 (up2 V 146 i (V 146 i + dd i c x)) 155 i (lorI (V 155 i) (lshlI 1 c))) 153 i (V 153 i + 1)) 154 i (V 154 i + dd i c x), S, g)) := by
  have hi : s32 i = i := s32_id (by omega) (by omega)
  have hr := dd_r i c x
  have hc := cc63 c0 c1
  intro N
  induction N with
  | zero =>
    intro e e0 hN hD
    have : dd i c x = 0 := by omega
    have he : e = 61 := by omega
    subst he
    rw [L_m_takesCode_59]
    simp (disch := omega) only [s32_id, this, b_s32, b_eq0, b_01, l0, l1, true_and, and_true, and_self, true_implies, false_implies, implies_true, forall_const, not_true_eq_false, not_false_eq_true, reduceIte, ite_true, ite_false, reduceCtorEq, forall_eq, Classical.not_not, true_or, or_true, false_or, or_false, and_false, false_and, Int.reduceEq, Int.reduceLT, Int.reduceLE, Int.reduceAdd, Int.reduceSub, Int.reduceMul, Int.reduceNeg]
  | succ N ih =>
    intro e e0 hN hD
    have hde := dd_eq (x := x) (e := e) i0 (by omega) c0 c1 e0 (by omega)
    have et : (7919 * (i + 1) + 131 * e + 17 * c * c + c).tmod 100000 = (7919 * (i + 1) + 131 * e + 17 * c * c + c) % 100000 := Int.tmod_eq_emod_of_nonneg (by omega)
    rw [L_m_takesCode_59]
    by_cases h : dd i c x = e
    · have hv := hde.mpr h
      rw [if_neg (by omega), h]
      simp (disch := omega) only [s32_id, I_m_codeOf, hS.k137, et, hv, hx, show ¬ 60 < e from by omega, b_s32, b_eq0, b_01, l0, l1, true_and, and_true, and_self, true_implies, false_implies, implies_true, forall_const, not_true_eq_false, not_false_eq_true, reduceIte, ite_true, ite_false, reduceCtorEq, forall_eq, Classical.not_not, true_or, or_true, false_or, or_false, and_false, false_and, Int.reduceEq, Int.reduceLT, Int.reduceLE, Int.reduceAdd, Int.reduceSub, Int.reduceMul, Int.reduceNeg, ne_eq, hS.k146, hS.n146, hV.r137_11, hS.k155, hS.n155, hV.r137_20, hS.k153, hS.n153, hV.r137_18, hS.k154, hS.n154, hV.r137_19, hi, i0, i1, up2_ne]
    · have hv : ¬ (7919 * (i + 1) + 131 * e + 17 * c * c + c) % 100000 = x := fun q => h (hde.mp q)
      rw [← ih (e + 1) (by omega) (by omega) (by omega)]
      simp (disch := omega) only [s32_id, I_m_codeOf, hS.k137, et, hv, hx, show ¬ 60 < e from by omega, b_s32, b_eq0, b_01, l0, l1, true_and, and_true, and_self, true_implies, false_implies, implies_true, forall_const, not_true_eq_false, not_false_eq_true, reduceIte, ite_true, ite_false, reduceCtorEq, forall_eq, Classical.not_not, true_or, or_true, false_or, or_false, and_false, false_and, Int.reduceEq, Int.reduceLT, Int.reduceLE, Int.reduceAdd, Int.reduceSub, Int.reduceMul, Int.reduceNeg, ne_eq]
def accM (V : Mem) (i L : Int) (r : Int × Int) : Mem := up2 (up2 (up2 (up2 (up2 V 146 i (V 146 i + r.2)) 155 i (lorI (V 155 i) (lshlI 1 r.1))) 153 i (V 153 i + 1)) 154 i (V 154 i + r.2)) 149 i (lw (lorI (V 155 i) (lshlI 1 r.1)) (64 - L).toNat L)
theorem km_19 {g : Cnt} (hS : FS S) (hV : FV V) (hx : s32 x = x) (i0 : 0 ≤ i) (i1 : i < 20) (hL : V 149 i = L) (L0 : 0 ≤ L) (L1 : L ≤ 64) : ∀ (N : Nat) (c : Int) (u4 : XV), 0 ≤ c → (N : Int) + c = (if L + 8 ≤ 64 then L + 8 else 64) → (K_m_takesCode (d + 2) Q (19, [(2, 137), (0, i), (0, x), (0, c), u4], [], V, S, g) ↔ if (sr (V 155 i) i x N c).2 = 0 then Q 0 V S else C_m_look (d + 2) 137 i (accM V i L (sr (V 155 i) i x N c)) S (fun V1 S1 => Q (sr (V 155 i) i x N c).2 V1 S1)) := by
  have hi : s32 i = i := s32_id (by omega) (by omega)
  intro N
  induction N with
  | zero =>
    intro c u4 c0 hN
    rw [L_m_takesCode_19, sr, if_pos rfl]
    by_cases h : c < L + 8
    · simp (disch := omega) only [hS.k137, hS.k149, hS.n149, hV.r137_14, hi, i0, i1, hL, s32_id, h, show ¬ c < 64 from by omega, b_s32, b_eq0, b_01, l0, l1, true_and, and_true, and_self, true_implies, false_implies, implies_true, forall_const, not_true_eq_false, not_false_eq_true, reduceIte, ite_true, ite_false, reduceCtorEq, forall_eq, Classical.not_not, true_or, or_true, false_or, or_false, and_false, false_and, Int.reduceEq, Int.reduceLT, Int.reduceLE, Int.reduceAdd, Int.reduceSub, Int.reduceMul, Int.reduceNeg]
    · simp (disch := omega) only [hS.k137, hS.k149, hS.n149, hV.r137_14, hi, i0, i1, hL, s32_id, h, b_s32, b_eq0, b_01, l0, l1, true_and, and_true, and_self, true_implies, false_implies, implies_true, forall_const, not_true_eq_false, not_false_eq_true, reduceIte, ite_true, ite_false, reduceCtorEq, forall_eq, Classical.not_not, true_or, or_true, false_or, or_false, and_false, false_and, Int.reduceEq, Int.reduceLT, Int.reduceLE, Int.reduceAdd, Int.reduceSub, Int.reduceMul, Int.reduceNeg]
  | succ N ih =>
    intro c u4 c0 hN
    have c1 : c < L + 8 ∧ c < 64 := by
      by_cases h : L + 8 ≤ 64
      · rw [if_pos h] at hN; omega
      · rw [if_neg h] at hN; omega
    have ih' := fun u4 => ih (c + 1) u4 (by omega) (by omega)
    have hr := dd_r i c x
    rw [L_m_takesCode_19, sr]
    by_cases h1 : bt (V 155 i) c = true
    · rw [if_pos h1, ← ih' (9, 0)]
      simp (disch := omega) only [hS.k137, hS.k149, hS.n149, hV.r137_14, hS.k155, hS.n155, hV.r137_20, hi, i0, i1, hL, s32_id, c1, lc1, h1, b_s32, b_eq0, b_01, l0, l1, true_and, and_true, and_self, true_implies, false_implies, implies_true, forall_const, not_true_eq_false, not_false_eq_true, reduceIte, ite_true, ite_false, reduceCtorEq, forall_eq, Classical.not_not, true_or, or_true, false_or, or_false, and_false, false_and, Int.reduceEq, Int.reduceLT, Int.reduceLE, Int.reduceAdd, Int.reduceSub, Int.reduceMul, Int.reduceNeg]
    · rw [if_neg h1]
      have k59 := km_59 (d := d + 1) (Q := Q) (g := g) hS hV hx i0 i1 c0 (show c ≤ 63 by omega) 60 1 (by omega) (by omega) (by omega)
      by_cases h2 : dd i c x = 0
      · rw [if_pos h2, ← ih' (0, 61)]
        rw [if_pos h2] at k59
        rw [← k59]
        simp (disch := omega) only [hS.k137, hS.k149, hS.n149, hV.r137_14, hS.k155, hS.n155, hV.r137_20, hi, i0, i1, hL, s32_id, c1, lc1, h1, b_s32, b_eq0, b_01, l0, l1, true_and, and_true, and_self, true_implies, false_implies, implies_true, forall_const, not_true_eq_false, not_false_eq_true, reduceIte, ite_true, ite_false, reduceCtorEq, forall_eq, Classical.not_not, true_or, or_true, false_or, or_false, and_false, false_and, Int.reduceEq, Int.reduceLT, Int.reduceLE, Int.reduceAdd, Int.reduceSub, Int.reduceMul, Int.reduceNeg]
      · rw [if_neg h2, if_neg h2]
        rw [if_neg h2] at k59
        have hV1 : FV (up2 (up2 (up2 (up2 V 146 i (V 146 i + dd i c x)) 155 i (lorI (V 155 i) (lshlI 1 c))) 153 i (V 153 i + 1)) 154 i (V 154 i + dd i c x)) := hV.fr ((((FRM.rf.up (by unfold VD; omega)).up (by unfold VD; omega)).up (by unfold VD; omega)).up (by unfold VD; omega))
        have kl := km_low (d := d) (e := dd i c x) (Q := Q) (g := g) hS i0 i1 (64 - L).toNat _ L (0, x) (0, c) hV1 (by simp (disch := omega) only [up2_ne]; exact hL) L0 (by omega)
        simp (disch := omega) only [up2_ne, up2_eq] at kl
        unfold accM
        rw [← kl, ← k59]
        simp (disch := omega) only [hS.k137, hS.k149, hS.n149, hV.r137_14, hS.k155, hS.n155, hV.r137_20, hi, i0, i1, hL, s32_id, c1, lc1, h1, b_s32, b_eq0, b_01, l0, l1, true_and, and_true, and_self, true_implies, false_implies, implies_true, forall_const, not_true_eq_false, not_false_eq_true, reduceIte, ite_true, ite_false, reduceCtorEq, forall_eq, Classical.not_not, true_or, or_true, false_or, or_false, and_false, false_and, Int.reduceEq, Int.reduceLT, Int.reduceLE, Int.reduceAdd, Int.reduceSub, Int.reduceMul, Int.reduceNeg]
end TK
