/-! commands: text -/
def cpf (V : Mem) (lo n : Int) : Mem := fun p q => if p = 160 ∧ lo ≤ q ∧ q < lo + n then V 160 (1100 + (q - lo)) else V p q
section TX
variable {d : Nat} {n m a b k s z T lo : Int} {V V0 V1 : Mem} {S : Shp} {Q : Int → Mem → Shp → Prop} {U : Mem → Shp → Prop}
theorem s32_i2 (x : Int) : s32 (s32 x) = s32 x := by
  have := s32_rng x
  exact s32_id (by omega) (by omega)
theorem cpf_0 : cpf V lo 0 = V := by
  funext p q
  unfold cpf
  rw [if_neg (by omega)]
theorem cpf_ne {p q : Int} (h : p ≠ 160 ∨ q < lo ∨ lo + n ≤ q) : cpf V lo n p q = V p q := by
  unfold cpf
  rw [if_neg (by omega)]
theorem cpf_eq {q : Int} (h0 : lo ≤ q) (h1 : q < lo + n) : cpf V lo n 160 q = V 160 (1100 + (q - lo)) := by
  unfold cpf
  rw [if_pos ⟨rfl, h0, h1⟩]
theorem cpf_s (h0 : 0 ≤ k) : up2 (cpf V lo k) 160 (lo + k) (V 160 (1100 + k)) = cpf V lo (k + 1) := by
  funext p q
  by_cases c : p = 160 ∧ q = lo + k
  · obtain ⟨c1, c2⟩ := c
    subst c1
    rw [up2_eq rfl c2, cpf_eq (by omega) (by omega), show 1100 + (q - lo) = 1100 + k from by omega]
  · rw [up2_ne (by omega)]
    unfold cpf
    by_cases c2 : p = 160 ∧ lo ≤ q ∧ q < lo + k
    · rw [if_pos c2, if_pos (by omega)]
    · rw [if_neg c2, if_neg (by omega)]
theorem m_copy (hS : FS S) (hV : FV V) (hs : V 137 24 = s ∧ 0 ≤ s ∧ s < 10) (hn : V 161 11 = n ∧ 0 ≤ n ∧ n ≤ 100) {g : Cnt} (hQ : Q s (up2 (up2 (cpf V (100 * s) n) 159 s a) 137 24 (s + 1)) S) : ∀ (N : Nat) (k : Int), (N : Int) + k = n → 0 ≤ k → K_m_text d Q (74, [(2, 137), (0, a), (0, k)], [], cpf V (100 * s) k, S, g) := by
  obtain ⟨s1, s2, s3⟩ := hs
  obtain ⟨n1, n2, n3⟩ := hn
  have hV0 := hV
  have hF : ∀ k, FV (cpf V (100 * s) k) := fun k => hV0.fr (fun p q hd => cpf_ne (by unfold VD at hd; omega))
  have e24 : ∀ k, cpf V (100 * s) k 137 24 = s := fun k => (cpf_ne (by omega)).trans s1
  have e11 : ∀ k, cpf V (100 * s) k 161 11 = n := fun k => (cpf_ne (by omega)).trans n1
  intro N
  induction N with
  | zero =>
    intro k hN k0
    have hk : k = n := by omega
    subst hk
    have hV := hF k
    rw [L_m_text_74]
    simp (disch := omega) only [hS.k137, hS.k161, hS.n161, hV.r137_28, hS.k159, hS.n159, hV.r137_26, e24, e11, s32_id (x := 11), s32_id (x := k), s32_id (x := s), up2_ne, up2_eq, show ¬ k < k from by omega, s2, show s < 11 from by omega, show s + 1 - 1 = s from by omega, hQ, b_s32, b_eq0, b_01, l0, l1, true_and, and_true, and_self, true_implies, false_implies, implies_true, forall_const, not_true_eq_false, not_false_eq_true, reduceIte, ite_true, ite_false, reduceCtorEq, forall_eq, Classical.not_not, true_or, or_true, false_or, or_false, and_false, false_and, Int.reduceEq, Int.reduceLT, Int.reduceLE, Int.reduceAdd, Int.reduceSub, Int.reduceMul, Int.reduceNeg]
  | succ N ih =>
    intro k hN k0
    have ih' := ih (k + 1) (by omega) (by omega)
    have hV := hF k
    have e1 : cpf V (100 * s) k 160 (1100 + k) = V 160 (1100 + k) := cpf_ne (by omega)
    rw [← cpf_s k0] at ih'
    rw [L_m_text_74]
    simp (disch := omega) only [hS.k137, hS.k161, hS.n161, hV.r137_28, hS.k160, hS.n160, hV.r137_27, e24, e11, e1, s32_id (x := 11), s32_id (x := k), s32_id (x := n), s32_id (x := 1100 + k), s32_id (x := 100 * s + k), show k < n from by omega, show 0 ≤ 1100 + k from by omega, show 1100 + k < 1200 from by omega, show 0 ≤ 100 * s + k from by omega, show 100 * s + k < 1200 from by omega, ih', b_s32, b_eq0, b_01, l0, l1, true_and, and_true, and_self, true_implies, false_implies, implies_true, forall_const, not_true_eq_false, not_false_eq_true, reduceIte, ite_true, ite_false, reduceCtorEq, forall_eq, Classical.not_not, true_or, or_true, false_or, or_false, and_false, false_and, Int.reduceEq, Int.reduceLT, Int.reduceLE, Int.reduceAdd, Int.reduceSub, Int.reduceMul, Int.reduceNeg]
theorem CLTx.eq {i : Int} {c : CL} (h : CLTx V T i c) (e1 : ∀ k, V1 (T + 1) k = V (T + 1) k) (e2 : ∀ k, V1 (T + 2) k = V (T + 2) k) (e3 : ∀ k, V1 (T + 3) k = V (T + 3) k) (e4 : ∀ k, V1 (T + 4) k = V (T + 4) k) : CLTx V1 T i c := by
  unfold CLTx at h ⊢
  simp only [e1, e2, e3, e4]
  exact h
/-- the fed bytes, as they will lie at lo -/
def pkd (V : Mem) (lo N : Int) : Int → Int := fun p => if p < N then (if 0 ≤ p then V 160 (1100 + p) else V 160 (lo + p)) else -1
theorem pkd_e {V' : Mem} (h0 : ∀ p, 0 ≤ p → p < n → V' 160 (lo + p) = V 160 (1100 + p)) (h1 : ∀ p, p < 0 → V' 160 (lo + p) = V 160 (lo + p)) : pkM V' lo n = pkd V lo n := by
  funext p
  unfold pkM pkd
  by_cases c : p < n
  · rw [if_pos c, if_pos c]
    by_cases c2 : 0 ≤ p
    · rw [if_pos c2]; exact h0 p c2 c
    · rw [if_neg c2]; exact h1 p (by omega)
  · rw [if_neg c, if_neg c]
theorem pkd_n : ∀ p, n ≤ p → pkd V lo n p < 0 := fun p hp => by
  unfold pkd
  rw [if_neg (by omega)]
  omega
theorem RDR.rs (h : RDR V) (hV : FV V) : RS (pkd V lo (V 137 25)) (V 137 25) V := by
  obtain ⟨⟨r1, r2, r3⟩, r4⟩ := h
  refine ⟨hV, ⟨r1, r2, r3⟩, fun p p0 p1 => ?_, fun p hp => ?_, fun p p0 => ?_⟩
  · rw [(r4 p p0 p1).1]
    unfold pkd
    rw [if_pos p1, if_pos p0]
  · unfold pkd
    rw [if_neg (by omega)]
  · unfold pkd
    by_cases c : p < V 137 25
    · rw [if_pos c, if_pos p0]; exact (r4 p p0 c).2
    · rw [if_neg c]; omega
/-- the model reads what is fed -/
theorem fedM (hS : FS S) (hV : FV V1) (h : RDR V) (e : MEQ V V1) (hF : (pX (pkd V lo (V 137 25)) (V 137 25) 8 0 []).1 = false → ∀ V', GFR (up2 (up2 V1 161 11 (V 137 25)) 137 25 0) V' → V' 137 32 = (pX (pkd V lo (V 137 25)) (V 137 25) 8 0 []).2.1 → Q 0 V' S) (hT : (pX (pkd V lo (V 137 25)) (V 137 25) 8 0 []).1 = true → (pX (pkd V lo (V 137 25)) (V 137 25) 8 0 []).2.1 = V 137 25 → ∀ V', GFR (up2 (up2 V1 161 11 (V 137 25)) 137 25 0) V' → Q 1 V' S) : C_m_goesThrough (d + 10) 137 11 (up2 (up2 V1 161 11 (V 137 25)) 137 25 0) S Q := by
  obtain ⟨⟨r1, r2, r3⟩, r4⟩ := h
  have e161 : (up2 (up2 V1 161 11 (V 137 25)) 137 25 0) 161 11 = V 137 25 := by simp (disch := omega) only [up2_ne, up2_eq]
  have e160 : ∀ k, (up2 (up2 V1 161 11 (V 137 25)) 137 25 0) 160 k = V 160 k := fun k => by
    simp (disch := omega) only [up2_ne]
    exact e 160 k (by omega) (by omega)
  have hV' : FV (up2 (up2 V1 161 11 (V 137 25)) 137 25 0) := hV.fr (fun p q hd => by rw [up2_ne (by unfold VD at hd; omega), up2_ne (by unfold VD at hd; omega)])
  generalize (up2 (up2 V1 161 11 (V 137 25)) 137 25 0) = W at e161 e160 hV' hF hT ⊢
  have hV := hV'
  have f1 : GFR W (up2 (up2 (up2 (up2 (up2 W 137 30 1100) 137 31 (V 137 25)) 137 32 0) 137 33 0) 137 36 (-1)) := ((((GFR.rf.up (by unfold GCf; omega)).up (by unfold GCf; omega)).up (by unfold GCf; omega)).up (by unfold GCf; omega)).up (by unfold GCf; omega)
  rw [I_m_goesThrough]
  simp (disch := omega) only [hS.k137, hS.k161, hS.n161, hV.r137_28, s32_id, e161, up2_ne, b_s32, b_eq0, b_01, l0, l1, true_and, and_true, and_self, true_implies, false_implies, implies_true, forall_const, not_true_eq_false, not_false_eq_true, reduceIte, ite_true, ite_false, reduceCtorEq, forall_eq, Classical.not_not, true_or, or_true, false_or, or_false, and_false, false_and, Int.reduceEq, Int.reduceLT, Int.reduceLE, Int.reduceAdd, Int.reduceSub, Int.reduceMul, Int.reduceNeg]
  refine m_goes_l (pk := pkd V lo (V 137 25)) (b := 1100) (n := V 137 25) (fx := fx0 W) (aw := s32 (W 137 34)) (ac := s32 (W 137 35)) hS 7 _ 0 [] _ _ ⟨hV.fr (fun a k q => f1 a k (by unfold VD at q; unfold GCf; omega)), ⟨by simp (disch := omega) only [up2_ne, up2_eq], by omega, by omega⟩, ⟨by simp (disch := omega) only [up2_ne, up2_eq], r2, r3⟩, fun p p0 p1 => ?_, fun p hp => ?_, fun p p0 => ?_⟩ (fun f f0 f6 => by rw [f1 162 f (by unfold GCf; omega)]; rfl) ⟨congrArg s32 (f1 _ _ (by unfold GCf; omega)), congrArg s32 (f1 _ _ (by unfold GCf; omega)), s32_i2 _, s32_i2 _⟩ (by simp (disch := omega) only [up2_ne, up2_eq]) (by omega) r2 (by simp (disch := omega) only [up2_ne, up2_eq]; rfl) rfl ⟨up2_eq rfl rfl, by rw [la_n]; omega, by rw [la_n]; exact (by show (-1 : Int) < 0; omega), fun q => by rw [la_n] at q; omega⟩ (fun q V5 f5 g5 => hF q V5 (f1.tr f5) g5) (fun q e V5 f5 s5 => hT q e V5 (f1.tr f5))
  · rw [f1 160 _ (by unfold GCf; omega), e160]
    unfold pkd
    rw [if_pos p1, if_pos p0]
  · unfold pkd
    rw [if_neg (by omega)]
  · unfold pkd
    by_cases q : p < V 137 25
    · rw [if_pos q, if_pos p0]
      exact (r4 p p0 q).2
    · rw [if_neg q]; omega
end TX
